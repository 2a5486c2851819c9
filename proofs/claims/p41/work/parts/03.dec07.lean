theorem dX10_mean_142 : decode cX10_mean 142 = .ok (.iconst 0, 1) := by decide +kernel
theorem dX10_mean_143 : decode cX10_mean 143 = .ok (.ireturn, 1) := by decide +kernel
theorem dX10_fullest_0 : decode cX10_fullest 0 = .ok (.aload_n 0, 1) := by decide +kernel
theorem dX10_fullest_1 : decode cX10_fullest 1 = .ok (.iconst 0, 1) := by decide +kernel
theorem dX10_fullest_2 : decode cX10_fullest 2 = .ok (.putfield 3, 3) := by decide +kernel
theorem dX10_fullest_5 : decode cX10_fullest 5 = .ok (.iload_n 1, 1) := by decide +kernel
theorem dX10_fullest_6 : decode cX10_fullest 6 = .ok (.invokestatic 211, 3) := by decide +kernel
theorem dX10_fullest_9 : decode cX10_fullest 9 = .ok (.ifCond .ne 5, 3) := by decide +kernel
theorem dX10_fullest_12 : decode cX10_fullest 12 = .ok (.iconst (-1), 1) := by decide +kernel
theorem dX10_fullest_13 : decode cX10_fullest 13 = .ok (.ireturn, 1) := by decide +kernel
theorem dX10_fullest_14 : decode cX10_fullest 14 = .ok (.iconst 0, 1) := by decide +kernel
theorem dX10_fullest_15 : decode cX10_fullest 15 = .ok (.istore_n 2, 1) := by decide +kernel
theorem dX10_fullest_16 : decode cX10_fullest 16 = .ok (.iconst (-1), 1) := by decide +kernel
theorem dX10_fullest_17 : decode cX10_fullest 17 = .ok (.istore_n 3, 1) := by decide +kernel
theorem dX10_fullest_18 : decode cX10_fullest 18 = .ok (.iconst 0, 1) := by decide +kernel
theorem dX10_fullest_19 : decode cX10_fullest 19 = .ok (.istore 4, 2) := by decide +kernel
theorem dX10_fullest_21 : decode cX10_fullest 21 = .ok (.iconst 0, 1) := by decide +kernel
theorem dX10_fullest_22 : decode cX10_fullest 22 = .ok (.istore 5, 2) := by decide +kernel
theorem dX10_fullest_24 : decode cX10_fullest 24 = .ok (.iload 5, 2) := by decide +kernel
theorem dX10_fullest_26 : decode cX10_fullest 26 = .ok (.bipush 100, 2) := by decide +kernel
theorem dX10_fullest_28 : decode cX10_fullest 28 = .ok (.if_icmp .ge 97, 3) := by decide +kernel
theorem dX10_fullest_31 : decode cX10_fullest 31 = .ok (.iconst 0, 1) := by decide +kernel
theorem dX10_fullest_32 : decode cX10_fullest 32 = .ok (.istore 6, 2) := by decide +kernel
theorem dX10_fullest_34 : decode cX10_fullest 34 = .ok (.iconst 0, 1) := by decide +kernel
theorem dX10_fullest_35 : decode cX10_fullest 35 = .ok (.istore 7, 2) := by decide +kernel
theorem dX10_fullest_37 : decode cX10_fullest 37 = .ok (.iload 7, 2) := by decide +kernel
theorem dX10_fullest_39 : decode cX10_fullest 39 = .ok (.bipush 10, 2) := by decide +kernel
theorem dX10_fullest_41 : decode cX10_fullest 41 = .ok (.if_icmp .ge 29, 3) := by decide +kernel
theorem dX10_fullest_44 : decode cX10_fullest 44 = .ok (.iload 6, 2) := by decide +kernel
theorem dX10_fullest_46 : decode cX10_fullest 46 = .ok (.aload_n 0, 1) := by decide +kernel
theorem dX10_fullest_47 : decode cX10_fullest 47 = .ok (.getfield 118, 3) := by decide +kernel
theorem dX10_fullest_50 : decode cX10_fullest 50 = .ok (.iload_n 1, 1) := by decide +kernel
theorem dX10_fullest_51 : decode cX10_fullest 51 = .ok (.iload 7, 2) := by decide +kernel
theorem dX10_fullest_53 : decode cX10_fullest 53 = .ok (.iload 5, 2) := by decide +kernel
theorem dX10_fullest_55 : decode cX10_fullest 55 = .ok (.invokestatic 173, 3) := by decide +kernel
theorem dX10_fullest_58 : decode cX10_fullest 58 = .ok (.invokestatic 44, 3) := by decide +kernel
theorem dX10_fullest_61 : decode cX10_fullest 61 = .ok (.iadd, 1) := by decide +kernel
theorem dX10_fullest_62 : decode cX10_fullest 62 = .ok (.istore 6, 2) := by decide +kernel
theorem dX10_fullest_64 : decode cX10_fullest 64 = .ok (.iinc 7 1, 3) := by decide +kernel
theorem dX10_fullest_67 : decode cX10_fullest 67 = .ok (.goto (-30), 3) := by decide +kernel
theorem dX10_fullest_70 : decode cX10_fullest 70 = .ok (.iload 6, 2) := by decide +kernel
theorem dX10_fullest_72 : decode cX10_fullest 72 = .ok (.iload_n 3, 1) := by decide +kernel
theorem dX10_fullest_73 : decode cX10_fullest 73 = .ok (.if_icmp .le 7, 3) := by decide +kernel
theorem dX10_fullest_76 : decode cX10_fullest 76 = .ok (.iconst 1, 1) := by decide +kernel
theorem dX10_fullest_77 : decode cX10_fullest 77 = .ok (.goto 20, 3) := by decide +kernel
theorem dX10_fullest_80 : decode cX10_fullest 80 = .ok (.iload 4, 2) := by decide +kernel
theorem dX10_fullest_82 : decode cX10_fullest 82 = .ok (.iload 6, 2) := by decide +kernel
theorem dX10_fullest_84 : decode cX10_fullest 84 = .ok (.iload_n 3, 1) := by decide +kernel
theorem dX10_fullest_85 : decode cX10_fullest 85 = .ok (.if_icmp .ne 7, 3) := by decide +kernel
theorem dX10_fullest_88 : decode cX10_fullest 88 = .ok (.iconst 1, 1) := by decide +kernel
theorem dX10_fullest_89 : decode cX10_fullest 89 = .ok (.goto 4, 3) := by decide +kernel
theorem dX10_fullest_92 : decode cX10_fullest 92 = .ok (.iconst 0, 1) := by decide +kernel
theorem dX10_fullest_93 : decode cX10_fullest 93 = .ok (.invokestatic 44, 3) := by decide +kernel
theorem dX10_fullest_96 : decode cX10_fullest 96 = .ok (.iadd, 1) := by decide +kernel
theorem dX10_fullest_97 : decode cX10_fullest 97 = .ok (.istore 4, 2) := by decide +kernel
theorem dX10_fullest_99 : decode cX10_fullest 99 = .ok (.iload 6, 2) := by decide +kernel
theorem dX10_fullest_101 : decode cX10_fullest 101 = .ok (.iload_n 3, 1) := by decide +kernel
theorem dX10_fullest_102 : decode cX10_fullest 102 = .ok (.if_icmp .le 8, 3) := by decide +kernel
theorem dX10_fullest_105 : decode cX10_fullest 105 = .ok (.iload 5, 2) := by decide +kernel
theorem dX10_fullest_107 : decode cX10_fullest 107 = .ok (.goto 4, 3) := by decide +kernel
theorem dX10_fullest_110 : decode cX10_fullest 110 = .ok (.iload_n 2, 1) := by decide +kernel
theorem dX10_fullest_111 : decode cX10_fullest 111 = .ok (.istore_n 2, 1) := by decide +kernel
theorem dX10_fullest_112 : decode cX10_fullest 112 = .ok (.iload_n 3, 1) := by decide +kernel
theorem dX10_fullest_113 : decode cX10_fullest 113 = .ok (.iload 6, 2) := by decide +kernel
theorem dX10_fullest_115 : decode cX10_fullest 115 = .ok (.invokestatic 228, 3) := by decide +kernel
theorem dX10_fullest_118 : decode cX10_fullest 118 = .ok (.istore_n 3, 1) := by decide +kernel
theorem dX10_fullest_119 : decode cX10_fullest 119 = .ok (.iinc 5 1, 3) := by decide +kernel
theorem dX10_fullest_122 : decode cX10_fullest 122 = .ok (.goto (-98), 3) := by decide +kernel
theorem dX10_fullest_125 : decode cX10_fullest 125 = .ok (.aload_n 0, 1) := by decide +kernel
theorem dX10_fullest_126 : decode cX10_fullest 126 = .ok (.iconst 0, 1) := by decide +kernel
theorem dX10_fullest_127 : decode cX10_fullest 127 = .ok (.putfield 15, 3) := by decide +kernel
theorem dX10_fullest_130 : decode cX10_fullest 130 = .ok (.aload_n 0, 1) := by decide +kernel
theorem dX10_fullest_131 : decode cX10_fullest 131 = .ok (.iload_n 3, 1) := by decide +kernel
theorem dX10_fullest_132 : decode cX10_fullest 132 = .ok (.i2l, 1) := by decide +kernel
theorem dX10_fullest_133 : decode cX10_fullest 133 = .ok (.invokevirtual 280, 3) := by decide +kernel
theorem dX10_fullest_136 : decode cX10_fullest 136 = .ok (.aload_n 0, 1) := by decide +kernel
theorem dX10_fullest_137 : decode cX10_fullest 137 = .ok (.iload 4, 2) := by decide +kernel
theorem dX10_fullest_139 : decode cX10_fullest 139 = .ok (.i2l, 1) := by decide +kernel
theorem dX10_fullest_140 : decode cX10_fullest 140 = .ok (.invokevirtual 280, 3) := by decide +kernel
theorem dX10_fullest_143 : decode cX10_fullest 143 = .ok (.iload_n 2, 1) := by decide +kernel
theorem dX10_fullest_144 : decode cX10_fullest 144 = .ok (.ireturn, 1) := by decide +kernel
theorem dX10_fewest_0 : decode cX10_fewest 0 = .ok (.iconst 0, 1) := by decide +kernel
theorem dX10_fewest_1 : decode cX10_fewest 1 = .ok (.istore 4, 2) := by decide +kernel
theorem dX10_fewest_3 : decode cX10_fewest 3 = .ok (.iload_n 2, 1) := by decide +kernel
theorem dX10_fewest_4 : decode cX10_fewest 4 = .ok (.istore 5, 2) := by decide +kernel
theorem dX10_fewest_6 : decode cX10_fewest 6 = .ok (.iload 5, 2) := by decide +kernel
theorem dX10_fewest_8 : decode cX10_fewest 8 = .ok (.iload_n 3, 1) := by decide +kernel
theorem dX10_fewest_9 : decode cX10_fewest 9 = .ok (.if_icmp .ge 72, 3) := by decide +kernel
theorem dX10_fewest_12 : decode cX10_fewest 12 = .ok (.iload 5, 2) := by decide +kernel
theorem dX10_fewest_14 : decode cX10_fewest 14 = .ok (.istore 6, 2) := by decide +kernel
theorem dX10_fewest_16 : decode cX10_fewest 16 = .ok (.iconst 0, 1) := by decide +kernel
theorem dX10_fewest_17 : decode cX10_fewest 17 = .ok (.istore 7, 2) := by decide +kernel
theorem dX10_fewest_19 : decode cX10_fewest 19 = .ok (.iload 7, 2) := by decide +kernel
theorem dX10_fewest_21 : decode cX10_fewest 21 = .ok (.iload_n 1, 1) := by decide +kernel
theorem dX10_fewest_22 : decode cX10_fewest 22 = .ok (.if_icmp .ge 40, 3) := by decide +kernel
theorem dX10_fewest_25 : decode cX10_fewest 25 = .ok (.aload_n 0, 1) := by decide +kernel
theorem dX10_fewest_26 : decode cX10_fewest 26 = .ok (.getfield 141, 3) := by decide +kernel
theorem dX10_fewest_29 : decode cX10_fewest 29 = .ok (.iload 7, 2) := by decide +kernel
theorem dX10_fewest_31 : decode cX10_fewest 31 = .ok (.iaload, 1) := by decide +kernel
theorem dX10_fewest_32 : decode cX10_fewest 32 = .ok (.iload 5, 2) := by decide +kernel
theorem dX10_fewest_34 : decode cX10_fewest 34 = .ok (.if_icmp .gt 18, 3) := by decide +kernel
theorem dX10_fewest_37 : decode cX10_fewest 37 = .ok (.iload 6, 2) := by decide +kernel
theorem dX10_fewest_39 : decode cX10_fewest 39 = .ok (.aload_n 0, 1) := by decide +kernel
theorem dX10_fewest_40 : decode cX10_fewest 40 = .ok (.getfield 144, 3) := by decide +kernel
theorem dX10_fewest_43 : decode cX10_fewest 43 = .ok (.iload 7, 2) := by decide +kernel
theorem dX10_fewest_45 : decode cX10_fewest 45 = .ok (.iaload, 1) := by decide +kernel
theorem dX10_fewest_46 : decode cX10_fewest 46 = .ok (.invokestatic 228, 3) := by decide +kernel
theorem dX10_fewest_49 : decode cX10_fewest 49 = .ok (.goto 5, 3) := by decide +kernel
theorem dX10_fewest_52 : decode cX10_fewest 52 = .ok (.iload 6, 2) := by decide +kernel
theorem dX10_fewest_54 : decode cX10_fewest 54 = .ok (.istore 6, 2) := by decide +kernel
theorem dX10_fewest_56 : decode cX10_fewest 56 = .ok (.iinc 7 1, 3) := by decide +kernel
theorem dX10_fewest_59 : decode cX10_fewest 59 = .ok (.goto (-40), 3) := by decide +kernel
theorem dX10_fewest_62 : decode cX10_fewest 62 = .ok (.iload 6, 2) := by decide +kernel
theorem dX10_fewest_64 : decode cX10_fewest 64 = .ok (.iload 5, 2) := by decide +kernel
theorem dX10_fewest_66 : decode cX10_fewest 66 = .ok (.if_icmp .ne 5, 3) := by decide +kernel
theorem dX10_fewest_69 : decode cX10_fewest 69 = .ok (.iconst (-1), 1) := by decide +kernel
theorem dX10_fewest_70 : decode cX10_fewest 70 = .ok (.ireturn, 1) := by decide +kernel
theorem dX10_fewest_71 : decode cX10_fewest 71 = .ok (.iload 6, 2) := by decide +kernel
theorem dX10_fewest_73 : decode cX10_fewest 73 = .ok (.istore 5, 2) := by decide +kernel
theorem dX10_fewest_75 : decode cX10_fewest 75 = .ok (.iinc 4 1, 3) := by decide +kernel
theorem dX10_fewest_78 : decode cX10_fewest 78 = .ok (.goto (-72), 3) := by decide +kernel
theorem dX10_fewest_81 : decode cX10_fewest 81 = .ok (.iload 4, 2) := by decide +kernel
theorem dX10_fewest_83 : decode cX10_fewest 83 = .ok (.ireturn, 1) := by decide +kernel
theorem dX10_haveAll_0 : decode cX10_haveAll 0 = .ok (.iconst 1, 1) := by decide +kernel
theorem dX10_haveAll_1 : decode cX10_haveAll 1 = .ok (.istore 4, 2) := by decide +kernel
theorem dX10_haveAll_3 : decode cX10_haveAll 3 = .ok (.iload_n 2, 1) := by decide +kernel
theorem dX10_haveAll_4 : decode cX10_haveAll 4 = .ok (.istore 5, 2) := by decide +kernel
theorem dX10_haveAll_6 : decode cX10_haveAll 6 = .ok (.iload 5, 2) := by decide +kernel
theorem dX10_haveAll_8 : decode cX10_haveAll 8 = .ok (.iload_n 3, 1) := by decide +kernel
theorem dX10_haveAll_9 : decode cX10_haveAll 9 = .ok (.if_icmp .ge 77, 3) := by decide +kernel
theorem dX10_haveAll_12 : decode cX10_haveAll 12 = .ok (.iload 4, 2) := by decide +kernel
theorem dX10_haveAll_14 : decode cX10_haveAll 14 = .ok (.ifCond .eq 72, 3) := by decide +kernel
theorem dX10_haveAll_17 : decode cX10_haveAll 17 = .ok (.iconst 0, 1) := by decide +kernel
theorem dX10_haveAll_18 : decode cX10_haveAll 18 = .ok (.istore 6, 2) := by decide +kernel
theorem dX10_haveAll_20 : decode cX10_haveAll 20 = .ok (.iconst 0, 1) := by decide +kernel
theorem dX10_haveAll_21 : decode cX10_haveAll 21 = .ok (.istore 7, 2) := by decide +kernel
theorem dX10_haveAll_23 : decode cX10_haveAll 23 = .ok (.iload 7, 2) := by decide +kernel
theorem dX10_haveAll_25 : decode cX10_haveAll 25 = .ok (.iload_n 1, 1) := by decide +kernel
theorem dX10_haveAll_26 : decode cX10_haveAll 26 = .ok (.if_icmp .ge 50, 3) := by decide +kernel
theorem dX10_haveAll_29 : decode cX10_haveAll 29 = .ok (.iload 6, 2) := by decide +kernel
theorem dX10_haveAll_31 : decode cX10_haveAll 31 = .ok (.ifCond .ne 45, 3) := by decide +kernel
theorem dX10_haveAll_34 : decode cX10_haveAll 34 = .ok (.iload 5, 2) := by decide +kernel
theorem dX10_haveAll_36 : decode cX10_haveAll 36 = .ok (.i2l, 1) := by decide +kernel
theorem dX10_haveAll_37 : decode cX10_haveAll 37 = .ok (.aload_n 0, 1) := by decide +kernel
theorem dX10_haveAll_38 : decode cX10_haveAll 38 = .ok (.getfield 141, 3) := by decide +kernel
theorem dX10_haveAll_41 : decode cX10_haveAll 41 = .ok (.aload_n 0, 1) := by decide +kernel
theorem dX10_haveAll_42 : decode cX10_haveAll 42 = .ok (.getfield 147, 3) := by decide +kernel
theorem dX10_haveAll_45 : decode cX10_haveAll 45 = .ok (.iload 7, 2) := by decide +kernel
theorem dX10_haveAll_47 : decode cX10_haveAll 47 = .ok (.iaload, 1) := by decide +kernel
theorem dX10_haveAll_48 : decode cX10_haveAll 48 = .ok (.iaload, 1) := by decide +kernel
theorem dX10_haveAll_49 : decode cX10_haveAll 49 = .ok (.i2l, 1) := by decide +kernel
theorem dX10_haveAll_50 : decode cX10_haveAll 50 = .ok (.aload_n 0, 1) := by decide +kernel
theorem dX10_haveAll_51 : decode cX10_haveAll 51 = .ok (.getfield 144, 3) := by decide +kernel
theorem dX10_haveAll_54 : decode cX10_haveAll 54 = .ok (.aload_n 0, 1) := by decide +kernel
theorem dX10_haveAll_55 : decode cX10_haveAll 55 = .ok (.getfield 147, 3) := by decide +kernel
theorem dX10_haveAll_58 : decode cX10_haveAll 58 = .ok (.iload 7, 2) := by decide +kernel
theorem dX10_haveAll_60 : decode cX10_haveAll 60 = .ok (.iaload, 1) := by decide +kernel
theorem dX10_haveAll_61 : decode cX10_haveAll 61 = .ok (.iaload, 1) := by decide +kernel
theorem dX10_haveAll_62 : decode cX10_haveAll 62 = .ok (.iconst 1, 1) := by decide +kernel
theorem dX10_haveAll_63 : decode cX10_haveAll 63 = .ok (.isub, 1) := by decide +kernel
theorem dX10_haveAll_64 : decode cX10_haveAll 64 = .ok (.i2l, 1) := by decide +kernel
theorem dX10_haveAll_65 : decode cX10_haveAll 65 = .ok (.invokestatic 25, 3) := by decide +kernel
theorem dX10_haveAll_68 : decode cX10_haveAll 68 = .ok (.istore 6, 2) := by decide +kernel
theorem dX10_haveAll_70 : decode cX10_haveAll 70 = .ok (.iinc 7 1, 3) := by decide +kernel
theorem dX10_haveAll_73 : decode cX10_haveAll 73 = .ok (.goto (-50), 3) := by decide +kernel
theorem dX10_haveAll_76 : decode cX10_haveAll 76 = .ok (.iload 6, 2) := by decide +kernel
theorem dX10_haveAll_78 : decode cX10_haveAll 78 = .ok (.istore 4, 2) := by decide +kernel
theorem dX10_haveAll_80 : decode cX10_haveAll 80 = .ok (.iinc 5 1, 3) := by decide +kernel
theorem dX10_haveAll_83 : decode cX10_haveAll 83 = .ok (.goto (-77), 3) := by decide +kernel
theorem dX10_haveAll_86 : decode cX10_haveAll 86 = .ok (.iload 4, 2) := by decide +kernel
theorem dX10_haveAll_88 : decode cX10_haveAll 88 = .ok (.ireturn, 1) := by decide +kernel
theorem dX10_chooses_0 : decode cX10_chooses 0 = .ok (.iload_n 1, 1) := by decide +kernel
theorem dX10_chooses_1 : decode cX10_chooses 1 = .ok (.iload_n 2, 1) := by decide +kernel
theorem dX10_chooses_2 : decode cX10_chooses 2 = .ok (.if_icmp .ne 13, 3) := by decide +kernel
theorem dX10_chooses_5 : decode cX10_chooses 5 = .ok (.aload_n 0, 1) := by decide +kernel
theorem dX10_chooses_6 : decode cX10_chooses 6 = .ok (.iload_n 2, 1) := by decide +kernel
theorem dX10_chooses_7 : decode cX10_chooses 7 = .ok (.iload 5, 2) := by decide +kernel
theorem dX10_chooses_9 : decode cX10_chooses 9 = .ok (.iload 6, 2) := by decide +kernel
theorem dX10_chooses_11 : decode cX10_chooses 11 = .ok (.invokevirtual 377, 3) := by decide +kernel
theorem dX10_chooses_14 : decode cX10_chooses 14 = .ok (.ireturn, 1) := by decide +kernel
theorem dX10_chooses_15 : decode cX10_chooses 15 = .ok (.iload_n 3, 1) := by decide +kernel
theorem dX10_chooses_16 : decode cX10_chooses 16 = .ok (.istore 7, 2) := by decide +kernel
theorem dX10_chooses_18 : decode cX10_chooses 18 = .ok (.iload 7, 2) := by decide +kernel
theorem dX10_chooses_20 : decode cX10_chooses 20 = .ok (.iload 4, 2) := by decide +kernel
theorem dX10_chooses_22 : decode cX10_chooses 22 = .ok (.iload_n 2, 1) := by decide +kernel
theorem dX10_chooses_23 : decode cX10_chooses 23 = .ok (.iload_n 1, 1) := by decide +kernel
theorem dX10_chooses_24 : decode cX10_chooses 24 = .ok (.isub, 1) := by decide +kernel
theorem dX10_chooses_25 : decode cX10_chooses 25 = .ok (.isub, 1) := by decide +kernel
theorem dX10_chooses_26 : decode cX10_chooses 26 = .ok (.if_icmp .gt 40, 3) := by decide +kernel
theorem dX10_chooses_29 : decode cX10_chooses 29 = .ok (.aload_n 0, 1) := by decide +kernel
theorem dX10_chooses_30 : decode cX10_chooses 30 = .ok (.getfield 147, 3) := by decide +kernel
theorem dX10_chooses_33 : decode cX10_chooses 33 = .ok (.iload_n 1, 1) := by decide +kernel
theorem dX10_chooses_34 : decode cX10_chooses 34 = .ok (.iload 7, 2) := by decide +kernel
theorem dX10_chooses_36 : decode cX10_chooses 36 = .ok (.iastore, 1) := by decide +kernel
theorem dX10_chooses_37 : decode cX10_chooses 37 = .ok (.aload_n 0, 1) := by decide +kernel
theorem dX10_chooses_38 : decode cX10_chooses 38 = .ok (.iload_n 1, 1) := by decide +kernel
theorem dX10_chooses_39 : decode cX10_chooses 39 = .ok (.iconst 1, 1) := by decide +kernel
theorem dX10_chooses_40 : decode cX10_chooses 40 = .ok (.iadd, 1) := by decide +kernel
theorem dX10_chooses_41 : decode cX10_chooses 41 = .ok (.iload_n 2, 1) := by decide +kernel
theorem dX10_chooses_42 : decode cX10_chooses 42 = .ok (.iload 7, 2) := by decide +kernel
theorem dX10_chooses_44 : decode cX10_chooses 44 = .ok (.iconst 1, 1) := by decide +kernel
theorem dX10_chooses_45 : decode cX10_chooses 45 = .ok (.iadd, 1) := by decide +kernel
theorem dX10_chooses_46 : decode cX10_chooses 46 = .ok (.iload 4, 2) := by decide +kernel
theorem dX10_chooses_48 : decode cX10_chooses 48 = .ok (.iload 5, 2) := by decide +kernel
theorem dX10_chooses_50 : decode cX10_chooses 50 = .ok (.iload 6, 2) := by decide +kernel
theorem dX10_chooses_52 : decode cX10_chooses 52 = .ok (.invokevirtual 381, 3) := by decide +kernel
theorem dX10_chooses_55 : decode cX10_chooses 55 = .ok (.ifCond .eq 5, 3) := by decide +kernel
theorem dX10_chooses_58 : decode cX10_chooses 58 = .ok (.iconst 1, 1) := by decide +kernel
theorem dX10_chooses_59 : decode cX10_chooses 59 = .ok (.ireturn, 1) := by decide +kernel
theorem dX10_chooses_60 : decode cX10_chooses 60 = .ok (.iinc 7 1, 3) := by decide +kernel
theorem dX10_chooses_63 : decode cX10_chooses 63 = .ok (.goto (-45), 3) := by decide +kernel
theorem dX10_chooses_66 : decode cX10_chooses 66 = .ok (.iconst 0, 1) := by decide +kernel
theorem dX10_chooses_67 : decode cX10_chooses 67 = .ok (.ireturn, 1) := by decide +kernel
theorem dX10_spans_0 : decode cX10_spans 0 = .ok (.aload_n 0, 1) := by decide +kernel
theorem dX10_spans_1 : decode cX10_spans 1 = .ok (.iconst 0, 1) := by decide +kernel
theorem dX10_spans_2 : decode cX10_spans 2 = .ok (.putfield 3, 3) := by decide +kernel
theorem dX10_spans_5 : decode cX10_spans 5 = .ok (.iload_n 1, 1) := by decide +kernel
theorem dX10_spans_6 : decode cX10_spans 6 = .ok (.invokestatic 211, 3) := by decide +kernel
theorem dX10_spans_9 : decode cX10_spans 9 = .ok (.ifCond .eq 11, 3) := by decide +kernel
theorem dX10_spans_12 : decode cX10_spans 12 = .ok (.iload_n 2, 1) := by decide +kernel
theorem dX10_spans_13 : decode cX10_spans 13 = .ok (.iload_n 3, 1) := by decide +kernel
theorem dX10_spans_14 : decode cX10_spans 14 = .ok (.invokestatic 234, 3) := by decide +kernel
theorem dX10_spans_17 : decode cX10_spans 17 = .ok (.ifCond .ne 5, 3) := by decide +kernel
theorem dX10_spans_20 : decode cX10_spans 20 = .ok (.iconst (-1), 1) := by decide +kernel
theorem dX10_spans_21 : decode cX10_spans 21 = .ok (.ireturn, 1) := by decide +kernel
theorem dX10_spans_22 : decode cX10_spans 22 = .ok (.iconst 0, 1) := by decide +kernel
theorem dX10_spans_23 : decode cX10_spans 23 = .ok (.istore 4, 2) := by decide +kernel
theorem dX10_spans_25 : decode cX10_spans 25 = .ok (.aload_n 0, 1) := by decide +kernel
theorem dX10_spans_26 : decode cX10_spans 26 = .ok (.aload_n 0, 1) := by decide +kernel
theorem dX10_spans_27 : decode cX10_spans 27 = .ok (.getfield 118, 3) := by decide +kernel
theorem dX10_spans_30 : decode cX10_spans 30 = .ok (.iload_n 1, 1) := by decide +kernel
theorem dX10_spans_31 : decode cX10_spans 31 = .ok (.iload 4, 2) := by decide +kernel
theorem dX10_spans_33 : decode cX10_spans 33 = .ok (.invokevirtual 216, 3) := by decide +kernel
theorem dX10_spans_36 : decode cX10_spans 36 = .ok (.ifCond .eq 43, 3) := by decide +kernel
theorem dX10_spans_39 : decode cX10_spans 39 = .ok (.aload_n 0, 1) := by decide +kernel
theorem dX10_spans_40 : decode cX10_spans 40 = .ok (.getfield 141, 3) := by decide +kernel
theorem dX10_spans_43 : decode cX10_spans 43 = .ok (.iload 4, 2) := by decide +kernel
theorem dX10_spans_45 : decode cX10_spans 45 = .ok (.aload_n 0, 1) := by decide +kernel
theorem dX10_spans_46 : decode cX10_spans 46 = .ok (.getfield 194, 3) := by decide +kernel
theorem dX10_spans_49 : decode cX10_spans 49 = .ok (.iastore, 1) := by decide +kernel
theorem dX10_spans_50 : decode cX10_spans 50 = .ok (.aload_n 0, 1) := by decide +kernel
theorem dX10_spans_51 : decode cX10_spans 51 = .ok (.getfield 144, 3) := by decide +kernel
theorem dX10_spans_54 : decode cX10_spans 54 = .ok (.iload 4, 2) := by decide +kernel
theorem dX10_spans_56 : decode cX10_spans 56 = .ok (.aload_n 0, 1) := by decide +kernel
theorem dX10_spans_57 : decode cX10_spans 57 = .ok (.getfield 118, 3) := by decide +kernel
theorem dX10_spans_60 : decode cX10_spans 60 = .ok (.iload_n 1, 1) := by decide +kernel
theorem dX10_spans_61 : decode cX10_spans 61 = .ok (.aload_n 0, 1) := by decide +kernel
theorem dX10_spans_62 : decode cX10_spans 62 = .ok (.getfield 191, 3) := by decide +kernel
theorem dX10_spans_65 : decode cX10_spans 65 = .ok (.aload_n 0, 1) := by decide +kernel
theorem dX10_spans_66 : decode cX10_spans 66 = .ok (.getfield 194, 3) := by decide +kernel
theorem dX10_spans_69 : decode cX10_spans 69 = .ok (.invokestatic 223, 3) := by decide +kernel
theorem dX10_spans_72 : decode cX10_spans 72 = .ok (.iastore, 1) := by decide +kernel
theorem dX10_spans_73 : decode cX10_spans 73 = .ok (.iinc 4 1, 3) := by decide +kernel
theorem dX10_spans_76 : decode cX10_spans 76 = .ok (.goto (-51), 3) := by decide +kernel
theorem dX10_spans_79 : decode cX10_spans 79 = .ok (.aload_n 0, 1) := by decide +kernel
theorem dX10_spans_80 : decode cX10_spans 80 = .ok (.iload 4, 2) := by decide +kernel
theorem dX10_spans_82 : decode cX10_spans 82 = .ok (.iload_n 2, 1) := by decide +kernel
theorem dX10_spans_83 : decode cX10_spans 83 = .ok (.iload_n 3, 1) := by decide +kernel
theorem dX10_spans_84 : decode cX10_spans 84 = .ok (.invokevirtual 385, 3) := by decide +kernel
theorem dX10_spans_87 : decode cX10_spans 87 = .ok (.istore 5, 2) := by decide +kernel
theorem dX10_spans_89 : decode cX10_spans 89 = .ok (.iload 5, 2) := by decide +kernel
theorem dX10_spans_91 : decode cX10_spans 91 = .ok (.ifCond .ge 6, 3) := by decide +kernel
theorem dX10_spans_94 : decode cX10_spans 94 = .ok (.bipush (-2), 2) := by decide +kernel
theorem dX10_spans_96 : decode cX10_spans 96 = .ok (.ireturn, 1) := by decide +kernel
theorem dX10_spans_97 : decode cX10_spans 97 = .ok (.aload_n 0, 1) := by decide +kernel
theorem dX10_spans_98 : decode cX10_spans 98 = .ok (.iconst 0, 1) := by decide +kernel
theorem dX10_spans_99 : decode cX10_spans 99 = .ok (.iload 5, 2) := by decide +kernel
theorem dX10_spans_101 : decode cX10_spans 101 = .ok (.iconst 0, 1) := by decide +kernel
theorem dX10_spans_102 : decode cX10_spans 102 = .ok (.iload 4, 2) := by decide +kernel
theorem dX10_spans_104 : decode cX10_spans 104 = .ok (.iload_n 2, 1) := by decide +kernel
theorem dX10_spans_105 : decode cX10_spans 105 = .ok (.iload_n 3, 1) := by decide +kernel
theorem dX10_spans_106 : decode cX10_spans 106 = .ok (.invokevirtual 381, 3) := by decide +kernel
theorem dX10_spans_109 : decode cX10_spans 109 = .ok (.pop, 1) := by decide +kernel
theorem dX10_spans_110 : decode cX10_spans 110 = .ok (.aload_n 0, 1) := by decide +kernel
theorem dX10_spans_111 : decode cX10_spans 111 = .ok (.iconst 0, 1) := by decide +kernel
theorem dX10_spans_112 : decode cX10_spans 112 = .ok (.putfield 15, 3) := by decide +kernel
theorem dX10_spans_115 : decode cX10_spans 115 = .ok (.iconst 0, 1) := by decide +kernel
theorem dX10_spans_116 : decode cX10_spans 116 = .ok (.istore 6, 2) := by decide +kernel
theorem dX10_spans_118 : decode cX10_spans 118 = .ok (.iload 6, 2) := by decide +kernel
theorem dX10_spans_120 : decode cX10_spans 120 = .ok (.iload 5, 2) := by decide +kernel
theorem dX10_spans_122 : decode cX10_spans 122 = .ok (.if_icmp .ge 28, 3) := by decide +kernel
theorem dX10_spans_125 : decode cX10_spans 125 = .ok (.iload 6, 2) := by decide +kernel
theorem dX10_spans_127 : decode cX10_spans 127 = .ok (.bipush 12, 2) := by decide +kernel
theorem dX10_spans_129 : decode cX10_spans 129 = .ok (.if_icmp .ge 21, 3) := by decide +kernel
theorem dX10_spans_132 : decode cX10_spans 132 = .ok (.aload_n 0, 1) := by decide +kernel
theorem dX10_spans_133 : decode cX10_spans 133 = .ok (.aload_n 0, 1) := by decide +kernel
theorem dX10_spans_134 : decode cX10_spans 134 = .ok (.getfield 147, 3) := by decide +kernel
theorem dX10_spans_137 : decode cX10_spans 137 = .ok (.iload 6, 2) := by decide +kernel
theorem dX10_spans_139 : decode cX10_spans 139 = .ok (.iaload, 1) := by decide +kernel
theorem dX10_spans_140 : decode cX10_spans 140 = .ok (.i2l, 1) := by decide +kernel
theorem dX10_spans_141 : decode cX10_spans 141 = .ok (.invokevirtual 280, 3) := by decide +kernel
theorem dX10_spans_144 : decode cX10_spans 144 = .ok (.iinc 6 1, 3) := by decide +kernel
theorem dX10_spans_147 : decode cX10_spans 147 = .ok (.goto (-29), 3) := by decide +kernel
theorem dX10_spans_150 : decode cX10_spans 150 = .ok (.iload 5, 2) := by decide +kernel
theorem dX10_spans_152 : decode cX10_spans 152 = .ok (.ireturn, 1) := by decide +kernel
theorem dX10_isUsed_0 : decode cX10_isUsed 0 = .ok (.iconst 0, 1) := by decide +kernel
theorem dX10_isUsed_1 : decode cX10_isUsed 1 = .ok (.istore_n 3, 1) := by decide +kernel
theorem dX10_isUsed_2 : decode cX10_isUsed 2 = .ok (.iconst 0, 1) := by decide +kernel
theorem dX10_isUsed_3 : decode cX10_isUsed 3 = .ok (.istore 4, 2) := by decide +kernel
theorem dX10_isUsed_5 : decode cX10_isUsed 5 = .ok (.iload 4, 2) := by decide +kernel
theorem dX10_isUsed_7 : decode cX10_isUsed 7 = .ok (.bipush 10, 2) := by decide +kernel
theorem dX10_isUsed_9 : decode cX10_isUsed 9 = .ok (.if_icmp .ge 42, 3) := by decide +kernel
theorem dX10_isUsed_12 : decode cX10_isUsed 12 = .ok (.iload_n 3, 1) := by decide +kernel
theorem dX10_isUsed_13 : decode cX10_isUsed 13 = .ok (.ifCond .ne 26, 3) := by decide +kernel
theorem dX10_isUsed_16 : decode cX10_isUsed 16 = .ok (.aload_n 0, 1) := by decide +kernel
theorem dX10_isUsed_17 : decode cX10_isUsed 17 = .ok (.iconst 0, 1) := by decide +kernel
theorem dX10_isUsed_18 : decode cX10_isUsed 18 = .ok (.iload 4, 2) := by decide +kernel
theorem dX10_isUsed_20 : decode cX10_isUsed 20 = .ok (.iload_n 2, 1) := by decide +kernel
theorem dX10_isUsed_21 : decode cX10_isUsed 21 = .ok (.invokestatic 173, 3) := by decide +kernel
theorem dX10_isUsed_24 : decode cX10_isUsed 24 = .ok (.ifCond .eq 19, 3) := by decide +kernel
theorem dX10_isUsed_27 : decode cX10_isUsed 27 = .ok (.aload_n 0, 1) := by decide +kernel
theorem dX10_isUsed_28 : decode cX10_isUsed 28 = .ok (.iconst 0, 1) := by decide +kernel
theorem dX10_isUsed_29 : decode cX10_isUsed 29 = .ok (.iload 4, 2) := by decide +kernel
theorem dX10_isUsed_31 : decode cX10_isUsed 31 = .ok (.iload_n 2, 1) := by decide +kernel
theorem dX10_isUsed_32 : decode cX10_isUsed 32 = .ok (.invokestatic 181, 3) := by decide +kernel
theorem dX10_isUsed_35 : decode cX10_isUsed 35 = .ok (.iload_n 1, 1) := by decide +kernel
theorem dX10_isUsed_36 : decode cX10_isUsed 36 = .ok (.if_icmp .ne 7, 3) := by decide +kernel
theorem dX10_isUsed_39 : decode cX10_isUsed 39 = .ok (.iconst 1, 1) := by decide +kernel
theorem dX10_isUsed_40 : decode cX10_isUsed 40 = .ok (.goto 4, 3) := by decide +kernel
theorem dX10_isUsed_43 : decode cX10_isUsed 43 = .ok (.iconst 0, 1) := by decide +kernel
theorem dX10_isUsed_44 : decode cX10_isUsed 44 = .ok (.istore_n 3, 1) := by decide +kernel
theorem dX10_isUsed_45 : decode cX10_isUsed 45 = .ok (.iinc 4 1, 3) := by decide +kernel
theorem dX10_isUsed_48 : decode cX10_isUsed 48 = .ok (.goto (-43), 3) := by decide +kernel
theorem dX10_isUsed_51 : decode cX10_isUsed 51 = .ok (.iload_n 3, 1) := by decide +kernel
theorem dX10_isUsed_52 : decode cX10_isUsed 52 = .ok (.ireturn, 1) := by decide +kernel
theorem dX10_users_0 : decode cX10_users 0 = .ok (.aload_n 0, 1) := by decide +kernel
theorem dX10_users_1 : decode cX10_users 1 = .ok (.iconst 0, 1) := by decide +kernel
theorem dX10_users_2 : decode cX10_users 2 = .ok (.putfield 3, 3) := by decide +kernel
theorem dX10_users_5 : decode cX10_users 5 = .ok (.iload_n 1, 1) := by decide +kernel
theorem dX10_users_6 : decode cX10_users 6 = .ok (.invokestatic 231, 3) := by decide +kernel
theorem dX10_users_9 : decode cX10_users 9 = .ok (.ifCond .ne 5, 3) := by decide +kernel
theorem dX10_users_12 : decode cX10_users 12 = .ok (.iconst (-1), 1) := by decide +kernel
theorem dX10_users_13 : decode cX10_users 13 = .ok (.ireturn, 1) := by decide +kernel
theorem dX10_users_14 : decode cX10_users 14 = .ok (.iconst 0, 1) := by decide +kernel
theorem dX10_users_15 : decode cX10_users 15 = .ok (.istore_n 2, 1) := by decide +kernel
theorem dX10_users_16 : decode cX10_users 16 = .ok (.iconst 0, 1) := by decide +kernel
theorem dX10_users_17 : decode cX10_users 17 = .ok (.istore_n 3, 1) := by decide +kernel
theorem dX10_users_18 : decode cX10_users 18 = .ok (.iload_n 3, 1) := by decide +kernel
theorem dX10_users_19 : decode cX10_users 19 = .ok (.bipush 10, 2) := by decide +kernel
theorem dX10_users_21 : decode cX10_users 21 = .ok (.if_icmp .ge 65, 3) := by decide +kernel
theorem dX10_users_24 : decode cX10_users 24 = .ok (.iconst 0, 1) := by decide +kernel
theorem dX10_users_25 : decode cX10_users 25 = .ok (.istore 4, 2) := by decide +kernel
theorem dX10_users_27 : decode cX10_users 27 = .ok (.iload 4, 2) := by decide +kernel
theorem dX10_users_29 : decode cX10_users 29 = .ok (.bipush 100, 2) := by decide +kernel
theorem dX10_users_31 : decode cX10_users 31 = .ok (.if_icmp .ge 49, 3) := by decide +kernel
theorem dX10_users_34 : decode cX10_users 34 = .ok (.iload_n 2, 1) := by decide +kernel
theorem dX10_users_35 : decode cX10_users 35 = .ok (.aload_n 0, 1) := by decide +kernel
theorem dX10_users_36 : decode cX10_users 36 = .ok (.getfield 118, 3) := by decide +kernel
theorem dX10_users_39 : decode cX10_users 39 = .ok (.iconst 0, 1) := by decide +kernel
theorem dX10_users_40 : decode cX10_users 40 = .ok (.iload_n 3, 1) := by decide +kernel
theorem dX10_users_41 : decode cX10_users 41 = .ok (.iload 4, 2) := by decide +kernel
theorem dX10_users_43 : decode cX10_users 43 = .ok (.invokestatic 188, 3) := by decide +kernel
theorem dX10_users_46 : decode cX10_users 46 = .ok (.ifCond .eq 22, 3) := by decide +kernel
theorem dX10_users_49 : decode cX10_users 49 = .ok (.aload_n 0, 1) := by decide +kernel
theorem dX10_users_50 : decode cX10_users 50 = .ok (.getfield 118, 3) := by decide +kernel
theorem dX10_users_53 : decode cX10_users 53 = .ok (.iconst 0, 1) := by decide +kernel
theorem dX10_users_54 : decode cX10_users 54 = .ok (.iload_n 3, 1) := by decide +kernel
theorem dX10_users_55 : decode cX10_users 55 = .ok (.iload 4, 2) := by decide +kernel
theorem dX10_users_57 : decode cX10_users 57 = .ok (.invokestatic 181, 3) := by decide +kernel
theorem dX10_users_60 : decode cX10_users 60 = .ok (.iload_n 1, 1) := by decide +kernel
theorem dX10_users_61 : decode cX10_users 61 = .ok (.if_icmp .ne 7, 3) := by decide +kernel
theorem dX10_users_64 : decode cX10_users 64 = .ok (.iconst 1, 1) := by decide +kernel
theorem dX10_users_65 : decode cX10_users 65 = .ok (.goto 4, 3) := by decide +kernel
theorem dX10_users_68 : decode cX10_users 68 = .ok (.iconst 0, 1) := by decide +kernel
theorem dX10_users_69 : decode cX10_users 69 = .ok (.invokestatic 44, 3) := by decide +kernel
theorem dX10_users_72 : decode cX10_users 72 = .ok (.iadd, 1) := by decide +kernel
theorem dX10_users_73 : decode cX10_users 73 = .ok (.istore_n 2, 1) := by decide +kernel
theorem dX10_users_74 : decode cX10_users 74 = .ok (.iinc 4 1, 3) := by decide +kernel
theorem dX10_users_77 : decode cX10_users 77 = .ok (.goto (-50), 3) := by decide +kernel
theorem dX10_users_80 : decode cX10_users 80 = .ok (.iinc 3 1, 3) := by decide +kernel
theorem dX10_users_83 : decode cX10_users 83 = .ok (.goto (-65), 3) := by decide +kernel
theorem dX10_users_86 : decode cX10_users 86 = .ok (.iconst 0, 1) := by decide +kernel
theorem dX10_users_87 : decode cX10_users 87 = .ok (.istore_n 3, 1) := by decide +kernel
theorem dX10_users_88 : decode cX10_users 88 = .ok (.iconst 0, 1) := by decide +kernel
theorem dX10_users_89 : decode cX10_users 89 = .ok (.istore 4, 2) := by decide +kernel
theorem dX10_users_91 : decode cX10_users 91 = .ok (.iconst 0, 1) := by decide +kernel
theorem dX10_users_92 : decode cX10_users 92 = .ok (.istore 5, 2) := by decide +kernel
theorem dX10_users_94 : decode cX10_users 94 = .ok (.iload 5, 2) := by decide +kernel
theorem dX10_users_96 : decode cX10_users 96 = .ok (.bipush 100, 2) := by decide +kernel
theorem dX10_users_98 : decode cX10_users 98 = .ok (.if_icmp .ge 111, 3) := by decide +kernel
theorem dX10_users_101 : decode cX10_users 101 = .ok (.iload_n 3, 1) := by decide +kernel
theorem dX10_users_102 : decode cX10_users 102 = .ok (.aload_n 0, 1) := by decide +kernel
theorem dX10_users_103 : decode cX10_users 103 = .ok (.getfield 118, 3) := by decide +kernel
theorem dX10_users_106 : decode cX10_users 106 = .ok (.iload_n 1, 1) := by decide +kernel
theorem dX10_users_107 : decode cX10_users 107 = .ok (.iload 5, 2) := by decide +kernel
theorem dX10_users_109 : decode cX10_users 109 = .ok (.invokestatic 388, 3) := by decide +kernel
theorem dX10_users_112 : decode cX10_users 112 = .ok (.invokestatic 44, 3) := by decide +kernel
theorem dX10_users_115 : decode cX10_users 115 = .ok (.iadd, 1) := by decide +kernel
theorem dX10_users_116 : decode cX10_users 116 = .ok (.istore_n 3, 1) := by decide +kernel
theorem dX10_users_117 : decode cX10_users 117 = .ok (.aload_n 0, 1) := by decide +kernel
theorem dX10_users_118 : decode cX10_users 118 = .ok (.getfield 118, 3) := by decide +kernel
theorem dX10_users_121 : decode cX10_users 121 = .ok (.iconst 1, 1) := by decide +kernel
theorem dX10_users_122 : decode cX10_users 122 = .ok (.iload_n 1, 1) := by decide +kernel
theorem dX10_users_123 : decode cX10_users 123 = .ok (.iload 5, 2) := by decide +kernel
theorem dX10_users_125 : decode cX10_users 125 = .ok (.invokestatic 188, 3) := by decide +kernel
theorem dX10_users_128 : decode cX10_users 128 = .ok (.ifCond .eq 75, 3) := by decide +kernel
theorem dX10_users_131 : decode cX10_users 131 = .ok (.iconst 0, 1) := by decide +kernel
theorem dX10_users_132 : decode cX10_users 132 = .ok (.istore 6, 2) := by decide +kernel
theorem dX10_users_134 : decode cX10_users 134 = .ok (.iload 5, 2) := by decide +kernel
theorem dX10_users_136 : decode cX10_users 136 = .ok (.istore 7, 2) := by decide +kernel
theorem dX10_users_138 : decode cX10_users 138 = .ok (.iload 7, 2) := by decide +kernel
theorem dX10_users_140 : decode cX10_users 140 = .ok (.aload_n 0, 1) := by decide +kernel
theorem dX10_users_141 : decode cX10_users 141 = .ok (.getfield 118, 3) := by decide +kernel
theorem dX10_users_144 : decode cX10_users 144 = .ok (.iconst 1, 1) := by decide +kernel
theorem dX10_users_145 : decode cX10_users 145 = .ok (.iload_n 1, 1) := by decide +kernel
theorem dX10_users_146 : decode cX10_users 146 = .ok (.iload 5, 2) := by decide +kernel
theorem dX10_users_148 : decode cX10_users 148 = .ok (.invokestatic 223, 3) := by decide +kernel
theorem dX10_users_151 : decode cX10_users 151 = .ok (.if_icmp .ge 34, 3) := by decide +kernel
theorem dX10_users_154 : decode cX10_users 154 = .ok (.iload 6, 2) := by decide +kernel
theorem dX10_users_156 : decode cX10_users 156 = .ok (.ifCond .ne 16, 3) := by decide +kernel
theorem dX10_users_159 : decode cX10_users 159 = .ok (.aload_n 0, 1) := by decide +kernel
theorem dX10_users_160 : decode cX10_users 160 = .ok (.getfield 118, 3) := by decide +kernel
theorem dX10_users_163 : decode cX10_users 163 = .ok (.iload_n 1, 1) := by decide +kernel
theorem dX10_users_164 : decode cX10_users 164 = .ok (.iload 7, 2) := by decide +kernel
theorem dX10_users_166 : decode cX10_users 166 = .ok (.invokestatic 388, 3) := by decide +kernel
theorem dX10_users_169 : decode cX10_users 169 = .ok (.ifCond .eq 7, 3) := by decide +kernel
theorem dX10_users_172 : decode cX10_users 172 = .ok (.iconst 1, 1) := by decide +kernel
theorem dX10_users_173 : decode cX10_users 173 = .ok (.goto 4, 3) := by decide +kernel
theorem dX10_users_176 : decode cX10_users 176 = .ok (.iconst 0, 1) := by decide +kernel
theorem dX10_users_177 : decode cX10_users 177 = .ok (.istore 6, 2) := by decide +kernel
theorem dX10_users_179 : decode cX10_users 179 = .ok (.iinc 7 1, 3) := by decide +kernel
theorem dX10_users_182 : decode cX10_users 182 = .ok (.goto (-44), 3) := by decide +kernel
theorem dX10_users_185 : decode cX10_users 185 = .ok (.iload 4, 2) := by decide +kernel
theorem dX10_users_187 : decode cX10_users 187 = .ok (.iload 6, 2) := by decide +kernel
theorem dX10_users_189 : decode cX10_users 189 = .ok (.ifCond .ne 7, 3) := by decide +kernel
theorem dX10_users_192 : decode cX10_users 192 = .ok (.iconst 1, 1) := by decide +kernel
theorem dX10_users_193 : decode cX10_users 193 = .ok (.goto 4, 3) := by decide +kernel
theorem dX10_users_196 : decode cX10_users 196 = .ok (.iconst 0, 1) := by decide +kernel
theorem dX10_users_197 : decode cX10_users 197 = .ok (.invokestatic 44, 3) := by decide +kernel
theorem dX10_users_200 : decode cX10_users 200 = .ok (.iadd, 1) := by decide +kernel
theorem dX10_users_201 : decode cX10_users 201 = .ok (.istore 4, 2) := by decide +kernel
theorem dX10_users_203 : decode cX10_users 203 = .ok (.iinc 5 1, 3) := by decide +kernel
theorem dX10_users_206 : decode cX10_users 206 = .ok (.goto (-112), 3) := by decide +kernel
theorem dX10_users_209 : decode cX10_users 209 = .ok (.aload_n 0, 1) := by decide +kernel
theorem dX10_users_210 : decode cX10_users 210 = .ok (.iconst 0, 1) := by decide +kernel
theorem dX10_users_211 : decode cX10_users 211 = .ok (.putfield 15, 3) := by decide +kernel
theorem dX10_users_214 : decode cX10_users 214 = .ok (.aload_n 0, 1) := by decide +kernel
theorem dX10_users_215 : decode cX10_users 215 = .ok (.iload_n 3, 1) := by decide +kernel
theorem dX10_users_216 : decode cX10_users 216 = .ok (.i2l, 1) := by decide +kernel
theorem dX10_users_217 : decode cX10_users 217 = .ok (.invokevirtual 280, 3) := by decide +kernel
theorem dX10_users_220 : decode cX10_users 220 = .ok (.aload_n 0, 1) := by decide +kernel
theorem dX10_users_221 : decode cX10_users 221 = .ok (.iload 4, 2) := by decide +kernel
theorem dX10_users_223 : decode cX10_users 223 = .ok (.i2l, 1) := by decide +kernel
theorem dX10_users_224 : decode cX10_users 224 = .ok (.invokevirtual 280, 3) := by decide +kernel
theorem dX10_users_227 : decode cX10_users 227 = .ok (.iload_n 2, 1) := by decide +kernel
theorem dX10_users_228 : decode cX10_users 228 = .ok (.ireturn, 1) := by decide +kernel
theorem dX10_drags_0 : decode cX10_drags 0 = .ok (.aload_n 0, 1) := by decide +kernel
theorem dX10_drags_1 : decode cX10_drags 1 = .ok (.iconst 0, 1) := by decide +kernel
theorem dX10_drags_2 : decode cX10_drags 2 = .ok (.putfield 3, 3) := by decide +kernel
theorem dX10_drags_5 : decode cX10_drags 5 = .ok (.iload_n 1, 1) := by decide +kernel
theorem dX10_drags_6 : decode cX10_drags 6 = .ok (.invokestatic 231, 3) := by decide +kernel
theorem dX10_drags_9 : decode cX10_drags 9 = .ok (.ifCond .eq 11, 3) := by decide +kernel
theorem dX10_drags_12 : decode cX10_drags 12 = .ok (.iload_n 2, 1) := by decide +kernel
theorem dX10_drags_13 : decode cX10_drags 13 = .ok (.iload_n 3, 1) := by decide +kernel
theorem dX10_drags_14 : decode cX10_drags 14 = .ok (.invokestatic 234, 3) := by decide +kernel
theorem dX10_drags_17 : decode cX10_drags 17 = .ok (.ifCond .ne 5, 3) := by decide +kernel
theorem dX10_drags_20 : decode cX10_drags 20 = .ok (.iconst (-1), 1) := by decide +kernel
theorem dX10_drags_21 : decode cX10_drags 21 = .ok (.ireturn, 1) := by decide +kernel
theorem dX10_drags_22 : decode cX10_drags 22 = .ok (.aload_n 0, 1) := by decide +kernel
theorem dX10_drags_23 : decode cX10_drags 23 = .ok (.getfield 118, 3) := by decide +kernel
theorem dX10_drags_26 : decode cX10_drags 26 = .ok (.iconst 1, 1) := by decide +kernel
theorem dX10_drags_27 : decode cX10_drags 27 = .ok (.iload_n 1, 1) := by decide +kernel
theorem dX10_drags_28 : decode cX10_drags 28 = .ok (.iload_n 2, 1) := by decide +kernel
theorem dX10_drags_29 : decode cX10_drags 29 = .ok (.iload_n 3, 1) := by decide +kernel
theorem dX10_drags_30 : decode cX10_drags 30 = .ok (.invokestatic 238, 3) := by decide +kernel
theorem dX10_drags_33 : decode cX10_drags 33 = .ok (.ifCond .ne 6, 3) := by decide +kernel
theorem dX10_drags_36 : decode cX10_drags 36 = .ok (.bipush (-2), 2) := by decide +kernel
theorem dX10_drags_38 : decode cX10_drags 38 = .ok (.ireturn, 1) := by decide +kernel
theorem dX10_drags_39 : decode cX10_drags 39 = .ok (.aload_n 0, 1) := by decide +kernel
theorem dX10_drags_40 : decode cX10_drags 40 = .ok (.invokevirtual 357, 3) := by decide +kernel
theorem dX10_drags_43 : decode cX10_drags 43 = .ok (.aload_n 0, 1) := by decide +kernel
theorem dX10_drags_44 : decode cX10_drags 44 = .ok (.getfield 121, 3) := by decide +kernel
theorem dX10_drags_47 : decode cX10_drags 47 = .ok (.sipush 2000, 3) := by decide +kernel
theorem dX10_drags_50 : decode cX10_drags 50 = .ok (.iconst 1, 1) := by decide +kernel
theorem dX10_drags_51 : decode cX10_drags 51 = .ok (.iastore, 1) := by decide +kernel
theorem dX10_drags_52 : decode cX10_drags 52 = .ok (.aload_n 0, 1) := by decide +kernel
theorem dX10_drags_53 : decode cX10_drags 53 = .ok (.aload_n 0, 1) := by decide +kernel
theorem dX10_drags_54 : decode cX10_drags 54 = .ok (.getfield 121, 3) := by decide +kernel
theorem dX10_drags_57 : decode cX10_drags 57 = .ok (.iconst 1, 1) := by decide +kernel
theorem dX10_drags_58 : decode cX10_drags 58 = .ok (.iload_n 1, 1) := by decide +kernel
theorem dX10_drags_59 : decode cX10_drags 59 = .ok (.iload_n 2, 1) := by decide +kernel
theorem dX10_drags_60 : decode cX10_drags 60 = .ok (.iload_n 3, 1) := by decide +kernel
theorem dX10_drags_61 : decode cX10_drags 61 = .ok (.invokevirtual 268, 3) := by decide +kernel
theorem dX10_drags_64 : decode cX10_drags 64 = .ok (.aload_n 0, 1) := by decide +kernel
theorem dX10_drags_65 : decode cX10_drags 65 = .ok (.aload_n 0, 1) := by decide +kernel
theorem dX10_drags_66 : decode cX10_drags 66 = .ok (.getfield 121, 3) := by decide +kernel
theorem dX10_drags_69 : decode cX10_drags 69 = .ok (.invokevirtual 272, 3) := by decide +kernel
theorem dX10_drags_72 : decode cX10_drags 72 = .ok (.iconst 0, 1) := by decide +kernel
theorem dX10_drags_73 : decode cX10_drags 73 = .ok (.istore 4, 2) := by decide +kernel
theorem dX10_drags_75 : decode cX10_drags 75 = .ok (.iconst 0, 1) := by decide +kernel
theorem dX10_drags_76 : decode cX10_drags 76 = .ok (.istore 5, 2) := by decide +kernel
theorem dX10_drags_78 : decode cX10_drags 78 = .ok (.iload 5, 2) := by decide +kernel
theorem dX10_drags_80 : decode cX10_drags 80 = .ok (.bipush 10, 2) := by decide +kernel
theorem dX10_drags_82 : decode cX10_drags 82 = .ok (.if_icmp .ge 107, 3) := by decide +kernel
theorem dX10_drags_85 : decode cX10_drags 85 = .ok (.iconst 0, 1) := by decide +kernel
theorem dX10_drags_86 : decode cX10_drags 86 = .ok (.istore 6, 2) := by decide +kernel
theorem dX10_drags_88 : decode cX10_drags 88 = .ok (.iload 6, 2) := by decide +kernel
theorem dX10_drags_90 : decode cX10_drags 90 = .ok (.bipush 100, 2) := by decide +kernel
theorem dX10_drags_92 : decode cX10_drags 92 = .ok (.if_icmp .ge 91, 3) := by decide +kernel
theorem dX10_drags_95 : decode cX10_drags 95 = .ok (.aload_n 0, 1) := by decide +kernel
theorem dX10_drags_96 : decode cX10_drags 96 = .ok (.getfield 118, 3) := by decide +kernel
theorem dX10_drags_99 : decode cX10_drags 99 = .ok (.iconst 0, 1) := by decide +kernel
theorem dX10_drags_100 : decode cX10_drags 100 = .ok (.iload 5, 2) := by decide +kernel
theorem dX10_drags_102 : decode cX10_drags 102 = .ok (.iload 6, 2) := by decide +kernel
theorem dX10_drags_104 : decode cX10_drags 104 = .ok (.invokestatic 188, 3) := by decide +kernel
theorem dX10_drags_107 : decode cX10_drags 107 = .ok (.ifCond .eq 70, 3) := by decide +kernel
theorem dX10_drags_110 : decode cX10_drags 110 = .ok (.iconst 0, 1) := by decide +kernel
theorem dX10_drags_111 : decode cX10_drags 111 = .ok (.istore 7, 2) := by decide +kernel
theorem dX10_drags_113 : decode cX10_drags 113 = .ok (.iload 6, 2) := by decide +kernel
theorem dX10_drags_115 : decode cX10_drags 115 = .ok (.istore 8, 2) := by decide +kernel
theorem dX10_drags_117 : decode cX10_drags 117 = .ok (.iload 8, 2) := by decide +kernel
theorem dX10_drags_119 : decode cX10_drags 119 = .ok (.aload_n 0, 1) := by decide +kernel
theorem dX10_drags_120 : decode cX10_drags 120 = .ok (.getfield 118, 3) := by decide +kernel
theorem dX10_drags_123 : decode cX10_drags 123 = .ok (.iconst 0, 1) := by decide +kernel
theorem dX10_drags_124 : decode cX10_drags 124 = .ok (.iload 5, 2) := by decide +kernel
theorem dX10_drags_126 : decode cX10_drags 126 = .ok (.iload 6, 2) := by decide +kernel
theorem dX10_drags_128 : decode cX10_drags 128 = .ok (.invokestatic 223, 3) := by decide +kernel
theorem dX10_drags_131 : decode cX10_drags 131 = .ok (.if_icmp .ge 36, 3) := by decide +kernel
theorem dX10_drags_134 : decode cX10_drags 134 = .ok (.iload 7, 2) := by decide +kernel
theorem dX10_drags_136 : decode cX10_drags 136 = .ok (.ifCond .ne 18, 3) := by decide +kernel
theorem dX10_drags_139 : decode cX10_drags 139 = .ok (.aload_n 0, 1) := by decide +kernel
theorem dX10_drags_140 : decode cX10_drags 140 = .ok (.getfield 121, 3) := by decide +kernel
theorem dX10_drags_143 : decode cX10_drags 143 = .ok (.iconst 0, 1) := by decide +kernel
theorem dX10_drags_144 : decode cX10_drags 144 = .ok (.iload 5, 2) := by decide +kernel
theorem dX10_drags_146 : decode cX10_drags 146 = .ok (.iload 8, 2) := by decide +kernel
theorem dX10_drags_148 : decode cX10_drags 148 = .ok (.invokestatic 173, 3) := by decide +kernel
theorem dX10_drags_151 : decode cX10_drags 151 = .ok (.ifCond .ne 7, 3) := by decide +kernel
theorem dX10_drags_154 : decode cX10_drags 154 = .ok (.iconst 1, 1) := by decide +kernel
theorem dX10_drags_155 : decode cX10_drags 155 = .ok (.goto 4, 3) := by decide +kernel
theorem dX10_drags_158 : decode cX10_drags 158 = .ok (.iconst 0, 1) := by decide +kernel
theorem dX10_drags_159 : decode cX10_drags 159 = .ok (.istore 7, 2) := by decide +kernel
theorem dX10_drags_161 : decode cX10_drags 161 = .ok (.iinc 8 1, 3) := by decide +kernel
theorem dX10_drags_164 : decode cX10_drags 164 = .ok (.goto (-47), 3) := by decide +kernel
theorem dX10_drags_167 : decode cX10_drags 167 = .ok (.iload 4, 2) := by decide +kernel
theorem dX10_drags_169 : decode cX10_drags 169 = .ok (.iload 7, 2) := by decide +kernel
theorem dX10_drags_171 : decode cX10_drags 171 = .ok (.invokestatic 44, 3) := by decide +kernel
theorem dX10_drags_174 : decode cX10_drags 174 = .ok (.iadd, 1) := by decide +kernel
theorem dX10_drags_175 : decode cX10_drags 175 = .ok (.istore 4, 2) := by decide +kernel
theorem dX10_drags_177 : decode cX10_drags 177 = .ok (.iinc 6 1, 3) := by decide +kernel
theorem dX10_drags_180 : decode cX10_drags 180 = .ok (.goto (-92), 3) := by decide +kernel
theorem dX10_drags_183 : decode cX10_drags 183 = .ok (.iinc 5 1, 3) := by decide +kernel
theorem dX10_drags_186 : decode cX10_drags 186 = .ok (.goto (-108), 3) := by decide +kernel
theorem dX10_drags_189 : decode cX10_drags 189 = .ok (.aload_n 0, 1) := by decide +kernel
theorem dX10_drags_190 : decode cX10_drags 190 = .ok (.iconst 0, 1) := by decide +kernel
theorem dX10_drags_191 : decode cX10_drags 191 = .ok (.putfield 15, 3) := by decide +kernel
theorem dX10_drags_194 : decode cX10_drags 194 = .ok (.aload_n 0, 1) := by decide +kernel
theorem dX10_drags_195 : decode cX10_drags 195 = .ok (.iload 4, 2) := by decide +kernel
theorem dX10_drags_197 : decode cX10_drags 197 = .ok (.i2l, 1) := by decide +kernel
theorem dX10_drags_198 : decode cX10_drags 198 = .ok (.invokevirtual 280, 3) := by decide +kernel
theorem dX10_drags_201 : decode cX10_drags 201 = .ok (.aload_n 0, 1) := by decide +kernel
theorem dX10_drags_202 : decode cX10_drags 202 = .ok (.getfield 262, 3) := by decide +kernel
theorem dX10_drags_205 : decode cX10_drags 205 = .ok (.ireturn, 1) := by decide +kernel
theorem dX10_where_0 : decode cX10_where 0 = .ok (.aload_n 0, 1) := by decide +kernel
theorem dX10_where_1 : decode cX10_where 1 = .ok (.iconst 0, 1) := by decide +kernel
theorem dX10_where_2 : decode cX10_where 2 = .ok (.putfield 3, 3) := by decide +kernel
theorem dX10_where_5 : decode cX10_where 5 = .ok (.aload_n 0, 1) := by decide +kernel
theorem dX10_where_6 : decode cX10_where 6 = .ok (.bipush 40, 2) := by decide +kernel
theorem dX10_where_8 : decode cX10_where 8 = .ok (.invokevirtual 345, 3) := by decide +kernel
theorem dX10_where_11 : decode cX10_where 11 = .ok (.istore_n 2, 1) := by decide +kernel
theorem dX10_where_12 : decode cX10_where 12 = .ok (.aload_n 0, 1) := by decide +kernel
theorem dX10_where_13 : decode cX10_where 13 = .ok (.iconst 0, 1) := by decide +kernel
theorem dX10_where_14 : decode cX10_where 14 = .ok (.putfield 73, 3) := by decide +kernel
theorem dX10_where_17 : decode cX10_where 17 = .ok (.aload_n 0, 1) := by decide +kernel
theorem dX10_where_18 : decode cX10_where 18 = .ok (.iconst 0, 1) := by decide +kernel
theorem dX10_where_19 : decode cX10_where 19 = .ok (.invokevirtual 93, 3) := by decide +kernel
theorem dX10_where_22 : decode cX10_where 22 = .ok (.istore_n 3, 1) := by decide +kernel
theorem dX10_where_23 : decode cX10_where 23 = .ok (.aload_n 0, 1) := by decide +kernel
theorem dX10_where_24 : decode cX10_where 24 = .ok (.iload_n 2, 1) := by decide +kernel
theorem dX10_where_25 : decode cX10_where 25 = .ok (.bipush 40, 2) := by decide +kernel
theorem dX10_where_27 : decode cX10_where 27 = .ok (.iload_n 3, 1) := by decide +kernel
theorem dX10_where_28 : decode cX10_where 28 = .ok (.invokevirtual 391, 3) := by decide +kernel
theorem dX10_where_31 : decode cX10_where 31 = .ok (.istore 4, 2) := by decide +kernel
theorem dX10_where_33 : decode cX10_where 33 = .ok (.iload 4, 2) := by decide +kernel
theorem dX10_where_35 : decode cX10_where 35 = .ok (.ifCond .ge 12, 3) := by decide +kernel
theorem dX10_where_38 : decode cX10_where 38 = .ok (.iload 4, 2) := by decide +kernel
theorem dX10_where_40 : decode cX10_where 40 = .ok (.iconst 1, 1) := by decide +kernel
theorem dX10_where_41 : decode cX10_where 41 = .ok (.iadd, 1) := by decide +kernel
theorem dX10_where_42 : decode cX10_where 42 = .ok (.sipush 1000, 3) := by decide +kernel
theorem dX10_where_45 : decode cX10_where 45 = .ok (.isub, 1) := by decide +kernel
theorem dX10_where_46 : decode cX10_where 46 = .ok (.ireturn, 1) := by decide +kernel
theorem dX10_where_47 : decode cX10_where 47 = .ok (.iload_n 1, 1) := by decide +kernel
theorem dX10_where_48 : decode cX10_where 48 = .ok (.invokestatic 211, 3) := by decide +kernel
theorem dX10_where_51 : decode cX10_where 51 = .ok (.ifCond .ne 5, 3) := by decide +kernel
theorem dX10_where_54 : decode cX10_where 54 = .ok (.iconst (-1), 1) := by decide +kernel
theorem dX10_where_55 : decode cX10_where 55 = .ok (.ireturn, 1) := by decide +kernel
theorem dX10_where_56 : decode cX10_where 56 = .ok (.iconst 0, 1) := by decide +kernel
theorem dX10_where_57 : decode cX10_where 57 = .ok (.istore 5, 2) := by decide +kernel
theorem dX10_where_59 : decode cX10_where 59 = .ok (.iconst 0, 1) := by decide +kernel
theorem dX10_where_60 : decode cX10_where 60 = .ok (.istore 6, 2) := by decide +kernel
theorem dX10_where_62 : decode cX10_where 62 = .ok (.iconst 0, 1) := by decide +kernel
theorem dX10_where_63 : decode cX10_where 63 = .ok (.istore 7, 2) := by decide +kernel
theorem dX10_where_65 : decode cX10_where 65 = .ok (.iconst 0, 1) := by decide +kernel
theorem dX10_where_66 : decode cX10_where 66 = .ok (.istore 8, 2) := by decide +kernel
theorem dX10_where_68 : decode cX10_where 68 = .ok (.aload_n 0, 1) := by decide +kernel
theorem dX10_where_69 : decode cX10_where 69 = .ok (.aload_n 0, 1) := by decide +kernel
theorem dX10_where_70 : decode cX10_where 70 = .ok (.getfield 118, 3) := by decide +kernel
theorem dX10_where_73 : decode cX10_where 73 = .ok (.iload_n 1, 1) := by decide +kernel
theorem dX10_where_74 : decode cX10_where 74 = .ok (.iload 8, 2) := by decide +kernel
theorem dX10_where_76 : decode cX10_where 76 = .ok (.invokevirtual 216, 3) := by decide +kernel
theorem dX10_where_79 : decode cX10_where 79 = .ok (.ifCond .eq 173, 3) := by decide +kernel
theorem dX10_where_82 : decode cX10_where 82 = .ok (.aload_n 0, 1) := by decide +kernel
theorem dX10_where_83 : decode cX10_where 83 = .ok (.getfield 118, 3) := by decide +kernel
theorem dX10_where_86 : decode cX10_where 86 = .ok (.iload_n 1, 1) := by decide +kernel
theorem dX10_where_87 : decode cX10_where 87 = .ok (.aload_n 0, 1) := by decide +kernel
theorem dX10_where_88 : decode cX10_where 88 = .ok (.getfield 191, 3) := by decide +kernel
theorem dX10_where_91 : decode cX10_where 91 = .ok (.aload_n 0, 1) := by decide +kernel
theorem dX10_where_92 : decode cX10_where 92 = .ok (.getfield 194, 3) := by decide +kernel
theorem dX10_where_95 : decode cX10_where 95 = .ok (.invokestatic 223, 3) := by decide +kernel
theorem dX10_where_98 : decode cX10_where 98 = .ok (.istore 9, 2) := by decide +kernel
theorem dX10_where_100 : decode cX10_where 100 = .ok (.aload_n 0, 1) := by decide +kernel
theorem dX10_where_101 : decode cX10_where 101 = .ok (.getfield 109, 3) := by decide +kernel
theorem dX10_where_104 : decode cX10_where 104 = .ok (.iconst 0, 1) := by decide +kernel
theorem dX10_where_105 : decode cX10_where 105 = .ok (.aload_n 0, 1) := by decide +kernel
theorem dX10_where_106 : decode cX10_where 106 = .ok (.getfield 191, 3) := by decide +kernel
theorem dX10_where_109 : decode cX10_where 109 = .ok (.iastore, 1) := by decide +kernel
theorem dX10_where_110 : decode cX10_where 110 = .ok (.aload_n 0, 1) := by decide +kernel
theorem dX10_where_111 : decode cX10_where 111 = .ok (.getfield 109, 3) := by decide +kernel
theorem dX10_where_114 : decode cX10_where 114 = .ok (.iconst 1, 1) := by decide +kernel
theorem dX10_where_115 : decode cX10_where 115 = .ok (.aload_n 0, 1) := by decide +kernel
theorem dX10_where_116 : decode cX10_where 116 = .ok (.getfield 118, 3) := by decide +kernel
theorem dX10_where_119 : decode cX10_where 119 = .ok (.iload_n 1, 1) := by decide +kernel
theorem dX10_where_120 : decode cX10_where 120 = .ok (.aload_n 0, 1) := by decide +kernel
theorem dX10_where_121 : decode cX10_where 121 = .ok (.getfield 191, 3) := by decide +kernel
theorem dX10_where_124 : decode cX10_where 124 = .ok (.aload_n 0, 1) := by decide +kernel
theorem dX10_where_125 : decode cX10_where 125 = .ok (.getfield 194, 3) := by decide +kernel
theorem dX10_where_128 : decode cX10_where 128 = .ok (.invokestatic 177, 3) := by decide +kernel
theorem dX10_where_131 : decode cX10_where 131 = .ok (.iastore, 1) := by decide +kernel
theorem dX10_where_132 : decode cX10_where 132 = .ok (.aload_n 0, 1) := by decide +kernel
theorem dX10_where_133 : decode cX10_where 133 = .ok (.getfield 109, 3) := by decide +kernel
theorem dX10_where_136 : decode cX10_where 136 = .ok (.iconst 2, 1) := by decide +kernel
theorem dX10_where_137 : decode cX10_where 137 = .ok (.aload_n 0, 1) := by decide +kernel
theorem dX10_where_138 : decode cX10_where 138 = .ok (.getfield 118, 3) := by decide +kernel
theorem dX10_where_141 : decode cX10_where 141 = .ok (.iload_n 1, 1) := by decide +kernel
theorem dX10_where_142 : decode cX10_where 142 = .ok (.aload_n 0, 1) := by decide +kernel
theorem dX10_where_143 : decode cX10_where 143 = .ok (.getfield 191, 3) := by decide +kernel
theorem dX10_where_146 : decode cX10_where 146 = .ok (.aload_n 0, 1) := by decide +kernel
theorem dX10_where_147 : decode cX10_where 147 = .ok (.getfield 194, 3) := by decide +kernel
theorem dX10_where_150 : decode cX10_where 150 = .ok (.invokestatic 181, 3) := by decide +kernel
theorem dX10_where_153 : decode cX10_where 153 = .ok (.iastore, 1) := by decide +kernel
theorem dX10_where_154 : decode cX10_where 154 = .ok (.aload_n 0, 1) := by decide +kernel
theorem dX10_where_155 : decode cX10_where 155 = .ok (.getfield 109, 3) := by decide +kernel
theorem dX10_where_158 : decode cX10_where 158 = .ok (.iconst 3, 1) := by decide +kernel
theorem dX10_where_159 : decode cX10_where 159 = .ok (.aload_n 0, 1) := by decide +kernel
theorem dX10_where_160 : decode cX10_where 160 = .ok (.getfield 194, 3) := by decide +kernel
theorem dX10_where_163 : decode cX10_where 163 = .ok (.iastore, 1) := by decide +kernel
theorem dX10_where_164 : decode cX10_where 164 = .ok (.aload_n 0, 1) := by decide +kernel
theorem dX10_where_165 : decode cX10_where 165 = .ok (.getfield 109, 3) := by decide +kernel
theorem dX10_where_168 : decode cX10_where 168 = .ok (.iconst 4, 1) := by decide +kernel
theorem dX10_where_169 : decode cX10_where 169 = .ok (.iload 9, 2) := by decide +kernel
theorem dX10_where_171 : decode cX10_where 171 = .ok (.iastore, 1) := by decide +kernel
theorem dX10_where_172 : decode cX10_where 172 = .ok (.aload_n 0, 1) := by decide +kernel
theorem dX10_where_173 : decode cX10_where 173 = .ok (.getfield 109, 3) := by decide +kernel
theorem dX10_where_176 : decode cX10_where 176 = .ok (.iconst 5, 1) := by decide +kernel
theorem dX10_where_177 : decode cX10_where 177 = .ok (.iload 9, 2) := by decide +kernel
theorem dX10_where_179 : decode cX10_where 179 = .ok (.aload_n 0, 1) := by decide +kernel
theorem dX10_where_180 : decode cX10_where 180 = .ok (.getfield 194, 3) := by decide +kernel
theorem dX10_where_183 : decode cX10_where 183 = .ok (.isub, 1) := by decide +kernel
theorem dX10_where_184 : decode cX10_where 184 = .ok (.iastore, 1) := by decide +kernel
theorem dX10_where_185 : decode cX10_where 185 = .ok (.aload_n 0, 1) := by decide +kernel
theorem dX10_where_186 : decode cX10_where 186 = .ok (.getfield 109, 3) := by decide +kernel
theorem dX10_where_189 : decode cX10_where 189 = .ok (.bipush 6, 2) := by decide +kernel
theorem dX10_where_191 : decode cX10_where 191 = .ok (.iload 8, 2) := by decide +kernel
theorem dX10_where_193 : decode cX10_where 193 = .ok (.iastore, 1) := by decide +kernel
theorem dX10_where_194 : decode cX10_where 194 = .ok (.aload_n 0, 1) := by decide +kernel
theorem dX10_where_195 : decode cX10_where 195 = .ok (.invokevirtual 395, 3) := by decide +kernel
theorem dX10_where_198 : decode cX10_where 198 = .ok (.istore 10, 2) := by decide +kernel
theorem dX10_where_200 : decode cX10_where 200 = .ok (.iload 5, 2) := by decide +kernel
theorem dX10_where_202 : decode cX10_where 202 = .ok (.iload 10, 2) := by decide +kernel
theorem dX10_where_204 : decode cX10_where 204 = .ok (.ifCond .le 10, 3) := by decide +kernel
theorem dX10_where_207 : decode cX10_where 207 = .ok (.iconst 1, 1) := by decide +kernel
theorem dX10_where_208 : decode cX10_where 208 = .ok (.iload 8, 2) := by decide +kernel
theorem dX10_where_210 : decode cX10_where 210 = .ok (.ishl, 1) := by decide +kernel
theorem dX10_where_211 : decode cX10_where 211 = .ok (.goto 4, 3) := by decide +kernel
theorem dX10_where_214 : decode cX10_where 214 = .ok (.iconst 0, 1) := by decide +kernel
theorem dX10_where_215 : decode cX10_where 215 = .ok (.ior, 1) := by decide +kernel
theorem dX10_where_216 : decode cX10_where 216 = .ok (.istore 5, 2) := by decide +kernel
theorem dX10_where_218 : decode cX10_where 218 = .ok (.iload 6, 2) := by decide +kernel
theorem dX10_where_220 : decode cX10_where 220 = .ok (.iload 10, 2) := by decide +kernel
theorem dX10_where_222 : decode cX10_where 222 = .ok (.ifCond .le 13, 3) := by decide +kernel
theorem dX10_where_225 : decode cX10_where 225 = .ok (.iload 9, 2) := by decide +kernel
theorem dX10_where_227 : decode cX10_where 227 = .ok (.aload_n 0, 1) := by decide +kernel
theorem dX10_where_228 : decode cX10_where 228 = .ok (.getfield 194, 3) := by decide +kernel
theorem dX10_where_231 : decode cX10_where 231 = .ok (.isub, 1) := by decide +kernel
theorem dX10_where_232 : decode cX10_where 232 = .ok (.goto 4, 3) := by decide +kernel
theorem dX10_where_235 : decode cX10_where 235 = .ok (.iconst 0, 1) := by decide +kernel
theorem dX10_where_236 : decode cX10_where 236 = .ok (.iadd, 1) := by decide +kernel
theorem dX10_where_237 : decode cX10_where 237 = .ok (.istore 6, 2) := by decide +kernel
theorem dX10_where_239 : decode cX10_where 239 = .ok (.iload 7, 2) := by decide +kernel
theorem dX10_where_241 : decode cX10_where 241 = .ok (.iload 10, 2) := by decide +kernel
theorem dX10_where_243 : decode cX10_where 243 = .ok (.iadd, 1) := by decide +kernel
theorem dX10_where_244 : decode cX10_where 244 = .ok (.istore 7, 2) := by decide +kernel
theorem dX10_where_246 : decode cX10_where 246 = .ok (.iinc 8 1, 3) := by decide +kernel
theorem dX10_where_249 : decode cX10_where 249 = .ok (.goto (-181), 3) := by decide +kernel
theorem dX10_where_252 : decode cX10_where 252 = .ok (.aload_n 0, 1) := by decide +kernel
theorem dX10_where_253 : decode cX10_where 253 = .ok (.iconst 0, 1) := by decide +kernel
theorem dX10_where_254 : decode cX10_where 254 = .ok (.putfield 15, 3) := by decide +kernel
theorem dX10_where_257 : decode cX10_where 257 = .ok (.aload_n 0, 1) := by decide +kernel
theorem dX10_where_258 : decode cX10_where 258 = .ok (.iload 5, 2) := by decide +kernel
theorem dX10_where_260 : decode cX10_where 260 = .ok (.invokestatic 398, 3) := by decide +kernel
theorem dX10_where_263 : decode cX10_where 263 = .ok (.i2l, 1) := by decide +kernel
theorem dX10_where_264 : decode cX10_where 264 = .ok (.invokevirtual 280, 3) := by decide +kernel
theorem dX10_where_267 : decode cX10_where 267 = .ok (.aload_n 0, 1) := by decide +kernel
theorem dX10_where_268 : decode cX10_where 268 = .ok (.iload 6, 2) := by decide +kernel
theorem dX10_where_270 : decode cX10_where 270 = .ok (.i2l, 1) := by decide +kernel
theorem dX10_where_271 : decode cX10_where 271 = .ok (.invokevirtual 280, 3) := by decide +kernel
theorem dX10_where_274 : decode cX10_where 274 = .ok (.aload_n 0, 1) := by decide +kernel
theorem dX10_where_275 : decode cX10_where 275 = .ok (.iload 7, 2) := by decide +kernel
theorem dX10_where_277 : decode cX10_where 277 = .ok (.i2l, 1) := by decide +kernel
theorem dX10_where_278 : decode cX10_where 278 = .ok (.invokevirtual 280, 3) := by decide +kernel
theorem dX10_where_281 : decode cX10_where 281 = .ok (.iload 5, 2) := by decide +kernel
theorem dX10_where_283 : decode cX10_where 283 = .ok (.ireturn, 1) := by decide +kernel
theorem dX10_differs_0 : decode cX10_differs 0 = .ok (.aload_n 0, 1) := by decide +kernel
theorem dX10_differs_1 : decode cX10_differs 1 = .ok (.iconst 0, 1) := by decide +kernel
theorem dX10_differs_2 : decode cX10_differs 2 = .ok (.putfield 3, 3) := by decide +kernel
theorem dX10_differs_5 : decode cX10_differs 5 = .ok (.iload_n 1, 1) := by decide +kernel
theorem dX10_differs_6 : decode cX10_differs 6 = .ok (.invokestatic 211, 3) := by decide +kernel
theorem dX10_differs_9 : decode cX10_differs 9 = .ok (.ifCond .eq 13, 3) := by decide +kernel
theorem dX10_differs_12 : decode cX10_differs 12 = .ok (.iload_n 2, 1) := by decide +kernel
theorem dX10_differs_13 : decode cX10_differs 13 = .ok (.i2l, 1) := by decide +kernel
theorem dX10_differs_14 : decode cX10_differs 14 = .ok (.lconst 0, 1) := by decide +kernel
theorem dX10_differs_15 : decode cX10_differs 15 = .ok (.lconst 1, 1) := by decide +kernel
theorem dX10_differs_16 : decode cX10_differs 16 = .ok (.invokestatic 25, 3) := by decide +kernel
theorem dX10_differs_19 : decode cX10_differs 19 = .ok (.ifCond .ne 5, 3) := by decide +kernel
theorem dX10_differs_22 : decode cX10_differs 22 = .ok (.iconst (-1), 1) := by decide +kernel
theorem dX10_differs_23 : decode cX10_differs 23 = .ok (.ireturn, 1) := by decide +kernel
theorem dX10_differs_24 : decode cX10_differs 24 = .ok (.aload_n 0, 1) := by decide +kernel
theorem dX10_differs_25 : decode cX10_differs 25 = .ok (.getfield 150, 3) := by decide +kernel
theorem dX10_differs_28 : decode cX10_differs 28 = .ok (.iload_n 2, 1) := by decide +kernel
theorem dX10_differs_29 : decode cX10_differs 29 = .ok (.baload, 1) := by decide +kernel
theorem dX10_differs_30 : decode cX10_differs 30 = .ok (.ifCond .ne 6, 3) := by decide +kernel
theorem dX10_differs_33 : decode cX10_differs 33 = .ok (.bipush (-2), 2) := by decide +kernel
theorem dX10_differs_35 : decode cX10_differs 35 = .ok (.ireturn, 1) := by decide +kernel
theorem dX10_differs_36 : decode cX10_differs 36 = .ok (.iconst 0, 1) := by decide +kernel
theorem dX10_differs_37 : decode cX10_differs 37 = .ok (.istore_n 3, 1) := by decide +kernel
theorem dX10_differs_38 : decode cX10_differs 38 = .ok (.iload_n 3, 1) := by decide +kernel
theorem dX10_differs_39 : decode cX10_differs 39 = .ok (.sipush 2001, 3) := by decide +kernel
theorem dX10_differs_42 : decode cX10_differs 42 = .ok (.if_icmp .ge 27, 3) := by decide +kernel
theorem dX10_differs_45 : decode cX10_differs 45 = .ok (.aload_n 0, 1) := by decide +kernel
theorem dX10_differs_46 : decode cX10_differs 46 = .ok (.getfield 121, 3) := by decide +kernel
theorem dX10_differs_49 : decode cX10_differs 49 = .ok (.iload_n 3, 1) := by decide +kernel
theorem dX10_differs_50 : decode cX10_differs 50 = .ok (.aload_n 0, 1) := by decide +kernel
theorem dX10_differs_51 : decode cX10_differs 51 = .ok (.getfield 154, 3) := by decide +kernel
theorem dX10_differs_54 : decode cX10_differs 54 = .ok (.sipush 2001, 3) := by decide +kernel
theorem dX10_differs_57 : decode cX10_differs 57 = .ok (.iload_n 2, 1) := by decide +kernel
theorem dX10_differs_58 : decode cX10_differs 58 = .ok (.imul, 1) := by decide +kernel
theorem dX10_differs_59 : decode cX10_differs 59 = .ok (.iload_n 3, 1) := by decide +kernel
theorem dX10_differs_60 : decode cX10_differs 60 = .ok (.iadd, 1) := by decide +kernel
theorem dX10_differs_61 : decode cX10_differs 61 = .ok (.iaload, 1) := by decide +kernel
theorem dX10_differs_62 : decode cX10_differs 62 = .ok (.iastore, 1) := by decide +kernel
theorem dX10_differs_63 : decode cX10_differs 63 = .ok (.iinc 3 1, 3) := by decide +kernel
theorem dX10_differs_66 : decode cX10_differs 66 = .ok (.goto (-28), 3) := by decide +kernel
theorem dX10_differs_69 : decode cX10_differs 69 = .ok (.iconst 0, 1) := by decide +kernel
theorem dX10_differs_70 : decode cX10_differs 70 = .ok (.istore_n 3, 1) := by decide +kernel
theorem dX10_differs_71 : decode cX10_differs 71 = .ok (.aload_n 0, 1) := by decide +kernel
theorem dX10_differs_72 : decode cX10_differs 72 = .ok (.iconst 0, 1) := by decide +kernel
theorem dX10_differs_73 : decode cX10_differs 73 = .ok (.putfield 15, 3) := by decide +kernel
theorem dX10_differs_76 : decode cX10_differs 76 = .ok (.iconst 0, 1) := by decide +kernel
theorem dX10_differs_77 : decode cX10_differs 77 = .ok (.istore 4, 2) := by decide +kernel
theorem dX10_differs_79 : decode cX10_differs 79 = .ok (.iload 4, 2) := by decide +kernel
theorem dX10_differs_81 : decode cX10_differs 81 = .ok (.bipush 100, 2) := by decide +kernel
theorem dX10_differs_83 : decode cX10_differs 83 = .ok (.if_icmp .ge 131, 3) := by decide +kernel
theorem dX10_differs_86 : decode cX10_differs 86 = .ok (.iconst 0, 1) := by decide +kernel
theorem dX10_differs_87 : decode cX10_differs 87 = .ok (.istore 5, 2) := by decide +kernel
theorem dX10_differs_89 : decode cX10_differs 89 = .ok (.iconst 0, 1) := by decide +kernel
theorem dX10_differs_90 : decode cX10_differs 90 = .ok (.istore 6, 2) := by decide +kernel
theorem dX10_differs_92 : decode cX10_differs 92 = .ok (.iload 6, 2) := by decide +kernel
theorem dX10_differs_94 : decode cX10_differs 94 = .ok (.bipush 10, 2) := by decide +kernel
theorem dX10_differs_96 : decode cX10_differs 96 = .ok (.if_icmp .ge 88, 3) := by decide +kernel
theorem dX10_differs_99 : decode cX10_differs 99 = .ok (.aload_n 0, 1) := by decide +kernel
theorem dX10_differs_100 : decode cX10_differs 100 = .ok (.getfield 118, 3) := by decide +kernel
theorem dX10_differs_103 : decode cX10_differs 103 = .ok (.iload_n 1, 1) := by decide +kernel
theorem dX10_differs_104 : decode cX10_differs 104 = .ok (.iload 6, 2) := by decide +kernel
theorem dX10_differs_106 : decode cX10_differs 106 = .ok (.iload 4, 2) := by decide +kernel
theorem dX10_differs_108 : decode cX10_differs 108 = .ok (.invokestatic 173, 3) := by decide +kernel
theorem dX10_differs_111 : decode cX10_differs 111 = .ok (.istore 7, 2) := by decide +kernel
theorem dX10_differs_113 : decode cX10_differs 113 = .ok (.aload_n 0, 1) := by decide +kernel
theorem dX10_differs_114 : decode cX10_differs 114 = .ok (.getfield 121, 3) := by decide +kernel
theorem dX10_differs_117 : decode cX10_differs 117 = .ok (.iload_n 1, 1) := by decide +kernel
theorem dX10_differs_118 : decode cX10_differs 118 = .ok (.iload 6, 2) := by decide +kernel
theorem dX10_differs_120 : decode cX10_differs 120 = .ok (.iload 4, 2) := by decide +kernel
theorem dX10_differs_122 : decode cX10_differs 122 = .ok (.invokestatic 173, 3) := by decide +kernel
theorem dX10_differs_125 : decode cX10_differs 125 = .ok (.istore 8, 2) := by decide +kernel
theorem dX10_differs_127 : decode cX10_differs 127 = .ok (.iload 5, 2) := by decide +kernel
theorem dX10_differs_129 : decode cX10_differs 129 = .ok (.ifCond .ne 42, 3) := by decide +kernel
theorem dX10_differs_132 : decode cX10_differs 132 = .ok (.iload 7, 2) := by decide +kernel
theorem dX10_differs_134 : decode cX10_differs 134 = .ok (.iload 8, 2) := by decide +kernel
theorem dX10_differs_136 : decode cX10_differs 136 = .ok (.if_icmp .ne 35, 3) := by decide +kernel
theorem dX10_differs_139 : decode cX10_differs 139 = .ok (.iload 7, 2) := by decide +kernel
theorem dX10_differs_141 : decode cX10_differs 141 = .ok (.ifCond .eq 34, 3) := by decide +kernel
theorem dX10_differs_144 : decode cX10_differs 144 = .ok (.aload_n 0, 1) := by decide +kernel
theorem dX10_differs_145 : decode cX10_differs 145 = .ok (.getfield 118, 3) := by decide +kernel
theorem dX10_differs_148 : decode cX10_differs 148 = .ok (.iload_n 1, 1) := by decide +kernel
theorem dX10_differs_149 : decode cX10_differs 149 = .ok (.iload 6, 2) := by decide +kernel
theorem dX10_differs_151 : decode cX10_differs 151 = .ok (.iload 4, 2) := by decide +kernel
theorem dX10_differs_153 : decode cX10_differs 153 = .ok (.invokestatic 177, 3) := by decide +kernel
theorem dX10_differs_156 : decode cX10_differs 156 = .ok (.aload_n 0, 1) := by decide +kernel
theorem dX10_differs_157 : decode cX10_differs 157 = .ok (.getfield 121, 3) := by decide +kernel
theorem dX10_differs_160 : decode cX10_differs 160 = .ok (.iload_n 1, 1) := by decide +kernel
theorem dX10_differs_161 : decode cX10_differs 161 = .ok (.iload 6, 2) := by decide +kernel
theorem dX10_differs_163 : decode cX10_differs 163 = .ok (.iload 4, 2) := by decide +kernel
theorem dX10_differs_165 : decode cX10_differs 165 = .ok (.invokestatic 177, 3) := by decide +kernel
theorem dX10_differs_168 : decode cX10_differs 168 = .ok (.if_icmp .eq 7, 3) := by decide +kernel
theorem dX10_differs_171 : decode cX10_differs 171 = .ok (.iconst 1, 1) := by decide +kernel
theorem dX10_differs_172 : decode cX10_differs 172 = .ok (.goto 4, 3) := by decide +kernel
theorem dX10_differs_175 : decode cX10_differs 175 = .ok (.iconst 0, 1) := by decide +kernel
theorem dX10_differs_176 : decode cX10_differs 176 = .ok (.istore 5, 2) := by decide +kernel
theorem dX10_differs_178 : decode cX10_differs 178 = .ok (.iinc 6 1, 3) := by decide +kernel
theorem dX10_differs_181 : decode cX10_differs 181 = .ok (.goto (-89), 3) := by decide +kernel
theorem dX10_differs_184 : decode cX10_differs 184 = .ok (.iload 5, 2) := by decide +kernel
theorem dX10_differs_186 : decode cX10_differs 186 = .ok (.ifCond .eq 14, 3) := by decide +kernel
theorem dX10_differs_189 : decode cX10_differs 189 = .ok (.iload_n 3, 1) := by decide +kernel
theorem dX10_differs_190 : decode cX10_differs 190 = .ok (.ifCond .ne 10, 3) := by decide +kernel
theorem dX10_differs_193 : decode cX10_differs 193 = .ok (.aload_n 0, 1) := by decide +kernel
theorem dX10_differs_194 : decode cX10_differs 194 = .ok (.iload 4, 2) := by decide +kernel
theorem dX10_differs_196 : decode cX10_differs 196 = .ok (.i2l, 1) := by decide +kernel
theorem dX10_differs_197 : decode cX10_differs 197 = .ok (.invokevirtual 280, 3) := by decide +kernel
theorem dX10_differs_200 : decode cX10_differs 200 = .ok (.iload_n 3, 1) := by decide +kernel
theorem dX10_differs_201 : decode cX10_differs 201 = .ok (.iload 5, 2) := by decide +kernel
theorem dX10_differs_203 : decode cX10_differs 203 = .ok (.invokestatic 44, 3) := by decide +kernel
theorem dX10_differs_206 : decode cX10_differs 206 = .ok (.iadd, 1) := by decide +kernel
theorem dX10_differs_207 : decode cX10_differs 207 = .ok (.istore_n 3, 1) := by decide +kernel
theorem dX10_differs_208 : decode cX10_differs 208 = .ok (.iinc 4 1, 3) := by decide +kernel
theorem dX10_differs_211 : decode cX10_differs 211 = .ok (.goto (-132), 3) := by decide +kernel
theorem dX10_differs_214 : decode cX10_differs 214 = .ok (.iload_n 3, 1) := by decide +kernel
theorem dX10_differs_215 : decode cX10_differs 215 = .ok (.ireturn, 1) := by decide +kernel
theorem dX10_highest_0 : decode cX10_highest 0 = .ok (.iload_n 0, 1) := by decide +kernel
theorem dX10_highest_1 : decode cX10_highest 1 = .ok (.iconst 3, 1) := by decide +kernel
theorem dX10_highest_2 : decode cX10_highest 2 = .ok (.if_icmp .ne 7, 3) := by decide +kernel
theorem dX10_highest_5 : decode cX10_highest 5 = .ok (.iconst 1, 1) := by decide +kernel
theorem dX10_highest_6 : decode cX10_highest 6 = .ok (.goto 5, 3) := by decide +kernel
theorem dX10_highest_9 : decode cX10_highest 9 = .ok (.bipush 9, 2) := by decide +kernel
theorem dX10_highest_11 : decode cX10_highest 11 = .ok (.ireturn, 1) := by decide +kernel
theorem dX10_heard_0 : decode cX10_heard 0 = .ok (.aload_n 0, 1) := by decide +kernel
theorem dX10_heard_1 : decode cX10_heard 1 = .ok (.iconst 0, 1) := by decide +kernel
theorem dX10_heard_2 : decode cX10_heard 2 = .ok (.putfield 3, 3) := by decide +kernel
theorem dX10_heard_5 : decode cX10_heard 5 = .ok (.iload_n 1, 1) := by decide +kernel
theorem dX10_heard_6 : decode cX10_heard 6 = .ok (.i2l, 1) := by decide +kernel
theorem dX10_heard_7 : decode cX10_heard 7 = .ok (.lconst 0, 1) := by decide +kernel
theorem dX10_heard_8 : decode cX10_heard 8 = .ok (.ldc2_w 226, 3) := by decide +kernel
theorem dX10_heard_11 : decode cX10_heard 11 = .ok (.invokestatic 25, 3) := by decide +kernel
theorem dX10_heard_14 : decode cX10_heard 14 = .ok (.ifCond .eq 26, 3) := by decide +kernel
theorem dX10_heard_17 : decode cX10_heard 17 = .ok (.iload_n 2, 1) := by decide +kernel
theorem dX10_heard_18 : decode cX10_heard 18 = .ok (.i2l, 1) := by decide +kernel
theorem dX10_heard_19 : decode cX10_heard 19 = .ok (.lconst 0, 1) := by decide +kernel
theorem dX10_heard_20 : decode cX10_heard 20 = .ok (.iload_n 1, 1) := by decide +kernel
theorem dX10_heard_21 : decode cX10_heard 21 = .ok (.invokestatic 403, 3) := by decide +kernel
theorem dX10_heard_24 : decode cX10_heard 24 = .ok (.i2l, 1) := by decide +kernel
theorem dX10_heard_25 : decode cX10_heard 25 = .ok (.invokestatic 25, 3) := by decide +kernel
theorem dX10_heard_28 : decode cX10_heard 28 = .ok (.ifCond .eq 12, 3) := by decide +kernel
theorem dX10_heard_31 : decode cX10_heard 31 = .ok (.aload_n 0, 1) := by decide +kernel
theorem dX10_heard_32 : decode cX10_heard 32 = .ok (.getfield 406, 3) := by decide +kernel
theorem dX10_heard_35 : decode cX10_heard 35 = .ok (.bipush 12, 2) := by decide +kernel
theorem dX10_heard_37 : decode cX10_heard 37 = .ok (.if_icmp .ne 5, 3) := by decide +kernel
theorem dX10_heard_40 : decode cX10_heard 40 = .ok (.iconst (-1), 1) := by decide +kernel
theorem dX10_heard_41 : decode cX10_heard 41 = .ok (.ireturn, 1) := by decide +kernel
theorem dX10_heard_42 : decode cX10_heard 42 = .ok (.aload_n 0, 1) := by decide +kernel
theorem dX10_heard_43 : decode cX10_heard 43 = .ok (.getfield 157, 3) := by decide +kernel
theorem dX10_heard_46 : decode cX10_heard 46 = .ok (.aload_n 0, 1) := by decide +kernel
theorem dX10_heard_47 : decode cX10_heard 47 = .ok (.getfield 406, 3) := by decide +kernel
theorem dX10_heard_50 : decode cX10_heard 50 = .ok (.iload_n 1, 1) := by decide +kernel
theorem dX10_heard_51 : decode cX10_heard 51 = .ok (.iastore, 1) := by decide +kernel
theorem dX10_heard_52 : decode cX10_heard 52 = .ok (.aload_n 0, 1) := by decide +kernel
theorem dX10_heard_53 : decode cX10_heard 53 = .ok (.getfield 160, 3) := by decide +kernel
theorem dX10_heard_56 : decode cX10_heard 56 = .ok (.aload_n 0, 1) := by decide +kernel
theorem dX10_heard_57 : decode cX10_heard 57 = .ok (.getfield 406, 3) := by decide +kernel
theorem dX10_heard_60 : decode cX10_heard 60 = .ok (.iload_n 2, 1) := by decide +kernel
theorem dX10_heard_61 : decode cX10_heard 61 = .ok (.iastore, 1) := by decide +kernel
theorem dX10_heard_62 : decode cX10_heard 62 = .ok (.aload_n 0, 1) := by decide +kernel
theorem dX10_heard_63 : decode cX10_heard 63 = .ok (.dup, 1) := by decide +kernel
theorem dX10_heard_64 : decode cX10_heard 64 = .ok (.getfield 406, 3) := by decide +kernel
theorem dX10_heard_67 : decode cX10_heard 67 = .ok (.iconst 1, 1) := by decide +kernel
theorem dX10_heard_68 : decode cX10_heard 68 = .ok (.iadd, 1) := by decide +kernel
theorem dX10_heard_69 : decode cX10_heard 69 = .ok (.putfield 406, 3) := by decide +kernel
theorem dX10_heard_72 : decode cX10_heard 72 = .ok (.aload_n 0, 1) := by decide +kernel
theorem dX10_heard_73 : decode cX10_heard 73 = .ok (.getfield 406, 3) := by decide +kernel
theorem dX10_heard_76 : decode cX10_heard 76 = .ok (.ireturn, 1) := by decide +kernel
theorem dX10_denies_0 : decode cX10_denies 0 = .ok (.aload_n 0, 1) := by decide +kernel
theorem dX10_denies_1 : decode cX10_denies 1 = .ok (.iconst 0, 1) := by decide +kernel
theorem dX10_denies_2 : decode cX10_denies 2 = .ok (.putfield 3, 3) := by decide +kernel
theorem dX10_denies_5 : decode cX10_denies 5 = .ok (.aload_n 0, 1) := by decide +kernel
theorem dX10_denies_6 : decode cX10_denies 6 = .ok (.getfield 406, 3) := by decide +kernel
theorem dX10_denies_9 : decode cX10_denies 9 = .ok (.istore_n 1, 1) := by decide +kernel
theorem dX10_denies_10 : decode cX10_denies 10 = .ok (.aload_n 0, 1) := by decide +kernel
theorem dX10_denies_11 : decode cX10_denies 11 = .ok (.iconst 0, 1) := by decide +kernel
theorem dX10_denies_12 : decode cX10_denies 12 = .ok (.putfield 406, 3) := by decide +kernel
theorem dX10_denies_15 : decode cX10_denies 15 = .ok (.iload_n 1, 1) := by decide +kernel
theorem dX10_denies_16 : decode cX10_denies 16 = .ok (.ireturn, 1) := by decide +kernel
theorem dX10_isSo_0 : decode cX10_isSo 0 = .ok (.iload_n 1, 1) := by decide +kernel
theorem dX10_isSo_1 : decode cX10_isSo 1 = .ok (.tableswitch 103 0 2 #[27, 41, 70], 27) := by decide +kernel
theorem dX10_isSo_28 : decode cX10_isSo 28 = .ok (.aload_n 0, 1) := by decide +kernel
theorem dX10_isSo_29 : decode cX10_isSo 29 = .ok (.getfield 191, 3) := by decide +kernel
theorem dX10_isSo_32 : decode cX10_isSo 32 = .ok (.iload_n 2, 1) := by decide +kernel
theorem dX10_isSo_33 : decode cX10_isSo 33 = .ok (.if_icmp .ne 7, 3) := by decide +kernel
theorem dX10_isSo_36 : decode cX10_isSo 36 = .ok (.iconst 1, 1) := by decide +kernel
theorem dX10_isSo_37 : decode cX10_isSo 37 = .ok (.goto 4, 3) := by decide +kernel
theorem dX10_isSo_40 : decode cX10_isSo 40 = .ok (.iconst 0, 1) := by decide +kernel
theorem dX10_isSo_41 : decode cX10_isSo 41 = .ok (.ireturn, 1) := by decide +kernel
theorem dX10_isSo_42 : decode cX10_isSo 42 = .ok (.aload_n 0, 1) := by decide +kernel
theorem dX10_isSo_43 : decode cX10_isSo 43 = .ok (.getfield 118, 3) := by decide +kernel
theorem dX10_isSo_46 : decode cX10_isSo 46 = .ok (.iconst 0, 1) := by decide +kernel
theorem dX10_isSo_47 : decode cX10_isSo 47 = .ok (.aload_n 0, 1) := by decide +kernel
theorem dX10_isSo_48 : decode cX10_isSo 48 = .ok (.getfield 191, 3) := by decide +kernel
theorem dX10_isSo_51 : decode cX10_isSo 51 = .ok (.aload_n 0, 1) := by decide +kernel
theorem dX10_isSo_52 : decode cX10_isSo 52 = .ok (.getfield 194, 3) := by decide +kernel
theorem dX10_isSo_55 : decode cX10_isSo 55 = .ok (.invokestatic 177, 3) := by decide +kernel
theorem dX10_isSo_58 : decode cX10_isSo 58 = .ok (.bipush 10, 2) := by decide +kernel
theorem dX10_isSo_60 : decode cX10_isSo 60 = .ok (.iload_n 2, 1) := by decide +kernel
theorem dX10_isSo_61 : decode cX10_isSo 61 = .ok (.imul, 1) := by decide +kernel
theorem dX10_isSo_62 : decode cX10_isSo 62 = .ok (.if_icmp .lt 7, 3) := by decide +kernel
theorem dX10_isSo_65 : decode cX10_isSo 65 = .ok (.iconst 1, 1) := by decide +kernel
theorem dX10_isSo_66 : decode cX10_isSo 66 = .ok (.goto 4, 3) := by decide +kernel
theorem dX10_isSo_69 : decode cX10_isSo 69 = .ok (.iconst 0, 1) := by decide +kernel
theorem dX10_isSo_70 : decode cX10_isSo 70 = .ok (.ireturn, 1) := by decide +kernel
theorem dX10_isSo_71 : decode cX10_isSo 71 = .ok (.bipush 10, 2) := by decide +kernel
theorem dX10_isSo_73 : decode cX10_isSo 73 = .ok (.iload_n 2, 1) := by decide +kernel
theorem dX10_isSo_74 : decode cX10_isSo 74 = .ok (.imul, 1) := by decide +kernel
theorem dX10_isSo_75 : decode cX10_isSo 75 = .ok (.i2l, 1) := by decide +kernel
theorem dX10_isSo_76 : decode cX10_isSo 76 = .ok (.aload_n 0, 1) := by decide +kernel
theorem dX10_isSo_77 : decode cX10_isSo 77 = .ok (.getfield 194, 3) := by decide +kernel
theorem dX10_isSo_80 : decode cX10_isSo 80 = .ok (.i2l, 1) := by decide +kernel
theorem dX10_isSo_81 : decode cX10_isSo 81 = .ok (.aload_n 0, 1) := by decide +kernel
theorem dX10_isSo_82 : decode cX10_isSo 82 = .ok (.getfield 118, 3) := by decide +kernel
theorem dX10_isSo_85 : decode cX10_isSo 85 = .ok (.iconst 0, 1) := by decide +kernel
theorem dX10_isSo_86 : decode cX10_isSo 86 = .ok (.aload_n 0, 1) := by decide +kernel
theorem dX10_isSo_87 : decode cX10_isSo 87 = .ok (.getfield 191, 3) := by decide +kernel
theorem dX10_isSo_90 : decode cX10_isSo 90 = .ok (.aload_n 0, 1) := by decide +kernel
theorem dX10_isSo_91 : decode cX10_isSo 91 = .ok (.getfield 194, 3) := by decide +kernel
theorem dX10_isSo_94 : decode cX10_isSo 94 = .ok (.invokestatic 223, 3) := by decide +kernel
theorem dX10_isSo_97 : decode cX10_isSo 97 = .ok (.iconst 1, 1) := by decide +kernel
theorem dX10_isSo_98 : decode cX10_isSo 98 = .ok (.isub, 1) := by decide +kernel
theorem dX10_isSo_99 : decode cX10_isSo 99 = .ok (.i2l, 1) := by decide +kernel
theorem dX10_isSo_100 : decode cX10_isSo 100 = .ok (.invokestatic 25, 3) := by decide +kernel
theorem dX10_isSo_103 : decode cX10_isSo 103 = .ok (.ireturn, 1) := by decide +kernel
theorem dX10_isSo_104 : decode cX10_isSo 104 = .ok (.aload_n 0, 1) := by decide +kernel
theorem dX10_isSo_105 : decode cX10_isSo 105 = .ok (.getfield 118, 3) := by decide +kernel
theorem dX10_isSo_108 : decode cX10_isSo 108 = .ok (.iconst 0, 1) := by decide +kernel
theorem dX10_isSo_109 : decode cX10_isSo 109 = .ok (.aload_n 0, 1) := by decide +kernel
theorem dX10_isSo_110 : decode cX10_isSo 110 = .ok (.getfield 191, 3) := by decide +kernel
theorem dX10_isSo_113 : decode cX10_isSo 113 = .ok (.aload_n 0, 1) := by decide +kernel
theorem dX10_isSo_114 : decode cX10_isSo 114 = .ok (.getfield 194, 3) := by decide +kernel
theorem dX10_isSo_117 : decode cX10_isSo 117 = .ok (.invokestatic 181, 3) := by decide +kernel
theorem dX10_isSo_120 : decode cX10_isSo 120 = .ok (.bipush 10, 2) := by decide +kernel
theorem dX10_isSo_122 : decode cX10_isSo 122 = .ok (.if_icmp .ge 7, 3) := by decide +kernel
theorem dX10_isSo_125 : decode cX10_isSo 125 = .ok (.iconst 1, 1) := by decide +kernel
theorem dX10_isSo_126 : decode cX10_isSo 126 = .ok (.goto 4, 3) := by decide +kernel
theorem dX10_isSo_129 : decode cX10_isSo 129 = .ok (.iconst 0, 1) := by decide +kernel
theorem dX10_isSo_130 : decode cX10_isSo 130 = .ok (.invokestatic 44, 3) := by decide +kernel
theorem dX10_isSo_133 : decode cX10_isSo 133 = .ok (.iload_n 2, 1) := by decide +kernel
theorem dX10_isSo_134 : decode cX10_isSo 134 = .ok (.if_icmp .ne 7, 3) := by decide +kernel
theorem dX10_isSo_137 : decode cX10_isSo 137 = .ok (.iconst 1, 1) := by decide +kernel
theorem dX10_isSo_138 : decode cX10_isSo 138 = .ok (.goto 4, 3) := by decide +kernel
theorem dX10_isSo_141 : decode cX10_isSo 141 = .ok (.iconst 0, 1) := by decide +kernel
theorem dX10_isSo_142 : decode cX10_isSo 142 = .ok (.ireturn, 1) := by decide +kernel
theorem dX10_fitting_0 : decode cX10_fitting 0 = .ok (.iconst 0, 1) := by decide +kernel
theorem dX10_fitting_1 : decode cX10_fitting 1 = .ok (.istore_n 1, 1) := by decide +kernel
theorem dX10_fitting_2 : decode cX10_fitting 2 = .ok (.iconst 0, 1) := by decide +kernel
theorem dX10_fitting_3 : decode cX10_fitting 3 = .ok (.istore_n 2, 1) := by decide +kernel
theorem dX10_fitting_4 : decode cX10_fitting 4 = .ok (.aload_n 0, 1) := by decide +kernel
theorem dX10_fitting_5 : decode cX10_fitting 5 = .ok (.aload_n 0, 1) := by decide +kernel
theorem dX10_fitting_6 : decode cX10_fitting 6 = .ok (.getfield 118, 3) := by decide +kernel
theorem dX10_fitting_9 : decode cX10_fitting 9 = .ok (.iconst 0, 1) := by decide +kernel
theorem dX10_fitting_10 : decode cX10_fitting 10 = .ok (.iload_n 2, 1) := by decide +kernel
theorem dX10_fitting_11 : decode cX10_fitting 11 = .ok (.invokevirtual 216, 3) := by decide +kernel
theorem dX10_fitting_14 : decode cX10_fitting 14 = .ok (.ifCond .eq 74, 3) := by decide +kernel
theorem dX10_fitting_17 : decode cX10_fitting 17 = .ok (.iconst 1, 1) := by decide +kernel
theorem dX10_fitting_18 : decode cX10_fitting 18 = .ok (.istore_n 3, 1) := by decide +kernel
theorem dX10_fitting_19 : decode cX10_fitting 19 = .ok (.iconst 0, 1) := by decide +kernel
theorem dX10_fitting_20 : decode cX10_fitting 20 = .ok (.istore 4, 2) := by decide +kernel
theorem dX10_fitting_22 : decode cX10_fitting 22 = .ok (.iload 4, 2) := by decide +kernel
theorem dX10_fitting_24 : decode cX10_fitting 24 = .ok (.aload_n 0, 1) := by decide +kernel
theorem dX10_fitting_25 : decode cX10_fitting 25 = .ok (.getfield 406, 3) := by decide +kernel
theorem dX10_fitting_28 : decode cX10_fitting 28 = .ok (.if_icmp .ge 40, 3) := by decide +kernel
theorem dX10_fitting_31 : decode cX10_fitting 31 = .ok (.iload_n 3, 1) := by decide +kernel
theorem dX10_fitting_32 : decode cX10_fitting 32 = .ok (.ifCond .eq 28, 3) := by decide +kernel
theorem dX10_fitting_35 : decode cX10_fitting 35 = .ok (.aload_n 0, 1) := by decide +kernel
theorem dX10_fitting_36 : decode cX10_fitting 36 = .ok (.aload_n 0, 1) := by decide +kernel
theorem dX10_fitting_37 : decode cX10_fitting 37 = .ok (.getfield 157, 3) := by decide +kernel
theorem dX10_fitting_40 : decode cX10_fitting 40 = .ok (.iload 4, 2) := by decide +kernel
theorem dX10_fitting_42 : decode cX10_fitting 42 = .ok (.iaload, 1) := by decide +kernel
theorem dX10_fitting_43 : decode cX10_fitting 43 = .ok (.aload_n 0, 1) := by decide +kernel
theorem dX10_fitting_44 : decode cX10_fitting 44 = .ok (.getfield 160, 3) := by decide +kernel
theorem dX10_fitting_47 : decode cX10_fitting 47 = .ok (.iload 4, 2) := by decide +kernel
theorem dX10_fitting_49 : decode cX10_fitting 49 = .ok (.iaload, 1) := by decide +kernel
theorem dX10_fitting_50 : decode cX10_fitting 50 = .ok (.invokevirtual 409, 3) := by decide +kernel
theorem dX10_fitting_53 : decode cX10_fitting 53 = .ok (.ifCond .eq 7, 3) := by decide +kernel
theorem dX10_fitting_56 : decode cX10_fitting 56 = .ok (.iconst 1, 1) := by decide +kernel
theorem dX10_fitting_57 : decode cX10_fitting 57 = .ok (.goto 4, 3) := by decide +kernel
theorem dX10_fitting_60 : decode cX10_fitting 60 = .ok (.iconst 0, 1) := by decide +kernel
theorem dX10_fitting_61 : decode cX10_fitting 61 = .ok (.istore_n 3, 1) := by decide +kernel
theorem dX10_fitting_62 : decode cX10_fitting 62 = .ok (.iinc 4 1, 3) := by decide +kernel
theorem dX10_fitting_65 : decode cX10_fitting 65 = .ok (.goto (-43), 3) := by decide +kernel
theorem dX10_fitting_68 : decode cX10_fitting 68 = .ok (.iload_n 1, 1) := by decide +kernel
theorem dX10_fitting_69 : decode cX10_fitting 69 = .ok (.iload_n 3, 1) := by decide +kernel
theorem dX10_fitting_70 : decode cX10_fitting 70 = .ok (.ifCond .eq 9, 3) := by decide +kernel
theorem dX10_fitting_73 : decode cX10_fitting 73 = .ok (.iconst 1, 1) := by decide +kernel
theorem dX10_fitting_74 : decode cX10_fitting 74 = .ok (.iload_n 2, 1) := by decide +kernel
theorem dX10_fitting_75 : decode cX10_fitting 75 = .ok (.ishl, 1) := by decide +kernel
theorem dX10_fitting_76 : decode cX10_fitting 76 = .ok (.goto 4, 3) := by decide +kernel
theorem dX10_fitting_79 : decode cX10_fitting 79 = .ok (.iconst 0, 1) := by decide +kernel
theorem dX10_fitting_80 : decode cX10_fitting 80 = .ok (.ior, 1) := by decide +kernel
theorem dX10_fitting_81 : decode cX10_fitting 81 = .ok (.istore_n 1, 1) := by decide +kernel
theorem dX10_fitting_82 : decode cX10_fitting 82 = .ok (.iinc 2 1, 3) := by decide +kernel
theorem dX10_fitting_85 : decode cX10_fitting 85 = .ok (.goto (-81), 3) := by decide +kernel
theorem dX10_fitting_88 : decode cX10_fitting 88 = .ok (.iload_n 1, 1) := by decide +kernel
theorem dX10_fitting_89 : decode cX10_fitting 89 = .ok (.ireturn, 1) := by decide +kernel
theorem dX10_fits_0 : decode cX10_fits 0 = .ok (.aload_n 0, 1) := by decide +kernel
theorem dX10_fits_1 : decode cX10_fits 1 = .ok (.iconst 0, 1) := by decide +kernel
theorem dX10_fits_2 : decode cX10_fits 2 = .ok (.putfield 3, 3) := by decide +kernel
theorem dX10_fits_5 : decode cX10_fits 5 = .ok (.aload_n 0, 1) := by decide +kernel
theorem dX10_fits_6 : decode cX10_fits 6 = .ok (.invokevirtual 412, 3) := by decide +kernel
theorem dX10_fits_9 : decode cX10_fits 9 = .ok (.istore_n 1, 1) := by decide +kernel
theorem dX10_fits_10 : decode cX10_fits 10 = .ok (.aload_n 0, 1) := by decide +kernel
theorem dX10_fits_11 : decode cX10_fits 11 = .ok (.iconst 0, 1) := by decide +kernel
theorem dX10_fits_12 : decode cX10_fits 12 = .ok (.putfield 15, 3) := by decide +kernel
theorem dX10_fits_15 : decode cX10_fits 15 = .ok (.aload_n 0, 1) := by decide +kernel
theorem dX10_fits_16 : decode cX10_fits 16 = .ok (.iload_n 1, 1) := by decide +kernel
theorem dX10_fits_17 : decode cX10_fits 17 = .ok (.invokestatic 398, 3) := by decide +kernel
theorem dX10_fits_20 : decode cX10_fits 20 = .ok (.i2l, 1) := by decide +kernel
theorem dX10_fits_21 : decode cX10_fits 21 = .ok (.invokevirtual 280, 3) := by decide +kernel
theorem dX10_fits_24 : decode cX10_fits 24 = .ok (.iload_n 1, 1) := by decide +kernel
theorem dX10_fits_25 : decode cX10_fits 25 = .ok (.ireturn, 1) := by decide +kernel
theorem dX10_asks_0 : decode cX10_asks 0 = .ok (.aload_n 0, 1) := by decide +kernel
theorem dX10_asks_1 : decode cX10_asks 1 = .ok (.iconst 0, 1) := by decide +kernel
theorem dX10_asks_2 : decode cX10_asks 2 = .ok (.putfield 3, 3) := by decide +kernel
theorem dX10_asks_5 : decode cX10_asks 5 = .ok (.aload_n 0, 1) := by decide +kernel
theorem dX10_asks_6 : decode cX10_asks 6 = .ok (.invokevirtual 412, 3) := by decide +kernel
theorem dX10_asks_9 : decode cX10_asks 9 = .ok (.istore_n 1, 1) := by decide +kernel
theorem dX10_asks_10 : decode cX10_asks 10 = .ok (.iload_n 1, 1) := by decide +kernel
theorem dX10_asks_11 : decode cX10_asks 11 = .ok (.ifCond .ne 6, 3) := by decide +kernel
theorem dX10_asks_14 : decode cX10_asks 14 = .ok (.bipush (-2), 2) := by decide +kernel
theorem dX10_asks_16 : decode cX10_asks 16 = .ok (.ireturn, 1) := by decide +kernel
theorem dX10_asks_17 : decode cX10_asks 17 = .ok (.iconst (-1), 1) := by decide +kernel
theorem dX10_asks_18 : decode cX10_asks 18 = .ok (.istore_n 2, 1) := by decide +kernel
theorem dX10_asks_19 : decode cX10_asks 19 = .ok (.ldc_w 415, 3) := by decide +kernel
theorem dX10_asks_22 : decode cX10_asks 22 = .ok (.istore_n 3, 1) := by decide +kernel
theorem dX10_asks_23 : decode cX10_asks 23 = .ok (.iconst 0, 1) := by decide +kernel
theorem dX10_asks_24 : decode cX10_asks 24 = .ok (.istore 4, 2) := by decide +kernel
theorem dX10_asks_26 : decode cX10_asks 26 = .ok (.iload 4, 2) := by decide +kernel
theorem dX10_asks_28 : decode cX10_asks 28 = .ok (.iconst 4, 1) := by decide +kernel
theorem dX10_asks_29 : decode cX10_asks 29 = .ok (.if_icmp .ge 134, 3) := by decide +kernel
theorem dX10_asks_32 : decode cX10_asks 32 = .ok (.iconst 0, 1) := by decide +kernel
theorem dX10_asks_33 : decode cX10_asks 33 = .ok (.istore 5, 2) := by decide +kernel
theorem dX10_asks_35 : decode cX10_asks 35 = .ok (.iload 5, 2) := by decide +kernel
theorem dX10_asks_37 : decode cX10_asks 37 = .ok (.iload 4, 2) := by decide +kernel
theorem dX10_asks_39 : decode cX10_asks 39 = .ok (.invokestatic 403, 3) := by decide +kernel
theorem dX10_asks_42 : decode cX10_asks 42 = .ok (.if_icmp .gt 115, 3) := by decide +kernel
theorem dX10_asks_45 : decode cX10_asks 45 = .ok (.iconst 0, 1) := by decide +kernel
theorem dX10_asks_46 : decode cX10_asks 46 = .ok (.istore 6, 2) := by decide +kernel
theorem dX10_asks_48 : decode cX10_asks 48 = .ok (.iconst 0, 1) := by decide +kernel
theorem dX10_asks_49 : decode cX10_asks 49 = .ok (.istore 7, 2) := by decide +kernel
theorem dX10_asks_51 : decode cX10_asks 51 = .ok (.iload 7, 2) := by decide +kernel
theorem dX10_asks_53 : decode cX10_asks 53 = .ok (.bipush 20, 2) := by decide +kernel
theorem dX10_asks_55 : decode cX10_asks 55 = .ok (.if_icmp .ge 56, 3) := by decide +kernel
theorem dX10_asks_58 : decode cX10_asks 58 = .ok (.iload 6, 2) := by decide +kernel
theorem dX10_asks_60 : decode cX10_asks 60 = .ok (.iload_n 1, 1) := by decide +kernel
theorem dX10_asks_61 : decode cX10_asks 61 = .ok (.iload 7, 2) := by decide +kernel
theorem dX10_asks_63 : decode cX10_asks 63 = .ok (.invokestatic 416, 3) := by decide +kernel
theorem dX10_asks_66 : decode cX10_asks 66 = .ok (.ifCond .eq 32, 3) := by decide +kernel
theorem dX10_asks_69 : decode cX10_asks 69 = .ok (.aload_n 0, 1) := by decide +kernel
theorem dX10_asks_70 : decode cX10_asks 70 = .ok (.aload_n 0, 1) := by decide +kernel
theorem dX10_asks_71 : decode cX10_asks 71 = .ok (.getfield 118, 3) := by decide +kernel
theorem dX10_asks_74 : decode cX10_asks 74 = .ok (.iconst 0, 1) := by decide +kernel
theorem dX10_asks_75 : decode cX10_asks 75 = .ok (.iload 7, 2) := by decide +kernel
theorem dX10_asks_77 : decode cX10_asks 77 = .ok (.invokevirtual 216, 3) := by decide +kernel
theorem dX10_asks_80 : decode cX10_asks 80 = .ok (.ifCond .eq 18, 3) := by decide +kernel
theorem dX10_asks_83 : decode cX10_asks 83 = .ok (.aload_n 0, 1) := by decide +kernel
theorem dX10_asks_84 : decode cX10_asks 84 = .ok (.iload 4, 2) := by decide +kernel
theorem dX10_asks_86 : decode cX10_asks 86 = .ok (.iload 5, 2) := by decide +kernel
theorem dX10_asks_88 : decode cX10_asks 88 = .ok (.invokevirtual 409, 3) := by decide +kernel
theorem dX10_asks_91 : decode cX10_asks 91 = .ok (.ifCond .eq 7, 3) := by decide +kernel
theorem dX10_asks_94 : decode cX10_asks 94 = .ok (.iconst 1, 1) := by decide +kernel
theorem dX10_asks_95 : decode cX10_asks 95 = .ok (.goto 4, 3) := by decide +kernel
theorem dX10_asks_98 : decode cX10_asks 98 = .ok (.iconst 0, 1) := by decide +kernel
theorem dX10_asks_99 : decode cX10_asks 99 = .ok (.invokestatic 44, 3) := by decide +kernel
theorem dX10_asks_102 : decode cX10_asks 102 = .ok (.iadd, 1) := by decide +kernel
theorem dX10_asks_103 : decode cX10_asks 103 = .ok (.istore 6, 2) := by decide +kernel
theorem dX10_asks_105 : decode cX10_asks 105 = .ok (.iinc 7 1, 3) := by decide +kernel
theorem dX10_asks_108 : decode cX10_asks 108 = .ok (.goto (-57), 3) := by decide +kernel
theorem dX10_asks_111 : decode cX10_asks 111 = .ok (.iload 6, 2) := by decide +kernel
theorem dX10_asks_113 : decode cX10_asks 113 = .ok (.iload_n 1, 1) := by decide +kernel
theorem dX10_asks_114 : decode cX10_asks 114 = .ok (.invokestatic 398, 3) := by decide +kernel
theorem dX10_asks_117 : decode cX10_asks 117 = .ok (.iload 6, 2) := by decide +kernel
theorem dX10_asks_119 : decode cX10_asks 119 = .ok (.isub, 1) := by decide +kernel
theorem dX10_asks_120 : decode cX10_asks 120 = .ok (.invokestatic 228, 3) := by decide +kernel
theorem dX10_asks_123 : decode cX10_asks 123 = .ok (.istore 7, 2) := by decide +kernel
theorem dX10_asks_125 : decode cX10_asks 125 = .ok (.iload 7, 2) := by decide +kernel
theorem dX10_asks_127 : decode cX10_asks 127 = .ok (.iload_n 3, 1) := by decide +kernel
theorem dX10_asks_128 : decode cX10_asks 128 = .ok (.if_icmp .ge 14, 3) := by decide +kernel
theorem dX10_asks_131 : decode cX10_asks 131 = .ok (.bipush 10, 2) := by decide +kernel
theorem dX10_asks_133 : decode cX10_asks 133 = .ok (.iload 4, 2) := by decide +kernel
theorem dX10_asks_135 : decode cX10_asks 135 = .ok (.imul, 1) := by decide +kernel
theorem dX10_asks_136 : decode cX10_asks 136 = .ok (.iload 5, 2) := by decide +kernel
theorem dX10_asks_138 : decode cX10_asks 138 = .ok (.iadd, 1) := by decide +kernel
theorem dX10_asks_139 : decode cX10_asks 139 = .ok (.goto 4, 3) := by decide +kernel
theorem dX10_asks_142 : decode cX10_asks 142 = .ok (.iload_n 2, 1) := by decide +kernel
theorem dX10_asks_143 : decode cX10_asks 143 = .ok (.istore_n 2, 1) := by decide +kernel
theorem dX10_asks_144 : decode cX10_asks 144 = .ok (.iload_n 3, 1) := by decide +kernel
theorem dX10_asks_145 : decode cX10_asks 145 = .ok (.iload 7, 2) := by decide +kernel
theorem dX10_asks_147 : decode cX10_asks 147 = .ok (.invokestatic 35, 3) := by decide +kernel
theorem dX10_asks_150 : decode cX10_asks 150 = .ok (.istore_n 3, 1) := by decide +kernel
theorem dX10_asks_151 : decode cX10_asks 151 = .ok (.iinc 5 1, 3) := by decide +kernel
theorem dX10_asks_154 : decode cX10_asks 154 = .ok (.goto (-119), 3) := by decide +kernel
theorem dX10_asks_157 : decode cX10_asks 157 = .ok (.iinc 4 1, 3) := by decide +kernel
theorem dX10_asks_160 : decode cX10_asks 160 = .ok (.goto (-134), 3) := by decide +kernel
theorem dX10_asks_163 : decode cX10_asks 163 = .ok (.aload_n 0, 1) := by decide +kernel
theorem dX10_asks_164 : decode cX10_asks 164 = .ok (.iconst 0, 1) := by decide +kernel
theorem dX10_asks_165 : decode cX10_asks 165 = .ok (.putfield 15, 3) := by decide +kernel
theorem dX10_asks_168 : decode cX10_asks 168 = .ok (.aload_n 0, 1) := by decide +kernel
theorem dX10_asks_169 : decode cX10_asks 169 = .ok (.iload_n 3, 1) := by decide +kernel
theorem dX10_asks_170 : decode cX10_asks 170 = .ok (.i2l, 1) := by decide +kernel
theorem dX10_asks_171 : decode cX10_asks 171 = .ok (.invokevirtual 280, 3) := by decide +kernel
theorem dX10_asks_174 : decode cX10_asks 174 = .ok (.iload_n 2, 1) := by decide +kernel
theorem dX10_asks_175 : decode cX10_asks 175 = .ok (.ireturn, 1) := by decide +kernel
theorem dX10_draws_0 : decode cX10_draws 0 = .ok (.aload_n 0, 1) := by decide +kernel
theorem dX10_draws_1 : decode cX10_draws 1 = .ok (.aload_n 0, 1) := by decide +kernel
theorem dX10_draws_2 : decode cX10_draws 2 = .ok (.getfield 419, 3) := by decide +kernel
theorem dX10_draws_5 : decode cX10_draws 5 = .ok (.ldc_w 422, 3) := by decide +kernel
theorem dX10_draws_8 : decode cX10_draws 8 = .ok (.imul, 1) := by decide +kernel
theorem dX10_draws_9 : decode cX10_draws 9 = .ok (.sipush 12345, 3) := by decide +kernel
theorem dX10_draws_12 : decode cX10_draws 12 = .ok (.iadd, 1) := by decide +kernel
theorem dX10_draws_13 : decode cX10_draws 13 = .ok (.putfield 419, 3) := by decide +kernel
theorem dX10_draws_16 : decode cX10_draws 16 = .ok (.aload_n 0, 1) := by decide +kernel
theorem dX10_draws_17 : decode cX10_draws 17 = .ok (.getfield 419, 3) := by decide +kernel
theorem dX10_draws_20 : decode cX10_draws 20 = .ok (.bipush 16, 2) := by decide +kernel
theorem dX10_draws_22 : decode cX10_draws 22 = .ok (.iushr, 1) := by decide +kernel
theorem dX10_draws_23 : decode cX10_draws 23 = .ok (.iload_n 1, 1) := by decide +kernel
theorem dX10_draws_24 : decode cX10_draws 24 = .ok (.irem, 1) := by decide +kernel
theorem dX10_draws_25 : decode cX10_draws 25 = .ok (.ireturn, 1) := by decide +kernel
theorem dX10_drawnAct_0 : decode cX10_drawnAct 0 = .ok (.aload_n 0, 1) := by decide +kernel
theorem dX10_drawnAct_1 : decode cX10_drawnAct 1 = .ok (.bipush 6, 2) := by decide +kernel
theorem dX10_drawnAct_3 : decode cX10_drawnAct 3 = .ok (.invokevirtual 423, 3) := by decide +kernel
theorem dX10_drawnAct_6 : decode cX10_drawnAct 6 = .ok (.istore_n 1, 1) := by decide +kernel
theorem dX10_drawnAct_7 : decode cX10_drawnAct 7 = .ok (.aload_n 0, 1) := by decide +kernel
theorem dX10_drawnAct_8 : decode cX10_drawnAct 8 = .ok (.iconst 2, 1) := by decide +kernel
theorem dX10_drawnAct_9 : decode cX10_drawnAct 9 = .ok (.invokevirtual 423, 3) := by decide +kernel
theorem dX10_drawnAct_12 : decode cX10_drawnAct 12 = .ok (.istore_n 2, 1) := by decide +kernel
theorem dX10_drawnAct_13 : decode cX10_drawnAct 13 = .ok (.aload_n 0, 1) := by decide +kernel
theorem dX10_drawnAct_14 : decode cX10_drawnAct 14 = .ok (.bipush 10, 2) := by decide +kernel
theorem dX10_drawnAct_16 : decode cX10_drawnAct 16 = .ok (.invokevirtual 423, 3) := by decide +kernel
theorem dX10_drawnAct_19 : decode cX10_drawnAct 19 = .ok (.istore_n 3, 1) := by decide +kernel
theorem dX10_drawnAct_20 : decode cX10_drawnAct 20 = .ok (.aload_n 0, 1) := by decide +kernel
theorem dX10_drawnAct_21 : decode cX10_drawnAct 21 = .ok (.bipush 100, 2) := by decide +kernel
theorem dX10_drawnAct_23 : decode cX10_drawnAct 23 = .ok (.invokevirtual 423, 3) := by decide +kernel
theorem dX10_drawnAct_26 : decode cX10_drawnAct 26 = .ok (.istore 4, 2) := by decide +kernel
theorem dX10_drawnAct_28 : decode cX10_drawnAct 28 = .ok (.bipush 100, 2) := by decide +kernel
theorem dX10_drawnAct_30 : decode cX10_drawnAct 30 = .ok (.iload 4, 2) := by decide +kernel
theorem dX10_drawnAct_32 : decode cX10_drawnAct 32 = .ok (.aload_n 0, 1) := by decide +kernel
theorem dX10_drawnAct_33 : decode cX10_drawnAct 33 = .ok (.bipush 20, 2) := by decide +kernel
theorem dX10_drawnAct_35 : decode cX10_drawnAct 35 = .ok (.invokevirtual 423, 3) := by decide +kernel
theorem dX10_drawnAct_38 : decode cX10_drawnAct 38 = .ok (.iadd, 1) := by decide +kernel
theorem dX10_drawnAct_39 : decode cX10_drawnAct 39 = .ok (.iconst 1, 1) := by decide +kernel
theorem dX10_drawnAct_40 : decode cX10_drawnAct 40 = .ok (.iadd, 1) := by decide +kernel
theorem dX10_drawnAct_41 : decode cX10_drawnAct 41 = .ok (.invokestatic 35, 3) := by decide +kernel
theorem dX10_drawnAct_44 : decode cX10_drawnAct 44 = .ok (.istore 5, 2) := by decide +kernel
theorem dX10_drawnAct_46 : decode cX10_drawnAct 46 = .ok (.iload_n 1, 1) := by decide +kernel
theorem dX10_drawnAct_47 : decode cX10_drawnAct 47 = .ok (.tableswitch 106 2 5 #[29, 53, 76, 94], 29) := by decide +kernel
theorem dX10_drawnAct_76 : decode cX10_drawnAct 76 = .ok (.aload_n 0, 1) := by decide +kernel
theorem dX10_drawnAct_77 : decode cX10_drawnAct 77 = .ok (.aload_n 0, 1) := by decide +kernel
theorem dX10_drawnAct_78 : decode cX10_drawnAct 78 = .ok (.getfield 121, 3) := by decide +kernel
theorem dX10_drawnAct_81 : decode cX10_drawnAct 81 = .ok (.iload_n 2, 1) := by decide +kernel
theorem dX10_drawnAct_82 : decode cX10_drawnAct 82 = .ok (.iload_n 3, 1) := by decide +kernel
theorem dX10_drawnAct_83 : decode cX10_drawnAct 83 = .ok (.aload_n 0, 1) := by decide +kernel
theorem dX10_drawnAct_84 : decode cX10_drawnAct 84 = .ok (.bipush 100, 2) := by decide +kernel
theorem dX10_drawnAct_86 : decode cX10_drawnAct 86 = .ok (.invokevirtual 423, 3) := by decide +kernel
theorem dX10_drawnAct_89 : decode cX10_drawnAct 89 = .ok (.iload 4, 2) := by decide +kernel
theorem dX10_drawnAct_91 : decode cX10_drawnAct 91 = .ok (.iload 5, 2) := by decide +kernel
theorem dX10_drawnAct_93 : decode cX10_drawnAct 93 = .ok (.invokevirtual 294, 3) := by decide +kernel
theorem dX10_drawnAct_96 : decode cX10_drawnAct 96 = .ok (.pop, 1) := by decide +kernel
theorem dX10_drawnAct_97 : decode cX10_drawnAct 97 = .ok (.goto 77, 3) := by decide +kernel
theorem dX10_drawnAct_100 : decode cX10_drawnAct 100 = .ok (.aload_n 0, 1) := by decide +kernel
theorem dX10_drawnAct_101 : decode cX10_drawnAct 101 = .ok (.aload_n 0, 1) := by decide +kernel
theorem dX10_drawnAct_102 : decode cX10_drawnAct 102 = .ok (.getfield 121, 3) := by decide +kernel
theorem dX10_drawnAct_105 : decode cX10_drawnAct 105 = .ok (.iload_n 3, 1) := by decide +kernel
theorem dX10_drawnAct_106 : decode cX10_drawnAct 106 = .ok (.aload_n 0, 1) := by decide +kernel
theorem dX10_drawnAct_107 : decode cX10_drawnAct 107 = .ok (.bipush 11, 2) := by decide +kernel
theorem dX10_drawnAct_109 : decode cX10_drawnAct 109 = .ok (.invokevirtual 423, 3) := by decide +kernel
theorem dX10_drawnAct_112 : decode cX10_drawnAct 112 = .ok (.iload 4, 2) := by decide +kernel
theorem dX10_drawnAct_114 : decode cX10_drawnAct 114 = .ok (.iload 5, 2) := by decide +kernel
theorem dX10_drawnAct_116 : decode cX10_drawnAct 116 = .ok (.invokevirtual 300, 3) := by decide +kernel
theorem dX10_drawnAct_119 : decode cX10_drawnAct 119 = .ok (.pop, 1) := by decide +kernel
theorem dX10_drawnAct_120 : decode cX10_drawnAct 120 = .ok (.goto 54, 3) := by decide +kernel
theorem dX10_drawnAct_123 : decode cX10_drawnAct 123 = .ok (.aload_n 0, 1) := by decide +kernel
theorem dX10_drawnAct_124 : decode cX10_drawnAct 124 = .ok (.aload_n 0, 1) := by decide +kernel
theorem dX10_drawnAct_125 : decode cX10_drawnAct 125 = .ok (.getfield 121, 3) := by decide +kernel
theorem dX10_drawnAct_128 : decode cX10_drawnAct 128 = .ok (.iload_n 2, 1) := by decide +kernel
theorem dX10_drawnAct_129 : decode cX10_drawnAct 129 = .ok (.iload_n 3, 1) := by decide +kernel
theorem dX10_drawnAct_130 : decode cX10_drawnAct 130 = .ok (.iload 4, 2) := by decide +kernel
theorem dX10_drawnAct_132 : decode cX10_drawnAct 132 = .ok (.iload 5, 2) := by decide +kernel
theorem dX10_drawnAct_134 : decode cX10_drawnAct 134 = .ok (.invokevirtual 303, 3) := by decide +kernel
theorem dX10_drawnAct_137 : decode cX10_drawnAct 137 = .ok (.pop, 1) := by decide +kernel
theorem dX10_drawnAct_138 : decode cX10_drawnAct 138 = .ok (.goto 36, 3) := by decide +kernel
theorem dX10_drawnAct_141 : decode cX10_drawnAct 141 = .ok (.aload_n 0, 1) := by decide +kernel
theorem dX10_drawnAct_142 : decode cX10_drawnAct 142 = .ok (.getfield 121, 3) := by decide +kernel
theorem dX10_drawnAct_145 : decode cX10_drawnAct 145 = .ok (.iload_n 2, 1) := by decide +kernel
theorem dX10_drawnAct_146 : decode cX10_drawnAct 146 = .ok (.invokestatic 309, 3) := by decide +kernel
theorem dX10_drawnAct_149 : decode cX10_drawnAct 149 = .ok (.pop, 1) := by decide +kernel
theorem dX10_drawnAct_150 : decode cX10_drawnAct 150 = .ok (.goto 24, 3) := by decide +kernel
theorem dX10_drawnAct_153 : decode cX10_drawnAct 153 = .ok (.aload_n 0, 1) := by decide +kernel
theorem dX10_drawnAct_154 : decode cX10_drawnAct 154 = .ok (.aload_n 0, 1) := by decide +kernel
theorem dX10_drawnAct_155 : decode cX10_drawnAct 155 = .ok (.getfield 121, 3) := by decide +kernel
