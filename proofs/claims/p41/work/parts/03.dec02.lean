theorem dX9_cutPeriod_68 : decode cX9_cutPeriod 68 = .ok (.iload_n 1, 1) := by decide +kernel
theorem dX9_cutPeriod_69 : decode cX9_cutPeriod 69 = .ok (.invokevirtual 86, 3) := by decide +kernel
theorem dX9_cutPeriod_72 : decode cX9_cutPeriod 72 = .ok (.aload 5, 2) := by decide +kernel
theorem dX9_cutPeriod_74 : decode cX9_cutPeriod 74 = .ok (.iload_n 2, 1) := by decide +kernel
theorem dX9_cutPeriod_75 : decode cX9_cutPeriod 75 = .ok (.iload_n 3, 1) := by decide +kernel
theorem dX9_cutPeriod_76 : decode cX9_cutPeriod 76 = .ok (.iload 4, 2) := by decide +kernel
theorem dX9_cutPeriod_78 : decode cX9_cutPeriod 78 = .ok (.invokevirtual 235, 3) := by decide +kernel
theorem dX9_cutPeriod_81 : decode cX9_cutPeriod 81 = .ok (.iload_n 1, 1) := by decide +kernel
theorem dX9_cutPeriod_82 : decode cX9_cutPeriod 82 = .ok (.iconst 1, 1) := by decide +kernel
theorem dX9_cutPeriod_83 : decode cX9_cutPeriod 83 = .ok (.if_icmp .ne 26, 3) := by decide +kernel
theorem dX9_cutPeriod_86 : decode cX9_cutPeriod 86 = .ok (.aload_n 0, 1) := by decide +kernel
theorem dX9_cutPeriod_87 : decode cX9_cutPeriod 87 = .ok (.getfield 10, 3) := by decide +kernel
theorem dX9_cutPeriod_90 : decode cX9_cutPeriod 90 = .ok (.getfield 238, 3) := by decide +kernel
theorem dX9_cutPeriod_93 : decode cX9_cutPeriod 93 = .ok (.ifCond .ne 16, 3) := by decide +kernel
theorem dX9_cutPeriod_96 : decode cX9_cutPeriod 96 = .ok (.aload_n 0, 1) := by decide +kernel
theorem dX9_cutPeriod_97 : decode cX9_cutPeriod 97 = .ok (.getfield 16, 3) := by decide +kernel
theorem dX9_cutPeriod_100 : decode cX9_cutPeriod 100 = .ok (.invokevirtual 225, 3) := by decide +kernel
theorem dX9_cutPeriod_103 : decode cX9_cutPeriod 103 = .ok (.ifCond .ne 6, 3) := by decide +kernel
theorem dX9_cutPeriod_106 : decode cX9_cutPeriod 106 = .ok (.bipush (-3), 2) := by decide +kernel
theorem dX9_cutPeriod_108 : decode cX9_cutPeriod 108 = .ok (.ireturn, 1) := by decide +kernel
theorem dX9_cutPeriod_109 : decode cX9_cutPeriod 109 = .ok (.iload_n 1, 1) := by decide +kernel
theorem dX9_cutPeriod_110 : decode cX9_cutPeriod 110 = .ok (.iconst 1, 1) := by decide +kernel
theorem dX9_cutPeriod_111 : decode cX9_cutPeriod 111 = .ok (.if_icmp .ne 11, 3) := by decide +kernel
theorem dX9_cutPeriod_114 : decode cX9_cutPeriod 114 = .ok (.aload_n 0, 1) := by decide +kernel
theorem dX9_cutPeriod_115 : decode cX9_cutPeriod 115 = .ok (.iload_n 2, 1) := by decide +kernel
theorem dX9_cutPeriod_116 : decode cX9_cutPeriod 116 = .ok (.invokevirtual 241, 3) := by decide +kernel
theorem dX9_cutPeriod_119 : decode cX9_cutPeriod 119 = .ok (.goto 4, 3) := by decide +kernel
theorem dX9_cutPeriod_122 : decode cX9_cutPeriod 122 = .ok (.iconst 0, 1) := by decide +kernel
theorem dX9_cutPeriod_123 : decode cX9_cutPeriod 123 = .ok (.istore 8, 2) := by decide +kernel
theorem dX9_cutPeriod_125 : decode cX9_cutPeriod 125 = .ok (.aload_n 0, 1) := by decide +kernel
theorem dX9_cutPeriod_126 : decode cX9_cutPeriod 126 = .ok (.iload 6, 2) := by decide +kernel
theorem dX9_cutPeriod_128 : decode cX9_cutPeriod 128 = .ok (.invokevirtual 215, 3) := by decide +kernel
theorem dX9_cutPeriod_131 : decode cX9_cutPeriod 131 = .ok (.istore 9, 2) := by decide +kernel
theorem dX9_cutPeriod_133 : decode cX9_cutPeriod 133 = .ok (.iload 9, 2) := by decide +kernel
theorem dX9_cutPeriod_135 : decode cX9_cutPeriod 135 = .ok (.ifCond .lt 16, 3) := by decide +kernel
theorem dX9_cutPeriod_138 : decode cX9_cutPeriod 138 = .ok (.aload_n 0, 1) := by decide +kernel
theorem dX9_cutPeriod_139 : decode cX9_cutPeriod 139 = .ok (.getfield 40, 3) := by decide +kernel
theorem dX9_cutPeriod_142 : decode cX9_cutPeriod 142 = .ok (.iload 7, 2) := by decide +kernel
theorem dX9_cutPeriod_144 : decode cX9_cutPeriod 144 = .ok (.i2l, 1) := by decide +kernel
theorem dX9_cutPeriod_145 : decode cX9_cutPeriod 145 = .ok (.iload 8, 2) := by decide +kernel
theorem dX9_cutPeriod_147 : decode cX9_cutPeriod 147 = .ok (.i2l, 1) := by decide +kernel
theorem dX9_cutPeriod_148 : decode cX9_cutPeriod 148 = .ok (.invokevirtual 182, 3) := by decide +kernel
theorem dX9_cutPeriod_151 : decode cX9_cutPeriod 151 = .ok (.iload 9, 2) := by decide +kernel
theorem dX9_cutPeriod_153 : decode cX9_cutPeriod 153 = .ok (.ireturn, 1) := by decide +kernel
theorem dX9_shiftKey_0 : decode cX9_shiftKey 0 = .ok (.iload_n 1, 1) := by decide +kernel
theorem dX9_shiftKey_1 : decode cX9_shiftKey 1 = .ok (.invokestatic 83, 3) := by decide +kernel
theorem dX9_shiftKey_4 : decode cX9_shiftKey 4 = .ok (.ifCond .eq 26, 3) := by decide +kernel
theorem dX9_shiftKey_7 : decode cX9_shiftKey 7 = .ok (.iload_n 2, 1) := by decide +kernel
theorem dX9_shiftKey_8 : decode cX9_shiftKey 8 = .ok (.invokestatic 244, 3) := by decide +kernel
theorem dX9_shiftKey_11 : decode cX9_shiftKey 11 = .ok (.ifCond .eq 19, 3) := by decide +kernel
theorem dX9_shiftKey_14 : decode cX9_shiftKey 14 = .ok (.iload_n 3, 1) := by decide +kernel
theorem dX9_shiftKey_15 : decode cX9_shiftKey 15 = .ok (.ifCond .eq 15, 3) := by decide +kernel
theorem dX9_shiftKey_18 : decode cX9_shiftKey 18 = .ok (.iload_n 3, 1) := by decide +kernel
theorem dX9_shiftKey_19 : decode cX9_shiftKey 19 = .ok (.bipush (-100), 2) := by decide +kernel
theorem dX9_shiftKey_21 : decode cX9_shiftKey 21 = .ok (.if_icmp .le 9, 3) := by decide +kernel
theorem dX9_shiftKey_24 : decode cX9_shiftKey 24 = .ok (.iload_n 3, 1) := by decide +kernel
theorem dX9_shiftKey_25 : decode cX9_shiftKey 25 = .ok (.bipush 100, 2) := by decide +kernel
theorem dX9_shiftKey_27 : decode cX9_shiftKey 27 = .ok (.if_icmp .lt 5, 3) := by decide +kernel
theorem dX9_shiftKey_30 : decode cX9_shiftKey 30 = .ok (.iconst (-1), 1) := by decide +kernel
theorem dX9_shiftKey_31 : decode cX9_shiftKey 31 = .ok (.ireturn, 1) := by decide +kernel
theorem dX9_shiftKey_32 : decode cX9_shiftKey 32 = .ok (.aload_n 0, 1) := by decide +kernel
theorem dX9_shiftKey_33 : decode cX9_shiftKey 33 = .ok (.getfield 10, 3) := by decide +kernel
theorem dX9_shiftKey_36 : decode cX9_shiftKey 36 = .ok (.iload_n 1, 1) := by decide +kernel
theorem dX9_shiftKey_37 : decode cX9_shiftKey 37 = .ok (.invokevirtual 86, 3) := by decide +kernel
theorem dX9_shiftKey_40 : decode cX9_shiftKey 40 = .ok (.astore 4, 2) := by decide +kernel
theorem dX9_shiftKey_42 : decode cX9_shiftKey 42 = .ok (.aload 4, 2) := by decide +kernel
theorem dX9_shiftKey_44 : decode cX9_shiftKey 44 = .ok (.iload_n 2, 1) := by decide +kernel
theorem dX9_shiftKey_45 : decode cX9_shiftKey 45 = .ok (.iconst 0, 1) := by decide +kernel
theorem dX9_shiftKey_46 : decode cX9_shiftKey 46 = .ok (.bipush 100, 2) := by decide +kernel
theorem dX9_shiftKey_48 : decode cX9_shiftKey 48 = .ok (.invokevirtual 201, 3) := by decide +kernel
theorem dX9_shiftKey_51 : decode cX9_shiftKey 51 = .ok (.istore 5, 2) := by decide +kernel
theorem dX9_shiftKey_53 : decode cX9_shiftKey 53 = .ok (.iload 5, 2) := by decide +kernel
theorem dX9_shiftKey_55 : decode cX9_shiftKey 55 = .ok (.ifCond .ne 6, 3) := by decide +kernel
theorem dX9_shiftKey_58 : decode cX9_shiftKey 58 = .ok (.bipush (-2), 2) := by decide +kernel
theorem dX9_shiftKey_60 : decode cX9_shiftKey 60 = .ok (.ireturn, 1) := by decide +kernel
theorem dX9_shiftKey_61 : decode cX9_shiftKey 61 = .ok (.aload_n 0, 1) := by decide +kernel
theorem dX9_shiftKey_62 : decode cX9_shiftKey 62 = .ok (.getfield 16, 3) := by decide +kernel
theorem dX9_shiftKey_65 : decode cX9_shiftKey 65 = .ok (.aload_n 0, 1) := by decide +kernel
theorem dX9_shiftKey_66 : decode cX9_shiftKey 66 = .ok (.getfield 10, 3) := by decide +kernel
theorem dX9_shiftKey_69 : decode cX9_shiftKey 69 = .ok (.invokevirtual 191, 3) := by decide +kernel
theorem dX9_shiftKey_72 : decode cX9_shiftKey 72 = .ok (.aload_n 0, 1) := by decide +kernel
theorem dX9_shiftKey_73 : decode cX9_shiftKey 73 = .ok (.getfield 16, 3) := by decide +kernel
theorem dX9_shiftKey_76 : decode cX9_shiftKey 76 = .ok (.iload_n 1, 1) := by decide +kernel
theorem dX9_shiftKey_77 : decode cX9_shiftKey 77 = .ok (.invokevirtual 86, 3) := by decide +kernel
theorem dX9_shiftKey_80 : decode cX9_shiftKey 80 = .ok (.iload_n 2, 1) := by decide +kernel
theorem dX9_shiftKey_81 : decode cX9_shiftKey 81 = .ok (.iload_n 3, 1) := by decide +kernel
theorem dX9_shiftKey_82 : decode cX9_shiftKey 82 = .ok (.invokevirtual 247, 3) := by decide +kernel
theorem dX9_shiftKey_85 : decode cX9_shiftKey 85 = .ok (.ifCond .ne 6, 3) := by decide +kernel
theorem dX9_shiftKey_88 : decode cX9_shiftKey 88 = .ok (.bipush (-3), 2) := by decide +kernel
theorem dX9_shiftKey_90 : decode cX9_shiftKey 90 = .ok (.ireturn, 1) := by decide +kernel
theorem dX9_shiftKey_91 : decode cX9_shiftKey 91 = .ok (.iload_n 1, 1) := by decide +kernel
theorem dX9_shiftKey_92 : decode cX9_shiftKey 92 = .ok (.ifCond .eq 13, 3) := by decide +kernel
theorem dX9_shiftKey_95 : decode cX9_shiftKey 95 = .ok (.aload_n 0, 1) := by decide +kernel
theorem dX9_shiftKey_96 : decode cX9_shiftKey 96 = .ok (.getfield 10, 3) := by decide +kernel
theorem dX9_shiftKey_99 : decode cX9_shiftKey 99 = .ok (.getfield 238, 3) := by decide +kernel
theorem dX9_shiftKey_102 : decode cX9_shiftKey 102 = .ok (.ifCond .ne 16, 3) := by decide +kernel
theorem dX9_shiftKey_105 : decode cX9_shiftKey 105 = .ok (.aload_n 0, 1) := by decide +kernel
theorem dX9_shiftKey_106 : decode cX9_shiftKey 106 = .ok (.getfield 16, 3) := by decide +kernel
theorem dX9_shiftKey_109 : decode cX9_shiftKey 109 = .ok (.invokevirtual 225, 3) := by decide +kernel
theorem dX9_shiftKey_112 : decode cX9_shiftKey 112 = .ok (.ifCond .ne 6, 3) := by decide +kernel
theorem dX9_shiftKey_115 : decode cX9_shiftKey 115 = .ok (.bipush (-4), 2) := by decide +kernel
theorem dX9_shiftKey_117 : decode cX9_shiftKey 117 = .ok (.ireturn, 1) := by decide +kernel
theorem dX9_shiftKey_118 : decode cX9_shiftKey 118 = .ok (.iload_n 1, 1) := by decide +kernel
theorem dX9_shiftKey_119 : decode cX9_shiftKey 119 = .ok (.iconst 1, 1) := by decide +kernel
theorem dX9_shiftKey_120 : decode cX9_shiftKey 120 = .ok (.if_icmp .ne 9, 3) := by decide +kernel
theorem dX9_shiftKey_123 : decode cX9_shiftKey 123 = .ok (.aload_n 0, 1) := by decide +kernel
theorem dX9_shiftKey_124 : decode cX9_shiftKey 124 = .ok (.iload_n 2, 1) := by decide +kernel
theorem dX9_shiftKey_125 : decode cX9_shiftKey 125 = .ok (.invokevirtual 241, 3) := by decide +kernel
theorem dX9_shiftKey_128 : decode cX9_shiftKey 128 = .ok (.pop, 1) := by decide +kernel
theorem dX9_shiftKey_129 : decode cX9_shiftKey 129 = .ok (.aload_n 0, 1) := by decide +kernel
theorem dX9_shiftKey_130 : decode cX9_shiftKey 130 = .ok (.iload 5, 2) := by decide +kernel
theorem dX9_shiftKey_132 : decode cX9_shiftKey 132 = .ok (.invokevirtual 215, 3) := by decide +kernel
theorem dX9_shiftKey_135 : decode cX9_shiftKey 135 = .ok (.ireturn, 1) := by decide +kernel
theorem dX9_followWay_0 : decode cX9_followWay 0 = .ok (.aload_n 0, 1) := by decide +kernel
theorem dX9_followWay_1 : decode cX9_followWay 1 = .ok (.getfield 54, 3) := by decide +kernel
theorem dX9_followWay_4 : decode cX9_followWay 4 = .ok (.invokevirtual 251, 3) := by decide +kernel
theorem dX9_followWay_7 : decode cX9_followWay 7 = .ok (.aload_n 0, 1) := by decide +kernel
theorem dX9_followWay_8 : decode cX9_followWay 8 = .ok (.getfield 54, 3) := by decide +kernel
theorem dX9_followWay_11 : decode cX9_followWay 11 = .ok (.aload_n 0, 1) := by decide +kernel
theorem dX9_followWay_12 : decode cX9_followWay 12 = .ok (.getfield 16, 3) := by decide +kernel
theorem dX9_followWay_15 : decode cX9_followWay 15 = .ok (.getfield 179, 3) := by decide +kernel
theorem dX9_followWay_18 : decode cX9_followWay 18 = .ok (.iload_n 1, 1) := by decide +kernel
theorem dX9_followWay_19 : decode cX9_followWay 19 = .ok (.iconst 1, 1) := by decide +kernel
theorem dX9_followWay_20 : decode cX9_followWay 20 = .ok (.invokevirtual 252, 3) := by decide +kernel
theorem dX9_followWay_23 : decode cX9_followWay 23 = .ok (.aload_n 0, 1) := by decide +kernel
theorem dX9_followWay_24 : decode cX9_followWay 24 = .ok (.getfield 10, 3) := by decide +kernel
theorem dX9_followWay_27 : decode cX9_followWay 27 = .ok (.getfield 102, 3) := by decide +kernel
theorem dX9_followWay_30 : decode cX9_followWay 30 = .ok (.astore_n 2, 1) := by decide +kernel
theorem dX9_followWay_31 : decode cX9_followWay 31 = .ok (.aload_n 0, 1) := by decide +kernel
theorem dX9_followWay_32 : decode cX9_followWay 32 = .ok (.getfield 16, 3) := by decide +kernel
theorem dX9_followWay_35 : decode cX9_followWay 35 = .ok (.getfield 102, 3) := by decide +kernel
theorem dX9_followWay_38 : decode cX9_followWay 38 = .ok (.invokevirtual 256, 3) := by decide +kernel
theorem dX9_followWay_41 : decode cX9_followWay 41 = .ok (.iconst 0, 1) := by decide +kernel
theorem dX9_followWay_42 : decode cX9_followWay 42 = .ok (.istore_n 3, 1) := by decide +kernel
theorem dX9_followWay_43 : decode cX9_followWay 43 = .ok (.iconst 0, 1) := by decide +kernel
theorem dX9_followWay_44 : decode cX9_followWay 44 = .ok (.istore 4, 2) := by decide +kernel
theorem dX9_followWay_46 : decode cX9_followWay 46 = .ok (.iload 4, 2) := by decide +kernel
theorem dX9_followWay_48 : decode cX9_followWay 48 = .ok (.aload_n 2, 1) := by decide +kernel
theorem dX9_followWay_49 : decode cX9_followWay 49 = .ok (.getfield 106, 3) := by decide +kernel
theorem dX9_followWay_52 : decode cX9_followWay 52 = .ok (.if_icmp .ge 49, 3) := by decide +kernel
theorem dX9_followWay_55 : decode cX9_followWay 55 = .ok (.aload_n 2, 1) := by decide +kernel
theorem dX9_followWay_56 : decode cX9_followWay 56 = .ok (.iload 4, 2) := by decide +kernel
theorem dX9_followWay_58 : decode cX9_followWay 58 = .ok (.iconst 4, 1) := by decide +kernel
theorem dX9_followWay_59 : decode cX9_followWay 59 = .ok (.invokevirtual 98, 3) := by decide +kernel
theorem dX9_followWay_62 : decode cX9_followWay 62 = .ok (.iload_n 1, 1) := by decide +kernel
theorem dX9_followWay_63 : decode cX9_followWay 63 = .ok (.if_icmp .ne 16, 3) := by decide +kernel
theorem dX9_followWay_66 : decode cX9_followWay 66 = .ok (.iload_n 3, 1) := by decide +kernel
theorem dX9_followWay_67 : decode cX9_followWay 67 = .ok (.aload_n 0, 1) := by decide +kernel
theorem dX9_followWay_68 : decode cX9_followWay 68 = .ok (.aload_n 2, 1) := by decide +kernel
theorem dX9_followWay_69 : decode cX9_followWay 69 = .ok (.iload 4, 2) := by decide +kernel
theorem dX9_followWay_71 : decode cX9_followWay 71 = .ok (.invokevirtual 257, 3) := by decide +kernel
theorem dX9_followWay_74 : decode cX9_followWay 74 = .ok (.iadd, 1) := by decide +kernel
theorem dX9_followWay_75 : decode cX9_followWay 75 = .ok (.istore_n 3, 1) := by decide +kernel
theorem dX9_followWay_76 : decode cX9_followWay 76 = .ok (.goto 19, 3) := by decide +kernel
theorem dX9_followWay_79 : decode cX9_followWay 79 = .ok (.aload_n 0, 1) := by decide +kernel
theorem dX9_followWay_80 : decode cX9_followWay 80 = .ok (.getfield 16, 3) := by decide +kernel
theorem dX9_followWay_83 : decode cX9_followWay 83 = .ok (.getfield 102, 3) := by decide +kernel
theorem dX9_followWay_86 : decode cX9_followWay 86 = .ok (.aload_n 2, 1) := by decide +kernel
theorem dX9_followWay_87 : decode cX9_followWay 87 = .ok (.iload 4, 2) := by decide +kernel
theorem dX9_followWay_89 : decode cX9_followWay 89 = .ok (.iconst 0, 1) := by decide +kernel
theorem dX9_followWay_90 : decode cX9_followWay 90 = .ok (.bipush 100, 2) := by decide +kernel
theorem dX9_followWay_92 : decode cX9_followWay 92 = .ok (.invokevirtual 211, 3) := by decide +kernel
theorem dX9_followWay_95 : decode cX9_followWay 95 = .ok (.iinc 4 1, 3) := by decide +kernel
theorem dX9_followWay_98 : decode cX9_followWay 98 = .ok (.goto (-52), 3) := by decide +kernel
theorem dX9_followWay_101 : decode cX9_followWay 101 = .ok (.iload_n 3, 1) := by decide +kernel
theorem dX9_followWay_102 : decode cX9_followWay 102 = .ok (.ireturn, 1) := by decide +kernel
theorem dX9_followWayInRow_0 : decode cX9_followWayInRow 0 = .ok (.iconst 0, 1) := by decide +kernel
theorem dX9_followWayInRow_1 : decode cX9_followWayInRow 1 = .ok (.istore_n 3, 1) := by decide +kernel
theorem dX9_followWayInRow_2 : decode cX9_followWayInRow 2 = .ok (.aload_n 1, 1) := by decide +kernel
theorem dX9_followWayInRow_3 : decode cX9_followWayInRow 3 = .ok (.iload_n 2, 1) := by decide +kernel
theorem dX9_followWayInRow_4 : decode cX9_followWayInRow 4 = .ok (.iconst 2, 1) := by decide +kernel
theorem dX9_followWayInRow_5 : decode cX9_followWayInRow 5 = .ok (.invokevirtual 98, 3) := by decide +kernel
theorem dX9_followWayInRow_8 : decode cX9_followWayInRow 8 = .ok (.istore 4, 2) := by decide +kernel
theorem dX9_followWayInRow_10 : decode cX9_followWayInRow 10 = .ok (.aload_n 1, 1) := by decide +kernel
theorem dX9_followWayInRow_11 : decode cX9_followWayInRow 11 = .ok (.iload_n 2, 1) := by decide +kernel
theorem dX9_followWayInRow_12 : decode cX9_followWayInRow 12 = .ok (.iconst 3, 1) := by decide +kernel
theorem dX9_followWayInRow_13 : decode cX9_followWayInRow 13 = .ok (.invokevirtual 98, 3) := by decide +kernel
theorem dX9_followWayInRow_16 : decode cX9_followWayInRow 16 = .ok (.istore 5, 2) := by decide +kernel
theorem dX9_followWayInRow_18 : decode cX9_followWayInRow 18 = .ok (.iconst 0, 1) := by decide +kernel
theorem dX9_followWayInRow_19 : decode cX9_followWayInRow 19 = .ok (.istore 6, 2) := by decide +kernel
theorem dX9_followWayInRow_21 : decode cX9_followWayInRow 21 = .ok (.iload 6, 2) := by decide +kernel
theorem dX9_followWayInRow_23 : decode cX9_followWayInRow 23 = .ok (.bipush 100, 2) := by decide +kernel
theorem dX9_followWayInRow_25 : decode cX9_followWayInRow 25 = .ok (.if_icmp .ge 126, 3) := by decide +kernel
theorem dX9_followWayInRow_28 : decode cX9_followWayInRow 28 = .ok (.iload 4, 2) := by decide +kernel
theorem dX9_followWayInRow_30 : decode cX9_followWayInRow 30 = .ok (.iload 5, 2) := by decide +kernel
theorem dX9_followWayInRow_32 : decode cX9_followWayInRow 32 = .ok (.if_icmp .ge 119, 3) := by decide +kernel
theorem dX9_followWayInRow_35 : decode cX9_followWayInRow 35 = .ok (.aload_n 0, 1) := by decide +kernel
theorem dX9_followWayInRow_36 : decode cX9_followWayInRow 36 = .ok (.getfield 54, 3) := by decide +kernel
theorem dX9_followWayInRow_39 : decode cX9_followWayInRow 39 = .ok (.iload 4, 2) := by decide +kernel
theorem dX9_followWayInRow_41 : decode cX9_followWayInRow 41 = .ok (.iload 5, 2) := by decide +kernel
theorem dX9_followWayInRow_43 : decode cX9_followWayInRow 43 = .ok (.invokevirtual 261, 3) := by decide +kernel
theorem dX9_followWayInRow_46 : decode cX9_followWayInRow 46 = .ok (.istore 7, 2) := by decide +kernel
theorem dX9_followWayInRow_48 : decode cX9_followWayInRow 48 = .ok (.aload_n 0, 1) := by decide +kernel
theorem dX9_followWayInRow_49 : decode cX9_followWayInRow 49 = .ok (.getfield 54, 3) := by decide +kernel
theorem dX9_followWayInRow_52 : decode cX9_followWayInRow 52 = .ok (.iload 4, 2) := by decide +kernel
theorem dX9_followWayInRow_54 : decode cX9_followWayInRow 54 = .ok (.invokevirtual 264, 3) := by decide +kernel
theorem dX9_followWayInRow_57 : decode cX9_followWayInRow 57 = .ok (.ifCond .ne 7, 3) := by decide +kernel
theorem dX9_followWayInRow_60 : decode cX9_followWayInRow 60 = .ok (.iconst 1, 1) := by decide +kernel
theorem dX9_followWayInRow_61 : decode cX9_followWayInRow 61 = .ok (.goto 4, 3) := by decide +kernel
theorem dX9_followWayInRow_64 : decode cX9_followWayInRow 64 = .ok (.iconst 0, 1) := by decide +kernel
theorem dX9_followWayInRow_65 : decode cX9_followWayInRow 65 = .ok (.istore 8, 2) := by decide +kernel
theorem dX9_followWayInRow_67 : decode cX9_followWayInRow 67 = .ok (.iload 8, 2) := by decide +kernel
theorem dX9_followWayInRow_69 : decode cX9_followWayInRow 69 = .ok (.ifCond .eq 11, 3) := by decide +kernel
theorem dX9_followWayInRow_72 : decode cX9_followWayInRow 72 = .ok (.iload_n 3, 1) := by decide +kernel
theorem dX9_followWayInRow_73 : decode cX9_followWayInRow 73 = .ok (.iload 7, 2) := by decide +kernel
theorem dX9_followWayInRow_75 : decode cX9_followWayInRow 75 = .ok (.iload 4, 2) := by decide +kernel
theorem dX9_followWayInRow_77 : decode cX9_followWayInRow 77 = .ok (.isub, 1) := by decide +kernel
theorem dX9_followWayInRow_78 : decode cX9_followWayInRow 78 = .ok (.iadd, 1) := by decide +kernel
theorem dX9_followWayInRow_79 : decode cX9_followWayInRow 79 = .ok (.istore_n 3, 1) := by decide +kernel
theorem dX9_followWayInRow_80 : decode cX9_followWayInRow 80 = .ok (.iload 8, 2) := by decide +kernel
theorem dX9_followWayInRow_82 : decode cX9_followWayInRow 82 = .ok (.ifCond .eq 14, 3) := by decide +kernel
theorem dX9_followWayInRow_85 : decode cX9_followWayInRow 85 = .ok (.aload_n 0, 1) := by decide +kernel
theorem dX9_followWayInRow_86 : decode cX9_followWayInRow 86 = .ok (.getfield 10, 3) := by decide +kernel
theorem dX9_followWayInRow_89 : decode cX9_followWayInRow 89 = .ok (.getfield 238, 3) := by decide +kernel
theorem dX9_followWayInRow_92 : decode cX9_followWayInRow 92 = .ok (.iconst 2, 1) := by decide +kernel
theorem dX9_followWayInRow_93 : decode cX9_followWayInRow 93 = .ok (.if_icmp .ne 19, 3) := by decide +kernel
theorem dX9_followWayInRow_96 : decode cX9_followWayInRow 96 = .ok (.aload_n 0, 1) := by decide +kernel
theorem dX9_followWayInRow_97 : decode cX9_followWayInRow 97 = .ok (.getfield 16, 3) := by decide +kernel
theorem dX9_followWayInRow_100 : decode cX9_followWayInRow 100 = .ok (.getfield 102, 3) := by decide +kernel
theorem dX9_followWayInRow_103 : decode cX9_followWayInRow 103 = .ok (.aload_n 1, 1) := by decide +kernel
theorem dX9_followWayInRow_104 : decode cX9_followWayInRow 104 = .ok (.iload_n 2, 1) := by decide +kernel
theorem dX9_followWayInRow_105 : decode cX9_followWayInRow 105 = .ok (.iload 4, 2) := by decide +kernel
theorem dX9_followWayInRow_107 : decode cX9_followWayInRow 107 = .ok (.iload 7, 2) := by decide +kernel
theorem dX9_followWayInRow_109 : decode cX9_followWayInRow 109 = .ok (.invokevirtual 211, 3) := by decide +kernel
theorem dX9_followWayInRow_112 : decode cX9_followWayInRow 112 = .ok (.iload 8, 2) := by decide +kernel
theorem dX9_followWayInRow_114 : decode cX9_followWayInRow 114 = .ok (.ifCond .eq 27, 3) := by decide +kernel
theorem dX9_followWayInRow_117 : decode cX9_followWayInRow 117 = .ok (.aload_n 0, 1) := by decide +kernel
theorem dX9_followWayInRow_118 : decode cX9_followWayInRow 118 = .ok (.getfield 10, 3) := by decide +kernel
theorem dX9_followWayInRow_121 : decode cX9_followWayInRow 121 = .ok (.getfield 238, 3) := by decide +kernel
theorem dX9_followWayInRow_124 : decode cX9_followWayInRow 124 = .ok (.iconst 2, 1) := by decide +kernel
theorem dX9_followWayInRow_125 : decode cX9_followWayInRow 125 = .ok (.if_icmp .ne 16, 3) := by decide +kernel
theorem dX9_followWayInRow_128 : decode cX9_followWayInRow 128 = .ok (.aload_n 0, 1) := by decide +kernel
theorem dX9_followWayInRow_129 : decode cX9_followWayInRow 129 = .ok (.getfield 16, 3) := by decide +kernel
theorem dX9_followWayInRow_132 : decode cX9_followWayInRow 132 = .ok (.getfield 102, 3) := by decide +kernel
theorem dX9_followWayInRow_135 : decode cX9_followWayInRow 135 = .ok (.iconst 4, 1) := by decide +kernel
theorem dX9_followWayInRow_136 : decode cX9_followWayInRow 136 = .ok (.bipush 10, 2) := by decide +kernel
theorem dX9_followWayInRow_138 : decode cX9_followWayInRow 138 = .ok (.invokevirtual 267, 3) := by decide +kernel
theorem dX9_followWayInRow_141 : decode cX9_followWayInRow 141 = .ok (.iload 7, 2) := by decide +kernel
theorem dX9_followWayInRow_143 : decode cX9_followWayInRow 143 = .ok (.istore 4, 2) := by decide +kernel
theorem dX9_followWayInRow_145 : decode cX9_followWayInRow 145 = .ok (.iinc 6 1, 3) := by decide +kernel
theorem dX9_followWayInRow_148 : decode cX9_followWayInRow 148 = .ok (.goto (-127), 3) := by decide +kernel
theorem dX9_followWayInRow_151 : decode cX9_followWayInRow 151 = .ok (.iload_n 3, 1) := by decide +kernel
theorem dX9_followWayInRow_152 : decode cX9_followWayInRow 152 = .ok (.ireturn, 1) := by decide +kernel
theorem dX9_joinAlike_0 : decode cX9_joinAlike 0 = .ok (.iload_n 1, 1) := by decide +kernel
theorem dX9_joinAlike_1 : decode cX9_joinAlike 1 = .ok (.invokestatic 83, 3) := by decide +kernel
theorem dX9_joinAlike_4 : decode cX9_joinAlike 4 = .ok (.ifCond .ne 5, 3) := by decide +kernel
theorem dX9_joinAlike_7 : decode cX9_joinAlike 7 = .ok (.iconst (-1), 1) := by decide +kernel
theorem dX9_joinAlike_8 : decode cX9_joinAlike 8 = .ok (.ireturn, 1) := by decide +kernel
theorem dX9_joinAlike_9 : decode cX9_joinAlike 9 = .ok (.aload_n 0, 1) := by decide +kernel
theorem dX9_joinAlike_10 : decode cX9_joinAlike 10 = .ok (.getfield 10, 3) := by decide +kernel
theorem dX9_joinAlike_13 : decode cX9_joinAlike 13 = .ok (.iload_n 1, 1) := by decide +kernel
theorem dX9_joinAlike_14 : decode cX9_joinAlike 14 = .ok (.invokevirtual 86, 3) := by decide +kernel
theorem dX9_joinAlike_17 : decode cX9_joinAlike 17 = .ok (.astore_n 2, 1) := by decide +kernel
theorem dX9_joinAlike_18 : decode cX9_joinAlike 18 = .ok (.aload_n 2, 1) := by decide +kernel
theorem dX9_joinAlike_19 : decode cX9_joinAlike 19 = .ok (.invokevirtual 271, 3) := by decide +kernel
theorem dX9_joinAlike_22 : decode cX9_joinAlike 22 = .ok (.istore_n 3, 1) := by decide +kernel
theorem dX9_joinAlike_23 : decode cX9_joinAlike 23 = .ok (.aload_n 0, 1) := by decide +kernel
theorem dX9_joinAlike_24 : decode cX9_joinAlike 24 = .ok (.getfield 16, 3) := by decide +kernel
theorem dX9_joinAlike_27 : decode cX9_joinAlike 27 = .ok (.aload_n 0, 1) := by decide +kernel
theorem dX9_joinAlike_28 : decode cX9_joinAlike 28 = .ok (.getfield 10, 3) := by decide +kernel
theorem dX9_joinAlike_31 : decode cX9_joinAlike 31 = .ok (.invokevirtual 191, 3) := by decide +kernel
theorem dX9_joinAlike_34 : decode cX9_joinAlike 34 = .ok (.aload_n 0, 1) := by decide +kernel
theorem dX9_joinAlike_35 : decode cX9_joinAlike 35 = .ok (.getfield 16, 3) := by decide +kernel
theorem dX9_joinAlike_38 : decode cX9_joinAlike 38 = .ok (.iload_n 1, 1) := by decide +kernel
theorem dX9_joinAlike_39 : decode cX9_joinAlike 39 = .ok (.invokevirtual 86, 3) := by decide +kernel
theorem dX9_joinAlike_42 : decode cX9_joinAlike 42 = .ok (.aload_n 2, 1) := by decide +kernel
theorem dX9_joinAlike_43 : decode cX9_joinAlike 43 = .ok (.invokevirtual 274, 3) := by decide +kernel
theorem dX9_joinAlike_46 : decode cX9_joinAlike 46 = .ok (.aload_n 0, 1) := by decide +kernel
theorem dX9_joinAlike_47 : decode cX9_joinAlike 47 = .ok (.iload_n 3, 1) := by decide +kernel
theorem dX9_joinAlike_48 : decode cX9_joinAlike 48 = .ok (.invokevirtual 215, 3) := by decide +kernel
theorem dX9_joinAlike_51 : decode cX9_joinAlike 51 = .ok (.ireturn, 1) := by decide +kernel
theorem dX9_setWay_0 : decode cX9_setWay 0 = .ok (.iload_n 1, 1) := by decide +kernel
theorem dX9_setWay_1 : decode cX9_setWay 1 = .ok (.ifCond .lt 8, 3) := by decide +kernel
theorem dX9_setWay_4 : decode cX9_setWay 4 = .ok (.iload_n 1, 1) := by decide +kernel
theorem dX9_setWay_5 : decode cX9_setWay 5 = .ok (.iconst 2, 1) := by decide +kernel
theorem dX9_setWay_6 : decode cX9_setWay 6 = .ok (.if_icmp .le 5, 3) := by decide +kernel
theorem dX9_setWay_9 : decode cX9_setWay 9 = .ok (.iconst (-1), 1) := by decide +kernel
theorem dX9_setWay_10 : decode cX9_setWay 10 = .ok (.ireturn, 1) := by decide +kernel
theorem dX9_setWay_11 : decode cX9_setWay 11 = .ok (.aload_n 0, 1) := by decide +kernel
theorem dX9_setWay_12 : decode cX9_setWay 12 = .ok (.getfield 10, 3) := by decide +kernel
theorem dX9_setWay_15 : decode cX9_setWay 15 = .ok (.getfield 238, 3) := by decide +kernel
theorem dX9_setWay_18 : decode cX9_setWay 18 = .ok (.istore_n 2, 1) := by decide +kernel
theorem dX9_setWay_19 : decode cX9_setWay 19 = .ok (.iload_n 2, 1) := by decide +kernel
theorem dX9_setWay_20 : decode cX9_setWay 20 = .ok (.iload_n 1, 1) := by decide +kernel
theorem dX9_setWay_21 : decode cX9_setWay 21 = .ok (.if_icmp .ne 6, 3) := by decide +kernel
theorem dX9_setWay_24 : decode cX9_setWay 24 = .ok (.bipush (-2), 2) := by decide +kernel
theorem dX9_setWay_26 : decode cX9_setWay 26 = .ok (.ireturn, 1) := by decide +kernel
theorem dX9_setWay_27 : decode cX9_setWay 27 = .ok (.aload_n 0, 1) := by decide +kernel
theorem dX9_setWay_28 : decode cX9_setWay 28 = .ok (.getfield 10, 3) := by decide +kernel
theorem dX9_setWay_31 : decode cX9_setWay 31 = .ok (.iload_n 1, 1) := by decide +kernel
theorem dX9_setWay_32 : decode cX9_setWay 32 = .ok (.putfield 238, 3) := by decide +kernel
theorem dX9_setWay_35 : decode cX9_setWay 35 = .ok (.bipush 10, 2) := by decide +kernel
theorem dX9_setWay_37 : decode cX9_setWay 37 = .ok (.iload_n 2, 1) := by decide +kernel
theorem dX9_setWay_38 : decode cX9_setWay 38 = .ok (.iadd, 1) := by decide +kernel
theorem dX9_setWay_39 : decode cX9_setWay 39 = .ok (.ireturn, 1) := by decide +kernel
theorem dX9_doAct_0 : decode cX9_doAct 0 = .ok (.aload_n 0, 1) := by decide +kernel
theorem dX9_doAct_1 : decode cX9_doAct 1 = .ok (.getfield 33, 3) := by decide +kernel
theorem dX9_doAct_4 : decode cX9_doAct 4 = .ok (.iload_n 1, 1) := by decide +kernel
theorem dX9_doAct_5 : decode cX9_doAct 5 = .ok (.iconst 1, 1) := by decide +kernel
theorem dX9_doAct_6 : decode cX9_doAct 6 = .ok (.iadd, 1) := by decide +kernel
theorem dX9_doAct_7 : decode cX9_doAct 7 = .ok (.invokevirtual 278, 3) := by decide +kernel
theorem dX9_doAct_10 : decode cX9_doAct 10 = .ok (.istore_n 2, 1) := by decide +kernel
theorem dX9_doAct_11 : decode cX9_doAct 11 = .ok (.aload_n 0, 1) := by decide +kernel
theorem dX9_doAct_12 : decode cX9_doAct 12 = .ok (.getfield 33, 3) := by decide +kernel
theorem dX9_doAct_15 : decode cX9_doAct 15 = .ok (.iload_n 1, 1) := by decide +kernel
theorem dX9_doAct_16 : decode cX9_doAct 16 = .ok (.iconst 2, 1) := by decide +kernel
theorem dX9_doAct_17 : decode cX9_doAct 17 = .ok (.iadd, 1) := by decide +kernel
theorem dX9_doAct_18 : decode cX9_doAct 18 = .ok (.invokevirtual 278, 3) := by decide +kernel
theorem dX9_doAct_21 : decode cX9_doAct 21 = .ok (.istore_n 3, 1) := by decide +kernel
theorem dX9_doAct_22 : decode cX9_doAct 22 = .ok (.aload_n 0, 1) := by decide +kernel
theorem dX9_doAct_23 : decode cX9_doAct 23 = .ok (.getfield 33, 3) := by decide +kernel
theorem dX9_doAct_26 : decode cX9_doAct 26 = .ok (.iload_n 1, 1) := by decide +kernel
theorem dX9_doAct_27 : decode cX9_doAct 27 = .ok (.invokevirtual 164, 3) := by decide +kernel
theorem dX9_doAct_30 : decode cX9_doAct 30 = .ok (.lookupswitch 210 #[(97, 58), (99, 171), (106, 198), (114, 134), (115, 96), (119, 204)], 58) := by decide +kernel
theorem dX9_doAct_88 : decode cX9_doAct 88 = .ok (.aload_n 0, 1) := by decide +kernel
theorem dX9_doAct_89 : decode cX9_doAct 89 = .ok (.iload_n 2, 1) := by decide +kernel
theorem dX9_doAct_90 : decode cX9_doAct 90 = .ok (.iload_n 3, 1) := by decide +kernel
theorem dX9_doAct_91 : decode cX9_doAct 91 = .ok (.aload_n 0, 1) := by decide +kernel
theorem dX9_doAct_92 : decode cX9_doAct 92 = .ok (.getfield 33, 3) := by decide +kernel
theorem dX9_doAct_95 : decode cX9_doAct 95 = .ok (.iload_n 1, 1) := by decide +kernel
theorem dX9_doAct_96 : decode cX9_doAct 96 = .ok (.iconst 3, 1) := by decide +kernel
theorem dX9_doAct_97 : decode cX9_doAct 97 = .ok (.iadd, 1) := by decide +kernel
theorem dX9_doAct_98 : decode cX9_doAct 98 = .ok (.invokevirtual 281, 3) := by decide +kernel
theorem dX9_doAct_101 : decode cX9_doAct 101 = .ok (.aload_n 0, 1) := by decide +kernel
theorem dX9_doAct_102 : decode cX9_doAct 102 = .ok (.getfield 33, 3) := by decide +kernel
theorem dX9_doAct_105 : decode cX9_doAct 105 = .ok (.iload_n 1, 1) := by decide +kernel
theorem dX9_doAct_106 : decode cX9_doAct 106 = .ok (.iconst 5, 1) := by decide +kernel
theorem dX9_doAct_107 : decode cX9_doAct 107 = .ok (.iadd, 1) := by decide +kernel
theorem dX9_doAct_108 : decode cX9_doAct 108 = .ok (.invokevirtual 281, 3) := by decide +kernel
theorem dX9_doAct_111 : decode cX9_doAct 111 = .ok (.aload_n 0, 1) := by decide +kernel
theorem dX9_doAct_112 : decode cX9_doAct 112 = .ok (.getfield 33, 3) := by decide +kernel
theorem dX9_doAct_115 : decode cX9_doAct 115 = .ok (.iload_n 1, 1) := by decide +kernel
theorem dX9_doAct_116 : decode cX9_doAct 116 = .ok (.bipush 7, 2) := by decide +kernel
theorem dX9_doAct_118 : decode cX9_doAct 118 = .ok (.iadd, 1) := by decide +kernel
theorem dX9_doAct_119 : decode cX9_doAct 119 = .ok (.invokevirtual 284, 3) := by decide +kernel
theorem dX9_doAct_122 : decode cX9_doAct 122 = .ok (.invokevirtual 126, 3) := by decide +kernel
theorem dX9_doAct_125 : decode cX9_doAct 125 = .ok (.ireturn, 1) := by decide +kernel
theorem dX9_doAct_126 : decode cX9_doAct 126 = .ok (.aload_n 0, 1) := by decide +kernel
theorem dX9_doAct_127 : decode cX9_doAct 127 = .ok (.iload_n 2, 1) := by decide +kernel
theorem dX9_doAct_128 : decode cX9_doAct 128 = .ok (.iload_n 3, 1) := by decide +kernel
theorem dX9_doAct_129 : decode cX9_doAct 129 = .ok (.aload_n 0, 1) := by decide +kernel
theorem dX9_doAct_130 : decode cX9_doAct 130 = .ok (.getfield 33, 3) := by decide +kernel
theorem dX9_doAct_133 : decode cX9_doAct 133 = .ok (.iload_n 1, 1) := by decide +kernel
theorem dX9_doAct_134 : decode cX9_doAct 134 = .ok (.iconst 3, 1) := by decide +kernel
theorem dX9_doAct_135 : decode cX9_doAct 135 = .ok (.iadd, 1) := by decide +kernel
theorem dX9_doAct_136 : decode cX9_doAct 136 = .ok (.invokevirtual 281, 3) := by decide +kernel
theorem dX9_doAct_139 : decode cX9_doAct 139 = .ok (.aload_n 0, 1) := by decide +kernel
theorem dX9_doAct_140 : decode cX9_doAct 140 = .ok (.getfield 33, 3) := by decide +kernel
theorem dX9_doAct_143 : decode cX9_doAct 143 = .ok (.iload_n 1, 1) := by decide +kernel
theorem dX9_doAct_144 : decode cX9_doAct 144 = .ok (.iconst 5, 1) := by decide +kernel
theorem dX9_doAct_145 : decode cX9_doAct 145 = .ok (.iadd, 1) := by decide +kernel
theorem dX9_doAct_146 : decode cX9_doAct 146 = .ok (.invokevirtual 281, 3) := by decide +kernel
theorem dX9_doAct_149 : decode cX9_doAct 149 = .ok (.aload_n 0, 1) := by decide +kernel
theorem dX9_doAct_150 : decode cX9_doAct 150 = .ok (.getfield 33, 3) := by decide +kernel
theorem dX9_doAct_153 : decode cX9_doAct 153 = .ok (.iload_n 1, 1) := by decide +kernel
theorem dX9_doAct_154 : decode cX9_doAct 154 = .ok (.bipush 7, 2) := by decide +kernel
theorem dX9_doAct_156 : decode cX9_doAct 156 = .ok (.iadd, 1) := by decide +kernel
theorem dX9_doAct_157 : decode cX9_doAct 157 = .ok (.invokevirtual 284, 3) := by decide +kernel
theorem dX9_doAct_160 : decode cX9_doAct 160 = .ok (.invokevirtual 134, 3) := by decide +kernel
theorem dX9_doAct_163 : decode cX9_doAct 163 = .ok (.ireturn, 1) := by decide +kernel
theorem dX9_doAct_164 : decode cX9_doAct 164 = .ok (.aload_n 0, 1) := by decide +kernel
theorem dX9_doAct_165 : decode cX9_doAct 165 = .ok (.iload_n 2, 1) := by decide +kernel
theorem dX9_doAct_166 : decode cX9_doAct 166 = .ok (.aload_n 0, 1) := by decide +kernel
theorem dX9_doAct_167 : decode cX9_doAct 167 = .ok (.getfield 33, 3) := by decide +kernel
theorem dX9_doAct_170 : decode cX9_doAct 170 = .ok (.iload_n 1, 1) := by decide +kernel
theorem dX9_doAct_171 : decode cX9_doAct 171 = .ok (.iconst 2, 1) := by decide +kernel
theorem dX9_doAct_172 : decode cX9_doAct 172 = .ok (.iadd, 1) := by decide +kernel
theorem dX9_doAct_173 : decode cX9_doAct 173 = .ok (.invokevirtual 281, 3) := by decide +kernel
theorem dX9_doAct_176 : decode cX9_doAct 176 = .ok (.aload_n 0, 1) := by decide +kernel
theorem dX9_doAct_177 : decode cX9_doAct 177 = .ok (.getfield 33, 3) := by decide +kernel
theorem dX9_doAct_180 : decode cX9_doAct 180 = .ok (.iload_n 1, 1) := by decide +kernel
theorem dX9_doAct_181 : decode cX9_doAct 181 = .ok (.iconst 4, 1) := by decide +kernel
theorem dX9_doAct_182 : decode cX9_doAct 182 = .ok (.iadd, 1) := by decide +kernel
theorem dX9_doAct_183 : decode cX9_doAct 183 = .ok (.invokevirtual 281, 3) := by decide +kernel
theorem dX9_doAct_186 : decode cX9_doAct 186 = .ok (.aload_n 0, 1) := by decide +kernel
theorem dX9_doAct_187 : decode cX9_doAct 187 = .ok (.getfield 33, 3) := by decide +kernel
theorem dX9_doAct_190 : decode cX9_doAct 190 = .ok (.iload_n 1, 1) := by decide +kernel
theorem dX9_doAct_191 : decode cX9_doAct 191 = .ok (.bipush 6, 2) := by decide +kernel
theorem dX9_doAct_193 : decode cX9_doAct 193 = .ok (.iadd, 1) := by decide +kernel
theorem dX9_doAct_194 : decode cX9_doAct 194 = .ok (.invokevirtual 284, 3) := by decide +kernel
theorem dX9_doAct_197 : decode cX9_doAct 197 = .ok (.invokevirtual 137, 3) := by decide +kernel
theorem dX9_doAct_200 : decode cX9_doAct 200 = .ok (.ireturn, 1) := by decide +kernel
theorem dX9_doAct_201 : decode cX9_doAct 201 = .ok (.aload_n 0, 1) := by decide +kernel
theorem dX9_doAct_202 : decode cX9_doAct 202 = .ok (.iload_n 2, 1) := by decide +kernel
theorem dX9_doAct_203 : decode cX9_doAct 203 = .ok (.iload_n 3, 1) := by decide +kernel
theorem dX9_doAct_204 : decode cX9_doAct 204 = .ok (.aload_n 0, 1) := by decide +kernel
theorem dX9_doAct_205 : decode cX9_doAct 205 = .ok (.getfield 33, 3) := by decide +kernel
theorem dX9_doAct_208 : decode cX9_doAct 208 = .ok (.iload_n 1, 1) := by decide +kernel
theorem dX9_doAct_209 : decode cX9_doAct 209 = .ok (.iconst 3, 1) := by decide +kernel
theorem dX9_doAct_210 : decode cX9_doAct 210 = .ok (.iadd, 1) := by decide +kernel
theorem dX9_doAct_211 : decode cX9_doAct 211 = .ok (.invokevirtual 281, 3) := by decide +kernel
theorem dX9_doAct_214 : decode cX9_doAct 214 = .ok (.aload_n 0, 1) := by decide +kernel
theorem dX9_doAct_215 : decode cX9_doAct 215 = .ok (.getfield 33, 3) := by decide +kernel
theorem dX9_doAct_218 : decode cX9_doAct 218 = .ok (.iload_n 1, 1) := by decide +kernel
theorem dX9_doAct_219 : decode cX9_doAct 219 = .ok (.iconst 5, 1) := by decide +kernel
theorem dX9_doAct_220 : decode cX9_doAct 220 = .ok (.iadd, 1) := by decide +kernel
theorem dX9_doAct_221 : decode cX9_doAct 221 = .ok (.invokevirtual 284, 3) := by decide +kernel
theorem dX9_doAct_224 : decode cX9_doAct 224 = .ok (.invokevirtual 141, 3) := by decide +kernel
theorem dX9_doAct_227 : decode cX9_doAct 227 = .ok (.ireturn, 1) := by decide +kernel
theorem dX9_doAct_228 : decode cX9_doAct 228 = .ok (.aload_n 0, 1) := by decide +kernel
theorem dX9_doAct_229 : decode cX9_doAct 229 = .ok (.iload_n 2, 1) := by decide +kernel
theorem dX9_doAct_230 : decode cX9_doAct 230 = .ok (.invokevirtual 148, 3) := by decide +kernel
theorem dX9_doAct_233 : decode cX9_doAct 233 = .ok (.ireturn, 1) := by decide +kernel
theorem dX9_doAct_234 : decode cX9_doAct 234 = .ok (.aload_n 0, 1) := by decide +kernel
theorem dX9_doAct_235 : decode cX9_doAct 235 = .ok (.iload_n 2, 1) := by decide +kernel
theorem dX9_doAct_236 : decode cX9_doAct 236 = .ok (.invokevirtual 151, 3) := by decide +kernel
theorem dX9_doAct_239 : decode cX9_doAct 239 = .ok (.ireturn, 1) := by decide +kernel
theorem dX9_doAct_240 : decode cX9_doAct 240 = .ok (.iconst (-1), 1) := by decide +kernel
theorem dX9_doAct_241 : decode cX9_doAct 241 = .ok (.ireturn, 1) := by decide +kernel
theorem dX9_at_0 : decode cX9_at 0 = .ok (.iload_n 1, 1) := by decide +kernel
theorem dX9_at_1 : decode cX9_at 1 = .ok (.invokestatic 83, 3) := by decide +kernel
theorem dX9_at_4 : decode cX9_at 4 = .ok (.ifCond .eq 17, 3) := by decide +kernel
theorem dX9_at_7 : decode cX9_at 7 = .ok (.iload_n 2, 1) := by decide +kernel
theorem dX9_at_8 : decode cX9_at 8 = .ok (.invokestatic 244, 3) := by decide +kernel
theorem dX9_at_11 : decode cX9_at 11 = .ok (.ifCond .eq 10, 3) := by decide +kernel
theorem dX9_at_14 : decode cX9_at 14 = .ok (.iload_n 3, 1) := by decide +kernel
theorem dX9_at_15 : decode cX9_at 15 = .ok (.invokestatic 287, 3) := by decide +kernel
theorem dX9_at_18 : decode cX9_at 18 = .ok (.ifCond .ne 5, 3) := by decide +kernel
theorem dX9_at_21 : decode cX9_at 21 = .ok (.iconst (-1), 1) := by decide +kernel
theorem dX9_at_22 : decode cX9_at 22 = .ok (.ireturn, 1) := by decide +kernel
theorem dX9_at_23 : decode cX9_at 23 = .ok (.aload_n 0, 1) := by decide +kernel
theorem dX9_at_24 : decode cX9_at 24 = .ok (.getfield 10, 3) := by decide +kernel
theorem dX9_at_27 : decode cX9_at 27 = .ok (.iload_n 1, 1) := by decide +kernel
theorem dX9_at_28 : decode cX9_at 28 = .ok (.invokevirtual 86, 3) := by decide +kernel
theorem dX9_at_31 : decode cX9_at 31 = .ok (.astore 4, 2) := by decide +kernel
theorem dX9_at_33 : decode cX9_at 33 = .ok (.iconst 0, 1) := by decide +kernel
theorem dX9_at_34 : decode cX9_at 34 = .ok (.istore 5, 2) := by decide +kernel
theorem dX9_at_36 : decode cX9_at 36 = .ok (.iload 5, 2) := by decide +kernel
theorem dX9_at_38 : decode cX9_at 38 = .ok (.aload 4, 2) := by decide +kernel
theorem dX9_at_40 : decode cX9_at 40 = .ok (.getfield 106, 3) := by decide +kernel
theorem dX9_at_43 : decode cX9_at 43 = .ok (.if_icmp .ge 67, 3) := by decide +kernel
theorem dX9_at_46 : decode cX9_at 46 = .ok (.aload 4, 2) := by decide +kernel
theorem dX9_at_48 : decode cX9_at 48 = .ok (.iload 5, 2) := by decide +kernel
theorem dX9_at_50 : decode cX9_at 50 = .ok (.iload_n 2, 1) := by decide +kernel
theorem dX9_at_51 : decode cX9_at 51 = .ok (.iload_n 3, 1) := by decide +kernel
theorem dX9_at_52 : decode cX9_at 52 = .ok (.iload_n 3, 1) := by decide +kernel
theorem dX9_at_53 : decode cX9_at 53 = .ok (.iconst 1, 1) := by decide +kernel
theorem dX9_at_54 : decode cX9_at 54 = .ok (.iadd, 1) := by decide +kernel
theorem dX9_at_55 : decode cX9_at 55 = .ok (.invokevirtual 290, 3) := by decide +kernel
theorem dX9_at_58 : decode cX9_at 58 = .ok (.ifCond .eq 46, 3) := by decide +kernel
theorem dX9_at_61 : decode cX9_at 61 = .ok (.aload_n 0, 1) := by decide +kernel
theorem dX9_at_62 : decode cX9_at 62 = .ok (.getfield 40, 3) := by decide +kernel
theorem dX9_at_65 : decode cX9_at 65 = .ok (.aload 4, 2) := by decide +kernel
theorem dX9_at_67 : decode cX9_at 67 = .ok (.iload 5, 2) := by decide +kernel
theorem dX9_at_69 : decode cX9_at 69 = .ok (.iconst 4, 1) := by decide +kernel
theorem dX9_at_70 : decode cX9_at 70 = .ok (.invokevirtual 98, 3) := by decide +kernel
theorem dX9_at_73 : decode cX9_at 73 = .ok (.i2l, 1) := by decide +kernel
theorem dX9_at_74 : decode cX9_at 74 = .ok (.aload 4, 2) := by decide +kernel
theorem dX9_at_76 : decode cX9_at 76 = .ok (.iload 5, 2) := by decide +kernel
theorem dX9_at_78 : decode cX9_at 78 = .ok (.iconst 2, 1) := by decide +kernel
theorem dX9_at_79 : decode cX9_at 79 = .ok (.invokevirtual 98, 3) := by decide +kernel
theorem dX9_at_82 : decode cX9_at 82 = .ok (.i2l, 1) := by decide +kernel
theorem dX9_at_83 : decode cX9_at 83 = .ok (.aload 4, 2) := by decide +kernel
theorem dX9_at_85 : decode cX9_at 85 = .ok (.iload 5, 2) := by decide +kernel
theorem dX9_at_87 : decode cX9_at 87 = .ok (.iconst 3, 1) := by decide +kernel
theorem dX9_at_88 : decode cX9_at 88 = .ok (.invokevirtual 98, 3) := by decide +kernel
theorem dX9_at_91 : decode cX9_at 91 = .ok (.i2l, 1) := by decide +kernel
theorem dX9_at_92 : decode cX9_at 92 = .ok (.invokevirtual 293, 3) := by decide +kernel
theorem dX9_at_95 : decode cX9_at 95 = .ok (.aload 4, 2) := by decide +kernel
theorem dX9_at_97 : decode cX9_at 97 = .ok (.iload 5, 2) := by decide +kernel
theorem dX9_at_99 : decode cX9_at 99 = .ok (.iconst 1, 1) := by decide +kernel
theorem dX9_at_100 : decode cX9_at 100 = .ok (.invokevirtual 98, 3) := by decide +kernel
theorem dX9_at_103 : decode cX9_at 103 = .ok (.ireturn, 1) := by decide +kernel
theorem dX9_at_104 : decode cX9_at 104 = .ok (.iinc 5 1, 3) := by decide +kernel
theorem dX9_at_107 : decode cX9_at 107 = .ok (.goto (-71), 3) := by decide +kernel
theorem dX9_at_110 : decode cX9_at 110 = .ok (.bipush (-2), 2) := by decide +kernel
theorem dX9_at_112 : decode cX9_at 112 = .ok (.ireturn, 1) := by decide +kernel
theorem dX9_slice_0 : decode cX9_slice 0 = .ok (.iload_n 1, 1) := by decide +kernel
theorem dX9_slice_1 : decode cX9_slice 1 = .ok (.invokestatic 83, 3) := by decide +kernel
theorem dX9_slice_4 : decode cX9_slice 4 = .ok (.ifCond .eq 10, 3) := by decide +kernel
theorem dX9_slice_7 : decode cX9_slice 7 = .ok (.iload_n 2, 1) := by decide +kernel
theorem dX9_slice_8 : decode cX9_slice 8 = .ok (.invokestatic 287, 3) := by decide +kernel
theorem dX9_slice_11 : decode cX9_slice 11 = .ok (.ifCond .ne 5, 3) := by decide +kernel
theorem dX9_slice_14 : decode cX9_slice 14 = .ok (.iconst (-1), 1) := by decide +kernel
theorem dX9_slice_15 : decode cX9_slice 15 = .ok (.ireturn, 1) := by decide +kernel
theorem dX9_slice_16 : decode cX9_slice 16 = .ok (.aload_n 0, 1) := by decide +kernel
theorem dX9_slice_17 : decode cX9_slice 17 = .ok (.getfield 10, 3) := by decide +kernel
theorem dX9_slice_20 : decode cX9_slice 20 = .ok (.iload_n 1, 1) := by decide +kernel
theorem dX9_slice_21 : decode cX9_slice 21 = .ok (.invokevirtual 86, 3) := by decide +kernel
theorem dX9_slice_24 : decode cX9_slice 24 = .ok (.astore_n 3, 1) := by decide +kernel
theorem dX9_slice_25 : decode cX9_slice 25 = .ok (.iconst 0, 1) := by decide +kernel
theorem dX9_slice_26 : decode cX9_slice 26 = .ok (.istore 4, 2) := by decide +kernel
theorem dX9_slice_28 : decode cX9_slice 28 = .ok (.aload_n 0, 1) := by decide +kernel
theorem dX9_slice_29 : decode cX9_slice 29 = .ok (.getfield 40, 3) := by decide +kernel
theorem dX9_slice_32 : decode cX9_slice 32 = .ok (.invokevirtual 296, 3) := by decide +kernel
theorem dX9_slice_35 : decode cX9_slice 35 = .ok (.iconst 0, 1) := by decide +kernel
theorem dX9_slice_36 : decode cX9_slice 36 = .ok (.istore 5, 2) := by decide +kernel
theorem dX9_slice_38 : decode cX9_slice 38 = .ok (.iload 5, 2) := by decide +kernel
theorem dX9_slice_40 : decode cX9_slice 40 = .ok (.aload_n 3, 1) := by decide +kernel
theorem dX9_slice_41 : decode cX9_slice 41 = .ok (.getfield 106, 3) := by decide +kernel
theorem dX9_slice_44 : decode cX9_slice 44 = .ok (.if_icmp .ge 51, 3) := by decide +kernel
theorem dX9_slice_47 : decode cX9_slice 47 = .ok (.aload_n 3, 1) := by decide +kernel
theorem dX9_slice_48 : decode cX9_slice 48 = .ok (.iload 5, 2) := by decide +kernel
theorem dX9_slice_50 : decode cX9_slice 50 = .ok (.iload_n 2, 1) := by decide +kernel
theorem dX9_slice_51 : decode cX9_slice 51 = .ok (.iload_n 2, 1) := by decide +kernel
theorem dX9_slice_52 : decode cX9_slice 52 = .ok (.iconst 1, 1) := by decide +kernel
theorem dX9_slice_53 : decode cX9_slice 53 = .ok (.iadd, 1) := by decide +kernel
theorem dX9_slice_54 : decode cX9_slice 54 = .ok (.invokevirtual 297, 3) := by decide +kernel
theorem dX9_slice_57 : decode cX9_slice 57 = .ok (.ifCond .le 32, 3) := by decide +kernel
theorem dX9_slice_60 : decode cX9_slice 60 = .ok (.iload 4, 2) := by decide +kernel
theorem dX9_slice_62 : decode cX9_slice 62 = .ok (.iconst 1, 1) := by decide +kernel
theorem dX9_slice_63 : decode cX9_slice 63 = .ok (.aload_n 3, 1) := by decide +kernel
theorem dX9_slice_64 : decode cX9_slice 64 = .ok (.iload 5, 2) := by decide +kernel
theorem dX9_slice_66 : decode cX9_slice 66 = .ok (.iconst 0, 1) := by decide +kernel
theorem dX9_slice_67 : decode cX9_slice 67 = .ok (.invokevirtual 98, 3) := by decide +kernel
theorem dX9_slice_70 : decode cX9_slice 70 = .ok (.ishl, 1) := by decide +kernel
theorem dX9_slice_71 : decode cX9_slice 71 = .ok (.ior, 1) := by decide +kernel
theorem dX9_slice_72 : decode cX9_slice 72 = .ok (.istore 4, 2) := by decide +kernel
theorem dX9_slice_74 : decode cX9_slice 74 = .ok (.aload_n 0, 1) := by decide +kernel
theorem dX9_slice_75 : decode cX9_slice 75 = .ok (.getfield 40, 3) := by decide +kernel
theorem dX9_slice_78 : decode cX9_slice 78 = .ok (.aload_n 3, 1) := by decide +kernel
theorem dX9_slice_79 : decode cX9_slice 79 = .ok (.iload 5, 2) := by decide +kernel
theorem dX9_slice_81 : decode cX9_slice 81 = .ok (.iconst 1, 1) := by decide +kernel
theorem dX9_slice_82 : decode cX9_slice 82 = .ok (.invokevirtual 98, 3) := by decide +kernel
theorem dX9_slice_85 : decode cX9_slice 85 = .ok (.i2l, 1) := by decide +kernel
theorem dX9_slice_86 : decode cX9_slice 86 = .ok (.invokevirtual 300, 3) := by decide +kernel
theorem dX9_slice_89 : decode cX9_slice 89 = .ok (.iinc 5 1, 3) := by decide +kernel
theorem dX9_slice_92 : decode cX9_slice 92 = .ok (.goto (-54), 3) := by decide +kernel
theorem dX9_slice_95 : decode cX9_slice 95 = .ok (.iload 4, 2) := by decide +kernel
theorem dX9_slice_97 : decode cX9_slice 97 = .ok (.ireturn, 1) := by decide +kernel
theorem dX9_gaps_0 : decode cX9_gaps 0 = .ok (.iload_n 1, 1) := by decide +kernel
theorem dX9_gaps_1 : decode cX9_gaps 1 = .ok (.iload_n 2, 1) := by decide +kernel
theorem dX9_gaps_2 : decode cX9_gaps 2 = .ok (.iload_n 3, 1) := by decide +kernel
theorem dX9_gaps_3 : decode cX9_gaps 3 = .ok (.iload 4, 2) := by decide +kernel
theorem dX9_gaps_5 : decode cX9_gaps 5 = .ok (.invokestatic 194, 3) := by decide +kernel
theorem dX9_gaps_8 : decode cX9_gaps 8 = .ok (.ifCond .ne 5, 3) := by decide +kernel
theorem dX9_gaps_11 : decode cX9_gaps 11 = .ok (.iconst (-1), 1) := by decide +kernel
theorem dX9_gaps_12 : decode cX9_gaps 12 = .ok (.ireturn, 1) := by decide +kernel
theorem dX9_gaps_13 : decode cX9_gaps 13 = .ok (.aload_n 0, 1) := by decide +kernel
theorem dX9_gaps_14 : decode cX9_gaps 14 = .ok (.getfield 10, 3) := by decide +kernel
theorem dX9_gaps_17 : decode cX9_gaps 17 = .ok (.iload_n 1, 1) := by decide +kernel
theorem dX9_gaps_18 : decode cX9_gaps 18 = .ok (.invokevirtual 86, 3) := by decide +kernel
theorem dX9_gaps_21 : decode cX9_gaps 21 = .ok (.astore 5, 2) := by decide +kernel
theorem dX9_gaps_23 : decode cX9_gaps 23 = .ok (.iload 4, 2) := by decide +kernel
theorem dX9_gaps_25 : decode cX9_gaps 25 = .ok (.iload_n 3, 1) := by decide +kernel
theorem dX9_gaps_26 : decode cX9_gaps 26 = .ok (.isub, 1) := by decide +kernel
theorem dX9_gaps_27 : decode cX9_gaps 27 = .ok (.aload 5, 2) := by decide +kernel
theorem dX9_gaps_29 : decode cX9_gaps 29 = .ok (.iload_n 2, 1) := by decide +kernel
theorem dX9_gaps_30 : decode cX9_gaps 30 = .ok (.iload_n 3, 1) := by decide +kernel
theorem dX9_gaps_31 : decode cX9_gaps 31 = .ok (.iload 4, 2) := by decide +kernel
theorem dX9_gaps_33 : decode cX9_gaps 33 = .ok (.invokevirtual 232, 3) := by decide +kernel
theorem dX9_gaps_36 : decode cX9_gaps 36 = .ok (.isub, 1) := by decide +kernel
theorem dX9_gaps_37 : decode cX9_gaps 37 = .ok (.istore 6, 2) := by decide +kernel
theorem dX9_gaps_39 : decode cX9_gaps 39 = .ok (.aload_n 0, 1) := by decide +kernel
theorem dX9_gaps_40 : decode cX9_gaps 40 = .ok (.getfield 40, 3) := by decide +kernel
theorem dX9_gaps_43 : decode cX9_gaps 43 = .ok (.invokevirtual 296, 3) := by decide +kernel
theorem dX9_gaps_46 : decode cX9_gaps 46 = .ok (.iload 6, 2) := by decide +kernel
theorem dX9_gaps_48 : decode cX9_gaps 48 = .ok (.ifCond .le 43, 3) := by decide +kernel
theorem dX9_gaps_51 : decode cX9_gaps 51 = .ok (.aload 5, 2) := by decide +kernel
theorem dX9_gaps_53 : decode cX9_gaps 53 = .ok (.iload_n 2, 1) := by decide +kernel
theorem dX9_gaps_54 : decode cX9_gaps 54 = .ok (.iload_n 3, 1) := by decide +kernel
theorem dX9_gaps_55 : decode cX9_gaps 55 = .ok (.invokevirtual 303, 3) := by decide +kernel
theorem dX9_gaps_58 : decode cX9_gaps 58 = .ok (.istore 7, 2) := by decide +kernel
theorem dX9_gaps_60 : decode cX9_gaps 60 = .ok (.aload_n 0, 1) := by decide +kernel
theorem dX9_gaps_61 : decode cX9_gaps 61 = .ok (.getfield 40, 3) := by decide +kernel
theorem dX9_gaps_64 : decode cX9_gaps 64 = .ok (.iload 7, 2) := by decide +kernel
theorem dX9_gaps_66 : decode cX9_gaps 66 = .ok (.i2l, 1) := by decide +kernel
theorem dX9_gaps_67 : decode cX9_gaps 67 = .ok (.invokevirtual 300, 3) := by decide +kernel
theorem dX9_gaps_70 : decode cX9_gaps 70 = .ok (.aload_n 0, 1) := by decide +kernel
theorem dX9_gaps_71 : decode cX9_gaps 71 = .ok (.getfield 40, 3) := by decide +kernel
theorem dX9_gaps_74 : decode cX9_gaps 74 = .ok (.iload 4, 2) := by decide +kernel
theorem dX9_gaps_76 : decode cX9_gaps 76 = .ok (.aload 5, 2) := by decide +kernel
theorem dX9_gaps_78 : decode cX9_gaps 78 = .ok (.iload_n 2, 1) := by decide +kernel
theorem dX9_gaps_79 : decode cX9_gaps 79 = .ok (.iload 7, 2) := by decide +kernel
theorem dX9_gaps_81 : decode cX9_gaps 81 = .ok (.invokevirtual 306, 3) := by decide +kernel
theorem dX9_gaps_84 : decode cX9_gaps 84 = .ok (.invokestatic 114, 3) := by decide +kernel
theorem dX9_gaps_87 : decode cX9_gaps 87 = .ok (.i2l, 1) := by decide +kernel
theorem dX9_gaps_88 : decode cX9_gaps 88 = .ok (.invokevirtual 300, 3) := by decide +kernel
theorem dX9_gaps_91 : decode cX9_gaps 91 = .ok (.iload 6, 2) := by decide +kernel
theorem dX9_gaps_93 : decode cX9_gaps 93 = .ok (.ireturn, 1) := by decide +kernel
theorem dX9_covers_0 : decode cX9_covers 0 = .ok (.iconst 1, 1) := by decide +kernel
theorem dX9_covers_1 : decode cX9_covers 1 = .ok (.iload_n 1, 1) := by decide +kernel
theorem dX9_covers_2 : decode cX9_covers 2 = .ok (.iload_n 2, 1) := by decide +kernel
theorem dX9_covers_3 : decode cX9_covers 3 = .ok (.iload_n 3, 1) := by decide +kernel
theorem dX9_covers_4 : decode cX9_covers 4 = .ok (.invokestatic 194, 3) := by decide +kernel
theorem dX9_covers_7 : decode cX9_covers 7 = .ok (.ifCond .ne 5, 3) := by decide +kernel
theorem dX9_covers_10 : decode cX9_covers 10 = .ok (.iconst (-1), 1) := by decide +kernel
theorem dX9_covers_11 : decode cX9_covers 11 = .ok (.ireturn, 1) := by decide +kernel
theorem dX9_covers_12 : decode cX9_covers 12 = .ok (.aload_n 0, 1) := by decide +kernel
theorem dX9_covers_13 : decode cX9_covers 13 = .ok (.getfield 40, 3) := by decide +kernel
theorem dX9_covers_16 : decode cX9_covers 16 = .ok (.aload_n 0, 1) := by decide +kernel
theorem dX9_covers_17 : decode cX9_covers 17 = .ok (.getfield 10, 3) := by decide +kernel
theorem dX9_covers_20 : decode cX9_covers 20 = .ok (.getfield 179, 3) := by decide +kernel
theorem dX9_covers_23 : decode cX9_covers 23 = .ok (.iload_n 1, 1) := by decide +kernel
theorem dX9_covers_24 : decode cX9_covers 24 = .ok (.iload_n 2, 1) := by decide +kernel
theorem dX9_covers_25 : decode cX9_covers 25 = .ok (.iload_n 3, 1) := by decide +kernel
theorem dX9_covers_26 : decode cX9_covers 26 = .ok (.invokevirtual 201, 3) := by decide +kernel
theorem dX9_covers_29 : decode cX9_covers 29 = .ok (.i2l, 1) := by decide +kernel
theorem dX9_covers_30 : decode cX9_covers 30 = .ok (.invokevirtual 229, 3) := by decide +kernel
theorem dX9_covers_33 : decode cX9_covers 33 = .ok (.aload_n 0, 1) := by decide +kernel
theorem dX9_covers_34 : decode cX9_covers 34 = .ok (.getfield 10, 3) := by decide +kernel
theorem dX9_covers_37 : decode cX9_covers 37 = .ok (.getfield 179, 3) := by decide +kernel
theorem dX9_covers_40 : decode cX9_covers 40 = .ok (.iload_n 1, 1) := by decide +kernel
theorem dX9_covers_41 : decode cX9_covers 41 = .ok (.iload_n 2, 1) := by decide +kernel
theorem dX9_covers_42 : decode cX9_covers 42 = .ok (.iload_n 3, 1) := by decide +kernel
theorem dX9_covers_43 : decode cX9_covers 43 = .ok (.invokevirtual 232, 3) := by decide +kernel
theorem dX9_covers_46 : decode cX9_covers 46 = .ok (.iload_n 3, 1) := by decide +kernel
theorem dX9_covers_47 : decode cX9_covers 47 = .ok (.iload_n 2, 1) := by decide +kernel
theorem dX9_covers_48 : decode cX9_covers 48 = .ok (.isub, 1) := by decide +kernel
theorem dX9_covers_49 : decode cX9_covers 49 = .ok (.if_icmp .ne 7, 3) := by decide +kernel
theorem dX9_covers_52 : decode cX9_covers 52 = .ok (.iconst 1, 1) := by decide +kernel
theorem dX9_covers_53 : decode cX9_covers 53 = .ok (.goto 4, 3) := by decide +kernel
theorem dX9_covers_56 : decode cX9_covers 56 = .ok (.iconst 0, 1) := by decide +kernel
theorem dX9_covers_57 : decode cX9_covers 57 = .ok (.ireturn, 1) := by decide +kernel
theorem dX9_lies_0 : decode cX9_lies 0 = .ok (.iload_n 1, 1) := by decide +kernel
theorem dX9_lies_1 : decode cX9_lies 1 = .ok (.invokestatic 83, 3) := by decide +kernel
theorem dX9_lies_4 : decode cX9_lies 4 = .ok (.ifCond .eq 41, 3) := by decide +kernel
theorem dX9_lies_7 : decode cX9_lies 7 = .ok (.iload_n 3, 1) := by decide +kernel
theorem dX9_lies_8 : decode cX9_lies 8 = .ok (.invokestatic 83, 3) := by decide +kernel
theorem dX9_lies_11 : decode cX9_lies 11 = .ok (.ifCond .eq 34, 3) := by decide +kernel
theorem dX9_lies_14 : decode cX9_lies 14 = .ok (.aload_n 0, 1) := by decide +kernel
theorem dX9_lies_15 : decode cX9_lies 15 = .ok (.getfield 10, 3) := by decide +kernel
theorem dX9_lies_18 : decode cX9_lies 18 = .ok (.iload_n 1, 1) := by decide +kernel
theorem dX9_lies_19 : decode cX9_lies 19 = .ok (.invokevirtual 86, 3) := by decide +kernel
theorem dX9_lies_22 : decode cX9_lies 22 = .ok (.iload_n 2, 1) := by decide +kernel
theorem dX9_lies_23 : decode cX9_lies 23 = .ok (.invokevirtual 90, 3) := by decide +kernel
theorem dX9_lies_26 : decode cX9_lies 26 = .ok (.ifCond .eq 19, 3) := by decide +kernel
theorem dX9_lies_29 : decode cX9_lies 29 = .ok (.aload_n 0, 1) := by decide +kernel
theorem dX9_lies_30 : decode cX9_lies 30 = .ok (.getfield 10, 3) := by decide +kernel
theorem dX9_lies_33 : decode cX9_lies 33 = .ok (.iload_n 3, 1) := by decide +kernel
theorem dX9_lies_34 : decode cX9_lies 34 = .ok (.invokevirtual 86, 3) := by decide +kernel
theorem dX9_lies_37 : decode cX9_lies 37 = .ok (.iload 4, 2) := by decide +kernel
theorem dX9_lies_39 : decode cX9_lies 39 = .ok (.invokevirtual 90, 3) := by decide +kernel
theorem dX9_lies_42 : decode cX9_lies 42 = .ok (.ifCond .ne 5, 3) := by decide +kernel
theorem dX9_lies_45 : decode cX9_lies 45 = .ok (.iconst (-1), 1) := by decide +kernel
theorem dX9_lies_46 : decode cX9_lies 46 = .ok (.ireturn, 1) := by decide +kernel
theorem dX9_lies_47 : decode cX9_lies 47 = .ok (.aload_n 0, 1) := by decide +kernel
theorem dX9_lies_48 : decode cX9_lies 48 = .ok (.getfield 10, 3) := by decide +kernel
theorem dX9_lies_51 : decode cX9_lies 51 = .ok (.iload_n 1, 1) := by decide +kernel
theorem dX9_lies_52 : decode cX9_lies 52 = .ok (.invokevirtual 86, 3) := by decide +kernel
theorem dX9_lies_55 : decode cX9_lies 55 = .ok (.iload_n 2, 1) := by decide +kernel
theorem dX9_lies_56 : decode cX9_lies 56 = .ok (.iconst 2, 1) := by decide +kernel
theorem dX9_lies_57 : decode cX9_lies 57 = .ok (.invokevirtual 98, 3) := by decide +kernel
theorem dX9_lies_60 : decode cX9_lies 60 = .ok (.istore 5, 2) := by decide +kernel
theorem dX9_lies_62 : decode cX9_lies 62 = .ok (.aload_n 0, 1) := by decide +kernel
theorem dX9_lies_63 : decode cX9_lies 63 = .ok (.getfield 10, 3) := by decide +kernel
theorem dX9_lies_66 : decode cX9_lies 66 = .ok (.iload_n 1, 1) := by decide +kernel
theorem dX9_lies_67 : decode cX9_lies 67 = .ok (.invokevirtual 86, 3) := by decide +kernel
theorem dX9_lies_70 : decode cX9_lies 70 = .ok (.iload_n 2, 1) := by decide +kernel
theorem dX9_lies_71 : decode cX9_lies 71 = .ok (.iconst 3, 1) := by decide +kernel
theorem dX9_lies_72 : decode cX9_lies 72 = .ok (.invokevirtual 98, 3) := by decide +kernel
theorem dX9_lies_75 : decode cX9_lies 75 = .ok (.istore 6, 2) := by decide +kernel
theorem dX9_lies_77 : decode cX9_lies 77 = .ok (.aload_n 0, 1) := by decide +kernel
theorem dX9_lies_78 : decode cX9_lies 78 = .ok (.getfield 40, 3) := by decide +kernel
theorem dX9_lies_81 : decode cX9_lies 81 = .ok (.aload_n 0, 1) := by decide +kernel
theorem dX9_lies_82 : decode cX9_lies 82 = .ok (.getfield 10, 3) := by decide +kernel
theorem dX9_lies_85 : decode cX9_lies 85 = .ok (.iload_n 3, 1) := by decide +kernel
theorem dX9_lies_86 : decode cX9_lies 86 = .ok (.invokevirtual 86, 3) := by decide +kernel
theorem dX9_lies_89 : decode cX9_lies 89 = .ok (.iload 4, 2) := by decide +kernel
theorem dX9_lies_91 : decode cX9_lies 91 = .ok (.iload 5, 2) := by decide +kernel
theorem dX9_lies_93 : decode cX9_lies 93 = .ok (.iload 6, 2) := by decide +kernel
theorem dX9_lies_95 : decode cX9_lies 95 = .ok (.invokevirtual 297, 3) := by decide +kernel
theorem dX9_lies_98 : decode cX9_lies 98 = .ok (.i2l, 1) := by decide +kernel
theorem dX9_lies_99 : decode cX9_lies 99 = .ok (.invokevirtual 229, 3) := by decide +kernel
theorem dX9_lies_102 : decode cX9_lies 102 = .ok (.iload 5, 2) := by decide +kernel
theorem dX9_lies_104 : decode cX9_lies 104 = .ok (.iload 6, 2) := by decide +kernel
theorem dX9_lies_106 : decode cX9_lies 106 = .ok (.aload_n 0, 1) := by decide +kernel
theorem dX9_lies_107 : decode cX9_lies 107 = .ok (.getfield 10, 3) := by decide +kernel
theorem dX9_lies_110 : decode cX9_lies 110 = .ok (.iload_n 3, 1) := by decide +kernel
theorem dX9_lies_111 : decode cX9_lies 111 = .ok (.invokevirtual 86, 3) := by decide +kernel
theorem dX9_lies_114 : decode cX9_lies 114 = .ok (.iload 4, 2) := by decide +kernel
theorem dX9_lies_116 : decode cX9_lies 116 = .ok (.iconst 2, 1) := by decide +kernel
theorem dX9_lies_117 : decode cX9_lies 117 = .ok (.invokevirtual 98, 3) := by decide +kernel
theorem dX9_lies_120 : decode cX9_lies 120 = .ok (.aload_n 0, 1) := by decide +kernel
theorem dX9_lies_121 : decode cX9_lies 121 = .ok (.getfield 10, 3) := by decide +kernel
theorem dX9_lies_124 : decode cX9_lies 124 = .ok (.iload_n 3, 1) := by decide +kernel
theorem dX9_lies_125 : decode cX9_lies 125 = .ok (.invokevirtual 86, 3) := by decide +kernel
theorem dX9_lies_128 : decode cX9_lies 128 = .ok (.iload 4, 2) := by decide +kernel
theorem dX9_lies_130 : decode cX9_lies 130 = .ok (.iconst 3, 1) := by decide +kernel
theorem dX9_lies_131 : decode cX9_lies 131 = .ok (.invokevirtual 98, 3) := by decide +kernel
theorem dX9_lies_134 : decode cX9_lies 134 = .ok (.invokestatic 309, 3) := by decide +kernel
theorem dX9_lies_137 : decode cX9_lies 137 = .ok (.ireturn, 1) := by decide +kernel
theorem dX9_positionOf_0 : decode cX9_positionOf 0 = .ok (.iload_n 1, 1) := by decide +kernel
theorem dX9_positionOf_1 : decode cX9_positionOf 1 = .ok (.iload_n 2, 1) := by decide +kernel
theorem dX9_positionOf_2 : decode cX9_positionOf 2 = .ok (.if_icmp .gt 14, 3) := by decide +kernel
theorem dX9_positionOf_5 : decode cX9_positionOf 5 = .ok (.iload_n 1, 1) := by decide +kernel
theorem dX9_positionOf_6 : decode cX9_positionOf 6 = .ok (.iload_n 2, 1) := by decide +kernel
theorem dX9_positionOf_7 : decode cX9_positionOf 7 = .ok (.if_icmp .ge 7, 3) := by decide +kernel
theorem dX9_positionOf_10 : decode cX9_positionOf 10 = .ok (.iconst 0, 1) := by decide +kernel
theorem dX9_positionOf_11 : decode cX9_positionOf 11 = .ok (.goto 4, 3) := by decide +kernel
theorem dX9_positionOf_14 : decode cX9_positionOf 14 = .ok (.iconst 1, 1) := by decide +kernel
theorem dX9_positionOf_15 : decode cX9_positionOf 15 = .ok (.ireturn, 1) := by decide +kernel
theorem dX9_positionOf_16 : decode cX9_positionOf 16 = .ok (.iload_n 3, 1) := by decide +kernel
theorem dX9_positionOf_17 : decode cX9_positionOf 17 = .ok (.iload_n 0, 1) := by decide +kernel
theorem dX9_positionOf_18 : decode cX9_positionOf 18 = .ok (.if_icmp .gt 16, 3) := by decide +kernel
theorem dX9_positionOf_21 : decode cX9_positionOf 21 = .ok (.iload_n 3, 1) := by decide +kernel
theorem dX9_positionOf_22 : decode cX9_positionOf 22 = .ok (.iload_n 0, 1) := by decide +kernel
theorem dX9_positionOf_23 : decode cX9_positionOf 23 = .ok (.if_icmp .ge 8, 3) := by decide +kernel
theorem dX9_positionOf_26 : decode cX9_positionOf 26 = .ok (.bipush 12, 2) := by decide +kernel
theorem dX9_positionOf_28 : decode cX9_positionOf 28 = .ok (.goto 5, 3) := by decide +kernel
theorem dX9_positionOf_31 : decode cX9_positionOf 31 = .ok (.bipush 11, 2) := by decide +kernel
theorem dX9_positionOf_33 : decode cX9_positionOf 33 = .ok (.ireturn, 1) := by decide +kernel
theorem dX9_positionOf_34 : decode cX9_positionOf 34 = .ok (.iload_n 0, 1) := by decide +kernel
theorem dX9_positionOf_35 : decode cX9_positionOf 35 = .ok (.iload_n 2, 1) := by decide +kernel
theorem dX9_positionOf_36 : decode cX9_positionOf 36 = .ok (.if_icmp .ge 25, 3) := by decide +kernel
theorem dX9_positionOf_39 : decode cX9_positionOf 39 = .ok (.iload_n 1, 1) := by decide +kernel
theorem dX9_positionOf_40 : decode cX9_positionOf 40 = .ok (.iload_n 3, 1) := by decide +kernel
theorem dX9_positionOf_41 : decode cX9_positionOf 41 = .ok (.if_icmp .ge 7, 3) := by decide +kernel
theorem dX9_positionOf_44 : decode cX9_positionOf 44 = .ok (.iconst 2, 1) := by decide +kernel
theorem dX9_positionOf_45 : decode cX9_positionOf 45 = .ok (.goto 15, 3) := by decide +kernel
theorem dX9_positionOf_48 : decode cX9_positionOf 48 = .ok (.iload_n 1, 1) := by decide +kernel
theorem dX9_positionOf_49 : decode cX9_positionOf 49 = .ok (.iload_n 3, 1) := by decide +kernel
theorem dX9_positionOf_50 : decode cX9_positionOf 50 = .ok (.if_icmp .ne 8, 3) := by decide +kernel
theorem dX9_positionOf_53 : decode cX9_positionOf 53 = .ok (.bipush 7, 2) := by decide +kernel
theorem dX9_positionOf_55 : decode cX9_positionOf 55 = .ok (.goto 5, 3) := by decide +kernel
theorem dX9_positionOf_58 : decode cX9_positionOf 58 = .ok (.bipush 8, 2) := by decide +kernel
theorem dX9_positionOf_60 : decode cX9_positionOf 60 = .ok (.ireturn, 1) := by decide +kernel
theorem dX9_positionOf_61 : decode cX9_positionOf 61 = .ok (.iload_n 0, 1) := by decide +kernel
theorem dX9_positionOf_62 : decode cX9_positionOf 62 = .ok (.iload_n 2, 1) := by decide +kernel
theorem dX9_positionOf_63 : decode cX9_positionOf 63 = .ok (.if_icmp .ne 25, 3) := by decide +kernel
theorem dX9_positionOf_66 : decode cX9_positionOf 66 = .ok (.iload_n 1, 1) := by decide +kernel
theorem dX9_positionOf_67 : decode cX9_positionOf 67 = .ok (.iload_n 3, 1) := by decide +kernel
theorem dX9_positionOf_68 : decode cX9_positionOf 68 = .ok (.if_icmp .ge 7, 3) := by decide +kernel
theorem dX9_positionOf_71 : decode cX9_positionOf 71 = .ok (.iconst 3, 1) := by decide +kernel
theorem dX9_positionOf_72 : decode cX9_positionOf 72 = .ok (.goto 15, 3) := by decide +kernel
theorem dX9_positionOf_75 : decode cX9_positionOf 75 = .ok (.iload_n 1, 1) := by decide +kernel
theorem dX9_positionOf_76 : decode cX9_positionOf 76 = .ok (.iload_n 3, 1) := by decide +kernel
theorem dX9_positionOf_77 : decode cX9_positionOf 77 = .ok (.if_icmp .ne 8, 3) := by decide +kernel
theorem dX9_positionOf_80 : decode cX9_positionOf 80 = .ok (.bipush 6, 2) := by decide +kernel
theorem dX9_positionOf_82 : decode cX9_positionOf 82 = .ok (.goto 5, 3) := by decide +kernel
theorem dX9_positionOf_85 : decode cX9_positionOf 85 = .ok (.bipush 9, 2) := by decide +kernel
theorem dX9_positionOf_87 : decode cX9_positionOf 87 = .ok (.ireturn, 1) := by decide +kernel
theorem dX9_positionOf_88 : decode cX9_positionOf 88 = .ok (.iload_n 1, 1) := by decide +kernel
theorem dX9_positionOf_89 : decode cX9_positionOf 89 = .ok (.iload_n 3, 1) := by decide +kernel
theorem dX9_positionOf_90 : decode cX9_positionOf 90 = .ok (.if_icmp .ge 7, 3) := by decide +kernel
theorem dX9_positionOf_93 : decode cX9_positionOf 93 = .ok (.iconst 4, 1) := by decide +kernel
theorem dX9_positionOf_94 : decode cX9_positionOf 94 = .ok (.goto 14, 3) := by decide +kernel
theorem dX9_positionOf_97 : decode cX9_positionOf 97 = .ok (.iload_n 1, 1) := by decide +kernel
theorem dX9_positionOf_98 : decode cX9_positionOf 98 = .ok (.iload_n 3, 1) := by decide +kernel
theorem dX9_positionOf_99 : decode cX9_positionOf 99 = .ok (.if_icmp .ne 7, 3) := by decide +kernel
theorem dX9_positionOf_102 : decode cX9_positionOf 102 = .ok (.iconst 5, 1) := by decide +kernel
theorem dX9_positionOf_103 : decode cX9_positionOf 103 = .ok (.goto 5, 3) := by decide +kernel
theorem dX9_positionOf_106 : decode cX9_positionOf 106 = .ok (.bipush 10, 2) := by decide +kernel
theorem dX9_positionOf_108 : decode cX9_positionOf 108 = .ok (.ireturn, 1) := by decide +kernel
theorem dX9_changes_0 : decode cX9_changes 0 = .ok (.iload_n 1, 1) := by decide +kernel
theorem dX9_changes_1 : decode cX9_changes 1 = .ok (.invokestatic 83, 3) := by decide +kernel
theorem dX9_changes_4 : decode cX9_changes 4 = .ok (.ifCond .eq 10, 3) := by decide +kernel
theorem dX9_changes_7 : decode cX9_changes 7 = .ok (.iload_n 2, 1) := by decide +kernel
theorem dX9_changes_8 : decode cX9_changes 8 = .ok (.invokestatic 244, 3) := by decide +kernel
theorem dX9_changes_11 : decode cX9_changes 11 = .ok (.ifCond .ne 5, 3) := by decide +kernel
theorem dX9_changes_14 : decode cX9_changes 14 = .ok (.iconst (-1), 1) := by decide +kernel
theorem dX9_changes_15 : decode cX9_changes 15 = .ok (.ireturn, 1) := by decide +kernel
theorem dX9_changes_16 : decode cX9_changes 16 = .ok (.aload_n 0, 1) := by decide +kernel
theorem dX9_changes_17 : decode cX9_changes 17 = .ok (.getfield 10, 3) := by decide +kernel
theorem dX9_changes_20 : decode cX9_changes 20 = .ok (.iload_n 1, 1) := by decide +kernel
theorem dX9_changes_21 : decode cX9_changes 21 = .ok (.invokevirtual 86, 3) := by decide +kernel
theorem dX9_changes_24 : decode cX9_changes 24 = .ok (.astore_n 3, 1) := by decide +kernel
theorem dX9_changes_25 : decode cX9_changes 25 = .ok (.iconst 0, 1) := by decide +kernel
theorem dX9_changes_26 : decode cX9_changes 26 = .ok (.istore 4, 2) := by decide +kernel
theorem dX9_changes_28 : decode cX9_changes 28 = .ok (.aload_n 0, 1) := by decide +kernel
theorem dX9_changes_29 : decode cX9_changes 29 = .ok (.getfield 40, 3) := by decide +kernel
theorem dX9_changes_32 : decode cX9_changes 32 = .ok (.invokevirtual 296, 3) := by decide +kernel
theorem dX9_changes_35 : decode cX9_changes 35 = .ok (.iconst 1, 1) := by decide +kernel
theorem dX9_changes_36 : decode cX9_changes 36 = .ok (.istore 5, 2) := by decide +kernel
theorem dX9_changes_38 : decode cX9_changes 38 = .ok (.iload 5, 2) := by decide +kernel
theorem dX9_changes_40 : decode cX9_changes 40 = .ok (.aload_n 3, 1) := by decide +kernel
theorem dX9_changes_41 : decode cX9_changes 41 = .ok (.getfield 106, 3) := by decide +kernel
theorem dX9_changes_44 : decode cX9_changes 44 = .ok (.if_icmp .ge 66, 3) := by decide +kernel
theorem dX9_changes_47 : decode cX9_changes 47 = .ok (.aload_n 3, 1) := by decide +kernel
theorem dX9_changes_48 : decode cX9_changes 48 = .ok (.iload 5, 2) := by decide +kernel
theorem dX9_changes_50 : decode cX9_changes 50 = .ok (.iconst 0, 1) := by decide +kernel
theorem dX9_changes_51 : decode cX9_changes 51 = .ok (.invokevirtual 98, 3) := by decide +kernel
theorem dX9_changes_54 : decode cX9_changes 54 = .ok (.iload_n 2, 1) := by decide +kernel
theorem dX9_changes_55 : decode cX9_changes 55 = .ok (.if_icmp .ne 49, 3) := by decide +kernel
theorem dX9_changes_58 : decode cX9_changes 58 = .ok (.aload_n 3, 1) := by decide +kernel
theorem dX9_changes_59 : decode cX9_changes 59 = .ok (.iload 5, 2) := by decide +kernel
theorem dX9_changes_61 : decode cX9_changes 61 = .ok (.invokevirtual 312, 3) := by decide +kernel
theorem dX9_changes_64 : decode cX9_changes 64 = .ok (.ifCond .eq 40, 3) := by decide +kernel
theorem dX9_changes_67 : decode cX9_changes 67 = .ok (.aload_n 3, 1) := by decide +kernel
theorem dX9_changes_68 : decode cX9_changes 68 = .ok (.iload 5, 2) := by decide +kernel
theorem dX9_changes_70 : decode cX9_changes 70 = .ok (.iconst 1, 1) := by decide +kernel
theorem dX9_changes_71 : decode cX9_changes 71 = .ok (.invokevirtual 98, 3) := by decide +kernel
theorem dX9_changes_74 : decode cX9_changes 74 = .ok (.aload_n 3, 1) := by decide +kernel
theorem dX9_changes_75 : decode cX9_changes 75 = .ok (.iload 5, 2) := by decide +kernel
theorem dX9_changes_77 : decode cX9_changes 77 = .ok (.iconst 1, 1) := by decide +kernel
theorem dX9_changes_78 : decode cX9_changes 78 = .ok (.isub, 1) := by decide +kernel
theorem dX9_changes_79 : decode cX9_changes 79 = .ok (.iconst 1, 1) := by decide +kernel
theorem dX9_changes_80 : decode cX9_changes 80 = .ok (.invokevirtual 98, 3) := by decide +kernel
theorem dX9_changes_83 : decode cX9_changes 83 = .ok (.if_icmp .eq 21, 3) := by decide +kernel
theorem dX9_changes_86 : decode cX9_changes 86 = .ok (.iinc 4 1, 3) := by decide +kernel
theorem dX9_changes_89 : decode cX9_changes 89 = .ok (.aload_n 0, 1) := by decide +kernel
theorem dX9_changes_90 : decode cX9_changes 90 = .ok (.getfield 40, 3) := by decide +kernel
theorem dX9_changes_93 : decode cX9_changes 93 = .ok (.aload_n 3, 1) := by decide +kernel
theorem dX9_changes_94 : decode cX9_changes 94 = .ok (.iload 5, 2) := by decide +kernel
theorem dX9_changes_96 : decode cX9_changes 96 = .ok (.iconst 2, 1) := by decide +kernel
theorem dX9_changes_97 : decode cX9_changes 97 = .ok (.invokevirtual 98, 3) := by decide +kernel
theorem dX9_changes_100 : decode cX9_changes 100 = .ok (.i2l, 1) := by decide +kernel
theorem dX9_changes_101 : decode cX9_changes 101 = .ok (.invokevirtual 300, 3) := by decide +kernel
theorem dX9_changes_104 : decode cX9_changes 104 = .ok (.iinc 5 1, 3) := by decide +kernel
theorem dX9_changes_107 : decode cX9_changes 107 = .ok (.goto (-69), 3) := by decide +kernel
theorem dX9_changes_110 : decode cX9_changes 110 = .ok (.iload 4, 2) := by decide +kernel
theorem dX9_changes_112 : decode cX9_changes 112 = .ok (.ireturn, 1) := by decide +kernel
theorem dX9_rows_0 : decode cX9_rows 0 = .ok (.iload_n 1, 1) := by decide +kernel
theorem dX9_rows_1 : decode cX9_rows 1 = .ok (.invokestatic 83, 3) := by decide +kernel
theorem dX9_rows_4 : decode cX9_rows 4 = .ok (.ifCond .ne 5, 3) := by decide +kernel
theorem dX9_rows_7 : decode cX9_rows 7 = .ok (.iconst (-1), 1) := by decide +kernel
theorem dX9_rows_8 : decode cX9_rows 8 = .ok (.ireturn, 1) := by decide +kernel
theorem dX9_rows_9 : decode cX9_rows 9 = .ok (.aload_n 0, 1) := by decide +kernel
theorem dX9_rows_10 : decode cX9_rows 10 = .ok (.getfield 10, 3) := by decide +kernel
theorem dX9_rows_13 : decode cX9_rows 13 = .ok (.iload_n 1, 1) := by decide +kernel
theorem dX9_rows_14 : decode cX9_rows 14 = .ok (.invokevirtual 86, 3) := by decide +kernel
theorem dX9_rows_17 : decode cX9_rows 17 = .ok (.astore_n 2, 1) := by decide +kernel
theorem dX9_rows_18 : decode cX9_rows 18 = .ok (.aload_n 0, 1) := by decide +kernel
theorem dX9_rows_19 : decode cX9_rows 19 = .ok (.getfield 40, 3) := by decide +kernel
theorem dX9_rows_22 : decode cX9_rows 22 = .ok (.aload_n 2, 1) := by decide +kernel
theorem dX9_rows_23 : decode cX9_rows 23 = .ok (.getfield 106, 3) := by decide +kernel
theorem dX9_rows_26 : decode cX9_rows 26 = .ok (.aload_n 2, 1) := by decide +kernel
theorem dX9_rows_27 : decode cX9_rows 27 = .ok (.invokevirtual 271, 3) := by decide +kernel
theorem dX9_rows_30 : decode cX9_rows 30 = .ok (.isub, 1) := by decide +kernel
theorem dX9_rows_31 : decode cX9_rows 31 = .ok (.i2l, 1) := by decide +kernel
theorem dX9_rows_32 : decode cX9_rows 32 = .ok (.aload_n 2, 1) := by decide +kernel
theorem dX9_rows_33 : decode cX9_rows 33 = .ok (.invokevirtual 315, 3) := by decide +kernel
theorem dX9_rows_36 : decode cX9_rows 36 = .ok (.i2l, 1) := by decide +kernel
theorem dX9_rows_37 : decode cX9_rows 37 = .ok (.invokevirtual 182, 3) := by decide +kernel
theorem dX9_rows_40 : decode cX9_rows 40 = .ok (.aload_n 2, 1) := by decide +kernel
theorem dX9_rows_41 : decode cX9_rows 41 = .ok (.getfield 106, 3) := by decide +kernel
theorem dX9_rows_44 : decode cX9_rows 44 = .ok (.ireturn, 1) := by decide +kernel
theorem dX9_longest_0 : decode cX9_longest 0 = .ok (.iload_n 1, 1) := by decide +kernel
theorem dX9_longest_1 : decode cX9_longest 1 = .ok (.invokestatic 83, 3) := by decide +kernel
theorem dX9_longest_4 : decode cX9_longest 4 = .ok (.ifCond .ne 5, 3) := by decide +kernel
theorem dX9_longest_7 : decode cX9_longest 7 = .ok (.iconst (-1), 1) := by decide +kernel
theorem dX9_longest_8 : decode cX9_longest 8 = .ok (.ireturn, 1) := by decide +kernel
theorem dX9_longest_9 : decode cX9_longest 9 = .ok (.aload_n 0, 1) := by decide +kernel
theorem dX9_longest_10 : decode cX9_longest 10 = .ok (.getfield 10, 3) := by decide +kernel
theorem dX9_longest_13 : decode cX9_longest 13 = .ok (.iload_n 1, 1) := by decide +kernel
theorem dX9_longest_14 : decode cX9_longest 14 = .ok (.invokevirtual 86, 3) := by decide +kernel
theorem dX9_longest_17 : decode cX9_longest 17 = .ok (.astore_n 2, 1) := by decide +kernel
theorem dX9_longest_18 : decode cX9_longest 18 = .ok (.bipush (-2), 2) := by decide +kernel
theorem dX9_longest_20 : decode cX9_longest 20 = .ok (.istore_n 3, 1) := by decide +kernel
theorem dX9_longest_21 : decode cX9_longest 21 = .ok (.iconst 0, 1) := by decide +kernel
theorem dX9_longest_22 : decode cX9_longest 22 = .ok (.istore 4, 2) := by decide +kernel
theorem dX9_longest_24 : decode cX9_longest 24 = .ok (.iconst 0, 1) := by decide +kernel
theorem dX9_longest_25 : decode cX9_longest 25 = .ok (.istore 5, 2) := by decide +kernel
theorem dX9_longest_27 : decode cX9_longest 27 = .ok (.iload 5, 2) := by decide +kernel
theorem dX9_longest_29 : decode cX9_longest 29 = .ok (.aload_n 2, 1) := by decide +kernel
theorem dX9_longest_30 : decode cX9_longest 30 = .ok (.getfield 106, 3) := by decide +kernel
theorem dX9_longest_33 : decode cX9_longest 33 = .ok (.if_icmp .ge 31, 3) := by decide +kernel
theorem dX9_longest_36 : decode cX9_longest 36 = .ok (.aload_n 2, 1) := by decide +kernel
theorem dX9_longest_37 : decode cX9_longest 37 = .ok (.iload 5, 2) := by decide +kernel
theorem dX9_longest_39 : decode cX9_longest 39 = .ok (.invokevirtual 318, 3) := by decide +kernel
theorem dX9_longest_42 : decode cX9_longest 42 = .ok (.istore 6, 2) := by decide +kernel
theorem dX9_longest_44 : decode cX9_longest 44 = .ok (.iload 6, 2) := by decide +kernel
theorem dX9_longest_46 : decode cX9_longest 46 = .ok (.iload 4, 2) := by decide +kernel
theorem dX9_longest_48 : decode cX9_longest 48 = .ok (.if_icmp .le 10, 3) := by decide +kernel
theorem dX9_longest_51 : decode cX9_longest 51 = .ok (.iload 5, 2) := by decide +kernel
theorem dX9_longest_53 : decode cX9_longest 53 = .ok (.istore_n 3, 1) := by decide +kernel
theorem dX9_longest_54 : decode cX9_longest 54 = .ok (.iload 6, 2) := by decide +kernel
theorem dX9_longest_56 : decode cX9_longest 56 = .ok (.istore 4, 2) := by decide +kernel
theorem dX9_longest_58 : decode cX9_longest 58 = .ok (.iinc 5 1, 3) := by decide +kernel
theorem dX9_longest_61 : decode cX9_longest 61 = .ok (.goto (-34), 3) := by decide +kernel
theorem dX9_longest_64 : decode cX9_longest 64 = .ok (.iload_n 3, 1) := by decide +kernel
theorem dX9_longest_65 : decode cX9_longest 65 = .ok (.ifCond .lt 13, 3) := by decide +kernel
theorem dX9_longest_68 : decode cX9_longest 68 = .ok (.aload_n 0, 1) := by decide +kernel
theorem dX9_longest_69 : decode cX9_longest 69 = .ok (.getfield 40, 3) := by decide +kernel
theorem dX9_longest_72 : decode cX9_longest 72 = .ok (.iload 4, 2) := by decide +kernel
theorem dX9_longest_74 : decode cX9_longest 74 = .ok (.i2l, 1) := by decide +kernel
theorem dX9_longest_75 : decode cX9_longest 75 = .ok (.invokevirtual 229, 3) := by decide +kernel
theorem dX9_longest_78 : decode cX9_longest 78 = .ok (.iload_n 3, 1) := by decide +kernel
theorem dX9_longest_79 : decode cX9_longest 79 = .ok (.ireturn, 1) := by decide +kernel
theorem dX9_free_0 : decode cX9_free 0 = .ok (.iload_n 1, 1) := by decide +kernel
theorem dX9_free_1 : decode cX9_free 1 = .ok (.invokestatic 83, 3) := by decide +kernel
theorem dX9_free_4 : decode cX9_free 4 = .ok (.ifCond .eq 30, 3) := by decide +kernel
theorem dX9_free_7 : decode cX9_free 7 = .ok (.iload_n 2, 1) := by decide +kernel
theorem dX9_free_8 : decode cX9_free 8 = .ok (.invokestatic 244, 3) := by decide +kernel
theorem dX9_free_11 : decode cX9_free 11 = .ok (.ifCond .eq 23, 3) := by decide +kernel
theorem dX9_free_14 : decode cX9_free 14 = .ok (.iload_n 3, 1) := by decide +kernel
theorem dX9_free_15 : decode cX9_free 15 = .ok (.invokestatic 287, 3) := by decide +kernel
theorem dX9_free_18 : decode cX9_free 18 = .ok (.ifCond .eq 16, 3) := by decide +kernel
theorem dX9_free_21 : decode cX9_free 21 = .ok (.iload 4, 2) := by decide +kernel
theorem dX9_free_23 : decode cX9_free 23 = .ok (.iconst 1, 1) := by decide +kernel
theorem dX9_free_24 : decode cX9_free 24 = .ok (.if_icmp .lt 10, 3) := by decide +kernel
theorem dX9_free_27 : decode cX9_free 27 = .ok (.iload 4, 2) := by decide +kernel
theorem dX9_free_29 : decode cX9_free 29 = .ok (.bipush 100, 2) := by decide +kernel
theorem dX9_free_31 : decode cX9_free 31 = .ok (.if_icmp .le 5, 3) := by decide +kernel
theorem dX9_free_34 : decode cX9_free 34 = .ok (.iconst (-1), 1) := by decide +kernel
theorem dX9_free_35 : decode cX9_free 35 = .ok (.ireturn, 1) := by decide +kernel
theorem dX9_free_36 : decode cX9_free 36 = .ok (.aload_n 0, 1) := by decide +kernel
theorem dX9_free_37 : decode cX9_free 37 = .ok (.getfield 10, 3) := by decide +kernel
theorem dX9_free_40 : decode cX9_free 40 = .ok (.iload_n 1, 1) := by decide +kernel
theorem dX9_free_41 : decode cX9_free 41 = .ok (.invokevirtual 86, 3) := by decide +kernel
theorem dX9_free_44 : decode cX9_free 44 = .ok (.astore 5, 2) := by decide +kernel
theorem dX9_free_46 : decode cX9_free 46 = .ok (.iload_n 3, 1) := by decide +kernel
theorem dX9_free_47 : decode cX9_free 47 = .ok (.istore 6, 2) := by decide +kernel
theorem dX9_free_49 : decode cX9_free 49 = .ok (.iconst 0, 1) := by decide +kernel
theorem dX9_free_50 : decode cX9_free 50 = .ok (.istore 7, 2) := by decide +kernel
theorem dX9_free_52 : decode cX9_free 52 = .ok (.iload 7, 2) := by decide +kernel
theorem dX9_free_54 : decode cX9_free 54 = .ok (.aload 5, 2) := by decide +kernel
theorem dX9_free_56 : decode cX9_free 56 = .ok (.getfield 106, 3) := by decide +kernel
theorem dX9_free_59 : decode cX9_free 59 = .ok (.if_icmp .ge 37, 3) := by decide +kernel
theorem dX9_free_62 : decode cX9_free 62 = .ok (.aload 5, 2) := by decide +kernel
theorem dX9_free_64 : decode cX9_free 64 = .ok (.iload 7, 2) := by decide +kernel
theorem dX9_free_66 : decode cX9_free 66 = .ok (.iload_n 2, 1) := by decide +kernel
theorem dX9_free_67 : decode cX9_free 67 = .ok (.iload 6, 2) := by decide +kernel
theorem dX9_free_69 : decode cX9_free 69 = .ok (.iload 6, 2) := by decide +kernel
theorem dX9_free_71 : decode cX9_free 71 = .ok (.iload 4, 2) := by decide +kernel
theorem dX9_free_73 : decode cX9_free 73 = .ok (.iadd, 1) := by decide +kernel
theorem dX9_free_74 : decode cX9_free 74 = .ok (.invokevirtual 290, 3) := by decide +kernel
theorem dX9_free_77 : decode cX9_free 77 = .ok (.ifCond .eq 13, 3) := by decide +kernel
theorem dX9_free_80 : decode cX9_free 80 = .ok (.aload 5, 2) := by decide +kernel
theorem dX9_free_82 : decode cX9_free 82 = .ok (.iload 7, 2) := by decide +kernel
theorem dX9_free_84 : decode cX9_free 84 = .ok (.iconst 3, 1) := by decide +kernel
theorem dX9_free_85 : decode cX9_free 85 = .ok (.invokevirtual 98, 3) := by decide +kernel
theorem dX9_free_88 : decode cX9_free 88 = .ok (.istore 6, 2) := by decide +kernel
theorem dX9_free_90 : decode cX9_free 90 = .ok (.iinc 7 1, 3) := by decide +kernel
theorem dX9_free_93 : decode cX9_free 93 = .ok (.goto (-41), 3) := by decide +kernel
theorem dX9_free_96 : decode cX9_free 96 = .ok (.iload 6, 2) := by decide +kernel
theorem dX9_free_98 : decode cX9_free 98 = .ok (.iload 4, 2) := by decide +kernel
theorem dX9_free_100 : decode cX9_free 100 = .ok (.iadd, 1) := by decide +kernel
theorem dX9_free_101 : decode cX9_free 101 = .ok (.bipush 100, 2) := by decide +kernel
theorem dX9_free_103 : decode cX9_free 103 = .ok (.if_icmp .gt 8, 3) := by decide +kernel
theorem dX9_free_106 : decode cX9_free 106 = .ok (.iload 6, 2) := by decide +kernel
theorem dX9_free_108 : decode cX9_free 108 = .ok (.goto 5, 3) := by decide +kernel
theorem dX9_free_111 : decode cX9_free 111 = .ok (.bipush (-2), 2) := by decide +kernel
theorem dX9_free_113 : decode cX9_free 113 = .ok (.ireturn, 1) := by decide +kernel
theorem dX9_meets_0 : decode cX9_meets 0 = .ok (.iload_n 1, 1) := by decide +kernel
theorem dX9_meets_1 : decode cX9_meets 1 = .ok (.iload_n 2, 1) := by decide +kernel
theorem dX9_meets_2 : decode cX9_meets 2 = .ok (.invokestatic 321, 3) := by decide +kernel
theorem dX9_meets_5 : decode cX9_meets 5 = .ok (.ifCond .ne 5, 3) := by decide +kernel
theorem dX9_meets_8 : decode cX9_meets 8 = .ok (.iconst (-1), 1) := by decide +kernel
theorem dX9_meets_9 : decode cX9_meets 9 = .ok (.ireturn, 1) := by decide +kernel
theorem dX9_meets_10 : decode cX9_meets 10 = .ok (.aload_n 0, 1) := by decide +kernel
theorem dX9_meets_11 : decode cX9_meets 11 = .ok (.getfield 64, 3) := by decide +kernel
theorem dX9_meets_14 : decode cX9_meets 14 = .ok (.invokevirtual 324, 3) := by decide +kernel
theorem dX9_meets_17 : decode cX9_meets 17 = .ok (.iconst 0, 1) := by decide +kernel
theorem dX9_meets_18 : decode cX9_meets 18 = .ok (.istore_n 3, 1) := by decide +kernel
theorem dX9_meets_19 : decode cX9_meets 19 = .ok (.iload_n 3, 1) := by decide +kernel
theorem dX9_meets_20 : decode cX9_meets 20 = .ok (.aload_n 0, 1) := by decide +kernel
theorem dX9_meets_21 : decode cX9_meets 21 = .ok (.getfield 10, 3) := by decide +kernel
theorem dX9_meets_24 : decode cX9_meets 24 = .ok (.getfield 102, 3) := by decide +kernel
theorem dX9_meets_27 : decode cX9_meets 27 = .ok (.getfield 106, 3) := by decide +kernel
theorem dX9_meets_30 : decode cX9_meets 30 = .ok (.if_icmp .ge 42, 3) := by decide +kernel
theorem dX9_meets_33 : decode cX9_meets 33 = .ok (.iconst 0, 1) := by decide +kernel
theorem dX9_meets_34 : decode cX9_meets 34 = .ok (.istore 4, 2) := by decide +kernel
theorem dX9_meets_36 : decode cX9_meets 36 = .ok (.iload 4, 2) := by decide +kernel
theorem dX9_meets_38 : decode cX9_meets 38 = .ok (.aload_n 0, 1) := by decide +kernel
theorem dX9_meets_39 : decode cX9_meets 39 = .ok (.getfield 10, 3) := by decide +kernel
theorem dX9_meets_42 : decode cX9_meets 42 = .ok (.getfield 179, 3) := by decide +kernel
theorem dX9_meets_45 : decode cX9_meets 45 = .ok (.getfield 106, 3) := by decide +kernel
theorem dX9_meets_48 : decode cX9_meets 48 = .ok (.if_icmp .ge 18, 3) := by decide +kernel
theorem dX9_meets_51 : decode cX9_meets 51 = .ok (.aload_n 0, 1) := by decide +kernel
theorem dX9_meets_52 : decode cX9_meets 52 = .ok (.iload_n 3, 1) := by decide +kernel
theorem dX9_meets_53 : decode cX9_meets 53 = .ok (.iload 4, 2) := by decide +kernel
theorem dX9_meets_55 : decode cX9_meets 55 = .ok (.iload_n 1, 1) := by decide +kernel
theorem dX9_meets_56 : decode cX9_meets 56 = .ok (.iload_n 2, 1) := by decide +kernel
theorem dX9_meets_57 : decode cX9_meets 57 = .ok (.invokevirtual 325, 3) := by decide +kernel
theorem dX9_meets_60 : decode cX9_meets 60 = .ok (.iinc 4 1, 3) := by decide +kernel
theorem dX9_meets_63 : decode cX9_meets 63 = .ok (.goto (-27), 3) := by decide +kernel
theorem dX9_meets_66 : decode cX9_meets 66 = .ok (.iinc 3 1, 3) := by decide +kernel
theorem dX9_meets_69 : decode cX9_meets 69 = .ok (.goto (-50), 3) := by decide +kernel
theorem dX9_meets_72 : decode cX9_meets 72 = .ok (.aload_n 0, 1) := by decide +kernel
theorem dX9_meets_73 : decode cX9_meets 73 = .ok (.invokevirtual 329, 3) := by decide +kernel
theorem dX9_meets_76 : decode cX9_meets 76 = .ok (.ireturn, 1) := by decide +kernel
theorem dX9_meetRows_0 : decode cX9_meetRows 0 = .ok (.aload_n 0, 1) := by decide +kernel
theorem dX9_meetRows_1 : decode cX9_meetRows 1 = .ok (.getfield 10, 3) := by decide +kernel
theorem dX9_meetRows_4 : decode cX9_meetRows 4 = .ok (.getfield 102, 3) := by decide +kernel
theorem dX9_meetRows_7 : decode cX9_meetRows 7 = .ok (.iload_n 1, 1) := by decide +kernel
theorem dX9_meetRows_8 : decode cX9_meetRows 8 = .ok (.iconst 4, 1) := by decide +kernel
theorem dX9_meetRows_9 : decode cX9_meetRows 9 = .ok (.invokevirtual 98, 3) := by decide +kernel
theorem dX9_meetRows_12 : decode cX9_meetRows 12 = .ok (.istore 5, 2) := by decide +kernel
theorem dX9_meetRows_14 : decode cX9_meetRows 14 = .ok (.iload_n 3, 1) := by decide +kernel
theorem dX9_meetRows_15 : decode cX9_meetRows 15 = .ok (.aload_n 0, 1) := by decide +kernel
theorem dX9_meetRows_16 : decode cX9_meetRows 16 = .ok (.getfield 10, 3) := by decide +kernel
theorem dX9_meetRows_19 : decode cX9_meetRows 19 = .ok (.getfield 102, 3) := by decide +kernel
theorem dX9_meetRows_22 : decode cX9_meetRows 22 = .ok (.iload_n 1, 1) := by decide +kernel
theorem dX9_meetRows_23 : decode cX9_meetRows 23 = .ok (.iconst 2, 1) := by decide +kernel
theorem dX9_meetRows_24 : decode cX9_meetRows 24 = .ok (.invokevirtual 98, 3) := by decide +kernel
theorem dX9_meetRows_27 : decode cX9_meetRows 27 = .ok (.aload_n 0, 1) := by decide +kernel
theorem dX9_meetRows_28 : decode cX9_meetRows 28 = .ok (.getfield 10, 3) := by decide +kernel
theorem dX9_meetRows_31 : decode cX9_meetRows 31 = .ok (.getfield 179, 3) := by decide +kernel
theorem dX9_meetRows_34 : decode cX9_meetRows 34 = .ok (.iload_n 2, 1) := by decide +kernel
theorem dX9_meetRows_35 : decode cX9_meetRows 35 = .ok (.iconst 2, 1) := by decide +kernel
theorem dX9_meetRows_36 : decode cX9_meetRows 36 = .ok (.invokevirtual 98, 3) := by decide +kernel
theorem dX9_meetRows_39 : decode cX9_meetRows 39 = .ok (.invokestatic 119, 3) := by decide +kernel
theorem dX9_meetRows_42 : decode cX9_meetRows 42 = .ok (.invokestatic 119, 3) := by decide +kernel
theorem dX9_meetRows_45 : decode cX9_meetRows 45 = .ok (.istore 6, 2) := by decide +kernel
theorem dX9_meetRows_47 : decode cX9_meetRows 47 = .ok (.iload 4, 2) := by decide +kernel
theorem dX9_meetRows_49 : decode cX9_meetRows 49 = .ok (.aload_n 0, 1) := by decide +kernel
theorem dX9_meetRows_50 : decode cX9_meetRows 50 = .ok (.getfield 10, 3) := by decide +kernel
theorem dX9_meetRows_53 : decode cX9_meetRows 53 = .ok (.getfield 102, 3) := by decide +kernel
theorem dX9_meetRows_56 : decode cX9_meetRows 56 = .ok (.iload_n 1, 1) := by decide +kernel
theorem dX9_meetRows_57 : decode cX9_meetRows 57 = .ok (.iconst 3, 1) := by decide +kernel
theorem dX9_meetRows_58 : decode cX9_meetRows 58 = .ok (.invokevirtual 98, 3) := by decide +kernel
theorem dX9_meetRows_61 : decode cX9_meetRows 61 = .ok (.aload_n 0, 1) := by decide +kernel
theorem dX9_meetRows_62 : decode cX9_meetRows 62 = .ok (.getfield 10, 3) := by decide +kernel
theorem dX9_meetRows_65 : decode cX9_meetRows 65 = .ok (.getfield 179, 3) := by decide +kernel
theorem dX9_meetRows_68 : decode cX9_meetRows 68 = .ok (.iload_n 2, 1) := by decide +kernel
theorem dX9_meetRows_69 : decode cX9_meetRows 69 = .ok (.iconst 3, 1) := by decide +kernel
theorem dX9_meetRows_70 : decode cX9_meetRows 70 = .ok (.invokevirtual 98, 3) := by decide +kernel
theorem dX9_meetRows_73 : decode cX9_meetRows 73 = .ok (.invokestatic 114, 3) := by decide +kernel
theorem dX9_meetRows_76 : decode cX9_meetRows 76 = .ok (.invokestatic 114, 3) := by decide +kernel
theorem dX9_meetRows_79 : decode cX9_meetRows 79 = .ok (.istore 7, 2) := by decide +kernel
theorem dX9_meetRows_81 : decode cX9_meetRows 81 = .ok (.aload_n 0, 1) := by decide +kernel
theorem dX9_meetRows_82 : decode cX9_meetRows 82 = .ok (.getfield 10, 3) := by decide +kernel
theorem dX9_meetRows_85 : decode cX9_meetRows 85 = .ok (.getfield 179, 3) := by decide +kernel
theorem dX9_meetRows_88 : decode cX9_meetRows 88 = .ok (.iload_n 2, 1) := by decide +kernel
theorem dX9_meetRows_89 : decode cX9_meetRows 89 = .ok (.iconst 0, 1) := by decide +kernel
theorem dX9_meetRows_90 : decode cX9_meetRows 90 = .ok (.invokevirtual 98, 3) := by decide +kernel
theorem dX9_meetRows_93 : decode cX9_meetRows 93 = .ok (.iload 5, 2) := by decide +kernel
theorem dX9_meetRows_95 : decode cX9_meetRows 95 = .ok (.if_icmp .ne 71, 3) := by decide +kernel
theorem dX9_meetRows_98 : decode cX9_meetRows 98 = .ok (.iload 6, 2) := by decide +kernel
theorem dX9_meetRows_100 : decode cX9_meetRows 100 = .ok (.iload 7, 2) := by decide +kernel
theorem dX9_meetRows_102 : decode cX9_meetRows 102 = .ok (.if_icmp .ge 64, 3) := by decide +kernel
theorem dX9_meetRows_105 : decode cX9_meetRows 105 = .ok (.aload_n 0, 1) := by decide +kernel
theorem dX9_meetRows_106 : decode cX9_meetRows 106 = .ok (.getfield 10, 3) := by decide +kernel
theorem dX9_meetRows_109 : decode cX9_meetRows 109 = .ok (.getfield 102, 3) := by decide +kernel
theorem dX9_meetRows_112 : decode cX9_meetRows 112 = .ok (.iload_n 1, 1) := by decide +kernel
theorem dX9_meetRows_113 : decode cX9_meetRows 113 = .ok (.iconst 1, 1) := by decide +kernel
theorem dX9_meetRows_114 : decode cX9_meetRows 114 = .ok (.invokevirtual 98, 3) := by decide +kernel
theorem dX9_meetRows_117 : decode cX9_meetRows 117 = .ok (.bipush 100, 2) := by decide +kernel
theorem dX9_meetRows_119 : decode cX9_meetRows 119 = .ok (.imul, 1) := by decide +kernel
theorem dX9_meetRows_120 : decode cX9_meetRows 120 = .ok (.aload_n 0, 1) := by decide +kernel
theorem dX9_meetRows_121 : decode cX9_meetRows 121 = .ok (.getfield 10, 3) := by decide +kernel
theorem dX9_meetRows_124 : decode cX9_meetRows 124 = .ok (.getfield 179, 3) := by decide +kernel
theorem dX9_meetRows_127 : decode cX9_meetRows 127 = .ok (.iload_n 2, 1) := by decide +kernel
theorem dX9_meetRows_128 : decode cX9_meetRows 128 = .ok (.iconst 1, 1) := by decide +kernel
theorem dX9_meetRows_129 : decode cX9_meetRows 129 = .ok (.invokevirtual 98, 3) := by decide +kernel
theorem dX9_meetRows_132 : decode cX9_meetRows 132 = .ok (.iadd, 1) := by decide +kernel
theorem dX9_meetRows_133 : decode cX9_meetRows 133 = .ok (.istore 8, 2) := by decide +kernel
theorem dX9_meetRows_135 : decode cX9_meetRows 135 = .ok (.aload_n 0, 1) := by decide +kernel
theorem dX9_meetRows_136 : decode cX9_meetRows 136 = .ok (.getfield 64, 3) := by decide +kernel
theorem dX9_meetRows_139 : decode cX9_meetRows 139 = .ok (.aload_n 0, 1) := by decide +kernel
theorem dX9_meetRows_140 : decode cX9_meetRows 140 = .ok (.getfield 10, 3) := by decide +kernel
theorem dX9_meetRows_143 : decode cX9_meetRows 143 = .ok (.getfield 102, 3) := by decide +kernel
theorem dX9_meetRows_146 : decode cX9_meetRows 146 = .ok (.iload_n 1, 1) := by decide +kernel
theorem dX9_meetRows_147 : decode cX9_meetRows 147 = .ok (.iconst 0, 1) := by decide +kernel
theorem dX9_meetRows_148 : decode cX9_meetRows 148 = .ok (.invokevirtual 98, 3) := by decide +kernel
theorem dX9_meetRows_151 : decode cX9_meetRows 151 = .ok (.iload 6, 2) := by decide +kernel
theorem dX9_meetRows_153 : decode cX9_meetRows 153 = .ok (.iload 7, 2) := by decide +kernel
theorem dX9_meetRows_155 : decode cX9_meetRows 155 = .ok (.iload 8, 2) := by decide +kernel
theorem dX9_meetRows_157 : decode cX9_meetRows 157 = .ok (.bipush 11, 2) := by decide +kernel
theorem dX9_meetRows_159 : decode cX9_meetRows 159 = .ok (.imul, 1) := by decide +kernel
theorem dX9_meetRows_160 : decode cX9_meetRows 160 = .ok (.iload 5, 2) := by decide +kernel
theorem dX9_meetRows_162 : decode cX9_meetRows 162 = .ok (.iadd, 1) := by decide +kernel
theorem dX9_meetRows_163 : decode cX9_meetRows 163 = .ok (.invokevirtual 332, 3) := by decide +kernel
theorem dX9_meetRows_166 : decode cX9_meetRows 166 = .ok (.return_, 1) := by decide +kernel
theorem dX9_lacks_0 : decode cX9_lacks 0 = .ok (.iload_n 1, 1) := by decide +kernel
theorem dX9_lacks_1 : decode cX9_lacks 1 = .ok (.invokestatic 83, 3) := by decide +kernel
theorem dX9_lacks_4 : decode cX9_lacks 4 = .ok (.ifCond .ne 5, 3) := by decide +kernel
theorem dX9_lacks_7 : decode cX9_lacks 7 = .ok (.iconst (-1), 1) := by decide +kernel
theorem dX9_lacks_8 : decode cX9_lacks 8 = .ok (.ireturn, 1) := by decide +kernel
theorem dX9_lacks_9 : decode cX9_lacks 9 = .ok (.aload_n 0, 1) := by decide +kernel
theorem dX9_lacks_10 : decode cX9_lacks 10 = .ok (.getfield 64, 3) := by decide +kernel
theorem dX9_lacks_13 : decode cX9_lacks 13 = .ok (.invokevirtual 324, 3) := by decide +kernel
theorem dX9_lacks_16 : decode cX9_lacks 16 = .ok (.iconst 0, 1) := by decide +kernel
theorem dX9_lacks_17 : decode cX9_lacks 17 = .ok (.istore_n 2, 1) := by decide +kernel
theorem dX9_lacks_18 : decode cX9_lacks 18 = .ok (.iload_n 2, 1) := by decide +kernel
theorem dX9_lacks_19 : decode cX9_lacks 19 = .ok (.bipush 10, 2) := by decide +kernel
theorem dX9_lacks_21 : decode cX9_lacks 21 = .ok (.if_icmp .ge 55, 3) := by decide +kernel
theorem dX9_lacks_24 : decode cX9_lacks 24 = .ok (.aload_n 0, 1) := by decide +kernel
theorem dX9_lacks_25 : decode cX9_lacks 25 = .ok (.iload_n 2, 1) := by decide +kernel
theorem dX9_lacks_26 : decode cX9_lacks 26 = .ok (.invokevirtual 334, 3) := by decide +kernel
theorem dX9_lacks_29 : decode cX9_lacks 29 = .ok (.iconst 0, 1) := by decide +kernel
theorem dX9_lacks_30 : decode cX9_lacks 30 = .ok (.istore_n 3, 1) := by decide +kernel
theorem dX9_lacks_31 : decode cX9_lacks 31 = .ok (.iload_n 3, 1) := by decide +kernel
theorem dX9_lacks_32 : decode cX9_lacks 32 = .ok (.bipush 100, 2) := by decide +kernel
theorem dX9_lacks_34 : decode cX9_lacks 34 = .ok (.if_icmp .ge 36, 3) := by decide +kernel
theorem dX9_lacks_37 : decode cX9_lacks 37 = .ok (.aload_n 0, 1) := by decide +kernel
theorem dX9_lacks_38 : decode cX9_lacks 38 = .ok (.getfield 54, 3) := by decide +kernel
theorem dX9_lacks_41 : decode cX9_lacks 41 = .ok (.iload_n 3, 1) := by decide +kernel
theorem dX9_lacks_42 : decode cX9_lacks 42 = .ok (.invokevirtual 264, 3) := by decide +kernel
theorem dX9_lacks_45 : decode cX9_lacks 45 = .ok (.iconst 1, 1) := by decide +kernel
theorem dX9_lacks_46 : decode cX9_lacks 46 = .ok (.iload_n 1, 1) := by decide +kernel
theorem dX9_lacks_47 : decode cX9_lacks 47 = .ok (.iadd, 1) := by decide +kernel
theorem dX9_lacks_48 : decode cX9_lacks 48 = .ok (.if_icmp .ne 16, 3) := by decide +kernel
theorem dX9_lacks_51 : decode cX9_lacks 51 = .ok (.aload_n 0, 1) := by decide +kernel
theorem dX9_lacks_52 : decode cX9_lacks 52 = .ok (.getfield 64, 3) := by decide +kernel
theorem dX9_lacks_55 : decode cX9_lacks 55 = .ok (.iload_n 2, 1) := by decide +kernel
theorem dX9_lacks_56 : decode cX9_lacks 56 = .ok (.iload_n 3, 1) := by decide +kernel
theorem dX9_lacks_57 : decode cX9_lacks 57 = .ok (.iload_n 3, 1) := by decide +kernel
theorem dX9_lacks_58 : decode cX9_lacks 58 = .ok (.iconst 1, 1) := by decide +kernel
theorem dX9_lacks_59 : decode cX9_lacks 59 = .ok (.iadd, 1) := by decide +kernel
theorem dX9_lacks_60 : decode cX9_lacks 60 = .ok (.iconst 0, 1) := by decide +kernel
theorem dX9_lacks_61 : decode cX9_lacks 61 = .ok (.invokevirtual 332, 3) := by decide +kernel
theorem dX9_lacks_64 : decode cX9_lacks 64 = .ok (.iinc 3 1, 3) := by decide +kernel
theorem dX9_lacks_67 : decode cX9_lacks 67 = .ok (.goto (-36), 3) := by decide +kernel
theorem dX9_lacks_70 : decode cX9_lacks 70 = .ok (.iinc 2 1, 3) := by decide +kernel
theorem dX9_lacks_73 : decode cX9_lacks 73 = .ok (.goto (-55), 3) := by decide +kernel
theorem dX9_lacks_76 : decode cX9_lacks 76 = .ok (.aload_n 0, 1) := by decide +kernel
theorem dX9_lacks_77 : decode cX9_lacks 77 = .ok (.invokevirtual 329, 3) := by decide +kernel
theorem dX9_lacks_80 : decode cX9_lacks 80 = .ok (.ireturn, 1) := by decide +kernel
theorem dX9_either_0 : decode cX9_either 0 = .ok (.iconst 0, 1) := by decide +kernel
theorem dX9_either_1 : decode cX9_either 1 = .ok (.istore_n 1, 1) := by decide +kernel
theorem dX9_either_2 : decode cX9_either 2 = .ok (.aload_n 0, 1) := by decide +kernel
theorem dX9_either_3 : decode cX9_either 3 = .ok (.getfield 64, 3) := by decide +kernel
theorem dX9_either_6 : decode cX9_either 6 = .ok (.invokevirtual 324, 3) := by decide +kernel
theorem dX9_either_9 : decode cX9_either 9 = .ok (.iconst 0, 1) := by decide +kernel
theorem dX9_either_10 : decode cX9_either 10 = .ok (.istore_n 2, 1) := by decide +kernel
theorem dX9_either_11 : decode cX9_either 11 = .ok (.iload_n 2, 1) := by decide +kernel
theorem dX9_either_12 : decode cX9_either 12 = .ok (.bipush 10, 2) := by decide +kernel
theorem dX9_either_14 : decode cX9_either 14 = .ok (.if_icmp .ge 67, 3) := by decide +kernel
theorem dX9_either_17 : decode cX9_either 17 = .ok (.aload_n 0, 1) := by decide +kernel
theorem dX9_either_18 : decode cX9_either 18 = .ok (.iload_n 2, 1) := by decide +kernel
theorem dX9_either_19 : decode cX9_either 19 = .ok (.invokevirtual 334, 3) := by decide +kernel
theorem dX9_either_22 : decode cX9_either 22 = .ok (.iconst 0, 1) := by decide +kernel
theorem dX9_either_23 : decode cX9_either 23 = .ok (.istore_n 3, 1) := by decide +kernel
theorem dX9_either_24 : decode cX9_either 24 = .ok (.iload_n 3, 1) := by decide +kernel
theorem dX9_either_25 : decode cX9_either 25 = .ok (.bipush 100, 2) := by decide +kernel
theorem dX9_either_27 : decode cX9_either 27 = .ok (.if_icmp .ge 48, 3) := by decide +kernel
theorem dX9_either_30 : decode cX9_either 30 = .ok (.aload_n 0, 1) := by decide +kernel
theorem dX9_either_31 : decode cX9_either 31 = .ok (.getfield 54, 3) := by decide +kernel
theorem dX9_either_34 : decode cX9_either 34 = .ok (.iload_n 3, 1) := by decide +kernel
theorem dX9_either_35 : decode cX9_either 35 = .ok (.invokevirtual 264, 3) := by decide +kernel
theorem dX9_either_38 : decode cX9_either 38 = .ok (.ifCond .le 16, 3) := by decide +kernel
theorem dX9_either_41 : decode cX9_either 41 = .ok (.aload_n 0, 1) := by decide +kernel
theorem dX9_either_42 : decode cX9_either 42 = .ok (.getfield 64, 3) := by decide +kernel
theorem dX9_either_45 : decode cX9_either 45 = .ok (.iload_n 2, 1) := by decide +kernel
theorem dX9_either_46 : decode cX9_either 46 = .ok (.iload_n 3, 1) := by decide +kernel
theorem dX9_either_47 : decode cX9_either 47 = .ok (.iload_n 3, 1) := by decide +kernel
theorem dX9_either_48 : decode cX9_either 48 = .ok (.iconst 1, 1) := by decide +kernel
theorem dX9_either_49 : decode cX9_either 49 = .ok (.iadd, 1) := by decide +kernel
theorem dX9_either_50 : decode cX9_either 50 = .ok (.iconst 0, 1) := by decide +kernel
theorem dX9_either_51 : decode cX9_either 51 = .ok (.invokevirtual 332, 3) := by decide +kernel
theorem dX9_either_54 : decode cX9_either 54 = .ok (.aload_n 0, 1) := by decide +kernel
theorem dX9_either_55 : decode cX9_either 55 = .ok (.getfield 54, 3) := by decide +kernel
theorem dX9_either_58 : decode cX9_either 58 = .ok (.iload_n 3, 1) := by decide +kernel
theorem dX9_either_59 : decode cX9_either 59 = .ok (.invokevirtual 264, 3) := by decide +kernel
theorem dX9_either_62 : decode cX9_either 62 = .ok (.iconst 3, 1) := by decide +kernel
theorem dX9_either_63 : decode cX9_either 63 = .ok (.if_icmp .ne 6, 3) := by decide +kernel
theorem dX9_either_66 : decode cX9_either 66 = .ok (.iinc 1 1, 3) := by decide +kernel
theorem dX9_either_69 : decode cX9_either 69 = .ok (.iinc 3 1, 3) := by decide +kernel
theorem dX9_either_72 : decode cX9_either 72 = .ok (.goto (-48), 3) := by decide +kernel
theorem dX9_either_75 : decode cX9_either 75 = .ok (.iinc 2 1, 3) := by decide +kernel
theorem dX9_either_78 : decode cX9_either 78 = .ok (.goto (-67), 3) := by decide +kernel
theorem dX9_either_81 : decode cX9_either 81 = .ok (.aload_n 0, 1) := by decide +kernel
theorem dX9_either_82 : decode cX9_either 82 = .ok (.getfield 40, 3) := by decide +kernel
theorem dX9_either_85 : decode cX9_either 85 = .ok (.aload_n 0, 1) := by decide +kernel
theorem dX9_either_86 : decode cX9_either 86 = .ok (.getfield 64, 3) := by decide +kernel
theorem dX9_either_89 : decode cX9_either 89 = .ok (.getfield 338, 3) := by decide +kernel
theorem dX9_either_92 : decode cX9_either 92 = .ok (.i2l, 1) := by decide +kernel
theorem dX9_either_93 : decode cX9_either 93 = .ok (.iload_n 1, 1) := by decide +kernel
theorem dX9_either_94 : decode cX9_either 94 = .ok (.i2l, 1) := by decide +kernel
theorem dX9_either_95 : decode cX9_either 95 = .ok (.invokevirtual 182, 3) := by decide +kernel
theorem dX9_either_98 : decode cX9_either 98 = .ok (.aload_n 0, 1) := by decide +kernel
theorem dX9_either_99 : decode cX9_either 99 = .ok (.getfield 64, 3) := by decide +kernel
theorem dX9_either_102 : decode cX9_either 102 = .ok (.getfield 341, 3) := by decide +kernel
theorem dX9_either_105 : decode cX9_either 105 = .ok (.ireturn, 1) := by decide +kernel
theorem dX9_markBoth_0 : decode cX9_markBoth 0 = .ok (.aload_n 0, 1) := by decide +kernel
theorem dX9_markBoth_1 : decode cX9_markBoth 1 = .ok (.getfield 54, 3) := by decide +kernel
theorem dX9_markBoth_4 : decode cX9_markBoth 4 = .ok (.invokevirtual 251, 3) := by decide +kernel
theorem dX9_markBoth_7 : decode cX9_markBoth 7 = .ok (.aload_n 0, 1) := by decide +kernel
theorem dX9_markBoth_8 : decode cX9_markBoth 8 = .ok (.getfield 54, 3) := by decide +kernel
theorem dX9_markBoth_11 : decode cX9_markBoth 11 = .ok (.aload_n 0, 1) := by decide +kernel
theorem dX9_markBoth_12 : decode cX9_markBoth 12 = .ok (.getfield 10, 3) := by decide +kernel
theorem dX9_markBoth_15 : decode cX9_markBoth 15 = .ok (.getfield 102, 3) := by decide +kernel
theorem dX9_markBoth_18 : decode cX9_markBoth 18 = .ok (.iload_n 1, 1) := by decide +kernel
theorem dX9_markBoth_19 : decode cX9_markBoth 19 = .ok (.iconst 1, 1) := by decide +kernel
theorem dX9_markBoth_20 : decode cX9_markBoth 20 = .ok (.invokevirtual 252, 3) := by decide +kernel
theorem dX9_markBoth_23 : decode cX9_markBoth 23 = .ok (.aload_n 0, 1) := by decide +kernel
theorem dX9_markBoth_24 : decode cX9_markBoth 24 = .ok (.getfield 54, 3) := by decide +kernel
theorem dX9_markBoth_27 : decode cX9_markBoth 27 = .ok (.aload_n 0, 1) := by decide +kernel
theorem dX9_markBoth_28 : decode cX9_markBoth 28 = .ok (.getfield 10, 3) := by decide +kernel
theorem dX9_markBoth_31 : decode cX9_markBoth 31 = .ok (.getfield 179, 3) := by decide +kernel
theorem dX9_markBoth_34 : decode cX9_markBoth 34 = .ok (.iload_n 1, 1) := by decide +kernel
theorem dX9_markBoth_35 : decode cX9_markBoth 35 = .ok (.iconst 2, 1) := by decide +kernel
theorem dX9_markBoth_36 : decode cX9_markBoth 36 = .ok (.invokevirtual 252, 3) := by decide +kernel
theorem dX9_markBoth_39 : decode cX9_markBoth 39 = .ok (.return_, 1) := by decide +kernel
theorem dX9_tellStretches_0 : decode cX9_tellStretches 0 = .ok (.aload_n 0, 1) := by decide +kernel
theorem dX9_tellStretches_1 : decode cX9_tellStretches 1 = .ok (.getfield 40, 3) := by decide +kernel
theorem dX9_tellStretches_4 : decode cX9_tellStretches 4 = .ok (.aload_n 0, 1) := by decide +kernel
theorem dX9_tellStretches_5 : decode cX9_tellStretches 5 = .ok (.getfield 64, 3) := by decide +kernel
theorem dX9_tellStretches_8 : decode cX9_tellStretches 8 = .ok (.getfield 338, 3) := by decide +kernel
theorem dX9_tellStretches_11 : decode cX9_tellStretches 11 = .ok (.i2l, 1) := by decide +kernel
theorem dX9_tellStretches_12 : decode cX9_tellStretches 12 = .ok (.invokevirtual 229, 3) := by decide +kernel
theorem dX9_tellStretches_15 : decode cX9_tellStretches 15 = .ok (.aload_n 0, 1) := by decide +kernel
theorem dX9_tellStretches_16 : decode cX9_tellStretches 16 = .ok (.getfield 64, 3) := by decide +kernel
theorem dX9_tellStretches_19 : decode cX9_tellStretches 19 = .ok (.getfield 341, 3) := by decide +kernel
theorem dX9_tellStretches_22 : decode cX9_tellStretches 22 = .ok (.ifCond .le 48, 3) := by decide +kernel
theorem dX9_tellStretches_25 : decode cX9_tellStretches 25 = .ok (.aload_n 0, 1) := by decide +kernel
theorem dX9_tellStretches_26 : decode cX9_tellStretches 26 = .ok (.getfield 40, 3) := by decide +kernel
theorem dX9_tellStretches_29 : decode cX9_tellStretches 29 = .ok (.aload_n 0, 1) := by decide +kernel
theorem dX9_tellStretches_30 : decode cX9_tellStretches 30 = .ok (.getfield 64, 3) := by decide +kernel
theorem dX9_tellStretches_33 : decode cX9_tellStretches 33 = .ok (.getfield 342, 3) := by decide +kernel
theorem dX9_tellStretches_36 : decode cX9_tellStretches 36 = .ok (.i2l, 1) := by decide +kernel
theorem dX9_tellStretches_37 : decode cX9_tellStretches 37 = .ok (.invokevirtual 300, 3) := by decide +kernel
theorem dX9_tellStretches_40 : decode cX9_tellStretches 40 = .ok (.aload_n 0, 1) := by decide +kernel
theorem dX9_tellStretches_41 : decode cX9_tellStretches 41 = .ok (.getfield 40, 3) := by decide +kernel
theorem dX9_tellStretches_44 : decode cX9_tellStretches 44 = .ok (.aload_n 0, 1) := by decide +kernel
theorem dX9_tellStretches_45 : decode cX9_tellStretches 45 = .ok (.getfield 64, 3) := by decide +kernel
theorem dX9_tellStretches_48 : decode cX9_tellStretches 48 = .ok (.getfield 345, 3) := by decide +kernel
theorem dX9_tellStretches_51 : decode cX9_tellStretches 51 = .ok (.i2l, 1) := by decide +kernel
theorem dX9_tellStretches_52 : decode cX9_tellStretches 52 = .ok (.invokevirtual 300, 3) := by decide +kernel
theorem dX9_tellStretches_55 : decode cX9_tellStretches 55 = .ok (.aload_n 0, 1) := by decide +kernel
theorem dX9_tellStretches_56 : decode cX9_tellStretches 56 = .ok (.getfield 40, 3) := by decide +kernel
theorem dX9_tellStretches_59 : decode cX9_tellStretches 59 = .ok (.aload_n 0, 1) := by decide +kernel
theorem dX9_tellStretches_60 : decode cX9_tellStretches 60 = .ok (.getfield 64, 3) := by decide +kernel
theorem dX9_tellStretches_63 : decode cX9_tellStretches 63 = .ok (.getfield 348, 3) := by decide +kernel
theorem dX9_tellStretches_66 : decode cX9_tellStretches 66 = .ok (.i2l, 1) := by decide +kernel
theorem dX9_tellStretches_67 : decode cX9_tellStretches 67 = .ok (.invokevirtual 300, 3) := by decide +kernel
theorem dX9_tellStretches_70 : decode cX9_tellStretches 70 = .ok (.aload_n 0, 1) := by decide +kernel
theorem dX9_tellStretches_71 : decode cX9_tellStretches 71 = .ok (.getfield 64, 3) := by decide +kernel
theorem dX9_tellStretches_74 : decode cX9_tellStretches 74 = .ok (.getfield 341, 3) := by decide +kernel
theorem dX9_tellStretches_77 : decode cX9_tellStretches 77 = .ok (.ireturn, 1) := by decide +kernel
theorem dX9_sums_0 : decode cX9_sums 0 = .ok (.iload_n 1, 1) := by decide +kernel
theorem dX9_sums_1 : decode cX9_sums 1 = .ok (.invokestatic 83, 3) := by decide +kernel
theorem dX9_sums_4 : decode cX9_sums 4 = .ok (.ifCond .eq 11, 3) := by decide +kernel
theorem dX9_sums_7 : decode cX9_sums 7 = .ok (.iload_n 2, 1) := by decide +kernel
theorem dX9_sums_8 : decode cX9_sums 8 = .ok (.iload_n 3, 1) := by decide +kernel
theorem dX9_sums_9 : decode cX9_sums 9 = .ok (.invokestatic 321, 3) := by decide +kernel
theorem dX9_sums_12 : decode cX9_sums 12 = .ok (.ifCond .ne 5, 3) := by decide +kernel
theorem dX9_sums_15 : decode cX9_sums 15 = .ok (.iconst (-1), 1) := by decide +kernel
