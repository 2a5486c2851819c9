theorem dX10_does_87 : decode cX10_does 87 = .ok (.iconst 3, 1) := by decide +kernel
theorem dX10_does_88 : decode cX10_does 88 = .ok (.iaload, 1) := by decide +kernel
theorem dX10_does_89 : decode cX10_does 89 = .ok (.aload_n 2, 1) := by decide +kernel
theorem dX10_does_90 : decode cX10_does 90 = .ok (.iconst 4, 1) := by decide +kernel
theorem dX10_does_91 : decode cX10_does 91 = .ok (.iaload, 1) := by decide +kernel
theorem dX10_does_92 : decode cX10_does 92 = .ok (.invokevirtual 294, 3) := by decide +kernel
theorem dX10_does_95 : decode cX10_does 95 = .ok (.ireturn, 1) := by decide +kernel
theorem dX10_does_96 : decode cX10_does 96 = .ok (.aload_n 0, 1) := by decide +kernel
theorem dX10_does_97 : decode cX10_does 97 = .ok (.aload_n 0, 1) := by decide +kernel
theorem dX10_does_98 : decode cX10_does 98 = .ok (.getfield 118, 3) := by decide +kernel
theorem dX10_does_101 : decode cX10_does 101 = .ok (.aload_n 2, 1) := by decide +kernel
theorem dX10_does_102 : decode cX10_does 102 = .ok (.iconst 0, 1) := by decide +kernel
theorem dX10_does_103 : decode cX10_does 103 = .ok (.iaload, 1) := by decide +kernel
theorem dX10_does_104 : decode cX10_does 104 = .ok (.aload_n 2, 1) := by decide +kernel
theorem dX10_does_105 : decode cX10_does 105 = .ok (.iconst 1, 1) := by decide +kernel
theorem dX10_does_106 : decode cX10_does 106 = .ok (.iaload, 1) := by decide +kernel
theorem dX10_does_107 : decode cX10_does 107 = .ok (.aload_n 2, 1) := by decide +kernel
theorem dX10_does_108 : decode cX10_does 108 = .ok (.iconst 2, 1) := by decide +kernel
theorem dX10_does_109 : decode cX10_does 109 = .ok (.iaload, 1) := by decide +kernel
theorem dX10_does_110 : decode cX10_does 110 = .ok (.aload_n 2, 1) := by decide +kernel
theorem dX10_does_111 : decode cX10_does 111 = .ok (.iconst 3, 1) := by decide +kernel
theorem dX10_does_112 : decode cX10_does 112 = .ok (.iaload, 1) := by decide +kernel
theorem dX10_does_113 : decode cX10_does 113 = .ok (.invokevirtual 300, 3) := by decide +kernel
theorem dX10_does_116 : decode cX10_does 116 = .ok (.ireturn, 1) := by decide +kernel
theorem dX10_does_117 : decode cX10_does 117 = .ok (.aload_n 0, 1) := by decide +kernel
theorem dX10_does_118 : decode cX10_does 118 = .ok (.aload_n 0, 1) := by decide +kernel
theorem dX10_does_119 : decode cX10_does 119 = .ok (.getfield 118, 3) := by decide +kernel
theorem dX10_does_122 : decode cX10_does 122 = .ok (.aload_n 2, 1) := by decide +kernel
theorem dX10_does_123 : decode cX10_does 123 = .ok (.iconst 0, 1) := by decide +kernel
theorem dX10_does_124 : decode cX10_does 124 = .ok (.iaload, 1) := by decide +kernel
theorem dX10_does_125 : decode cX10_does 125 = .ok (.aload_n 2, 1) := by decide +kernel
theorem dX10_does_126 : decode cX10_does 126 = .ok (.iconst 1, 1) := by decide +kernel
theorem dX10_does_127 : decode cX10_does 127 = .ok (.iaload, 1) := by decide +kernel
theorem dX10_does_128 : decode cX10_does 128 = .ok (.aload_n 2, 1) := by decide +kernel
theorem dX10_does_129 : decode cX10_does 129 = .ok (.iconst 2, 1) := by decide +kernel
theorem dX10_does_130 : decode cX10_does 130 = .ok (.iaload, 1) := by decide +kernel
theorem dX10_does_131 : decode cX10_does 131 = .ok (.aload_n 2, 1) := by decide +kernel
theorem dX10_does_132 : decode cX10_does 132 = .ok (.iconst 3, 1) := by decide +kernel
theorem dX10_does_133 : decode cX10_does 133 = .ok (.iaload, 1) := by decide +kernel
theorem dX10_does_134 : decode cX10_does 134 = .ok (.invokevirtual 303, 3) := by decide +kernel
theorem dX10_does_137 : decode cX10_does 137 = .ok (.ireturn, 1) := by decide +kernel
theorem dX10_does_138 : decode cX10_does 138 = .ok (.aload_n 0, 1) := by decide +kernel
theorem dX10_does_139 : decode cX10_does 139 = .ok (.getfield 118, 3) := by decide +kernel
theorem dX10_does_142 : decode cX10_does 142 = .ok (.aload_n 2, 1) := by decide +kernel
theorem dX10_does_143 : decode cX10_does 143 = .ok (.iconst 0, 1) := by decide +kernel
theorem dX10_does_144 : decode cX10_does 144 = .ok (.iaload, 1) := by decide +kernel
theorem dX10_does_145 : decode cX10_does 145 = .ok (.invokestatic 309, 3) := by decide +kernel
theorem dX10_does_148 : decode cX10_does 148 = .ok (.ireturn, 1) := by decide +kernel
theorem dX10_does_149 : decode cX10_does 149 = .ok (.aload_n 0, 1) := by decide +kernel
theorem dX10_does_150 : decode cX10_does 150 = .ok (.getfield 118, 3) := by decide +kernel
theorem dX10_does_153 : decode cX10_does 153 = .ok (.aload_n 2, 1) := by decide +kernel
theorem dX10_does_154 : decode cX10_does 154 = .ok (.iconst 0, 1) := by decide +kernel
theorem dX10_does_155 : decode cX10_does 155 = .ok (.iaload, 1) := by decide +kernel
theorem dX10_does_156 : decode cX10_does 156 = .ok (.invokestatic 312, 3) := by decide +kernel
theorem dX10_does_159 : decode cX10_does 159 = .ok (.ireturn, 1) := by decide +kernel
theorem dX10_work_0 : decode cX10_work 0 = .ok (.aload_n 0, 1) := by decide +kernel
theorem dX10_work_1 : decode cX10_work 1 = .ok (.iconst 0, 1) := by decide +kernel
theorem dX10_work_2 : decode cX10_work 2 = .ok (.putfield 3, 3) := by decide +kernel
theorem dX10_work_5 : decode cX10_work 5 = .ok (.aload_n 0, 1) := by decide +kernel
theorem dX10_work_6 : decode cX10_work 6 = .ok (.bipush 80, 2) := by decide +kernel
theorem dX10_work_8 : decode cX10_work 8 = .ok (.invokevirtual 345, 3) := by decide +kernel
theorem dX10_work_11 : decode cX10_work 11 = .ok (.pop, 1) := by decide +kernel
theorem dX10_work_12 : decode cX10_work 12 = .ok (.aload_n 0, 1) := by decide +kernel
theorem dX10_work_13 : decode cX10_work 13 = .ok (.iconst 0, 1) := by decide +kernel
theorem dX10_work_14 : decode cX10_work 14 = .ok (.putfield 332, 3) := by decide +kernel
theorem dX10_work_17 : decode cX10_work 17 = .ok (.aload_n 0, 1) := by decide +kernel
theorem dX10_work_18 : decode cX10_work 18 = .ok (.getfield 29, 3) := by decide +kernel
theorem dX10_work_21 : decode cX10_work 21 = .ok (.aload_n 0, 1) := by decide +kernel
theorem dX10_work_22 : decode cX10_work 22 = .ok (.getfield 41, 3) := by decide +kernel
theorem dX10_work_25 : decode cX10_work 25 = .ok (.if_icmp .ge 17, 3) := by decide +kernel
theorem dX10_work_28 : decode cX10_work 28 = .ok (.aload_n 0, 1) := by decide +kernel
theorem dX10_work_29 : decode cX10_work 29 = .ok (.invokevirtual 348, 3) := by decide +kernel
theorem dX10_work_32 : decode cX10_work 32 = .ok (.ifCond .ne (-15), 3) := by decide +kernel
theorem dX10_work_35 : decode cX10_work 35 = .ok (.iconst (-1), 1) := by decide +kernel
theorem dX10_work_36 : decode cX10_work 36 = .ok (.aload_n 0, 1) := by decide +kernel
theorem dX10_work_37 : decode cX10_work 37 = .ok (.getfield 29, 3) := by decide +kernel
theorem dX10_work_40 : decode cX10_work 40 = .ok (.isub, 1) := by decide +kernel
theorem dX10_work_41 : decode cX10_work 41 = .ok (.ireturn, 1) := by decide +kernel
theorem dX10_work_42 : decode cX10_work 42 = .ok (.aload_n 0, 1) := by decide +kernel
theorem dX10_work_43 : decode cX10_work 43 = .ok (.invokevirtual 284, 3) := by decide +kernel
theorem dX10_work_46 : decode cX10_work 46 = .ok (.iconst 0, 1) := by decide +kernel
theorem dX10_work_47 : decode cX10_work 47 = .ok (.istore_n 1, 1) := by decide +kernel
theorem dX10_work_48 : decode cX10_work 48 = .ok (.iload_n 1, 1) := by decide +kernel
theorem dX10_work_49 : decode cX10_work 49 = .ok (.aload_n 0, 1) := by decide +kernel
theorem dX10_work_50 : decode cX10_work 50 = .ok (.getfield 332, 3) := by decide +kernel
theorem dX10_work_53 : decode cX10_work 53 = .ok (.if_icmp .ge 17, 3) := by decide +kernel
theorem dX10_work_56 : decode cX10_work 56 = .ok (.aload_n 0, 1) := by decide +kernel
theorem dX10_work_57 : decode cX10_work 57 = .ok (.iload_n 1, 1) := by decide +kernel
theorem dX10_work_58 : decode cX10_work 58 = .ok (.invokevirtual 351, 3) := by decide +kernel
theorem dX10_work_61 : decode cX10_work 61 = .ok (.ifCond .lt 9, 3) := by decide +kernel
theorem dX10_work_64 : decode cX10_work 64 = .ok (.iinc 1 1, 3) := by decide +kernel
theorem dX10_work_67 : decode cX10_work 67 = .ok (.goto (-19), 3) := by decide +kernel
theorem dX10_work_70 : decode cX10_work 70 = .ok (.aload_n 0, 1) := by decide +kernel
theorem dX10_work_71 : decode cX10_work 71 = .ok (.iconst 0, 1) := by decide +kernel
theorem dX10_work_72 : decode cX10_work 72 = .ok (.putfield 15, 3) := by decide +kernel
theorem dX10_work_75 : decode cX10_work 75 = .ok (.aload_n 0, 1) := by decide +kernel
theorem dX10_work_76 : decode cX10_work 76 = .ok (.iload_n 1, 1) := by decide +kernel
theorem dX10_work_77 : decode cX10_work 77 = .ok (.aload_n 0, 1) := by decide +kernel
theorem dX10_work_78 : decode cX10_work 78 = .ok (.getfield 332, 3) := by decide +kernel
theorem dX10_work_81 : decode cX10_work 81 = .ok (.if_icmp .ge 7, 3) := by decide +kernel
theorem dX10_work_84 : decode cX10_work 84 = .ok (.iconst 1, 1) := by decide +kernel
theorem dX10_work_85 : decode cX10_work 85 = .ok (.goto 4, 3) := by decide +kernel
theorem dX10_work_88 : decode cX10_work 88 = .ok (.iconst 0, 1) := by decide +kernel
theorem dX10_work_89 : decode cX10_work 89 = .ok (.invokestatic 44, 3) := by decide +kernel
theorem dX10_work_92 : decode cX10_work 92 = .ok (.i2l, 1) := by decide +kernel
theorem dX10_work_93 : decode cX10_work 93 = .ok (.invokevirtual 280, 3) := by decide +kernel
theorem dX10_work_96 : decode cX10_work 96 = .ok (.aload_n 0, 1) := by decide +kernel
theorem dX10_work_97 : decode cX10_work 97 = .ok (.aload_n 0, 1) := by decide +kernel
theorem dX10_work_98 : decode cX10_work 98 = .ok (.getfield 118, 3) := by decide +kernel
theorem dX10_work_101 : decode cX10_work 101 = .ok (.iconst 0, 1) := by decide +kernel
theorem dX10_work_102 : decode cX10_work 102 = .ok (.invokestatic 197, 3) := by decide +kernel
theorem dX10_work_105 : decode cX10_work 105 = .ok (.aload_n 0, 1) := by decide +kernel
theorem dX10_work_106 : decode cX10_work 106 = .ok (.getfield 118, 3) := by decide +kernel
theorem dX10_work_109 : decode cX10_work 109 = .ok (.iconst 1, 1) := by decide +kernel
theorem dX10_work_110 : decode cX10_work 110 = .ok (.invokestatic 197, 3) := by decide +kernel
theorem dX10_work_113 : decode cX10_work 113 = .ok (.iadd, 1) := by decide +kernel
theorem dX10_work_114 : decode cX10_work 114 = .ok (.i2l, 1) := by decide +kernel
theorem dX10_work_115 : decode cX10_work 115 = .ok (.invokevirtual 280, 3) := by decide +kernel
theorem dX10_work_118 : decode cX10_work 118 = .ok (.iload_n 1, 1) := by decide +kernel
theorem dX10_work_119 : decode cX10_work 119 = .ok (.ifCond .le 11, 3) := by decide +kernel
theorem dX10_work_122 : decode cX10_work 122 = .ok (.aload_n 0, 1) := by decide +kernel
theorem dX10_work_123 : decode cX10_work 123 = .ok (.iload_n 1, 1) := by decide +kernel
theorem dX10_work_124 : decode cX10_work 124 = .ok (.invokevirtual 208, 3) := by decide +kernel
theorem dX10_work_127 : decode cX10_work 127 = .ok (.goto 4, 3) := by decide +kernel
theorem dX10_work_130 : decode cX10_work 130 = .ok (.iconst 0, 1) := by decide +kernel
theorem dX10_work_131 : decode cX10_work 131 = .ok (.ireturn, 1) := by decide +kernel
theorem dX10_at_0 : decode cX10_at 0 = .ok (.aload_n 0, 1) := by decide +kernel
theorem dX10_at_1 : decode cX10_at 1 = .ok (.iconst 0, 1) := by decide +kernel
theorem dX10_at_2 : decode cX10_at 2 = .ok (.putfield 3, 3) := by decide +kernel
theorem dX10_at_5 : decode cX10_at 5 = .ok (.iload_n 1, 1) := by decide +kernel
theorem dX10_at_6 : decode cX10_at 6 = .ok (.invokestatic 211, 3) := by decide +kernel
theorem dX10_at_9 : decode cX10_at 9 = .ok (.ifCond .eq 17, 3) := by decide +kernel
theorem dX10_at_12 : decode cX10_at 12 = .ok (.iload_n 2, 1) := by decide +kernel
theorem dX10_at_13 : decode cX10_at 13 = .ok (.invokestatic 231, 3) := by decide +kernel
theorem dX10_at_16 : decode cX10_at 16 = .ok (.ifCond .eq 10, 3) := by decide +kernel
theorem dX10_at_19 : decode cX10_at 19 = .ok (.iload_n 3, 1) := by decide +kernel
theorem dX10_at_20 : decode cX10_at 20 = .ok (.invokestatic 167, 3) := by decide +kernel
theorem dX10_at_23 : decode cX10_at 23 = .ok (.ifCond .ne 5, 3) := by decide +kernel
theorem dX10_at_26 : decode cX10_at 26 = .ok (.iconst (-1), 1) := by decide +kernel
theorem dX10_at_27 : decode cX10_at 27 = .ok (.ireturn, 1) := by decide +kernel
theorem dX10_at_28 : decode cX10_at 28 = .ok (.aload_n 0, 1) := by decide +kernel
theorem dX10_at_29 : decode cX10_at 29 = .ok (.getfield 118, 3) := by decide +kernel
theorem dX10_at_32 : decode cX10_at 32 = .ok (.iload_n 1, 1) := by decide +kernel
theorem dX10_at_33 : decode cX10_at 33 = .ok (.iload_n 2, 1) := by decide +kernel
theorem dX10_at_34 : decode cX10_at 34 = .ok (.iload_n 3, 1) := by decide +kernel
theorem dX10_at_35 : decode cX10_at 35 = .ok (.invokestatic 173, 3) := by decide +kernel
theorem dX10_at_38 : decode cX10_at 38 = .ok (.ifCond .ne 6, 3) := by decide +kernel
theorem dX10_at_41 : decode cX10_at 41 = .ok (.bipush (-2), 2) := by decide +kernel
theorem dX10_at_43 : decode cX10_at 43 = .ok (.ireturn, 1) := by decide +kernel
theorem dX10_at_44 : decode cX10_at 44 = .ok (.aload_n 0, 1) := by decide +kernel
theorem dX10_at_45 : decode cX10_at 45 = .ok (.iconst 0, 1) := by decide +kernel
theorem dX10_at_46 : decode cX10_at 46 = .ok (.putfield 15, 3) := by decide +kernel
theorem dX10_at_49 : decode cX10_at 49 = .ok (.aload_n 0, 1) := by decide +kernel
theorem dX10_at_50 : decode cX10_at 50 = .ok (.aload_n 0, 1) := by decide +kernel
theorem dX10_at_51 : decode cX10_at 51 = .ok (.getfield 118, 3) := by decide +kernel
theorem dX10_at_54 : decode cX10_at 54 = .ok (.iload_n 1, 1) := by decide +kernel
theorem dX10_at_55 : decode cX10_at 55 = .ok (.iload_n 2, 1) := by decide +kernel
theorem dX10_at_56 : decode cX10_at 56 = .ok (.iload_n 3, 1) := by decide +kernel
theorem dX10_at_57 : decode cX10_at 57 = .ok (.invokestatic 181, 3) := by decide +kernel
theorem dX10_at_60 : decode cX10_at 60 = .ok (.i2l, 1) := by decide +kernel
theorem dX10_at_61 : decode cX10_at 61 = .ok (.invokevirtual 280, 3) := by decide +kernel
theorem dX10_at_64 : decode cX10_at 64 = .ok (.aload_n 0, 1) := by decide +kernel
theorem dX10_at_65 : decode cX10_at 65 = .ok (.aload_n 0, 1) := by decide +kernel
theorem dX10_at_66 : decode cX10_at 66 = .ok (.getfield 118, 3) := by decide +kernel
theorem dX10_at_69 : decode cX10_at 69 = .ok (.iload_n 1, 1) := by decide +kernel
theorem dX10_at_70 : decode cX10_at 70 = .ok (.iload_n 2, 1) := by decide +kernel
theorem dX10_at_71 : decode cX10_at 71 = .ok (.iload_n 3, 1) := by decide +kernel
theorem dX10_at_72 : decode cX10_at 72 = .ok (.invokestatic 354, 3) := by decide +kernel
theorem dX10_at_75 : decode cX10_at 75 = .ok (.i2l, 1) := by decide +kernel
theorem dX10_at_76 : decode cX10_at 76 = .ok (.invokevirtual 280, 3) := by decide +kernel
theorem dX10_at_79 : decode cX10_at 79 = .ok (.aload_n 0, 1) := by decide +kernel
theorem dX10_at_80 : decode cX10_at 80 = .ok (.aload_n 0, 1) := by decide +kernel
theorem dX10_at_81 : decode cX10_at 81 = .ok (.getfield 118, 3) := by decide +kernel
theorem dX10_at_84 : decode cX10_at 84 = .ok (.iload_n 1, 1) := by decide +kernel
theorem dX10_at_85 : decode cX10_at 85 = .ok (.iload_n 2, 1) := by decide +kernel
theorem dX10_at_86 : decode cX10_at 86 = .ok (.iload_n 3, 1) := by decide +kernel
theorem dX10_at_87 : decode cX10_at 87 = .ok (.invokestatic 223, 3) := by decide +kernel
theorem dX10_at_90 : decode cX10_at 90 = .ok (.i2l, 1) := by decide +kernel
theorem dX10_at_91 : decode cX10_at 91 = .ok (.invokevirtual 280, 3) := by decide +kernel
theorem dX10_at_94 : decode cX10_at 94 = .ok (.aload_n 0, 1) := by decide +kernel
theorem dX10_at_95 : decode cX10_at 95 = .ok (.getfield 118, 3) := by decide +kernel
theorem dX10_at_98 : decode cX10_at 98 = .ok (.iload_n 1, 1) := by decide +kernel
theorem dX10_at_99 : decode cX10_at 99 = .ok (.iload_n 2, 1) := by decide +kernel
theorem dX10_at_100 : decode cX10_at 100 = .ok (.iload_n 3, 1) := by decide +kernel
theorem dX10_at_101 : decode cX10_at 101 = .ok (.invokestatic 177, 3) := by decide +kernel
theorem dX10_at_104 : decode cX10_at 104 = .ok (.ireturn, 1) := by decide +kernel
theorem dX10_slice_0 : decode cX10_slice 0 = .ok (.aload_n 0, 1) := by decide +kernel
theorem dX10_slice_1 : decode cX10_slice 1 = .ok (.iconst 0, 1) := by decide +kernel
theorem dX10_slice_2 : decode cX10_slice 2 = .ok (.putfield 3, 3) := by decide +kernel
theorem dX10_slice_5 : decode cX10_slice 5 = .ok (.iload_n 1, 1) := by decide +kernel
theorem dX10_slice_6 : decode cX10_slice 6 = .ok (.invokestatic 211, 3) := by decide +kernel
theorem dX10_slice_9 : decode cX10_slice 9 = .ok (.ifCond .eq 10, 3) := by decide +kernel
theorem dX10_slice_12 : decode cX10_slice 12 = .ok (.iload_n 2, 1) := by decide +kernel
theorem dX10_slice_13 : decode cX10_slice 13 = .ok (.invokestatic 167, 3) := by decide +kernel
theorem dX10_slice_16 : decode cX10_slice 16 = .ok (.ifCond .ne 5, 3) := by decide +kernel
theorem dX10_slice_19 : decode cX10_slice 19 = .ok (.iconst (-1), 1) := by decide +kernel
theorem dX10_slice_20 : decode cX10_slice 20 = .ok (.ireturn, 1) := by decide +kernel
theorem dX10_slice_21 : decode cX10_slice 21 = .ok (.iconst 0, 1) := by decide +kernel
theorem dX10_slice_22 : decode cX10_slice 22 = .ok (.istore_n 3, 1) := by decide +kernel
theorem dX10_slice_23 : decode cX10_slice 23 = .ok (.aload_n 0, 1) := by decide +kernel
theorem dX10_slice_24 : decode cX10_slice 24 = .ok (.iconst 0, 1) := by decide +kernel
theorem dX10_slice_25 : decode cX10_slice 25 = .ok (.putfield 15, 3) := by decide +kernel
theorem dX10_slice_28 : decode cX10_slice 28 = .ok (.iconst 0, 1) := by decide +kernel
theorem dX10_slice_29 : decode cX10_slice 29 = .ok (.istore 4, 2) := by decide +kernel
theorem dX10_slice_31 : decode cX10_slice 31 = .ok (.iload 4, 2) := by decide +kernel
theorem dX10_slice_33 : decode cX10_slice 33 = .ok (.bipush 10, 2) := by decide +kernel
theorem dX10_slice_35 : decode cX10_slice 35 = .ok (.if_icmp .ge 46, 3) := by decide +kernel
theorem dX10_slice_38 : decode cX10_slice 38 = .ok (.aload_n 0, 1) := by decide +kernel
theorem dX10_slice_39 : decode cX10_slice 39 = .ok (.getfield 118, 3) := by decide +kernel
theorem dX10_slice_42 : decode cX10_slice 42 = .ok (.iload_n 1, 1) := by decide +kernel
theorem dX10_slice_43 : decode cX10_slice 43 = .ok (.iload 4, 2) := by decide +kernel
theorem dX10_slice_45 : decode cX10_slice 45 = .ok (.iload_n 2, 1) := by decide +kernel
theorem dX10_slice_46 : decode cX10_slice 46 = .ok (.invokestatic 173, 3) := by decide +kernel
theorem dX10_slice_49 : decode cX10_slice 49 = .ok (.ifCond .eq 26, 3) := by decide +kernel
theorem dX10_slice_52 : decode cX10_slice 52 = .ok (.iload_n 3, 1) := by decide +kernel
theorem dX10_slice_53 : decode cX10_slice 53 = .ok (.iconst 1, 1) := by decide +kernel
theorem dX10_slice_54 : decode cX10_slice 54 = .ok (.iload 4, 2) := by decide +kernel
theorem dX10_slice_56 : decode cX10_slice 56 = .ok (.ishl, 1) := by decide +kernel
theorem dX10_slice_57 : decode cX10_slice 57 = .ok (.ior, 1) := by decide +kernel
theorem dX10_slice_58 : decode cX10_slice 58 = .ok (.istore_n 3, 1) := by decide +kernel
theorem dX10_slice_59 : decode cX10_slice 59 = .ok (.aload_n 0, 1) := by decide +kernel
theorem dX10_slice_60 : decode cX10_slice 60 = .ok (.aload_n 0, 1) := by decide +kernel
theorem dX10_slice_61 : decode cX10_slice 61 = .ok (.getfield 118, 3) := by decide +kernel
theorem dX10_slice_64 : decode cX10_slice 64 = .ok (.iload_n 1, 1) := by decide +kernel
theorem dX10_slice_65 : decode cX10_slice 65 = .ok (.iload 4, 2) := by decide +kernel
theorem dX10_slice_67 : decode cX10_slice 67 = .ok (.iload_n 2, 1) := by decide +kernel
theorem dX10_slice_68 : decode cX10_slice 68 = .ok (.invokestatic 177, 3) := by decide +kernel
theorem dX10_slice_71 : decode cX10_slice 71 = .ok (.i2l, 1) := by decide +kernel
theorem dX10_slice_72 : decode cX10_slice 72 = .ok (.invokevirtual 280, 3) := by decide +kernel
theorem dX10_slice_75 : decode cX10_slice 75 = .ok (.iinc 4 1, 3) := by decide +kernel
theorem dX10_slice_78 : decode cX10_slice 78 = .ok (.goto (-47), 3) := by decide +kernel
theorem dX10_slice_81 : decode cX10_slice 81 = .ok (.iload_n 3, 1) := by decide +kernel
theorem dX10_slice_82 : decode cX10_slice 82 = .ok (.ireturn, 1) := by decide +kernel
theorem dX10_gaps_0 : decode cX10_gaps 0 = .ok (.aload_n 0, 1) := by decide +kernel
theorem dX10_gaps_1 : decode cX10_gaps 1 = .ok (.iconst 0, 1) := by decide +kernel
theorem dX10_gaps_2 : decode cX10_gaps 2 = .ok (.putfield 3, 3) := by decide +kernel
theorem dX10_gaps_5 : decode cX10_gaps 5 = .ok (.iload_n 1, 1) := by decide +kernel
theorem dX10_gaps_6 : decode cX10_gaps 6 = .ok (.invokestatic 211, 3) := by decide +kernel
theorem dX10_gaps_9 : decode cX10_gaps 9 = .ok (.ifCond .eq 19, 3) := by decide +kernel
theorem dX10_gaps_12 : decode cX10_gaps 12 = .ok (.iload_n 2, 1) := by decide +kernel
theorem dX10_gaps_13 : decode cX10_gaps 13 = .ok (.invokestatic 231, 3) := by decide +kernel
theorem dX10_gaps_16 : decode cX10_gaps 16 = .ok (.ifCond .eq 12, 3) := by decide +kernel
theorem dX10_gaps_19 : decode cX10_gaps 19 = .ok (.iload_n 3, 1) := by decide +kernel
theorem dX10_gaps_20 : decode cX10_gaps 20 = .ok (.iload 4, 2) := by decide +kernel
theorem dX10_gaps_22 : decode cX10_gaps 22 = .ok (.invokestatic 234, 3) := by decide +kernel
theorem dX10_gaps_25 : decode cX10_gaps 25 = .ok (.ifCond .ne 5, 3) := by decide +kernel
theorem dX10_gaps_28 : decode cX10_gaps 28 = .ok (.iconst (-1), 1) := by decide +kernel
theorem dX10_gaps_29 : decode cX10_gaps 29 = .ok (.ireturn, 1) := by decide +kernel
theorem dX10_gaps_30 : decode cX10_gaps 30 = .ok (.iconst 0, 1) := by decide +kernel
theorem dX10_gaps_31 : decode cX10_gaps 31 = .ok (.istore 5, 2) := by decide +kernel
theorem dX10_gaps_33 : decode cX10_gaps 33 = .ok (.aload_n 0, 1) := by decide +kernel
theorem dX10_gaps_34 : decode cX10_gaps 34 = .ok (.iconst 0, 1) := by decide +kernel
theorem dX10_gaps_35 : decode cX10_gaps 35 = .ok (.putfield 15, 3) := by decide +kernel
theorem dX10_gaps_38 : decode cX10_gaps 38 = .ok (.iload_n 3, 1) := by decide +kernel
theorem dX10_gaps_39 : decode cX10_gaps 39 = .ok (.istore 6, 2) := by decide +kernel
theorem dX10_gaps_41 : decode cX10_gaps 41 = .ok (.iload 6, 2) := by decide +kernel
theorem dX10_gaps_43 : decode cX10_gaps 43 = .ok (.iload 4, 2) := by decide +kernel
theorem dX10_gaps_45 : decode cX10_gaps 45 = .ok (.if_icmp .ge 95, 3) := by decide +kernel
theorem dX10_gaps_48 : decode cX10_gaps 48 = .ok (.aload_n 0, 1) := by decide +kernel
theorem dX10_gaps_49 : decode cX10_gaps 49 = .ok (.getfield 118, 3) := by decide +kernel
theorem dX10_gaps_52 : decode cX10_gaps 52 = .ok (.iload_n 1, 1) := by decide +kernel
theorem dX10_gaps_53 : decode cX10_gaps 53 = .ok (.iload_n 2, 1) := by decide +kernel
theorem dX10_gaps_54 : decode cX10_gaps 54 = .ok (.iload 6, 2) := by decide +kernel
theorem dX10_gaps_56 : decode cX10_gaps 56 = .ok (.invokestatic 173, 3) := by decide +kernel
theorem dX10_gaps_59 : decode cX10_gaps 59 = .ok (.ifCond .ne 7, 3) := by decide +kernel
theorem dX10_gaps_62 : decode cX10_gaps 62 = .ok (.iconst 1, 1) := by decide +kernel
theorem dX10_gaps_63 : decode cX10_gaps 63 = .ok (.goto 4, 3) := by decide +kernel
theorem dX10_gaps_66 : decode cX10_gaps 66 = .ok (.iconst 0, 1) := by decide +kernel
theorem dX10_gaps_67 : decode cX10_gaps 67 = .ok (.istore 7, 2) := by decide +kernel
theorem dX10_gaps_69 : decode cX10_gaps 69 = .ok (.iload 7, 2) := by decide +kernel
theorem dX10_gaps_71 : decode cX10_gaps 71 = .ok (.ifCond .eq 53, 3) := by decide +kernel
theorem dX10_gaps_74 : decode cX10_gaps 74 = .ok (.iload 5, 2) := by decide +kernel
theorem dX10_gaps_76 : decode cX10_gaps 76 = .ok (.ifCond .ne 48, 3) := by decide +kernel
theorem dX10_gaps_79 : decode cX10_gaps 79 = .ok (.iload 6, 2) := by decide +kernel
theorem dX10_gaps_81 : decode cX10_gaps 81 = .ok (.istore 8, 2) := by decide +kernel
theorem dX10_gaps_83 : decode cX10_gaps 83 = .ok (.iload 8, 2) := by decide +kernel
theorem dX10_gaps_85 : decode cX10_gaps 85 = .ok (.iload 4, 2) := by decide +kernel
theorem dX10_gaps_87 : decode cX10_gaps 87 = .ok (.if_icmp .ge 23, 3) := by decide +kernel
theorem dX10_gaps_90 : decode cX10_gaps 90 = .ok (.aload_n 0, 1) := by decide +kernel
theorem dX10_gaps_91 : decode cX10_gaps 91 = .ok (.getfield 118, 3) := by decide +kernel
theorem dX10_gaps_94 : decode cX10_gaps 94 = .ok (.iload_n 1, 1) := by decide +kernel
theorem dX10_gaps_95 : decode cX10_gaps 95 = .ok (.iload_n 2, 1) := by decide +kernel
theorem dX10_gaps_96 : decode cX10_gaps 96 = .ok (.iload 8, 2) := by decide +kernel
theorem dX10_gaps_98 : decode cX10_gaps 98 = .ok (.invokestatic 173, 3) := by decide +kernel
theorem dX10_gaps_101 : decode cX10_gaps 101 = .ok (.ifCond .ne 9, 3) := by decide +kernel
theorem dX10_gaps_104 : decode cX10_gaps 104 = .ok (.iinc 8 1, 3) := by decide +kernel
theorem dX10_gaps_107 : decode cX10_gaps 107 = .ok (.goto (-24), 3) := by decide +kernel
theorem dX10_gaps_110 : decode cX10_gaps 110 = .ok (.aload_n 0, 1) := by decide +kernel
theorem dX10_gaps_111 : decode cX10_gaps 111 = .ok (.iload 6, 2) := by decide +kernel
theorem dX10_gaps_113 : decode cX10_gaps 113 = .ok (.i2l, 1) := by decide +kernel
theorem dX10_gaps_114 : decode cX10_gaps 114 = .ok (.invokevirtual 280, 3) := by decide +kernel
theorem dX10_gaps_117 : decode cX10_gaps 117 = .ok (.aload_n 0, 1) := by decide +kernel
theorem dX10_gaps_118 : decode cX10_gaps 118 = .ok (.iload 8, 2) := by decide +kernel
theorem dX10_gaps_120 : decode cX10_gaps 120 = .ok (.i2l, 1) := by decide +kernel
theorem dX10_gaps_121 : decode cX10_gaps 121 = .ok (.invokevirtual 280, 3) := by decide +kernel
theorem dX10_gaps_124 : decode cX10_gaps 124 = .ok (.iload 5, 2) := by decide +kernel
theorem dX10_gaps_126 : decode cX10_gaps 126 = .ok (.iload 7, 2) := by decide +kernel
theorem dX10_gaps_128 : decode cX10_gaps 128 = .ok (.invokestatic 44, 3) := by decide +kernel
theorem dX10_gaps_131 : decode cX10_gaps 131 = .ok (.iadd, 1) := by decide +kernel
theorem dX10_gaps_132 : decode cX10_gaps 132 = .ok (.istore 5, 2) := by decide +kernel
theorem dX10_gaps_134 : decode cX10_gaps 134 = .ok (.iinc 6 1, 3) := by decide +kernel
theorem dX10_gaps_137 : decode cX10_gaps 137 = .ok (.goto (-96), 3) := by decide +kernel
theorem dX10_gaps_140 : decode cX10_gaps 140 = .ok (.iload 5, 2) := by decide +kernel
theorem dX10_gaps_142 : decode cX10_gaps 142 = .ok (.ireturn, 1) := by decide +kernel
theorem dX10_covers_0 : decode cX10_covers 0 = .ok (.aload_n 0, 1) := by decide +kernel
theorem dX10_covers_1 : decode cX10_covers 1 = .ok (.iconst 0, 1) := by decide +kernel
theorem dX10_covers_2 : decode cX10_covers 2 = .ok (.putfield 3, 3) := by decide +kernel
theorem dX10_covers_5 : decode cX10_covers 5 = .ok (.iload_n 1, 1) := by decide +kernel
theorem dX10_covers_6 : decode cX10_covers 6 = .ok (.invokestatic 231, 3) := by decide +kernel
theorem dX10_covers_9 : decode cX10_covers 9 = .ok (.ifCond .eq 11, 3) := by decide +kernel
theorem dX10_covers_12 : decode cX10_covers 12 = .ok (.iload_n 2, 1) := by decide +kernel
theorem dX10_covers_13 : decode cX10_covers 13 = .ok (.iload_n 3, 1) := by decide +kernel
theorem dX10_covers_14 : decode cX10_covers 14 = .ok (.invokestatic 234, 3) := by decide +kernel
theorem dX10_covers_17 : decode cX10_covers 17 = .ok (.ifCond .ne 5, 3) := by decide +kernel
theorem dX10_covers_20 : decode cX10_covers 20 = .ok (.iconst (-1), 1) := by decide +kernel
theorem dX10_covers_21 : decode cX10_covers 21 = .ok (.ireturn, 1) := by decide +kernel
theorem dX10_covers_22 : decode cX10_covers 22 = .ok (.iconst 1, 1) := by decide +kernel
theorem dX10_covers_23 : decode cX10_covers 23 = .ok (.istore 4, 2) := by decide +kernel
theorem dX10_covers_25 : decode cX10_covers 25 = .ok (.iload_n 2, 1) := by decide +kernel
theorem dX10_covers_26 : decode cX10_covers 26 = .ok (.istore 5, 2) := by decide +kernel
theorem dX10_covers_28 : decode cX10_covers 28 = .ok (.iload 5, 2) := by decide +kernel
theorem dX10_covers_30 : decode cX10_covers 30 = .ok (.iload_n 3, 1) := by decide +kernel
theorem dX10_covers_31 : decode cX10_covers 31 = .ok (.if_icmp .ge 35, 3) := by decide +kernel
theorem dX10_covers_34 : decode cX10_covers 34 = .ok (.iload 4, 2) := by decide +kernel
theorem dX10_covers_36 : decode cX10_covers 36 = .ok (.ifCond .eq 21, 3) := by decide +kernel
theorem dX10_covers_39 : decode cX10_covers 39 = .ok (.aload_n 0, 1) := by decide +kernel
theorem dX10_covers_40 : decode cX10_covers 40 = .ok (.getfield 118, 3) := by decide +kernel
theorem dX10_covers_43 : decode cX10_covers 43 = .ok (.iconst 1, 1) := by decide +kernel
theorem dX10_covers_44 : decode cX10_covers 44 = .ok (.iload_n 1, 1) := by decide +kernel
theorem dX10_covers_45 : decode cX10_covers 45 = .ok (.iload 5, 2) := by decide +kernel
theorem dX10_covers_47 : decode cX10_covers 47 = .ok (.invokestatic 173, 3) := by decide +kernel
theorem dX10_covers_50 : decode cX10_covers 50 = .ok (.ifCond .eq 7, 3) := by decide +kernel
theorem dX10_covers_53 : decode cX10_covers 53 = .ok (.iconst 1, 1) := by decide +kernel
theorem dX10_covers_54 : decode cX10_covers 54 = .ok (.goto 4, 3) := by decide +kernel
theorem dX10_covers_57 : decode cX10_covers 57 = .ok (.iconst 0, 1) := by decide +kernel
theorem dX10_covers_58 : decode cX10_covers 58 = .ok (.istore 4, 2) := by decide +kernel
theorem dX10_covers_60 : decode cX10_covers 60 = .ok (.iinc 5 1, 3) := by decide +kernel
theorem dX10_covers_63 : decode cX10_covers 63 = .ok (.goto (-35), 3) := by decide +kernel
theorem dX10_covers_66 : decode cX10_covers 66 = .ok (.aload_n 0, 1) := by decide +kernel
theorem dX10_covers_67 : decode cX10_covers 67 = .ok (.iconst 0, 1) := by decide +kernel
theorem dX10_covers_68 : decode cX10_covers 68 = .ok (.putfield 15, 3) := by decide +kernel
theorem dX10_covers_71 : decode cX10_covers 71 = .ok (.aload_n 0, 1) := by decide +kernel
theorem dX10_covers_72 : decode cX10_covers 72 = .ok (.aload_n 0, 1) := by decide +kernel
theorem dX10_covers_73 : decode cX10_covers 73 = .ok (.getfield 118, 3) := by decide +kernel
theorem dX10_covers_76 : decode cX10_covers 76 = .ok (.iconst 1, 1) := by decide +kernel
theorem dX10_covers_77 : decode cX10_covers 77 = .ok (.iload_n 1, 1) := by decide +kernel
theorem dX10_covers_78 : decode cX10_covers 78 = .ok (.iload_n 2, 1) := by decide +kernel
theorem dX10_covers_79 : decode cX10_covers 79 = .ok (.iload_n 3, 1) := by decide +kernel
theorem dX10_covers_80 : decode cX10_covers 80 = .ok (.invokestatic 238, 3) := by decide +kernel
theorem dX10_covers_83 : decode cX10_covers 83 = .ok (.i2l, 1) := by decide +kernel
theorem dX10_covers_84 : decode cX10_covers 84 = .ok (.invokevirtual 280, 3) := by decide +kernel
theorem dX10_covers_87 : decode cX10_covers 87 = .ok (.iload 4, 2) := by decide +kernel
theorem dX10_covers_89 : decode cX10_covers 89 = .ok (.invokestatic 44, 3) := by decide +kernel
theorem dX10_covers_92 : decode cX10_covers 92 = .ok (.ireturn, 1) := by decide +kernel
theorem dX10_lies_0 : decode cX10_lies 0 = .ok (.aload_n 0, 1) := by decide +kernel
theorem dX10_lies_1 : decode cX10_lies 1 = .ok (.iconst 0, 1) := by decide +kernel
theorem dX10_lies_2 : decode cX10_lies 2 = .ok (.putfield 3, 3) := by decide +kernel
theorem dX10_lies_5 : decode cX10_lies 5 = .ok (.iload_n 1, 1) := by decide +kernel
theorem dX10_lies_6 : decode cX10_lies 6 = .ok (.invokestatic 211, 3) := by decide +kernel
theorem dX10_lies_9 : decode cX10_lies 9 = .ok (.ifCond .eq 32, 3) := by decide +kernel
theorem dX10_lies_12 : decode cX10_lies 12 = .ok (.iload_n 3, 1) := by decide +kernel
theorem dX10_lies_13 : decode cX10_lies 13 = .ok (.invokestatic 211, 3) := by decide +kernel
theorem dX10_lies_16 : decode cX10_lies 16 = .ok (.ifCond .eq 25, 3) := by decide +kernel
theorem dX10_lies_19 : decode cX10_lies 19 = .ok (.iload_n 2, 1) := by decide +kernel
theorem dX10_lies_20 : decode cX10_lies 20 = .ok (.ifCond .lt 21, 3) := by decide +kernel
theorem dX10_lies_23 : decode cX10_lies 23 = .ok (.iload 4, 2) := by decide +kernel
theorem dX10_lies_25 : decode cX10_lies 25 = .ok (.ifCond .lt 16, 3) := by decide +kernel
theorem dX10_lies_28 : decode cX10_lies 28 = .ok (.aload_n 0, 1) := by decide +kernel
theorem dX10_lies_29 : decode cX10_lies 29 = .ok (.aload_n 0, 1) := by decide +kernel
theorem dX10_lies_30 : decode cX10_lies 30 = .ok (.getfield 118, 3) := by decide +kernel
theorem dX10_lies_33 : decode cX10_lies 33 = .ok (.iload_n 1, 1) := by decide +kernel
theorem dX10_lies_34 : decode cX10_lies 34 = .ok (.iload_n 2, 1) := by decide +kernel
theorem dX10_lies_35 : decode cX10_lies 35 = .ok (.invokevirtual 216, 3) := by decide +kernel
theorem dX10_lies_38 : decode cX10_lies 38 = .ok (.ifCond .ne 5, 3) := by decide +kernel
theorem dX10_lies_41 : decode cX10_lies 41 = .ok (.iconst (-1), 1) := by decide +kernel
theorem dX10_lies_42 : decode cX10_lies 42 = .ok (.ireturn, 1) := by decide +kernel
theorem dX10_lies_43 : decode cX10_lies 43 = .ok (.aload_n 0, 1) := by decide +kernel
theorem dX10_lies_44 : decode cX10_lies 44 = .ok (.getfield 194, 3) := by decide +kernel
theorem dX10_lies_47 : decode cX10_lies 47 = .ok (.istore 5, 2) := by decide +kernel
theorem dX10_lies_49 : decode cX10_lies 49 = .ok (.aload_n 0, 1) := by decide +kernel
theorem dX10_lies_50 : decode cX10_lies 50 = .ok (.getfield 118, 3) := by decide +kernel
theorem dX10_lies_53 : decode cX10_lies 53 = .ok (.iload_n 1, 1) := by decide +kernel
theorem dX10_lies_54 : decode cX10_lies 54 = .ok (.aload_n 0, 1) := by decide +kernel
theorem dX10_lies_55 : decode cX10_lies 55 = .ok (.getfield 191, 3) := by decide +kernel
theorem dX10_lies_58 : decode cX10_lies 58 = .ok (.iload 5, 2) := by decide +kernel
theorem dX10_lies_60 : decode cX10_lies 60 = .ok (.invokestatic 223, 3) := by decide +kernel
theorem dX10_lies_63 : decode cX10_lies 63 = .ok (.istore 6, 2) := by decide +kernel
theorem dX10_lies_65 : decode cX10_lies 65 = .ok (.aload_n 0, 1) := by decide +kernel
theorem dX10_lies_66 : decode cX10_lies 66 = .ok (.aload_n 0, 1) := by decide +kernel
theorem dX10_lies_67 : decode cX10_lies 67 = .ok (.getfield 118, 3) := by decide +kernel
theorem dX10_lies_70 : decode cX10_lies 70 = .ok (.iload_n 3, 1) := by decide +kernel
theorem dX10_lies_71 : decode cX10_lies 71 = .ok (.iload 4, 2) := by decide +kernel
theorem dX10_lies_73 : decode cX10_lies 73 = .ok (.invokevirtual 216, 3) := by decide +kernel
theorem dX10_lies_76 : decode cX10_lies 76 = .ok (.ifCond .ne 5, 3) := by decide +kernel
theorem dX10_lies_79 : decode cX10_lies 79 = .ok (.iconst (-1), 1) := by decide +kernel
theorem dX10_lies_80 : decode cX10_lies 80 = .ok (.ireturn, 1) := by decide +kernel
theorem dX10_lies_81 : decode cX10_lies 81 = .ok (.aload_n 0, 1) := by decide +kernel
theorem dX10_lies_82 : decode cX10_lies 82 = .ok (.getfield 194, 3) := by decide +kernel
theorem dX10_lies_85 : decode cX10_lies 85 = .ok (.istore 7, 2) := by decide +kernel
theorem dX10_lies_87 : decode cX10_lies 87 = .ok (.aload_n 0, 1) := by decide +kernel
theorem dX10_lies_88 : decode cX10_lies 88 = .ok (.getfield 118, 3) := by decide +kernel
theorem dX10_lies_91 : decode cX10_lies 91 = .ok (.iload_n 3, 1) := by decide +kernel
theorem dX10_lies_92 : decode cX10_lies 92 = .ok (.aload_n 0, 1) := by decide +kernel
theorem dX10_lies_93 : decode cX10_lies 93 = .ok (.getfield 191, 3) := by decide +kernel
theorem dX10_lies_96 : decode cX10_lies 96 = .ok (.iload 7, 2) := by decide +kernel
theorem dX10_lies_98 : decode cX10_lies 98 = .ok (.invokestatic 223, 3) := by decide +kernel
theorem dX10_lies_101 : decode cX10_lies 101 = .ok (.istore 8, 2) := by decide +kernel
theorem dX10_lies_103 : decode cX10_lies 103 = .ok (.aload_n 0, 1) := by decide +kernel
theorem dX10_lies_104 : decode cX10_lies 104 = .ok (.iconst 0, 1) := by decide +kernel
theorem dX10_lies_105 : decode cX10_lies 105 = .ok (.putfield 15, 3) := by decide +kernel
theorem dX10_lies_108 : decode cX10_lies 108 = .ok (.aload_n 0, 1) := by decide +kernel
theorem dX10_lies_109 : decode cX10_lies 109 = .ok (.iconst 0, 1) := by decide +kernel
theorem dX10_lies_110 : decode cX10_lies 110 = .ok (.iload 6, 2) := by decide +kernel
theorem dX10_lies_112 : decode cX10_lies 112 = .ok (.iload 8, 2) := by decide +kernel
theorem dX10_lies_114 : decode cX10_lies 114 = .ok (.invokestatic 35, 3) := by decide +kernel
theorem dX10_lies_117 : decode cX10_lies 117 = .ok (.iload 5, 2) := by decide +kernel
theorem dX10_lies_119 : decode cX10_lies 119 = .ok (.iload 7, 2) := by decide +kernel
theorem dX10_lies_121 : decode cX10_lies 121 = .ok (.invokestatic 228, 3) := by decide +kernel
theorem dX10_lies_124 : decode cX10_lies 124 = .ok (.isub, 1) := by decide +kernel
theorem dX10_lies_125 : decode cX10_lies 125 = .ok (.invokestatic 228, 3) := by decide +kernel
theorem dX10_lies_128 : decode cX10_lies 128 = .ok (.i2l, 1) := by decide +kernel
theorem dX10_lies_129 : decode cX10_lies 129 = .ok (.invokevirtual 280, 3) := by decide +kernel
theorem dX10_lies_132 : decode cX10_lies 132 = .ok (.iload 6, 2) := by decide +kernel
theorem dX10_lies_134 : decode cX10_lies 134 = .ok (.iload 7, 2) := by decide +kernel
theorem dX10_lies_136 : decode cX10_lies 136 = .ok (.if_icmp .gt 16, 3) := by decide +kernel
theorem dX10_lies_139 : decode cX10_lies 139 = .ok (.iload 6, 2) := by decide +kernel
theorem dX10_lies_141 : decode cX10_lies 141 = .ok (.iload 7, 2) := by decide +kernel
theorem dX10_lies_143 : decode cX10_lies 143 = .ok (.if_icmp .ge 7, 3) := by decide +kernel
theorem dX10_lies_146 : decode cX10_lies 146 = .ok (.iconst 0, 1) := by decide +kernel
theorem dX10_lies_147 : decode cX10_lies 147 = .ok (.goto 4, 3) := by decide +kernel
theorem dX10_lies_150 : decode cX10_lies 150 = .ok (.iconst 1, 1) := by decide +kernel
theorem dX10_lies_151 : decode cX10_lies 151 = .ok (.ireturn, 1) := by decide +kernel
theorem dX10_lies_152 : decode cX10_lies 152 = .ok (.iload 8, 2) := by decide +kernel
theorem dX10_lies_154 : decode cX10_lies 154 = .ok (.iload 5, 2) := by decide +kernel
theorem dX10_lies_156 : decode cX10_lies 156 = .ok (.if_icmp .gt 18, 3) := by decide +kernel
theorem dX10_lies_159 : decode cX10_lies 159 = .ok (.iload 8, 2) := by decide +kernel
theorem dX10_lies_161 : decode cX10_lies 161 = .ok (.iload 5, 2) := by decide +kernel
theorem dX10_lies_163 : decode cX10_lies 163 = .ok (.if_icmp .ge 8, 3) := by decide +kernel
theorem dX10_lies_166 : decode cX10_lies 166 = .ok (.bipush 12, 2) := by decide +kernel
theorem dX10_lies_168 : decode cX10_lies 168 = .ok (.goto 5, 3) := by decide +kernel
theorem dX10_lies_171 : decode cX10_lies 171 = .ok (.bipush 11, 2) := by decide +kernel
theorem dX10_lies_173 : decode cX10_lies 173 = .ok (.ireturn, 1) := by decide +kernel
theorem dX10_lies_174 : decode cX10_lies 174 = .ok (.iload 5, 2) := by decide +kernel
theorem dX10_lies_176 : decode cX10_lies 176 = .ok (.iload 7, 2) := by decide +kernel
theorem dX10_lies_178 : decode cX10_lies 178 = .ok (.if_icmp .ge 29, 3) := by decide +kernel
theorem dX10_lies_181 : decode cX10_lies 181 = .ok (.iload 6, 2) := by decide +kernel
theorem dX10_lies_183 : decode cX10_lies 183 = .ok (.iload 8, 2) := by decide +kernel
theorem dX10_lies_185 : decode cX10_lies 185 = .ok (.if_icmp .ge 7, 3) := by decide +kernel
theorem dX10_lies_188 : decode cX10_lies 188 = .ok (.iconst 2, 1) := by decide +kernel
theorem dX10_lies_189 : decode cX10_lies 189 = .ok (.goto 17, 3) := by decide +kernel
theorem dX10_lies_192 : decode cX10_lies 192 = .ok (.iload 6, 2) := by decide +kernel
theorem dX10_lies_194 : decode cX10_lies 194 = .ok (.iload 8, 2) := by decide +kernel
theorem dX10_lies_196 : decode cX10_lies 196 = .ok (.if_icmp .ne 8, 3) := by decide +kernel
theorem dX10_lies_199 : decode cX10_lies 199 = .ok (.bipush 7, 2) := by decide +kernel
theorem dX10_lies_201 : decode cX10_lies 201 = .ok (.goto 5, 3) := by decide +kernel
theorem dX10_lies_204 : decode cX10_lies 204 = .ok (.bipush 8, 2) := by decide +kernel
theorem dX10_lies_206 : decode cX10_lies 206 = .ok (.ireturn, 1) := by decide +kernel
theorem dX10_lies_207 : decode cX10_lies 207 = .ok (.iload 5, 2) := by decide +kernel
theorem dX10_lies_209 : decode cX10_lies 209 = .ok (.iload 7, 2) := by decide +kernel
theorem dX10_lies_211 : decode cX10_lies 211 = .ok (.if_icmp .ne 29, 3) := by decide +kernel
theorem dX10_lies_214 : decode cX10_lies 214 = .ok (.iload 6, 2) := by decide +kernel
theorem dX10_lies_216 : decode cX10_lies 216 = .ok (.iload 8, 2) := by decide +kernel
theorem dX10_lies_218 : decode cX10_lies 218 = .ok (.if_icmp .ge 7, 3) := by decide +kernel
theorem dX10_lies_221 : decode cX10_lies 221 = .ok (.iconst 3, 1) := by decide +kernel
theorem dX10_lies_222 : decode cX10_lies 222 = .ok (.goto 17, 3) := by decide +kernel
theorem dX10_lies_225 : decode cX10_lies 225 = .ok (.iload 6, 2) := by decide +kernel
theorem dX10_lies_227 : decode cX10_lies 227 = .ok (.iload 8, 2) := by decide +kernel
theorem dX10_lies_229 : decode cX10_lies 229 = .ok (.if_icmp .ne 8, 3) := by decide +kernel
theorem dX10_lies_232 : decode cX10_lies 232 = .ok (.bipush 6, 2) := by decide +kernel
theorem dX10_lies_234 : decode cX10_lies 234 = .ok (.goto 5, 3) := by decide +kernel
theorem dX10_lies_237 : decode cX10_lies 237 = .ok (.bipush 9, 2) := by decide +kernel
theorem dX10_lies_239 : decode cX10_lies 239 = .ok (.ireturn, 1) := by decide +kernel
theorem dX10_lies_240 : decode cX10_lies 240 = .ok (.iload 6, 2) := by decide +kernel
theorem dX10_lies_242 : decode cX10_lies 242 = .ok (.iload 8, 2) := by decide +kernel
theorem dX10_lies_244 : decode cX10_lies 244 = .ok (.if_icmp .ge 7, 3) := by decide +kernel
theorem dX10_lies_247 : decode cX10_lies 247 = .ok (.iconst 4, 1) := by decide +kernel
theorem dX10_lies_248 : decode cX10_lies 248 = .ok (.goto 16, 3) := by decide +kernel
theorem dX10_lies_251 : decode cX10_lies 251 = .ok (.iload 6, 2) := by decide +kernel
theorem dX10_lies_253 : decode cX10_lies 253 = .ok (.iload 8, 2) := by decide +kernel
theorem dX10_lies_255 : decode cX10_lies 255 = .ok (.if_icmp .ne 7, 3) := by decide +kernel
theorem dX10_lies_258 : decode cX10_lies 258 = .ok (.iconst 5, 1) := by decide +kernel
theorem dX10_lies_259 : decode cX10_lies 259 = .ok (.goto 5, 3) := by decide +kernel
theorem dX10_lies_262 : decode cX10_lies 262 = .ok (.bipush 10, 2) := by decide +kernel
theorem dX10_lies_264 : decode cX10_lies 264 = .ok (.ireturn, 1) := by decide +kernel
theorem dX10_changes_0 : decode cX10_changes 0 = .ok (.aload_n 0, 1) := by decide +kernel
theorem dX10_changes_1 : decode cX10_changes 1 = .ok (.iconst 0, 1) := by decide +kernel
theorem dX10_changes_2 : decode cX10_changes 2 = .ok (.putfield 3, 3) := by decide +kernel
theorem dX10_changes_5 : decode cX10_changes 5 = .ok (.iload_n 1, 1) := by decide +kernel
theorem dX10_changes_6 : decode cX10_changes 6 = .ok (.invokestatic 211, 3) := by decide +kernel
theorem dX10_changes_9 : decode cX10_changes 9 = .ok (.ifCond .eq 10, 3) := by decide +kernel
theorem dX10_changes_12 : decode cX10_changes 12 = .ok (.iload_n 2, 1) := by decide +kernel
theorem dX10_changes_13 : decode cX10_changes 13 = .ok (.invokestatic 231, 3) := by decide +kernel
theorem dX10_changes_16 : decode cX10_changes 16 = .ok (.ifCond .ne 5, 3) := by decide +kernel
theorem dX10_changes_19 : decode cX10_changes 19 = .ok (.iconst (-1), 1) := by decide +kernel
theorem dX10_changes_20 : decode cX10_changes 20 = .ok (.ireturn, 1) := by decide +kernel
theorem dX10_changes_21 : decode cX10_changes 21 = .ok (.iconst 0, 1) := by decide +kernel
theorem dX10_changes_22 : decode cX10_changes 22 = .ok (.istore_n 3, 1) := by decide +kernel
theorem dX10_changes_23 : decode cX10_changes 23 = .ok (.aload_n 0, 1) := by decide +kernel
theorem dX10_changes_24 : decode cX10_changes 24 = .ok (.iconst 0, 1) := by decide +kernel
theorem dX10_changes_25 : decode cX10_changes 25 = .ok (.putfield 15, 3) := by decide +kernel
theorem dX10_changes_28 : decode cX10_changes 28 = .ok (.iconst 1, 1) := by decide +kernel
theorem dX10_changes_29 : decode cX10_changes 29 = .ok (.istore 4, 2) := by decide +kernel
theorem dX10_changes_31 : decode cX10_changes 31 = .ok (.iload 4, 2) := by decide +kernel
theorem dX10_changes_33 : decode cX10_changes 33 = .ok (.bipush 100, 2) := by decide +kernel
theorem dX10_changes_35 : decode cX10_changes 35 = .ok (.if_icmp .ge 99, 3) := by decide +kernel
theorem dX10_changes_38 : decode cX10_changes 38 = .ok (.aload_n 0, 1) := by decide +kernel
theorem dX10_changes_39 : decode cX10_changes 39 = .ok (.getfield 118, 3) := by decide +kernel
theorem dX10_changes_42 : decode cX10_changes 42 = .ok (.iload_n 1, 1) := by decide +kernel
theorem dX10_changes_43 : decode cX10_changes 43 = .ok (.iload_n 2, 1) := by decide +kernel
theorem dX10_changes_44 : decode cX10_changes 44 = .ok (.iload 4, 2) := by decide +kernel
theorem dX10_changes_46 : decode cX10_changes 46 = .ok (.invokestatic 173, 3) := by decide +kernel
theorem dX10_changes_49 : decode cX10_changes 49 = .ok (.ifCond .eq 50, 3) := by decide +kernel
theorem dX10_changes_52 : decode cX10_changes 52 = .ok (.aload_n 0, 1) := by decide +kernel
theorem dX10_changes_53 : decode cX10_changes 53 = .ok (.getfield 118, 3) := by decide +kernel
theorem dX10_changes_56 : decode cX10_changes 56 = .ok (.iload_n 1, 1) := by decide +kernel
theorem dX10_changes_57 : decode cX10_changes 57 = .ok (.iload_n 2, 1) := by decide +kernel
theorem dX10_changes_58 : decode cX10_changes 58 = .ok (.iload 4, 2) := by decide +kernel
theorem dX10_changes_60 : decode cX10_changes 60 = .ok (.iconst 1, 1) := by decide +kernel
theorem dX10_changes_61 : decode cX10_changes 61 = .ok (.isub, 1) := by decide +kernel
theorem dX10_changes_62 : decode cX10_changes 62 = .ok (.invokestatic 173, 3) := by decide +kernel
theorem dX10_changes_65 : decode cX10_changes 65 = .ok (.ifCond .eq 34, 3) := by decide +kernel
theorem dX10_changes_68 : decode cX10_changes 68 = .ok (.aload_n 0, 1) := by decide +kernel
theorem dX10_changes_69 : decode cX10_changes 69 = .ok (.getfield 118, 3) := by decide +kernel
theorem dX10_changes_72 : decode cX10_changes 72 = .ok (.iload_n 1, 1) := by decide +kernel
theorem dX10_changes_73 : decode cX10_changes 73 = .ok (.iload_n 2, 1) := by decide +kernel
theorem dX10_changes_74 : decode cX10_changes 74 = .ok (.iload 4, 2) := by decide +kernel
theorem dX10_changes_76 : decode cX10_changes 76 = .ok (.invokestatic 177, 3) := by decide +kernel
theorem dX10_changes_79 : decode cX10_changes 79 = .ok (.aload_n 0, 1) := by decide +kernel
theorem dX10_changes_80 : decode cX10_changes 80 = .ok (.getfield 118, 3) := by decide +kernel
theorem dX10_changes_83 : decode cX10_changes 83 = .ok (.iload_n 1, 1) := by decide +kernel
theorem dX10_changes_84 : decode cX10_changes 84 = .ok (.iload_n 2, 1) := by decide +kernel
theorem dX10_changes_85 : decode cX10_changes 85 = .ok (.iload 4, 2) := by decide +kernel
theorem dX10_changes_87 : decode cX10_changes 87 = .ok (.iconst 1, 1) := by decide +kernel
theorem dX10_changes_88 : decode cX10_changes 88 = .ok (.isub, 1) := by decide +kernel
theorem dX10_changes_89 : decode cX10_changes 89 = .ok (.invokestatic 177, 3) := by decide +kernel
theorem dX10_changes_92 : decode cX10_changes 92 = .ok (.if_icmp .eq 7, 3) := by decide +kernel
theorem dX10_changes_95 : decode cX10_changes 95 = .ok (.iconst 1, 1) := by decide +kernel
theorem dX10_changes_96 : decode cX10_changes 96 = .ok (.goto 4, 3) := by decide +kernel
theorem dX10_changes_99 : decode cX10_changes 99 = .ok (.iconst 0, 1) := by decide +kernel
theorem dX10_changes_100 : decode cX10_changes 100 = .ok (.istore 5, 2) := by decide +kernel
theorem dX10_changes_102 : decode cX10_changes 102 = .ok (.iload 5, 2) := by decide +kernel
theorem dX10_changes_104 : decode cX10_changes 104 = .ok (.ifCond .eq 16, 3) := by decide +kernel
theorem dX10_changes_107 : decode cX10_changes 107 = .ok (.iload_n 3, 1) := by decide +kernel
theorem dX10_changes_108 : decode cX10_changes 108 = .ok (.bipush 12, 2) := by decide +kernel
theorem dX10_changes_110 : decode cX10_changes 110 = .ok (.if_icmp .ge 10, 3) := by decide +kernel
theorem dX10_changes_113 : decode cX10_changes 113 = .ok (.aload_n 0, 1) := by decide +kernel
theorem dX10_changes_114 : decode cX10_changes 114 = .ok (.iload 4, 2) := by decide +kernel
theorem dX10_changes_116 : decode cX10_changes 116 = .ok (.i2l, 1) := by decide +kernel
theorem dX10_changes_117 : decode cX10_changes 117 = .ok (.invokevirtual 280, 3) := by decide +kernel
theorem dX10_changes_120 : decode cX10_changes 120 = .ok (.iload_n 3, 1) := by decide +kernel
theorem dX10_changes_121 : decode cX10_changes 121 = .ok (.iload 5, 2) := by decide +kernel
theorem dX10_changes_123 : decode cX10_changes 123 = .ok (.invokestatic 44, 3) := by decide +kernel
theorem dX10_changes_126 : decode cX10_changes 126 = .ok (.iadd, 1) := by decide +kernel
theorem dX10_changes_127 : decode cX10_changes 127 = .ok (.istore_n 3, 1) := by decide +kernel
theorem dX10_changes_128 : decode cX10_changes 128 = .ok (.iinc 4 1, 3) := by decide +kernel
theorem dX10_changes_131 : decode cX10_changes 131 = .ok (.goto (-100), 3) := by decide +kernel
theorem dX10_changes_134 : decode cX10_changes 134 = .ok (.iload_n 3, 1) := by decide +kernel
theorem dX10_changes_135 : decode cX10_changes 135 = .ok (.ireturn, 1) := by decide +kernel
theorem dX10_copies_0 : decode cX10_copies 0 = .ok (.aload_n 0, 1) := by decide +kernel
theorem dX10_copies_1 : decode cX10_copies 1 = .ok (.getfield 118, 3) := by decide +kernel
theorem dX10_copies_4 : decode cX10_copies 4 = .ok (.aload_n 0, 1) := by decide +kernel
theorem dX10_copies_5 : decode cX10_copies 5 = .ok (.getfield 121, 3) := by decide +kernel
theorem dX10_copies_8 : decode cX10_copies 8 = .ok (.invokestatic 201, 3) := by decide +kernel
theorem dX10_copies_11 : decode cX10_copies 11 = .ok (.return_, 1) := by decide +kernel
theorem dX10_rows_0 : decode cX10_rows 0 = .ok (.aload_n 0, 1) := by decide +kernel
theorem dX10_rows_1 : decode cX10_rows 1 = .ok (.iconst 0, 1) := by decide +kernel
theorem dX10_rows_2 : decode cX10_rows 2 = .ok (.putfield 3, 3) := by decide +kernel
theorem dX10_rows_5 : decode cX10_rows 5 = .ok (.iload_n 1, 1) := by decide +kernel
theorem dX10_rows_6 : decode cX10_rows 6 = .ok (.invokestatic 211, 3) := by decide +kernel
theorem dX10_rows_9 : decode cX10_rows 9 = .ok (.ifCond .ne 5, 3) := by decide +kernel
theorem dX10_rows_12 : decode cX10_rows 12 = .ok (.iconst (-1), 1) := by decide +kernel
theorem dX10_rows_13 : decode cX10_rows 13 = .ok (.ireturn, 1) := by decide +kernel
theorem dX10_rows_14 : decode cX10_rows 14 = .ok (.aload_n 0, 1) := by decide +kernel
theorem dX10_rows_15 : decode cX10_rows 15 = .ok (.invokevirtual 357, 3) := by decide +kernel
theorem dX10_rows_18 : decode cX10_rows 18 = .ok (.aload_n 0, 1) := by decide +kernel
theorem dX10_rows_19 : decode cX10_rows 19 = .ok (.getfield 118, 3) := by decide +kernel
theorem dX10_rows_22 : decode cX10_rows 22 = .ok (.iload_n 1, 1) := by decide +kernel
theorem dX10_rows_23 : decode cX10_rows 23 = .ok (.invokestatic 197, 3) := by decide +kernel
theorem dX10_rows_26 : decode cX10_rows 26 = .ok (.istore_n 2, 1) := by decide +kernel
theorem dX10_rows_27 : decode cX10_rows 27 = .ok (.aload_n 0, 1) := by decide +kernel
theorem dX10_rows_28 : decode cX10_rows 28 = .ok (.iconst 0, 1) := by decide +kernel
theorem dX10_rows_29 : decode cX10_rows 29 = .ok (.putfield 15, 3) := by decide +kernel
theorem dX10_rows_32 : decode cX10_rows 32 = .ok (.aload_n 0, 1) := by decide +kernel
theorem dX10_rows_33 : decode cX10_rows 33 = .ok (.iload_n 2, 1) := by decide +kernel
theorem dX10_rows_34 : decode cX10_rows 34 = .ok (.aload_n 0, 1) := by decide +kernel
theorem dX10_rows_35 : decode cX10_rows 35 = .ok (.getfield 121, 3) := by decide +kernel
theorem dX10_rows_38 : decode cX10_rows 38 = .ok (.iload_n 1, 1) := by decide +kernel
theorem dX10_rows_39 : decode cX10_rows 39 = .ok (.invokestatic 309, 3) := by decide +kernel
theorem dX10_rows_42 : decode cX10_rows 42 = .ok (.isub, 1) := by decide +kernel
theorem dX10_rows_43 : decode cX10_rows 43 = .ok (.i2l, 1) := by decide +kernel
theorem dX10_rows_44 : decode cX10_rows 44 = .ok (.invokevirtual 280, 3) := by decide +kernel
theorem dX10_rows_47 : decode cX10_rows 47 = .ok (.aload_n 0, 1) := by decide +kernel
theorem dX10_rows_48 : decode cX10_rows 48 = .ok (.aload_n 0, 1) := by decide +kernel
theorem dX10_rows_49 : decode cX10_rows 49 = .ok (.getfield 118, 3) := by decide +kernel
theorem dX10_rows_52 : decode cX10_rows 52 = .ok (.iload_n 1, 1) := by decide +kernel
theorem dX10_rows_53 : decode cX10_rows 53 = .ok (.invokestatic 360, 3) := by decide +kernel
theorem dX10_rows_56 : decode cX10_rows 56 = .ok (.i2l, 1) := by decide +kernel
theorem dX10_rows_57 : decode cX10_rows 57 = .ok (.invokevirtual 280, 3) := by decide +kernel
theorem dX10_rows_60 : decode cX10_rows 60 = .ok (.iload_n 2, 1) := by decide +kernel
theorem dX10_rows_61 : decode cX10_rows 61 = .ok (.ireturn, 1) := by decide +kernel
theorem dX10_longest_0 : decode cX10_longest 0 = .ok (.aload_n 0, 1) := by decide +kernel
theorem dX10_longest_1 : decode cX10_longest 1 = .ok (.iconst 0, 1) := by decide +kernel
theorem dX10_longest_2 : decode cX10_longest 2 = .ok (.putfield 3, 3) := by decide +kernel
theorem dX10_longest_5 : decode cX10_longest 5 = .ok (.iload_n 1, 1) := by decide +kernel
theorem dX10_longest_6 : decode cX10_longest 6 = .ok (.invokestatic 211, 3) := by decide +kernel
theorem dX10_longest_9 : decode cX10_longest 9 = .ok (.ifCond .ne 5, 3) := by decide +kernel
theorem dX10_longest_12 : decode cX10_longest 12 = .ok (.iconst (-1), 1) := by decide +kernel
theorem dX10_longest_13 : decode cX10_longest 13 = .ok (.ireturn, 1) := by decide +kernel
theorem dX10_longest_14 : decode cX10_longest 14 = .ok (.bipush (-2), 2) := by decide +kernel
theorem dX10_longest_16 : decode cX10_longest 16 = .ok (.istore_n 2, 1) := by decide +kernel
theorem dX10_longest_17 : decode cX10_longest 17 = .ok (.iconst 0, 1) := by decide +kernel
theorem dX10_longest_18 : decode cX10_longest 18 = .ok (.istore_n 3, 1) := by decide +kernel
theorem dX10_longest_19 : decode cX10_longest 19 = .ok (.iconst 0, 1) := by decide +kernel
theorem dX10_longest_20 : decode cX10_longest 20 = .ok (.istore 4, 2) := by decide +kernel
theorem dX10_longest_22 : decode cX10_longest 22 = .ok (.aload_n 0, 1) := by decide +kernel
theorem dX10_longest_23 : decode cX10_longest 23 = .ok (.aload_n 0, 1) := by decide +kernel
theorem dX10_longest_24 : decode cX10_longest 24 = .ok (.getfield 118, 3) := by decide +kernel
theorem dX10_longest_27 : decode cX10_longest 27 = .ok (.iload_n 1, 1) := by decide +kernel
theorem dX10_longest_28 : decode cX10_longest 28 = .ok (.iload 4, 2) := by decide +kernel
theorem dX10_longest_30 : decode cX10_longest 30 = .ok (.invokevirtual 216, 3) := by decide +kernel
theorem dX10_longest_33 : decode cX10_longest 33 = .ok (.ifCond .eq 52, 3) := by decide +kernel
theorem dX10_longest_36 : decode cX10_longest 36 = .ok (.aload_n 0, 1) := by decide +kernel
theorem dX10_longest_37 : decode cX10_longest 37 = .ok (.getfield 118, 3) := by decide +kernel
theorem dX10_longest_40 : decode cX10_longest 40 = .ok (.iload_n 1, 1) := by decide +kernel
theorem dX10_longest_41 : decode cX10_longest 41 = .ok (.aload_n 0, 1) := by decide +kernel
theorem dX10_longest_42 : decode cX10_longest 42 = .ok (.getfield 191, 3) := by decide +kernel
theorem dX10_longest_45 : decode cX10_longest 45 = .ok (.aload_n 0, 1) := by decide +kernel
theorem dX10_longest_46 : decode cX10_longest 46 = .ok (.getfield 194, 3) := by decide +kernel
theorem dX10_longest_49 : decode cX10_longest 49 = .ok (.invokestatic 223, 3) := by decide +kernel
theorem dX10_longest_52 : decode cX10_longest 52 = .ok (.aload_n 0, 1) := by decide +kernel
theorem dX10_longest_53 : decode cX10_longest 53 = .ok (.getfield 194, 3) := by decide +kernel
theorem dX10_longest_56 : decode cX10_longest 56 = .ok (.isub, 1) := by decide +kernel
theorem dX10_longest_57 : decode cX10_longest 57 = .ok (.istore 5, 2) := by decide +kernel
theorem dX10_longest_59 : decode cX10_longest 59 = .ok (.iload 5, 2) := by decide +kernel
theorem dX10_longest_61 : decode cX10_longest 61 = .ok (.iload_n 3, 1) := by decide +kernel
theorem dX10_longest_62 : decode cX10_longest 62 = .ok (.if_icmp .le 8, 3) := by decide +kernel
theorem dX10_longest_65 : decode cX10_longest 65 = .ok (.iload 4, 2) := by decide +kernel
theorem dX10_longest_67 : decode cX10_longest 67 = .ok (.goto 4, 3) := by decide +kernel
theorem dX10_longest_70 : decode cX10_longest 70 = .ok (.iload_n 2, 1) := by decide +kernel
theorem dX10_longest_71 : decode cX10_longest 71 = .ok (.istore_n 2, 1) := by decide +kernel
theorem dX10_longest_72 : decode cX10_longest 72 = .ok (.iload_n 3, 1) := by decide +kernel
theorem dX10_longest_73 : decode cX10_longest 73 = .ok (.iload 5, 2) := by decide +kernel
theorem dX10_longest_75 : decode cX10_longest 75 = .ok (.invokestatic 228, 3) := by decide +kernel
theorem dX10_longest_78 : decode cX10_longest 78 = .ok (.istore_n 3, 1) := by decide +kernel
theorem dX10_longest_79 : decode cX10_longest 79 = .ok (.iinc 4 1, 3) := by decide +kernel
theorem dX10_longest_82 : decode cX10_longest 82 = .ok (.goto (-60), 3) := by decide +kernel
theorem dX10_longest_85 : decode cX10_longest 85 = .ok (.iload_n 2, 1) := by decide +kernel
theorem dX10_longest_86 : decode cX10_longest 86 = .ok (.ifCond .lt 14, 3) := by decide +kernel
theorem dX10_longest_89 : decode cX10_longest 89 = .ok (.aload_n 0, 1) := by decide +kernel
theorem dX10_longest_90 : decode cX10_longest 90 = .ok (.iconst 0, 1) := by decide +kernel
theorem dX10_longest_91 : decode cX10_longest 91 = .ok (.putfield 15, 3) := by decide +kernel
theorem dX10_longest_94 : decode cX10_longest 94 = .ok (.aload_n 0, 1) := by decide +kernel
theorem dX10_longest_95 : decode cX10_longest 95 = .ok (.iload_n 3, 1) := by decide +kernel
theorem dX10_longest_96 : decode cX10_longest 96 = .ok (.i2l, 1) := by decide +kernel
theorem dX10_longest_97 : decode cX10_longest 97 = .ok (.invokevirtual 280, 3) := by decide +kernel
theorem dX10_longest_100 : decode cX10_longest 100 = .ok (.iload_n 2, 1) := by decide +kernel
theorem dX10_longest_101 : decode cX10_longest 101 = .ok (.ireturn, 1) := by decide +kernel
theorem dX10_free_0 : decode cX10_free 0 = .ok (.aload_n 0, 1) := by decide +kernel
theorem dX10_free_1 : decode cX10_free 1 = .ok (.iconst 0, 1) := by decide +kernel
theorem dX10_free_2 : decode cX10_free 2 = .ok (.putfield 3, 3) := by decide +kernel
theorem dX10_free_5 : decode cX10_free 5 = .ok (.iload_n 1, 1) := by decide +kernel
theorem dX10_free_6 : decode cX10_free 6 = .ok (.invokestatic 211, 3) := by decide +kernel
theorem dX10_free_9 : decode cX10_free 9 = .ok (.ifCond .eq 30, 3) := by decide +kernel
theorem dX10_free_12 : decode cX10_free 12 = .ok (.iload_n 2, 1) := by decide +kernel
theorem dX10_free_13 : decode cX10_free 13 = .ok (.invokestatic 231, 3) := by decide +kernel
theorem dX10_free_16 : decode cX10_free 16 = .ok (.ifCond .eq 23, 3) := by decide +kernel
theorem dX10_free_19 : decode cX10_free 19 = .ok (.iload_n 3, 1) := by decide +kernel
theorem dX10_free_20 : decode cX10_free 20 = .ok (.invokestatic 167, 3) := by decide +kernel
theorem dX10_free_23 : decode cX10_free 23 = .ok (.ifCond .eq 16, 3) := by decide +kernel
theorem dX10_free_26 : decode cX10_free 26 = .ok (.iload 4, 2) := by decide +kernel
theorem dX10_free_28 : decode cX10_free 28 = .ok (.i2l, 1) := by decide +kernel
theorem dX10_free_29 : decode cX10_free 29 = .ok (.lconst 1, 1) := by decide +kernel
theorem dX10_free_30 : decode cX10_free 30 = .ok (.ldc2_w 363, 3) := by decide +kernel
theorem dX10_free_33 : decode cX10_free 33 = .ok (.invokestatic 25, 3) := by decide +kernel
theorem dX10_free_36 : decode cX10_free 36 = .ok (.ifCond .ne 5, 3) := by decide +kernel
theorem dX10_free_39 : decode cX10_free 39 = .ok (.iconst (-1), 1) := by decide +kernel
theorem dX10_free_40 : decode cX10_free 40 = .ok (.ireturn, 1) := by decide +kernel
theorem dX10_free_41 : decode cX10_free 41 = .ok (.iload_n 3, 1) := by decide +kernel
theorem dX10_free_42 : decode cX10_free 42 = .ok (.istore 5, 2) := by decide +kernel
theorem dX10_free_44 : decode cX10_free 44 = .ok (.iload 5, 2) := by decide +kernel
theorem dX10_free_46 : decode cX10_free 46 = .ok (.iload 4, 2) := by decide +kernel
theorem dX10_free_48 : decode cX10_free 48 = .ok (.iadd, 1) := by decide +kernel
theorem dX10_free_49 : decode cX10_free 49 = .ok (.bipush 100, 2) := by decide +kernel
theorem dX10_free_51 : decode cX10_free 51 = .ok (.if_icmp .gt 31, 3) := by decide +kernel
theorem dX10_free_54 : decode cX10_free 54 = .ok (.aload_n 0, 1) := by decide +kernel
theorem dX10_free_55 : decode cX10_free 55 = .ok (.getfield 118, 3) := by decide +kernel
theorem dX10_free_58 : decode cX10_free 58 = .ok (.iload_n 1, 1) := by decide +kernel
theorem dX10_free_59 : decode cX10_free 59 = .ok (.iload_n 2, 1) := by decide +kernel
theorem dX10_free_60 : decode cX10_free 60 = .ok (.iload 5, 2) := by decide +kernel
theorem dX10_free_62 : decode cX10_free 62 = .ok (.iload 5, 2) := by decide +kernel
theorem dX10_free_64 : decode cX10_free 64 = .ok (.iload 4, 2) := by decide +kernel
theorem dX10_free_66 : decode cX10_free 66 = .ok (.iadd, 1) := by decide +kernel
theorem dX10_free_67 : decode cX10_free 67 = .ok (.invokestatic 238, 3) := by decide +kernel
theorem dX10_free_70 : decode cX10_free 70 = .ok (.ifCond .ne 6, 3) := by decide +kernel
theorem dX10_free_73 : decode cX10_free 73 = .ok (.iload 5, 2) := by decide +kernel
theorem dX10_free_75 : decode cX10_free 75 = .ok (.ireturn, 1) := by decide +kernel
theorem dX10_free_76 : decode cX10_free 76 = .ok (.iinc 5 1, 3) := by decide +kernel
theorem dX10_free_79 : decode cX10_free 79 = .ok (.goto (-35), 3) := by decide +kernel
theorem dX10_free_82 : decode cX10_free 82 = .ok (.bipush (-2), 2) := by decide +kernel
theorem dX10_free_84 : decode cX10_free 84 = .ok (.ireturn, 1) := by decide +kernel
theorem dX10_countsMarks_0 : decode cX10_countsMarks 0 = .ok (.iconst 0, 1) := by decide +kernel
theorem dX10_countsMarks_1 : decode cX10_countsMarks 1 = .ok (.istore_n 2, 1) := by decide +kernel
theorem dX10_countsMarks_2 : decode cX10_countsMarks 2 = .ok (.iload_n 2, 1) := by decide +kernel
theorem dX10_countsMarks_3 : decode cX10_countsMarks 3 = .ok (.bipush 100, 2) := by decide +kernel
theorem dX10_countsMarks_5 : decode cX10_countsMarks 5 = .ok (.if_icmp .ge 119, 3) := by decide +kernel
theorem dX10_countsMarks_8 : decode cX10_countsMarks 8 = .ok (.aload_n 0, 1) := by decide +kernel
theorem dX10_countsMarks_9 : decode cX10_countsMarks 9 = .ok (.getfield 138, 3) := by decide +kernel
theorem dX10_countsMarks_12 : decode cX10_countsMarks 12 = .ok (.iload_n 2, 1) := by decide +kernel
theorem dX10_countsMarks_13 : decode cX10_countsMarks 13 = .ok (.iaload, 1) := by decide +kernel
theorem dX10_countsMarks_14 : decode cX10_countsMarks 14 = .ok (.ifCond .le 104, 3) := by decide +kernel
theorem dX10_countsMarks_17 : decode cX10_countsMarks 17 = .ok (.aload_n 0, 1) := by decide +kernel
theorem dX10_countsMarks_18 : decode cX10_countsMarks 18 = .ok (.dup, 1) := by decide +kernel
theorem dX10_countsMarks_19 : decode cX10_countsMarks 19 = .ok (.getfield 365, 3) := by decide +kernel
theorem dX10_countsMarks_22 : decode cX10_countsMarks 22 = .ok (.iconst 1, 1) := by decide +kernel
theorem dX10_countsMarks_23 : decode cX10_countsMarks 23 = .ok (.iadd, 1) := by decide +kernel
theorem dX10_countsMarks_24 : decode cX10_countsMarks 24 = .ok (.putfield 365, 3) := by decide +kernel
theorem dX10_countsMarks_27 : decode cX10_countsMarks 27 = .ok (.iload_n 2, 1) := by decide +kernel
theorem dX10_countsMarks_28 : decode cX10_countsMarks 28 = .ok (.ifCond .eq 20, 3) := by decide +kernel
theorem dX10_countsMarks_31 : decode cX10_countsMarks 31 = .ok (.aload_n 0, 1) := by decide +kernel
theorem dX10_countsMarks_32 : decode cX10_countsMarks 32 = .ok (.getfield 138, 3) := by decide +kernel
theorem dX10_countsMarks_35 : decode cX10_countsMarks 35 = .ok (.iload_n 2, 1) := by decide +kernel
theorem dX10_countsMarks_36 : decode cX10_countsMarks 36 = .ok (.iaload, 1) := by decide +kernel
theorem dX10_countsMarks_37 : decode cX10_countsMarks 37 = .ok (.aload_n 0, 1) := by decide +kernel
theorem dX10_countsMarks_38 : decode cX10_countsMarks 38 = .ok (.getfield 138, 3) := by decide +kernel
theorem dX10_countsMarks_41 : decode cX10_countsMarks 41 = .ok (.iload_n 2, 1) := by decide +kernel
theorem dX10_countsMarks_42 : decode cX10_countsMarks 42 = .ok (.iconst 1, 1) := by decide +kernel
theorem dX10_countsMarks_43 : decode cX10_countsMarks 43 = .ok (.isub, 1) := by decide +kernel
theorem dX10_countsMarks_44 : decode cX10_countsMarks 44 = .ok (.iaload, 1) := by decide +kernel
theorem dX10_countsMarks_45 : decode cX10_countsMarks 45 = .ok (.if_icmp .eq 73, 3) := by decide +kernel
theorem dX10_countsMarks_48 : decode cX10_countsMarks 48 = .ok (.iload_n 2, 1) := by decide +kernel
theorem dX10_countsMarks_49 : decode cX10_countsMarks 49 = .ok (.istore_n 3, 1) := by decide +kernel
theorem dX10_countsMarks_50 : decode cX10_countsMarks 50 = .ok (.iload_n 3, 1) := by decide +kernel
theorem dX10_countsMarks_51 : decode cX10_countsMarks 51 = .ok (.bipush 100, 2) := by decide +kernel
theorem dX10_countsMarks_53 : decode cX10_countsMarks 53 = .ok (.if_icmp .ge 24, 3) := by decide +kernel
theorem dX10_countsMarks_56 : decode cX10_countsMarks 56 = .ok (.aload_n 0, 1) := by decide +kernel
theorem dX10_countsMarks_57 : decode cX10_countsMarks 57 = .ok (.getfield 138, 3) := by decide +kernel
theorem dX10_countsMarks_60 : decode cX10_countsMarks 60 = .ok (.iload_n 3, 1) := by decide +kernel
theorem dX10_countsMarks_61 : decode cX10_countsMarks 61 = .ok (.iaload, 1) := by decide +kernel
theorem dX10_countsMarks_62 : decode cX10_countsMarks 62 = .ok (.aload_n 0, 1) := by decide +kernel
theorem dX10_countsMarks_63 : decode cX10_countsMarks 63 = .ok (.getfield 138, 3) := by decide +kernel
theorem dX10_countsMarks_66 : decode cX10_countsMarks 66 = .ok (.iload_n 2, 1) := by decide +kernel
theorem dX10_countsMarks_67 : decode cX10_countsMarks 67 = .ok (.iaload, 1) := by decide +kernel
theorem dX10_countsMarks_68 : decode cX10_countsMarks 68 = .ok (.if_icmp .ne 9, 3) := by decide +kernel
theorem dX10_countsMarks_71 : decode cX10_countsMarks 71 = .ok (.iinc 3 1, 3) := by decide +kernel
theorem dX10_countsMarks_74 : decode cX10_countsMarks 74 = .ok (.goto (-24), 3) := by decide +kernel
theorem dX10_countsMarks_77 : decode cX10_countsMarks 77 = .ok (.aload_n 0, 1) := by decide +kernel
theorem dX10_countsMarks_78 : decode cX10_countsMarks 78 = .ok (.getfield 368, 3) := by decide +kernel
theorem dX10_countsMarks_81 : decode cX10_countsMarks 81 = .ok (.ifCond .ne 27, 3) := by decide +kernel
theorem dX10_countsMarks_84 : decode cX10_countsMarks 84 = .ok (.aload_n 0, 1) := by decide +kernel
theorem dX10_countsMarks_85 : decode cX10_countsMarks 85 = .ok (.getfield 11, 3) := by decide +kernel
theorem dX10_countsMarks_88 : decode cX10_countsMarks 88 = .ok (.iconst 1, 1) := by decide +kernel
theorem dX10_countsMarks_89 : decode cX10_countsMarks 89 = .ok (.iload_n 1, 1) := by decide +kernel
theorem dX10_countsMarks_90 : decode cX10_countsMarks 90 = .ok (.i2l, 1) := by decide +kernel
theorem dX10_countsMarks_91 : decode cX10_countsMarks 91 = .ok (.lastore, 1) := by decide +kernel
theorem dX10_countsMarks_92 : decode cX10_countsMarks 92 = .ok (.aload_n 0, 1) := by decide +kernel
theorem dX10_countsMarks_93 : decode cX10_countsMarks 93 = .ok (.getfield 11, 3) := by decide +kernel
theorem dX10_countsMarks_96 : decode cX10_countsMarks 96 = .ok (.iconst 2, 1) := by decide +kernel
theorem dX10_countsMarks_97 : decode cX10_countsMarks 97 = .ok (.iload_n 2, 1) := by decide +kernel
theorem dX10_countsMarks_98 : decode cX10_countsMarks 98 = .ok (.i2l, 1) := by decide +kernel
theorem dX10_countsMarks_99 : decode cX10_countsMarks 99 = .ok (.lastore, 1) := by decide +kernel
theorem dX10_countsMarks_100 : decode cX10_countsMarks 100 = .ok (.aload_n 0, 1) := by decide +kernel
theorem dX10_countsMarks_101 : decode cX10_countsMarks 101 = .ok (.getfield 11, 3) := by decide +kernel
theorem dX10_countsMarks_104 : decode cX10_countsMarks 104 = .ok (.iconst 3, 1) := by decide +kernel
theorem dX10_countsMarks_105 : decode cX10_countsMarks 105 = .ok (.iload_n 3, 1) := by decide +kernel
theorem dX10_countsMarks_106 : decode cX10_countsMarks 106 = .ok (.i2l, 1) := by decide +kernel
theorem dX10_countsMarks_107 : decode cX10_countsMarks 107 = .ok (.lastore, 1) := by decide +kernel
theorem dX10_countsMarks_108 : decode cX10_countsMarks 108 = .ok (.aload_n 0, 1) := by decide +kernel
theorem dX10_countsMarks_109 : decode cX10_countsMarks 109 = .ok (.dup, 1) := by decide +kernel
theorem dX10_countsMarks_110 : decode cX10_countsMarks 110 = .ok (.getfield 368, 3) := by decide +kernel
theorem dX10_countsMarks_113 : decode cX10_countsMarks 113 = .ok (.iconst 1, 1) := by decide +kernel
theorem dX10_countsMarks_114 : decode cX10_countsMarks 114 = .ok (.iadd, 1) := by decide +kernel
theorem dX10_countsMarks_115 : decode cX10_countsMarks 115 = .ok (.putfield 368, 3) := by decide +kernel
theorem dX10_countsMarks_118 : decode cX10_countsMarks 118 = .ok (.iinc 2 1, 3) := by decide +kernel
theorem dX10_countsMarks_121 : decode cX10_countsMarks 121 = .ok (.goto (-119), 3) := by decide +kernel
theorem dX10_countsMarks_124 : decode cX10_countsMarks 124 = .ok (.return_, 1) := by decide +kernel
theorem dX10_tellsStretches_0 : decode cX10_tellsStretches 0 = .ok (.aload_n 0, 1) := by decide +kernel
theorem dX10_tellsStretches_1 : decode cX10_tellsStretches 1 = .ok (.getfield 11, 3) := by decide +kernel
theorem dX10_tellsStretches_4 : decode cX10_tellsStretches 4 = .ok (.iconst 0, 1) := by decide +kernel
theorem dX10_tellsStretches_5 : decode cX10_tellsStretches 5 = .ok (.aload_n 0, 1) := by decide +kernel
theorem dX10_tellsStretches_6 : decode cX10_tellsStretches 6 = .ok (.getfield 365, 3) := by decide +kernel
theorem dX10_tellsStretches_9 : decode cX10_tellsStretches 9 = .ok (.i2l, 1) := by decide +kernel
theorem dX10_tellsStretches_10 : decode cX10_tellsStretches 10 = .ok (.lastore, 1) := by decide +kernel
theorem dX10_tellsStretches_11 : decode cX10_tellsStretches 11 = .ok (.aload_n 0, 1) := by decide +kernel
theorem dX10_tellsStretches_12 : decode cX10_tellsStretches 12 = .ok (.aload_n 0, 1) := by decide +kernel
theorem dX10_tellsStretches_13 : decode cX10_tellsStretches 13 = .ok (.getfield 368, 3) := by decide +kernel
theorem dX10_tellsStretches_16 : decode cX10_tellsStretches 16 = .ok (.ifCond .le 7, 3) := by decide +kernel
theorem dX10_tellsStretches_19 : decode cX10_tellsStretches 19 = .ok (.iconst 4, 1) := by decide +kernel
theorem dX10_tellsStretches_20 : decode cX10_tellsStretches 20 = .ok (.goto 4, 3) := by decide +kernel
theorem dX10_tellsStretches_23 : decode cX10_tellsStretches 23 = .ok (.iconst 1, 1) := by decide +kernel
theorem dX10_tellsStretches_24 : decode cX10_tellsStretches 24 = .ok (.putfield 15, 3) := by decide +kernel
theorem dX10_tellsStretches_27 : decode cX10_tellsStretches 27 = .ok (.aload_n 0, 1) := by decide +kernel
theorem dX10_tellsStretches_28 : decode cX10_tellsStretches 28 = .ok (.getfield 368, 3) := by decide +kernel
theorem dX10_tellsStretches_31 : decode cX10_tellsStretches 31 = .ok (.ireturn, 1) := by decide +kernel
theorem dX10_meets_0 : decode cX10_meets 0 = .ok (.aload_n 0, 1) := by decide +kernel
theorem dX10_meets_1 : decode cX10_meets 1 = .ok (.iconst 0, 1) := by decide +kernel
theorem dX10_meets_2 : decode cX10_meets 2 = .ok (.putfield 3, 3) := by decide +kernel
theorem dX10_meets_5 : decode cX10_meets 5 = .ok (.iload_n 1, 1) := by decide +kernel
theorem dX10_meets_6 : decode cX10_meets 6 = .ok (.iload_n 2, 1) := by decide +kernel
theorem dX10_meets_7 : decode cX10_meets 7 = .ok (.invokestatic 234, 3) := by decide +kernel
theorem dX10_meets_10 : decode cX10_meets 10 = .ok (.ifCond .ne 5, 3) := by decide +kernel
theorem dX10_meets_13 : decode cX10_meets 13 = .ok (.iconst (-1), 1) := by decide +kernel
theorem dX10_meets_14 : decode cX10_meets 14 = .ok (.ireturn, 1) := by decide +kernel
theorem dX10_meets_15 : decode cX10_meets 15 = .ok (.aload_n 0, 1) := by decide +kernel
theorem dX10_meets_16 : decode cX10_meets 16 = .ok (.iconst 0, 1) := by decide +kernel
theorem dX10_meets_17 : decode cX10_meets 17 = .ok (.putfield 368, 3) := by decide +kernel
theorem dX10_meets_20 : decode cX10_meets 20 = .ok (.aload_n 0, 1) := by decide +kernel
theorem dX10_meets_21 : decode cX10_meets 21 = .ok (.iconst 0, 1) := by decide +kernel
theorem dX10_meets_22 : decode cX10_meets 22 = .ok (.putfield 365, 3) := by decide +kernel
theorem dX10_meets_25 : decode cX10_meets 25 = .ok (.iconst 0, 1) := by decide +kernel
theorem dX10_meets_26 : decode cX10_meets 26 = .ok (.istore_n 3, 1) := by decide +kernel
theorem dX10_meets_27 : decode cX10_meets 27 = .ok (.iload_n 3, 1) := by decide +kernel
theorem dX10_meets_28 : decode cX10_meets 28 = .ok (.bipush 10, 2) := by decide +kernel
theorem dX10_meets_30 : decode cX10_meets 30 = .ok (.if_icmp .ge 157, 3) := by decide +kernel
theorem dX10_meets_33 : decode cX10_meets 33 = .ok (.iconst 0, 1) := by decide +kernel
theorem dX10_meets_34 : decode cX10_meets 34 = .ok (.istore 4, 2) := by decide +kernel
theorem dX10_meets_36 : decode cX10_meets 36 = .ok (.iload 4, 2) := by decide +kernel
theorem dX10_meets_38 : decode cX10_meets 38 = .ok (.bipush 100, 2) := by decide +kernel
theorem dX10_meets_40 : decode cX10_meets 40 = .ok (.if_icmp .ge 136, 3) := by decide +kernel
theorem dX10_meets_43 : decode cX10_meets 43 = .ok (.aload_n 0, 1) := by decide +kernel
theorem dX10_meets_44 : decode cX10_meets 44 = .ok (.getfield 118, 3) := by decide +kernel
theorem dX10_meets_47 : decode cX10_meets 47 = .ok (.iconst 0, 1) := by decide +kernel
theorem dX10_meets_48 : decode cX10_meets 48 = .ok (.iload_n 3, 1) := by decide +kernel
theorem dX10_meets_49 : decode cX10_meets 49 = .ok (.iload 4, 2) := by decide +kernel
theorem dX10_meets_51 : decode cX10_meets 51 = .ok (.invokestatic 173, 3) := by decide +kernel
theorem dX10_meets_54 : decode cX10_meets 54 = .ok (.ifCond .eq 17, 3) := by decide +kernel
theorem dX10_meets_57 : decode cX10_meets 57 = .ok (.aload_n 0, 1) := by decide +kernel
theorem dX10_meets_58 : decode cX10_meets 58 = .ok (.getfield 118, 3) := by decide +kernel
theorem dX10_meets_61 : decode cX10_meets 61 = .ok (.iconst 0, 1) := by decide +kernel
theorem dX10_meets_62 : decode cX10_meets 62 = .ok (.iload_n 3, 1) := by decide +kernel
theorem dX10_meets_63 : decode cX10_meets 63 = .ok (.iload 4, 2) := by decide +kernel
theorem dX10_meets_65 : decode cX10_meets 65 = .ok (.invokestatic 181, 3) := by decide +kernel
theorem dX10_meets_68 : decode cX10_meets 68 = .ok (.goto 5, 3) := by decide +kernel
theorem dX10_meets_71 : decode cX10_meets 71 = .ok (.bipush 10, 2) := by decide +kernel
theorem dX10_meets_73 : decode cX10_meets 73 = .ok (.istore 5, 2) := by decide +kernel
theorem dX10_meets_75 : decode cX10_meets 75 = .ok (.iload 4, 2) := by decide +kernel
theorem dX10_meets_77 : decode cX10_meets 77 = .ok (.i2l, 1) := by decide +kernel
theorem dX10_meets_78 : decode cX10_meets 78 = .ok (.iload_n 1, 1) := by decide +kernel
theorem dX10_meets_79 : decode cX10_meets 79 = .ok (.i2l, 1) := by decide +kernel
theorem dX10_meets_80 : decode cX10_meets 80 = .ok (.iload_n 2, 1) := by decide +kernel
theorem dX10_meets_81 : decode cX10_meets 81 = .ok (.iconst 1, 1) := by decide +kernel
theorem dX10_meets_82 : decode cX10_meets 82 = .ok (.isub, 1) := by decide +kernel
theorem dX10_meets_83 : decode cX10_meets 83 = .ok (.i2l, 1) := by decide +kernel
theorem dX10_meets_84 : decode cX10_meets 84 = .ok (.invokestatic 25, 3) := by decide +kernel
theorem dX10_meets_87 : decode cX10_meets 87 = .ok (.ifCond .eq 29, 3) := by decide +kernel
theorem dX10_meets_90 : decode cX10_meets 90 = .ok (.iload 5, 2) := by decide +kernel
theorem dX10_meets_92 : decode cX10_meets 92 = .ok (.bipush 10, 2) := by decide +kernel
theorem dX10_meets_94 : decode cX10_meets 94 = .ok (.if_icmp .ge 22, 3) := by decide +kernel
theorem dX10_meets_97 : decode cX10_meets 97 = .ok (.aload_n 0, 1) := by decide +kernel
theorem dX10_meets_98 : decode cX10_meets 98 = .ok (.getfield 118, 3) := by decide +kernel
theorem dX10_meets_101 : decode cX10_meets 101 = .ok (.iconst 1, 1) := by decide +kernel
theorem dX10_meets_102 : decode cX10_meets 102 = .ok (.iload 5, 2) := by decide +kernel
theorem dX10_meets_104 : decode cX10_meets 104 = .ok (.iload 4, 2) := by decide +kernel
theorem dX10_meets_106 : decode cX10_meets 106 = .ok (.invokestatic 173, 3) := by decide +kernel
theorem dX10_meets_109 : decode cX10_meets 109 = .ok (.ifCond .eq 7, 3) := by decide +kernel
theorem dX10_meets_112 : decode cX10_meets 112 = .ok (.iconst 1, 1) := by decide +kernel
theorem dX10_meets_113 : decode cX10_meets 113 = .ok (.goto 4, 3) := by decide +kernel
theorem dX10_meets_116 : decode cX10_meets 116 = .ok (.iconst 0, 1) := by decide +kernel
theorem dX10_meets_117 : decode cX10_meets 117 = .ok (.istore 6, 2) := by decide +kernel
theorem dX10_meets_119 : decode cX10_meets 119 = .ok (.aload_n 0, 1) := by decide +kernel
theorem dX10_meets_120 : decode cX10_meets 120 = .ok (.getfield 138, 3) := by decide +kernel
theorem dX10_meets_123 : decode cX10_meets 123 = .ok (.iload 4, 2) := by decide +kernel
theorem dX10_meets_125 : decode cX10_meets 125 = .ok (.iload 6, 2) := by decide +kernel
theorem dX10_meets_127 : decode cX10_meets 127 = .ok (.ifCond .eq 41, 3) := by decide +kernel
theorem dX10_meets_130 : decode cX10_meets 130 = .ok (.iconst 1, 1) := by decide +kernel
theorem dX10_meets_131 : decode cX10_meets 131 = .ok (.bipush 100, 2) := by decide +kernel
theorem dX10_meets_133 : decode cX10_meets 133 = .ok (.bipush 11, 2) := by decide +kernel
theorem dX10_meets_135 : decode cX10_meets 135 = .ok (.aload_n 0, 1) := by decide +kernel
theorem dX10_meets_136 : decode cX10_meets 136 = .ok (.getfield 118, 3) := by decide +kernel
theorem dX10_meets_139 : decode cX10_meets 139 = .ok (.iconst 0, 1) := by decide +kernel
theorem dX10_meets_140 : decode cX10_meets 140 = .ok (.iload_n 3, 1) := by decide +kernel
theorem dX10_meets_141 : decode cX10_meets 141 = .ok (.iload 4, 2) := by decide +kernel
theorem dX10_meets_143 : decode cX10_meets 143 = .ok (.invokestatic 177, 3) := by decide +kernel
theorem dX10_meets_146 : decode cX10_meets 146 = .ok (.imul, 1) := by decide +kernel
theorem dX10_meets_147 : decode cX10_meets 147 = .ok (.iload 5, 2) := by decide +kernel
theorem dX10_meets_149 : decode cX10_meets 149 = .ok (.iadd, 1) := by decide +kernel
theorem dX10_meets_150 : decode cX10_meets 150 = .ok (.imul, 1) := by decide +kernel
theorem dX10_meets_151 : decode cX10_meets 151 = .ok (.iadd, 1) := by decide +kernel
theorem dX10_meets_152 : decode cX10_meets 152 = .ok (.aload_n 0, 1) := by decide +kernel
theorem dX10_meets_153 : decode cX10_meets 153 = .ok (.getfield 118, 3) := by decide +kernel
theorem dX10_meets_156 : decode cX10_meets 156 = .ok (.iconst 1, 1) := by decide +kernel
theorem dX10_meets_157 : decode cX10_meets 157 = .ok (.iload 5, 2) := by decide +kernel
theorem dX10_meets_159 : decode cX10_meets 159 = .ok (.iload 4, 2) := by decide +kernel
theorem dX10_meets_161 : decode cX10_meets 161 = .ok (.invokestatic 177, 3) := by decide +kernel
theorem dX10_meets_164 : decode cX10_meets 164 = .ok (.iadd, 1) := by decide +kernel
theorem dX10_meets_165 : decode cX10_meets 165 = .ok (.goto 4, 3) := by decide +kernel
theorem dX10_meets_168 : decode cX10_meets 168 = .ok (.iconst 0, 1) := by decide +kernel
theorem dX10_meets_169 : decode cX10_meets 169 = .ok (.iastore, 1) := by decide +kernel
theorem dX10_meets_170 : decode cX10_meets 170 = .ok (.iinc 4 1, 3) := by decide +kernel
theorem dX10_meets_173 : decode cX10_meets 173 = .ok (.goto (-137), 3) := by decide +kernel
theorem dX10_meets_176 : decode cX10_meets 176 = .ok (.aload_n 0, 1) := by decide +kernel
theorem dX10_meets_177 : decode cX10_meets 177 = .ok (.iload_n 3, 1) := by decide +kernel
theorem dX10_meets_178 : decode cX10_meets 178 = .ok (.invokevirtual 371, 3) := by decide +kernel
theorem dX10_meets_181 : decode cX10_meets 181 = .ok (.iinc 3 1, 3) := by decide +kernel
theorem dX10_meets_184 : decode cX10_meets 184 = .ok (.goto (-157), 3) := by decide +kernel
theorem dX10_meets_187 : decode cX10_meets 187 = .ok (.aload_n 0, 1) := by decide +kernel
theorem dX10_meets_188 : decode cX10_meets 188 = .ok (.invokevirtual 374, 3) := by decide +kernel
theorem dX10_meets_191 : decode cX10_meets 191 = .ok (.ireturn, 1) := by decide +kernel
theorem dX10_lacks_0 : decode cX10_lacks 0 = .ok (.aload_n 0, 1) := by decide +kernel
theorem dX10_lacks_1 : decode cX10_lacks 1 = .ok (.iconst 0, 1) := by decide +kernel
theorem dX10_lacks_2 : decode cX10_lacks 2 = .ok (.putfield 3, 3) := by decide +kernel
theorem dX10_lacks_5 : decode cX10_lacks 5 = .ok (.iload_n 1, 1) := by decide +kernel
theorem dX10_lacks_6 : decode cX10_lacks 6 = .ok (.invokestatic 211, 3) := by decide +kernel
theorem dX10_lacks_9 : decode cX10_lacks 9 = .ok (.ifCond .ne 5, 3) := by decide +kernel
theorem dX10_lacks_12 : decode cX10_lacks 12 = .ok (.iconst (-1), 1) := by decide +kernel
theorem dX10_lacks_13 : decode cX10_lacks 13 = .ok (.ireturn, 1) := by decide +kernel
theorem dX10_lacks_14 : decode cX10_lacks 14 = .ok (.aload_n 0, 1) := by decide +kernel
theorem dX10_lacks_15 : decode cX10_lacks 15 = .ok (.iconst 0, 1) := by decide +kernel
theorem dX10_lacks_16 : decode cX10_lacks 16 = .ok (.putfield 368, 3) := by decide +kernel
theorem dX10_lacks_19 : decode cX10_lacks 19 = .ok (.aload_n 0, 1) := by decide +kernel
theorem dX10_lacks_20 : decode cX10_lacks 20 = .ok (.iconst 0, 1) := by decide +kernel
theorem dX10_lacks_21 : decode cX10_lacks 21 = .ok (.putfield 365, 3) := by decide +kernel
theorem dX10_lacks_24 : decode cX10_lacks 24 = .ok (.iconst 0, 1) := by decide +kernel
theorem dX10_lacks_25 : decode cX10_lacks 25 = .ok (.istore_n 2, 1) := by decide +kernel
theorem dX10_lacks_26 : decode cX10_lacks 26 = .ok (.iload_n 2, 1) := by decide +kernel
theorem dX10_lacks_27 : decode cX10_lacks 27 = .ok (.bipush 10, 2) := by decide +kernel
theorem dX10_lacks_29 : decode cX10_lacks 29 = .ok (.if_icmp .ge 70, 3) := by decide +kernel
theorem dX10_lacks_32 : decode cX10_lacks 32 = .ok (.iconst 0, 1) := by decide +kernel
theorem dX10_lacks_33 : decode cX10_lacks 33 = .ok (.istore_n 3, 1) := by decide +kernel
theorem dX10_lacks_34 : decode cX10_lacks 34 = .ok (.iload_n 3, 1) := by decide +kernel
theorem dX10_lacks_35 : decode cX10_lacks 35 = .ok (.bipush 100, 2) := by decide +kernel
theorem dX10_lacks_37 : decode cX10_lacks 37 = .ok (.if_icmp .ge 51, 3) := by decide +kernel
theorem dX10_lacks_40 : decode cX10_lacks 40 = .ok (.aload_n 0, 1) := by decide +kernel
theorem dX10_lacks_41 : decode cX10_lacks 41 = .ok (.getfield 138, 3) := by decide +kernel
theorem dX10_lacks_44 : decode cX10_lacks 44 = .ok (.iload_n 3, 1) := by decide +kernel
theorem dX10_lacks_45 : decode cX10_lacks 45 = .ok (.aload_n 0, 1) := by decide +kernel
theorem dX10_lacks_46 : decode cX10_lacks 46 = .ok (.getfield 118, 3) := by decide +kernel
theorem dX10_lacks_49 : decode cX10_lacks 49 = .ok (.iload_n 1, 1) := by decide +kernel
theorem dX10_lacks_50 : decode cX10_lacks 50 = .ok (.iload_n 2, 1) := by decide +kernel
theorem dX10_lacks_51 : decode cX10_lacks 51 = .ok (.iload_n 3, 1) := by decide +kernel
theorem dX10_lacks_52 : decode cX10_lacks 52 = .ok (.invokestatic 173, 3) := by decide +kernel
theorem dX10_lacks_55 : decode cX10_lacks 55 = .ok (.ifCond .eq 22, 3) := by decide +kernel
theorem dX10_lacks_58 : decode cX10_lacks 58 = .ok (.aload_n 0, 1) := by decide +kernel
theorem dX10_lacks_59 : decode cX10_lacks 59 = .ok (.getfield 118, 3) := by decide +kernel
theorem dX10_lacks_62 : decode cX10_lacks 62 = .ok (.iconst 1, 1) := by decide +kernel
theorem dX10_lacks_63 : decode cX10_lacks 63 = .ok (.iload_n 1, 1) := by decide +kernel
theorem dX10_lacks_64 : decode cX10_lacks 64 = .ok (.isub, 1) := by decide +kernel
theorem dX10_lacks_65 : decode cX10_lacks 65 = .ok (.iload_n 2, 1) := by decide +kernel
theorem dX10_lacks_66 : decode cX10_lacks 66 = .ok (.iload_n 3, 1) := by decide +kernel
theorem dX10_lacks_67 : decode cX10_lacks 67 = .ok (.invokestatic 173, 3) := by decide +kernel
theorem dX10_lacks_70 : decode cX10_lacks 70 = .ok (.ifCond .ne 7, 3) := by decide +kernel
theorem dX10_lacks_73 : decode cX10_lacks 73 = .ok (.iconst 1, 1) := by decide +kernel
theorem dX10_lacks_74 : decode cX10_lacks 74 = .ok (.goto 4, 3) := by decide +kernel
theorem dX10_lacks_77 : decode cX10_lacks 77 = .ok (.iconst 0, 1) := by decide +kernel
theorem dX10_lacks_78 : decode cX10_lacks 78 = .ok (.invokestatic 44, 3) := by decide +kernel
theorem dX10_lacks_81 : decode cX10_lacks 81 = .ok (.iastore, 1) := by decide +kernel
theorem dX10_lacks_82 : decode cX10_lacks 82 = .ok (.iinc 3 1, 3) := by decide +kernel
theorem dX10_lacks_85 : decode cX10_lacks 85 = .ok (.goto (-51), 3) := by decide +kernel
theorem dX10_lacks_88 : decode cX10_lacks 88 = .ok (.aload_n 0, 1) := by decide +kernel
theorem dX10_lacks_89 : decode cX10_lacks 89 = .ok (.iload_n 2, 1) := by decide +kernel
theorem dX10_lacks_90 : decode cX10_lacks 90 = .ok (.invokevirtual 371, 3) := by decide +kernel
theorem dX10_lacks_93 : decode cX10_lacks 93 = .ok (.iinc 2 1, 3) := by decide +kernel
theorem dX10_lacks_96 : decode cX10_lacks 96 = .ok (.goto (-70), 3) := by decide +kernel
theorem dX10_lacks_99 : decode cX10_lacks 99 = .ok (.aload_n 0, 1) := by decide +kernel
theorem dX10_lacks_100 : decode cX10_lacks 100 = .ok (.invokevirtual 374, 3) := by decide +kernel
theorem dX10_lacks_103 : decode cX10_lacks 103 = .ok (.ireturn, 1) := by decide +kernel
theorem dX10_either_0 : decode cX10_either 0 = .ok (.aload_n 0, 1) := by decide +kernel
theorem dX10_either_1 : decode cX10_either 1 = .ok (.iconst 0, 1) := by decide +kernel
theorem dX10_either_2 : decode cX10_either 2 = .ok (.putfield 3, 3) := by decide +kernel
theorem dX10_either_5 : decode cX10_either 5 = .ok (.aload_n 0, 1) := by decide +kernel
theorem dX10_either_6 : decode cX10_either 6 = .ok (.iconst 0, 1) := by decide +kernel
theorem dX10_either_7 : decode cX10_either 7 = .ok (.putfield 368, 3) := by decide +kernel
theorem dX10_either_10 : decode cX10_either 10 = .ok (.aload_n 0, 1) := by decide +kernel
theorem dX10_either_11 : decode cX10_either 11 = .ok (.iconst 0, 1) := by decide +kernel
theorem dX10_either_12 : decode cX10_either 12 = .ok (.putfield 365, 3) := by decide +kernel
theorem dX10_either_15 : decode cX10_either 15 = .ok (.iconst 0, 1) := by decide +kernel
theorem dX10_either_16 : decode cX10_either 16 = .ok (.istore_n 1, 1) := by decide +kernel
theorem dX10_either_17 : decode cX10_either 17 = .ok (.iconst 0, 1) := by decide +kernel
theorem dX10_either_18 : decode cX10_either 18 = .ok (.istore_n 2, 1) := by decide +kernel
theorem dX10_either_19 : decode cX10_either 19 = .ok (.iload_n 2, 1) := by decide +kernel
theorem dX10_either_20 : decode cX10_either 20 = .ok (.bipush 10, 2) := by decide +kernel
theorem dX10_either_22 : decode cX10_either 22 = .ok (.if_icmp .ge 105, 3) := by decide +kernel
theorem dX10_either_25 : decode cX10_either 25 = .ok (.iconst 0, 1) := by decide +kernel
theorem dX10_either_26 : decode cX10_either 26 = .ok (.istore_n 3, 1) := by decide +kernel
theorem dX10_either_27 : decode cX10_either 27 = .ok (.iload_n 3, 1) := by decide +kernel
theorem dX10_either_28 : decode cX10_either 28 = .ok (.bipush 100, 2) := by decide +kernel
theorem dX10_either_30 : decode cX10_either 30 = .ok (.if_icmp .ge 86, 3) := by decide +kernel
theorem dX10_either_33 : decode cX10_either 33 = .ok (.aload_n 0, 1) := by decide +kernel
theorem dX10_either_34 : decode cX10_either 34 = .ok (.getfield 138, 3) := by decide +kernel
theorem dX10_either_37 : decode cX10_either 37 = .ok (.iload_n 3, 1) := by decide +kernel
theorem dX10_either_38 : decode cX10_either 38 = .ok (.aload_n 0, 1) := by decide +kernel
theorem dX10_either_39 : decode cX10_either 39 = .ok (.getfield 118, 3) := by decide +kernel
theorem dX10_either_42 : decode cX10_either 42 = .ok (.iconst 0, 1) := by decide +kernel
theorem dX10_either_43 : decode cX10_either 43 = .ok (.iload_n 2, 1) := by decide +kernel
theorem dX10_either_44 : decode cX10_either 44 = .ok (.iload_n 3, 1) := by decide +kernel
theorem dX10_either_45 : decode cX10_either 45 = .ok (.invokestatic 173, 3) := by decide +kernel
theorem dX10_either_48 : decode cX10_either 48 = .ok (.ifCond .ne 16, 3) := by decide +kernel
theorem dX10_either_51 : decode cX10_either 51 = .ok (.aload_n 0, 1) := by decide +kernel
theorem dX10_either_52 : decode cX10_either 52 = .ok (.getfield 118, 3) := by decide +kernel
theorem dX10_either_55 : decode cX10_either 55 = .ok (.iconst 1, 1) := by decide +kernel
theorem dX10_either_56 : decode cX10_either 56 = .ok (.iload_n 2, 1) := by decide +kernel
theorem dX10_either_57 : decode cX10_either 57 = .ok (.iload_n 3, 1) := by decide +kernel
theorem dX10_either_58 : decode cX10_either 58 = .ok (.invokestatic 173, 3) := by decide +kernel
theorem dX10_either_61 : decode cX10_either 61 = .ok (.ifCond .eq 7, 3) := by decide +kernel
theorem dX10_either_64 : decode cX10_either 64 = .ok (.iconst 1, 1) := by decide +kernel
theorem dX10_either_65 : decode cX10_either 65 = .ok (.goto 4, 3) := by decide +kernel
theorem dX10_either_68 : decode cX10_either 68 = .ok (.iconst 0, 1) := by decide +kernel
theorem dX10_either_69 : decode cX10_either 69 = .ok (.invokestatic 44, 3) := by decide +kernel
theorem dX10_either_72 : decode cX10_either 72 = .ok (.iastore, 1) := by decide +kernel
theorem dX10_either_73 : decode cX10_either 73 = .ok (.iload_n 1, 1) := by decide +kernel
theorem dX10_either_74 : decode cX10_either 74 = .ok (.aload_n 0, 1) := by decide +kernel
theorem dX10_either_75 : decode cX10_either 75 = .ok (.getfield 118, 3) := by decide +kernel
theorem dX10_either_78 : decode cX10_either 78 = .ok (.iconst 0, 1) := by decide +kernel
theorem dX10_either_79 : decode cX10_either 79 = .ok (.iload_n 2, 1) := by decide +kernel
theorem dX10_either_80 : decode cX10_either 80 = .ok (.iload_n 3, 1) := by decide +kernel
theorem dX10_either_81 : decode cX10_either 81 = .ok (.invokestatic 173, 3) := by decide +kernel
theorem dX10_either_84 : decode cX10_either 84 = .ok (.ifCond .eq 20, 3) := by decide +kernel
theorem dX10_either_87 : decode cX10_either 87 = .ok (.aload_n 0, 1) := by decide +kernel
theorem dX10_either_88 : decode cX10_either 88 = .ok (.getfield 118, 3) := by decide +kernel
theorem dX10_either_91 : decode cX10_either 91 = .ok (.iconst 1, 1) := by decide +kernel
theorem dX10_either_92 : decode cX10_either 92 = .ok (.iload_n 2, 1) := by decide +kernel
theorem dX10_either_93 : decode cX10_either 93 = .ok (.iload_n 3, 1) := by decide +kernel
theorem dX10_either_94 : decode cX10_either 94 = .ok (.invokestatic 173, 3) := by decide +kernel
theorem dX10_either_97 : decode cX10_either 97 = .ok (.ifCond .eq 7, 3) := by decide +kernel
theorem dX10_either_100 : decode cX10_either 100 = .ok (.iconst 1, 1) := by decide +kernel
theorem dX10_either_101 : decode cX10_either 101 = .ok (.goto 4, 3) := by decide +kernel
theorem dX10_either_104 : decode cX10_either 104 = .ok (.iconst 0, 1) := by decide +kernel
theorem dX10_either_105 : decode cX10_either 105 = .ok (.invokestatic 44, 3) := by decide +kernel
theorem dX10_either_108 : decode cX10_either 108 = .ok (.iadd, 1) := by decide +kernel
theorem dX10_either_109 : decode cX10_either 109 = .ok (.istore_n 1, 1) := by decide +kernel
theorem dX10_either_110 : decode cX10_either 110 = .ok (.iinc 3 1, 3) := by decide +kernel
theorem dX10_either_113 : decode cX10_either 113 = .ok (.goto (-86), 3) := by decide +kernel
theorem dX10_either_116 : decode cX10_either 116 = .ok (.aload_n 0, 1) := by decide +kernel
theorem dX10_either_117 : decode cX10_either 117 = .ok (.iload_n 2, 1) := by decide +kernel
theorem dX10_either_118 : decode cX10_either 118 = .ok (.invokevirtual 371, 3) := by decide +kernel
theorem dX10_either_121 : decode cX10_either 121 = .ok (.iinc 2 1, 3) := by decide +kernel
theorem dX10_either_124 : decode cX10_either 124 = .ok (.goto (-105), 3) := by decide +kernel
theorem dX10_either_127 : decode cX10_either 127 = .ok (.aload_n 0, 1) := by decide +kernel
theorem dX10_either_128 : decode cX10_either 128 = .ok (.iconst 0, 1) := by decide +kernel
theorem dX10_either_129 : decode cX10_either 129 = .ok (.putfield 15, 3) := by decide +kernel
theorem dX10_either_132 : decode cX10_either 132 = .ok (.aload_n 0, 1) := by decide +kernel
theorem dX10_either_133 : decode cX10_either 133 = .ok (.aload_n 0, 1) := by decide +kernel
theorem dX10_either_134 : decode cX10_either 134 = .ok (.getfield 365, 3) := by decide +kernel
theorem dX10_either_137 : decode cX10_either 137 = .ok (.i2l, 1) := by decide +kernel
theorem dX10_either_138 : decode cX10_either 138 = .ok (.invokevirtual 280, 3) := by decide +kernel
theorem dX10_either_141 : decode cX10_either 141 = .ok (.aload_n 0, 1) := by decide +kernel
theorem dX10_either_142 : decode cX10_either 142 = .ok (.iload_n 1, 1) := by decide +kernel
theorem dX10_either_143 : decode cX10_either 143 = .ok (.i2l, 1) := by decide +kernel
theorem dX10_either_144 : decode cX10_either 144 = .ok (.invokevirtual 280, 3) := by decide +kernel
theorem dX10_either_147 : decode cX10_either 147 = .ok (.aload_n 0, 1) := by decide +kernel
theorem dX10_either_148 : decode cX10_either 148 = .ok (.getfield 368, 3) := by decide +kernel
theorem dX10_either_151 : decode cX10_either 151 = .ok (.ireturn, 1) := by decide +kernel
theorem dX10_sums_0 : decode cX10_sums 0 = .ok (.aload_n 0, 1) := by decide +kernel
theorem dX10_sums_1 : decode cX10_sums 1 = .ok (.iconst 0, 1) := by decide +kernel
theorem dX10_sums_2 : decode cX10_sums 2 = .ok (.putfield 3, 3) := by decide +kernel
theorem dX10_sums_5 : decode cX10_sums 5 = .ok (.iload_n 1, 1) := by decide +kernel
theorem dX10_sums_6 : decode cX10_sums 6 = .ok (.invokestatic 211, 3) := by decide +kernel
theorem dX10_sums_9 : decode cX10_sums 9 = .ok (.ifCond .eq 11, 3) := by decide +kernel
theorem dX10_sums_12 : decode cX10_sums 12 = .ok (.iload_n 2, 1) := by decide +kernel
theorem dX10_sums_13 : decode cX10_sums 13 = .ok (.iload_n 3, 1) := by decide +kernel
theorem dX10_sums_14 : decode cX10_sums 14 = .ok (.invokestatic 234, 3) := by decide +kernel
theorem dX10_sums_17 : decode cX10_sums 17 = .ok (.ifCond .ne 5, 3) := by decide +kernel
theorem dX10_sums_20 : decode cX10_sums 20 = .ok (.iconst (-1), 1) := by decide +kernel
theorem dX10_sums_21 : decode cX10_sums 21 = .ok (.ireturn, 1) := by decide +kernel
theorem dX10_sums_22 : decode cX10_sums 22 = .ok (.iconst 0, 1) := by decide +kernel
theorem dX10_sums_23 : decode cX10_sums 23 = .ok (.istore 4, 2) := by decide +kernel
theorem dX10_sums_25 : decode cX10_sums 25 = .ok (.iconst (-1), 1) := by decide +kernel
theorem dX10_sums_26 : decode cX10_sums 26 = .ok (.istore 5, 2) := by decide +kernel
theorem dX10_sums_28 : decode cX10_sums 28 = .ok (.iload_n 2, 1) := by decide +kernel
theorem dX10_sums_29 : decode cX10_sums 29 = .ok (.istore 6, 2) := by decide +kernel
theorem dX10_sums_31 : decode cX10_sums 31 = .ok (.iload_n 2, 1) := by decide +kernel
theorem dX10_sums_32 : decode cX10_sums 32 = .ok (.istore 7, 2) := by decide +kernel
theorem dX10_sums_34 : decode cX10_sums 34 = .ok (.iload 7, 2) := by decide +kernel
theorem dX10_sums_36 : decode cX10_sums 36 = .ok (.iload_n 3, 1) := by decide +kernel
theorem dX10_sums_37 : decode cX10_sums 37 = .ok (.if_icmp .ge 96, 3) := by decide +kernel
theorem dX10_sums_40 : decode cX10_sums 40 = .ok (.iconst 0, 1) := by decide +kernel
theorem dX10_sums_41 : decode cX10_sums 41 = .ok (.istore 8, 2) := by decide +kernel
theorem dX10_sums_43 : decode cX10_sums 43 = .ok (.iconst 0, 1) := by decide +kernel
theorem dX10_sums_44 : decode cX10_sums 44 = .ok (.istore 9, 2) := by decide +kernel
theorem dX10_sums_46 : decode cX10_sums 46 = .ok (.iload 9, 2) := by decide +kernel
theorem dX10_sums_48 : decode cX10_sums 48 = .ok (.bipush 10, 2) := by decide +kernel
theorem dX10_sums_50 : decode cX10_sums 50 = .ok (.if_icmp .ge 45, 3) := by decide +kernel
theorem dX10_sums_53 : decode cX10_sums 53 = .ok (.iload 8, 2) := by decide +kernel
theorem dX10_sums_55 : decode cX10_sums 55 = .ok (.aload_n 0, 1) := by decide +kernel
theorem dX10_sums_56 : decode cX10_sums 56 = .ok (.getfield 118, 3) := by decide +kernel
theorem dX10_sums_59 : decode cX10_sums 59 = .ok (.iload_n 1, 1) := by decide +kernel
theorem dX10_sums_60 : decode cX10_sums 60 = .ok (.iload 9, 2) := by decide +kernel
theorem dX10_sums_62 : decode cX10_sums 62 = .ok (.iload 7, 2) := by decide +kernel
theorem dX10_sums_64 : decode cX10_sums 64 = .ok (.invokestatic 173, 3) := by decide +kernel
theorem dX10_sums_67 : decode cX10_sums 67 = .ok (.ifCond .eq 18, 3) := by decide +kernel
theorem dX10_sums_70 : decode cX10_sums 70 = .ok (.aload_n 0, 1) := by decide +kernel
theorem dX10_sums_71 : decode cX10_sums 71 = .ok (.getfield 118, 3) := by decide +kernel
theorem dX10_sums_74 : decode cX10_sums 74 = .ok (.iload_n 1, 1) := by decide +kernel
theorem dX10_sums_75 : decode cX10_sums 75 = .ok (.iload 9, 2) := by decide +kernel
theorem dX10_sums_77 : decode cX10_sums 77 = .ok (.iload 7, 2) := by decide +kernel
theorem dX10_sums_79 : decode cX10_sums 79 = .ok (.invokestatic 177, 3) := by decide +kernel
theorem dX10_sums_82 : decode cX10_sums 82 = .ok (.goto 4, 3) := by decide +kernel
theorem dX10_sums_85 : decode cX10_sums 85 = .ok (.iconst 0, 1) := by decide +kernel
theorem dX10_sums_86 : decode cX10_sums 86 = .ok (.iadd, 1) := by decide +kernel
theorem dX10_sums_87 : decode cX10_sums 87 = .ok (.istore 8, 2) := by decide +kernel
theorem dX10_sums_89 : decode cX10_sums 89 = .ok (.iinc 9 1, 3) := by decide +kernel
theorem dX10_sums_92 : decode cX10_sums 92 = .ok (.goto (-46), 3) := by decide +kernel
theorem dX10_sums_95 : decode cX10_sums 95 = .ok (.iload 4, 2) := by decide +kernel
theorem dX10_sums_97 : decode cX10_sums 97 = .ok (.iload 8, 2) := by decide +kernel
theorem dX10_sums_99 : decode cX10_sums 99 = .ok (.iadd, 1) := by decide +kernel
theorem dX10_sums_100 : decode cX10_sums 100 = .ok (.istore 4, 2) := by decide +kernel
theorem dX10_sums_102 : decode cX10_sums 102 = .ok (.iload 8, 2) := by decide +kernel
theorem dX10_sums_104 : decode cX10_sums 104 = .ok (.iload 5, 2) := by decide +kernel
theorem dX10_sums_106 : decode cX10_sums 106 = .ok (.if_icmp .le 8, 3) := by decide +kernel
theorem dX10_sums_109 : decode cX10_sums 109 = .ok (.iload 7, 2) := by decide +kernel
theorem dX10_sums_111 : decode cX10_sums 111 = .ok (.goto 5, 3) := by decide +kernel
theorem dX10_sums_114 : decode cX10_sums 114 = .ok (.iload 6, 2) := by decide +kernel
theorem dX10_sums_116 : decode cX10_sums 116 = .ok (.istore 6, 2) := by decide +kernel
theorem dX10_sums_118 : decode cX10_sums 118 = .ok (.iload 5, 2) := by decide +kernel
theorem dX10_sums_120 : decode cX10_sums 120 = .ok (.iload 8, 2) := by decide +kernel
theorem dX10_sums_122 : decode cX10_sums 122 = .ok (.invokestatic 228, 3) := by decide +kernel
theorem dX10_sums_125 : decode cX10_sums 125 = .ok (.istore 5, 2) := by decide +kernel
theorem dX10_sums_127 : decode cX10_sums 127 = .ok (.iinc 7 1, 3) := by decide +kernel
theorem dX10_sums_130 : decode cX10_sums 130 = .ok (.goto (-96), 3) := by decide +kernel
theorem dX10_sums_133 : decode cX10_sums 133 = .ok (.aload_n 0, 1) := by decide +kernel
theorem dX10_sums_134 : decode cX10_sums 134 = .ok (.iconst 0, 1) := by decide +kernel
theorem dX10_sums_135 : decode cX10_sums 135 = .ok (.putfield 15, 3) := by decide +kernel
theorem dX10_sums_138 : decode cX10_sums 138 = .ok (.aload_n 0, 1) := by decide +kernel
theorem dX10_sums_139 : decode cX10_sums 139 = .ok (.iload 5, 2) := by decide +kernel
theorem dX10_sums_141 : decode cX10_sums 141 = .ok (.i2l, 1) := by decide +kernel
theorem dX10_sums_142 : decode cX10_sums 142 = .ok (.invokevirtual 280, 3) := by decide +kernel
theorem dX10_sums_145 : decode cX10_sums 145 = .ok (.aload_n 0, 1) := by decide +kernel
theorem dX10_sums_146 : decode cX10_sums 146 = .ok (.iload 6, 2) := by decide +kernel
theorem dX10_sums_148 : decode cX10_sums 148 = .ok (.i2l, 1) := by decide +kernel
theorem dX10_sums_149 : decode cX10_sums 149 = .ok (.invokevirtual 280, 3) := by decide +kernel
theorem dX10_sums_152 : decode cX10_sums 152 = .ok (.iload 4, 2) := by decide +kernel
theorem dX10_sums_154 : decode cX10_sums 154 = .ok (.ireturn, 1) := by decide +kernel
theorem dX10_mean_0 : decode cX10_mean 0 = .ok (.aload_n 0, 1) := by decide +kernel
theorem dX10_mean_1 : decode cX10_mean 1 = .ok (.iconst 0, 1) := by decide +kernel
theorem dX10_mean_2 : decode cX10_mean 2 = .ok (.putfield 3, 3) := by decide +kernel
theorem dX10_mean_5 : decode cX10_mean 5 = .ok (.iload_n 1, 1) := by decide +kernel
theorem dX10_mean_6 : decode cX10_mean 6 = .ok (.invokestatic 211, 3) := by decide +kernel
theorem dX10_mean_9 : decode cX10_mean 9 = .ok (.ifCond .eq 10, 3) := by decide +kernel
theorem dX10_mean_12 : decode cX10_mean 12 = .ok (.iload_n 2, 1) := by decide +kernel
theorem dX10_mean_13 : decode cX10_mean 13 = .ok (.invokestatic 231, 3) := by decide +kernel
theorem dX10_mean_16 : decode cX10_mean 16 = .ok (.ifCond .ne 5, 3) := by decide +kernel
theorem dX10_mean_19 : decode cX10_mean 19 = .ok (.iconst (-1), 1) := by decide +kernel
theorem dX10_mean_20 : decode cX10_mean 20 = .ok (.ireturn, 1) := by decide +kernel
theorem dX10_mean_21 : decode cX10_mean 21 = .ok (.iconst 0, 1) := by decide +kernel
theorem dX10_mean_22 : decode cX10_mean 22 = .ok (.istore_n 3, 1) := by decide +kernel
theorem dX10_mean_23 : decode cX10_mean 23 = .ok (.iconst 0, 1) := by decide +kernel
theorem dX10_mean_24 : decode cX10_mean 24 = .ok (.istore 4, 2) := by decide +kernel
theorem dX10_mean_26 : decode cX10_mean 26 = .ok (.iconst 0, 1) := by decide +kernel
theorem dX10_mean_27 : decode cX10_mean 27 = .ok (.istore 5, 2) := by decide +kernel
theorem dX10_mean_29 : decode cX10_mean 29 = .ok (.iload 5, 2) := by decide +kernel
theorem dX10_mean_31 : decode cX10_mean 31 = .ok (.bipush 100, 2) := by decide +kernel
theorem dX10_mean_33 : decode cX10_mean 33 = .ok (.if_icmp .ge 60, 3) := by decide +kernel
theorem dX10_mean_36 : decode cX10_mean 36 = .ok (.iload_n 3, 1) := by decide +kernel
theorem dX10_mean_37 : decode cX10_mean 37 = .ok (.aload_n 0, 1) := by decide +kernel
theorem dX10_mean_38 : decode cX10_mean 38 = .ok (.getfield 118, 3) := by decide +kernel
theorem dX10_mean_41 : decode cX10_mean 41 = .ok (.iload_n 1, 1) := by decide +kernel
theorem dX10_mean_42 : decode cX10_mean 42 = .ok (.iload_n 2, 1) := by decide +kernel
theorem dX10_mean_43 : decode cX10_mean 43 = .ok (.iload 5, 2) := by decide +kernel
theorem dX10_mean_45 : decode cX10_mean 45 = .ok (.invokestatic 173, 3) := by decide +kernel
theorem dX10_mean_48 : decode cX10_mean 48 = .ok (.ifCond .eq 17, 3) := by decide +kernel
theorem dX10_mean_51 : decode cX10_mean 51 = .ok (.aload_n 0, 1) := by decide +kernel
theorem dX10_mean_52 : decode cX10_mean 52 = .ok (.getfield 118, 3) := by decide +kernel
theorem dX10_mean_55 : decode cX10_mean 55 = .ok (.iload_n 1, 1) := by decide +kernel
theorem dX10_mean_56 : decode cX10_mean 56 = .ok (.iload_n 2, 1) := by decide +kernel
theorem dX10_mean_57 : decode cX10_mean 57 = .ok (.iload 5, 2) := by decide +kernel
theorem dX10_mean_59 : decode cX10_mean 59 = .ok (.invokestatic 177, 3) := by decide +kernel
theorem dX10_mean_62 : decode cX10_mean 62 = .ok (.goto 4, 3) := by decide +kernel
theorem dX10_mean_65 : decode cX10_mean 65 = .ok (.iconst 0, 1) := by decide +kernel
theorem dX10_mean_66 : decode cX10_mean 66 = .ok (.iadd, 1) := by decide +kernel
theorem dX10_mean_67 : decode cX10_mean 67 = .ok (.istore_n 3, 1) := by decide +kernel
theorem dX10_mean_68 : decode cX10_mean 68 = .ok (.iload 4, 2) := by decide +kernel
theorem dX10_mean_70 : decode cX10_mean 70 = .ok (.aload_n 0, 1) := by decide +kernel
theorem dX10_mean_71 : decode cX10_mean 71 = .ok (.getfield 118, 3) := by decide +kernel
theorem dX10_mean_74 : decode cX10_mean 74 = .ok (.iload_n 1, 1) := by decide +kernel
theorem dX10_mean_75 : decode cX10_mean 75 = .ok (.iload_n 2, 1) := by decide +kernel
theorem dX10_mean_76 : decode cX10_mean 76 = .ok (.iload 5, 2) := by decide +kernel
theorem dX10_mean_78 : decode cX10_mean 78 = .ok (.invokestatic 173, 3) := by decide +kernel
theorem dX10_mean_81 : decode cX10_mean 81 = .ok (.invokestatic 44, 3) := by decide +kernel
theorem dX10_mean_84 : decode cX10_mean 84 = .ok (.iadd, 1) := by decide +kernel
theorem dX10_mean_85 : decode cX10_mean 85 = .ok (.istore 4, 2) := by decide +kernel
theorem dX10_mean_87 : decode cX10_mean 87 = .ok (.iinc 5 1, 3) := by decide +kernel
theorem dX10_mean_90 : decode cX10_mean 90 = .ok (.goto (-61), 3) := by decide +kernel
theorem dX10_mean_93 : decode cX10_mean 93 = .ok (.iload 4, 2) := by decide +kernel
theorem dX10_mean_95 : decode cX10_mean 95 = .ok (.ifCond .ne 6, 3) := by decide +kernel
theorem dX10_mean_98 : decode cX10_mean 98 = .ok (.bipush (-2), 2) := by decide +kernel
theorem dX10_mean_100 : decode cX10_mean 100 = .ok (.ireturn, 1) := by decide +kernel
theorem dX10_mean_101 : decode cX10_mean 101 = .ok (.iload_n 3, 1) := by decide +kernel
theorem dX10_mean_102 : decode cX10_mean 102 = .ok (.i2l, 1) := by decide +kernel
theorem dX10_mean_103 : decode cX10_mean 103 = .ok (.iload 4, 2) := by decide +kernel
theorem dX10_mean_105 : decode cX10_mean 105 = .ok (.i2l, 1) := by decide +kernel
theorem dX10_mean_106 : decode cX10_mean 106 = .ok (.invokestatic 7, 3) := by decide +kernel
theorem dX10_mean_109 : decode cX10_mean 109 = .ok (.lstore 5, 2) := by decide +kernel
theorem dX10_mean_111 : decode cX10_mean 111 = .ok (.aload_n 0, 1) := by decide +kernel
theorem dX10_mean_112 : decode cX10_mean 112 = .ok (.iconst 0, 1) := by decide +kernel
theorem dX10_mean_113 : decode cX10_mean 113 = .ok (.putfield 15, 3) := by decide +kernel
theorem dX10_mean_116 : decode cX10_mean 116 = .ok (.aload_n 0, 1) := by decide +kernel
theorem dX10_mean_117 : decode cX10_mean 117 = .ok (.iload_n 3, 1) := by decide +kernel
theorem dX10_mean_118 : decode cX10_mean 118 = .ok (.i2l, 1) := by decide +kernel
theorem dX10_mean_119 : decode cX10_mean 119 = .ok (.lload 5, 2) := by decide +kernel
theorem dX10_mean_121 : decode cX10_mean 121 = .ok (.ldiv, 1) := by decide +kernel
theorem dX10_mean_122 : decode cX10_mean 122 = .ok (.invokevirtual 280, 3) := by decide +kernel
theorem dX10_mean_125 : decode cX10_mean 125 = .ok (.aload_n 0, 1) := by decide +kernel
theorem dX10_mean_126 : decode cX10_mean 126 = .ok (.iload 4, 2) := by decide +kernel
theorem dX10_mean_128 : decode cX10_mean 128 = .ok (.i2l, 1) := by decide +kernel
theorem dX10_mean_129 : decode cX10_mean 129 = .ok (.lload 5, 2) := by decide +kernel
theorem dX10_mean_131 : decode cX10_mean 131 = .ok (.ldiv, 1) := by decide +kernel
theorem dX10_mean_132 : decode cX10_mean 132 = .ok (.invokevirtual 280, 3) := by decide +kernel
theorem dX10_mean_135 : decode cX10_mean 135 = .ok (.aload_n 0, 1) := by decide +kernel
theorem dX10_mean_136 : decode cX10_mean 136 = .ok (.iload 4, 2) := by decide +kernel
theorem dX10_mean_138 : decode cX10_mean 138 = .ok (.i2l, 1) := by decide +kernel
theorem dX10_mean_139 : decode cX10_mean 139 = .ok (.invokevirtual 280, 3) := by decide +kernel
