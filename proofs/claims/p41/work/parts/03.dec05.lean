theorem dX10_keeps_19 : decode cX10_keeps 19 = .ok (.iconst 0, 1) := by decide +kernel
theorem dX10_keeps_20 : decode cX10_keeps 20 = .ok (.istore_n 2, 1) := by decide +kernel
theorem dX10_keeps_21 : decode cX10_keeps 21 = .ok (.iload_n 2, 1) := by decide +kernel
theorem dX10_keeps_22 : decode cX10_keeps 22 = .ok (.sipush 20010, 3) := by decide +kernel
theorem dX10_keeps_25 : decode cX10_keeps 25 = .ok (.if_icmp .ge 25, 3) := by decide +kernel
theorem dX10_keeps_28 : decode cX10_keeps 28 = .ok (.aload_n 0, 1) := by decide +kernel
theorem dX10_keeps_29 : decode cX10_keeps 29 = .ok (.getfield 127, 3) := by decide +kernel
theorem dX10_keeps_32 : decode cX10_keeps 32 = .ok (.iload_n 2, 1) := by decide +kernel
theorem dX10_keeps_33 : decode cX10_keeps 33 = .ok (.aload_n 0, 1) := by decide +kernel
theorem dX10_keeps_34 : decode cX10_keeps 34 = .ok (.getfield 127, 3) := by decide +kernel
theorem dX10_keeps_37 : decode cX10_keeps 37 = .ok (.iload_n 2, 1) := by decide +kernel
theorem dX10_keeps_38 : decode cX10_keeps 38 = .ok (.sipush 2001, 3) := by decide +kernel
theorem dX10_keeps_41 : decode cX10_keeps 41 = .ok (.iadd, 1) := by decide +kernel
theorem dX10_keeps_42 : decode cX10_keeps 42 = .ok (.iaload, 1) := by decide +kernel
theorem dX10_keeps_43 : decode cX10_keeps 43 = .ok (.iastore, 1) := by decide +kernel
theorem dX10_keeps_44 : decode cX10_keeps 44 = .ok (.iinc 2 1, 3) := by decide +kernel
theorem dX10_keeps_47 : decode cX10_keeps 47 = .ok (.goto (-26), 3) := by decide +kernel
theorem dX10_keeps_50 : decode cX10_keeps 50 = .ok (.aload_n 0, 1) := by decide +kernel
theorem dX10_keeps_51 : decode cX10_keeps 51 = .ok (.dup, 1) := by decide +kernel
theorem dX10_keeps_52 : decode cX10_keeps 52 = .ok (.getfield 205, 3) := by decide +kernel
theorem dX10_keeps_55 : decode cX10_keeps 55 = .ok (.iconst 1, 1) := by decide +kernel
theorem dX10_keeps_56 : decode cX10_keeps 56 = .ok (.isub, 1) := by decide +kernel
theorem dX10_keeps_57 : decode cX10_keeps 57 = .ok (.putfield 205, 3) := by decide +kernel
theorem dX10_keeps_60 : decode cX10_keeps 60 = .ok (.iload_n 1, 1) := by decide +kernel
theorem dX10_keeps_61 : decode cX10_keeps 61 = .ok (.ireturn, 1) := by decide +kernel
theorem dX10_counted_0 : decode cX10_counted 0 = .ok (.iload_n 1, 1) := by decide +kernel
theorem dX10_counted_1 : decode cX10_counted 1 = .ok (.ifCond .ge 7, 3) := by decide +kernel
theorem dX10_counted_4 : decode cX10_counted 4 = .ok (.iload_n 1, 1) := by decide +kernel
theorem dX10_counted_5 : decode cX10_counted 5 = .ok (.goto 8, 3) := by decide +kernel
theorem dX10_counted_8 : decode cX10_counted 8 = .ok (.aload_n 0, 1) := by decide +kernel
theorem dX10_counted_9 : decode cX10_counted 9 = .ok (.iload_n 1, 1) := by decide +kernel
theorem dX10_counted_10 : decode cX10_counted 10 = .ok (.invokevirtual 208, 3) := by decide +kernel
theorem dX10_counted_13 : decode cX10_counted 13 = .ok (.ireturn, 1) := by decide +kernel
theorem dX10_undo_0 : decode cX10_undo 0 = .ok (.aload_n 0, 1) := by decide +kernel
theorem dX10_undo_1 : decode cX10_undo 1 = .ok (.iconst 0, 1) := by decide +kernel
theorem dX10_undo_2 : decode cX10_undo 2 = .ok (.putfield 3, 3) := by decide +kernel
theorem dX10_undo_5 : decode cX10_undo 5 = .ok (.aload_n 0, 1) := by decide +kernel
theorem dX10_undo_6 : decode cX10_undo 6 = .ok (.getfield 205, 3) := by decide +kernel
theorem dX10_undo_9 : decode cX10_undo 9 = .ok (.ifCond .ne 5, 3) := by decide +kernel
theorem dX10_undo_12 : decode cX10_undo 12 = .ok (.iconst (-1), 1) := by decide +kernel
theorem dX10_undo_13 : decode cX10_undo 13 = .ok (.ireturn, 1) := by decide +kernel
theorem dX10_undo_14 : decode cX10_undo 14 = .ok (.aload_n 0, 1) := by decide +kernel
theorem dX10_undo_15 : decode cX10_undo 15 = .ok (.dup, 1) := by decide +kernel
theorem dX10_undo_16 : decode cX10_undo 16 = .ok (.getfield 205, 3) := by decide +kernel
theorem dX10_undo_19 : decode cX10_undo 19 = .ok (.iconst 1, 1) := by decide +kernel
theorem dX10_undo_20 : decode cX10_undo 20 = .ok (.isub, 1) := by decide +kernel
theorem dX10_undo_21 : decode cX10_undo 21 = .ok (.putfield 205, 3) := by decide +kernel
theorem dX10_undo_24 : decode cX10_undo 24 = .ok (.iconst 0, 1) := by decide +kernel
theorem dX10_undo_25 : decode cX10_undo 25 = .ok (.istore_n 1, 1) := by decide +kernel
theorem dX10_undo_26 : decode cX10_undo 26 = .ok (.iload_n 1, 1) := by decide +kernel
theorem dX10_undo_27 : decode cX10_undo 27 = .ok (.sipush 2001, 3) := by decide +kernel
theorem dX10_undo_30 : decode cX10_undo 30 = .ok (.if_icmp .ge 30, 3) := by decide +kernel
theorem dX10_undo_33 : decode cX10_undo 33 = .ok (.aload_n 0, 1) := by decide +kernel
theorem dX10_undo_34 : decode cX10_undo 34 = .ok (.getfield 118, 3) := by decide +kernel
theorem dX10_undo_37 : decode cX10_undo 37 = .ok (.iload_n 1, 1) := by decide +kernel
theorem dX10_undo_38 : decode cX10_undo 38 = .ok (.aload_n 0, 1) := by decide +kernel
theorem dX10_undo_39 : decode cX10_undo 39 = .ok (.getfield 127, 3) := by decide +kernel
theorem dX10_undo_42 : decode cX10_undo 42 = .ok (.sipush 2001, 3) := by decide +kernel
theorem dX10_undo_45 : decode cX10_undo 45 = .ok (.aload_n 0, 1) := by decide +kernel
theorem dX10_undo_46 : decode cX10_undo 46 = .ok (.getfield 205, 3) := by decide +kernel
theorem dX10_undo_49 : decode cX10_undo 49 = .ok (.imul, 1) := by decide +kernel
theorem dX10_undo_50 : decode cX10_undo 50 = .ok (.iload_n 1, 1) := by decide +kernel
theorem dX10_undo_51 : decode cX10_undo 51 = .ok (.iadd, 1) := by decide +kernel
theorem dX10_undo_52 : decode cX10_undo 52 = .ok (.iaload, 1) := by decide +kernel
theorem dX10_undo_53 : decode cX10_undo 53 = .ok (.iastore, 1) := by decide +kernel
theorem dX10_undo_54 : decode cX10_undo 54 = .ok (.iinc 1 1, 3) := by decide +kernel
theorem dX10_undo_57 : decode cX10_undo 57 = .ok (.goto (-31), 3) := by decide +kernel
theorem dX10_undo_60 : decode cX10_undo 60 = .ok (.aload_n 0, 1) := by decide +kernel
theorem dX10_undo_61 : decode cX10_undo 61 = .ok (.getfield 205, 3) := by decide +kernel
theorem dX10_undo_64 : decode cX10_undo 64 = .ok (.ireturn, 1) := by decide +kernel
theorem dX10_entry_0 : decode cX10_entry 0 = .ok (.aload_n 0, 1) := by decide +kernel
theorem dX10_entry_1 : decode cX10_entry 1 = .ok (.iconst 0, 1) := by decide +kernel
theorem dX10_entry_2 : decode cX10_entry 2 = .ok (.putfield 3, 3) := by decide +kernel
theorem dX10_entry_5 : decode cX10_entry 5 = .ok (.iload_n 1, 1) := by decide +kernel
theorem dX10_entry_6 : decode cX10_entry 6 = .ok (.invokestatic 211, 3) := by decide +kernel
theorem dX10_entry_9 : decode cX10_entry 9 = .ok (.ifCond .eq 32, 3) := by decide +kernel
theorem dX10_entry_12 : decode cX10_entry 12 = .ok (.iload_n 2, 1) := by decide +kernel
theorem dX10_entry_13 : decode cX10_entry 13 = .ok (.ifCond .lt 28, 3) := by decide +kernel
theorem dX10_entry_16 : decode cX10_entry 16 = .ok (.iload_n 3, 1) := by decide +kernel
theorem dX10_entry_17 : decode cX10_entry 17 = .ok (.i2l, 1) := by decide +kernel
theorem dX10_entry_18 : decode cX10_entry 18 = .ok (.lconst 0, 1) := by decide +kernel
theorem dX10_entry_19 : decode cX10_entry 19 = .ok (.ldc2_w 214, 3) := by decide +kernel
theorem dX10_entry_22 : decode cX10_entry 22 = .ok (.invokestatic 25, 3) := by decide +kernel
theorem dX10_entry_25 : decode cX10_entry 25 = .ok (.ifCond .eq 16, 3) := by decide +kernel
theorem dX10_entry_28 : decode cX10_entry 28 = .ok (.aload_n 0, 1) := by decide +kernel
theorem dX10_entry_29 : decode cX10_entry 29 = .ok (.aload_n 0, 1) := by decide +kernel
theorem dX10_entry_30 : decode cX10_entry 30 = .ok (.getfield 118, 3) := by decide +kernel
theorem dX10_entry_33 : decode cX10_entry 33 = .ok (.iload_n 1, 1) := by decide +kernel
theorem dX10_entry_34 : decode cX10_entry 34 = .ok (.iload_n 2, 1) := by decide +kernel
theorem dX10_entry_35 : decode cX10_entry 35 = .ok (.invokevirtual 216, 3) := by decide +kernel
theorem dX10_entry_38 : decode cX10_entry 38 = .ok (.ifCond .ne 8, 3) := by decide +kernel
theorem dX10_entry_41 : decode cX10_entry 41 = .ok (.aload_n 0, 1) := by decide +kernel
theorem dX10_entry_42 : decode cX10_entry 42 = .ok (.invokevirtual 220, 3) := by decide +kernel
theorem dX10_entry_45 : decode cX10_entry 45 = .ok (.ireturn, 1) := by decide +kernel
theorem dX10_entry_46 : decode cX10_entry 46 = .ok (.iload_n 3, 1) := by decide +kernel
theorem dX10_entry_47 : decode cX10_entry 47 = .ok (.tableswitch 73 0 3 #[29, 34, 51, 56], 29) := by decide +kernel
theorem dX10_entry_76 : decode cX10_entry 76 = .ok (.aload_n 0, 1) := by decide +kernel
theorem dX10_entry_77 : decode cX10_entry 77 = .ok (.getfield 191, 3) := by decide +kernel
theorem dX10_entry_80 : decode cX10_entry 80 = .ok (.ireturn, 1) := by decide +kernel
theorem dX10_entry_81 : decode cX10_entry 81 = .ok (.aload_n 0, 1) := by decide +kernel
theorem dX10_entry_82 : decode cX10_entry 82 = .ok (.getfield 118, 3) := by decide +kernel
theorem dX10_entry_85 : decode cX10_entry 85 = .ok (.iload_n 1, 1) := by decide +kernel
theorem dX10_entry_86 : decode cX10_entry 86 = .ok (.aload_n 0, 1) := by decide +kernel
theorem dX10_entry_87 : decode cX10_entry 87 = .ok (.getfield 191, 3) := by decide +kernel
theorem dX10_entry_90 : decode cX10_entry 90 = .ok (.aload_n 0, 1) := by decide +kernel
theorem dX10_entry_91 : decode cX10_entry 91 = .ok (.getfield 194, 3) := by decide +kernel
theorem dX10_entry_94 : decode cX10_entry 94 = .ok (.invokestatic 177, 3) := by decide +kernel
theorem dX10_entry_97 : decode cX10_entry 97 = .ok (.ireturn, 1) := by decide +kernel
theorem dX10_entry_98 : decode cX10_entry 98 = .ok (.aload_n 0, 1) := by decide +kernel
theorem dX10_entry_99 : decode cX10_entry 99 = .ok (.getfield 194, 3) := by decide +kernel
theorem dX10_entry_102 : decode cX10_entry 102 = .ok (.ireturn, 1) := by decide +kernel
theorem dX10_entry_103 : decode cX10_entry 103 = .ok (.aload_n 0, 1) := by decide +kernel
theorem dX10_entry_104 : decode cX10_entry 104 = .ok (.getfield 118, 3) := by decide +kernel
theorem dX10_entry_107 : decode cX10_entry 107 = .ok (.iload_n 1, 1) := by decide +kernel
theorem dX10_entry_108 : decode cX10_entry 108 = .ok (.aload_n 0, 1) := by decide +kernel
theorem dX10_entry_109 : decode cX10_entry 109 = .ok (.getfield 191, 3) := by decide +kernel
theorem dX10_entry_112 : decode cX10_entry 112 = .ok (.aload_n 0, 1) := by decide +kernel
theorem dX10_entry_113 : decode cX10_entry 113 = .ok (.getfield 194, 3) := by decide +kernel
theorem dX10_entry_116 : decode cX10_entry 116 = .ok (.invokestatic 223, 3) := by decide +kernel
theorem dX10_entry_119 : decode cX10_entry 119 = .ok (.ireturn, 1) := by decide +kernel
theorem dX10_entry_120 : decode cX10_entry 120 = .ok (.aload_n 0, 1) := by decide +kernel
theorem dX10_entry_121 : decode cX10_entry 121 = .ok (.getfield 118, 3) := by decide +kernel
theorem dX10_entry_124 : decode cX10_entry 124 = .ok (.iload_n 1, 1) := by decide +kernel
theorem dX10_entry_125 : decode cX10_entry 125 = .ok (.aload_n 0, 1) := by decide +kernel
theorem dX10_entry_126 : decode cX10_entry 126 = .ok (.getfield 191, 3) := by decide +kernel
theorem dX10_entry_129 : decode cX10_entry 129 = .ok (.aload_n 0, 1) := by decide +kernel
theorem dX10_entry_130 : decode cX10_entry 130 = .ok (.getfield 194, 3) := by decide +kernel
theorem dX10_entry_133 : decode cX10_entry 133 = .ok (.invokestatic 181, 3) := by decide +kernel
theorem dX10_entry_136 : decode cX10_entry 136 = .ok (.ireturn, 1) := by decide +kernel
theorem dX10_sheet_0 : decode cX10_sheet 0 = .ok (.aload_n 0, 1) := by decide +kernel
theorem dX10_sheet_1 : decode cX10_sheet 1 = .ok (.iconst 0, 1) := by decide +kernel
theorem dX10_sheet_2 : decode cX10_sheet 2 = .ok (.putfield 3, 3) := by decide +kernel
theorem dX10_sheet_5 : decode cX10_sheet 5 = .ok (.iload_n 1, 1) := by decide +kernel
theorem dX10_sheet_6 : decode cX10_sheet 6 = .ok (.i2l, 1) := by decide +kernel
theorem dX10_sheet_7 : decode cX10_sheet 7 = .ok (.lconst 0, 1) := by decide +kernel
theorem dX10_sheet_8 : decode cX10_sheet 8 = .ok (.ldc2_w 226, 3) := by decide +kernel
theorem dX10_sheet_11 : decode cX10_sheet 11 = .ok (.invokestatic 25, 3) := by decide +kernel
theorem dX10_sheet_14 : decode cX10_sheet 14 = .ok (.ifCond .eq 9, 3) := by decide +kernel
theorem dX10_sheet_17 : decode cX10_sheet 17 = .ok (.iload_n 2, 1) := by decide +kernel
theorem dX10_sheet_18 : decode cX10_sheet 18 = .ok (.bipush 20, 2) := by decide +kernel
theorem dX10_sheet_20 : decode cX10_sheet 20 = .ok (.if_icmp .le 5, 3) := by decide +kernel
theorem dX10_sheet_23 : decode cX10_sheet 23 = .ok (.iconst (-1), 1) := by decide +kernel
theorem dX10_sheet_24 : decode cX10_sheet 24 = .ok (.ireturn, 1) := by decide +kernel
theorem dX10_sheet_25 : decode cX10_sheet 25 = .ok (.iload_n 1, 1) := by decide +kernel
theorem dX10_sheet_26 : decode cX10_sheet 26 = .ok (.iconst 3, 1) := by decide +kernel
theorem dX10_sheet_27 : decode cX10_sheet 27 = .ok (.if_icmp .eq 10, 3) := by decide +kernel
theorem dX10_sheet_30 : decode cX10_sheet 30 = .ok (.iload_n 2, 1) := by decide +kernel
theorem dX10_sheet_31 : decode cX10_sheet 31 = .ok (.ifCond .ge 6, 3) := by decide +kernel
theorem dX10_sheet_34 : decode cX10_sheet 34 = .ok (.bipush (-2), 2) := by decide +kernel
theorem dX10_sheet_36 : decode cX10_sheet 36 = .ok (.ireturn, 1) := by decide +kernel
theorem dX10_sheet_37 : decode cX10_sheet 37 = .ok (.iconst 0, 1) := by decide +kernel
theorem dX10_sheet_38 : decode cX10_sheet 38 = .ok (.istore 5, 2) := by decide +kernel
theorem dX10_sheet_40 : decode cX10_sheet 40 = .ok (.aload_n 0, 1) := by decide +kernel
theorem dX10_sheet_41 : decode cX10_sheet 41 = .ok (.getfield 118, 3) := by decide +kernel
theorem dX10_sheet_44 : decode cX10_sheet 44 = .ok (.iconst 0, 1) := by decide +kernel
theorem dX10_sheet_45 : decode cX10_sheet 45 = .ok (.invokestatic 197, 3) := by decide +kernel
theorem dX10_sheet_48 : decode cX10_sheet 48 = .ok (.istore 6, 2) := by decide +kernel
theorem dX10_sheet_50 : decode cX10_sheet 50 = .ok (.iconst 0, 1) := by decide +kernel
theorem dX10_sheet_51 : decode cX10_sheet 51 = .ok (.istore 7, 2) := by decide +kernel
theorem dX10_sheet_53 : decode cX10_sheet 53 = .ok (.iload 7, 2) := by decide +kernel
theorem dX10_sheet_55 : decode cX10_sheet 55 = .ok (.iload 6, 2) := by decide +kernel
theorem dX10_sheet_57 : decode cX10_sheet 57 = .ok (.if_icmp .ge 169, 3) := by decide +kernel
theorem dX10_sheet_60 : decode cX10_sheet 60 = .ok (.iload_n 3, 1) := by decide +kernel
theorem dX10_sheet_61 : decode cX10_sheet 61 = .ok (.iload 7, 2) := by decide +kernel
theorem dX10_sheet_63 : decode cX10_sheet 63 = .ok (.iload 4, 2) := by decide +kernel
theorem dX10_sheet_65 : decode cX10_sheet 65 = .ok (.imul, 1) := by decide +kernel
theorem dX10_sheet_66 : decode cX10_sheet 66 = .ok (.iadd, 1) := by decide +kernel
theorem dX10_sheet_67 : decode cX10_sheet 67 = .ok (.istore 8, 2) := by decide +kernel
theorem dX10_sheet_69 : decode cX10_sheet 69 = .ok (.iload_n 1, 1) := by decide +kernel
theorem dX10_sheet_70 : decode cX10_sheet 70 = .ok (.ifCond .ne 9, 3) := by decide +kernel
theorem dX10_sheet_73 : decode cX10_sheet 73 = .ok (.iload 8, 2) := by decide +kernel
theorem dX10_sheet_75 : decode cX10_sheet 75 = .ok (.i2b, 1) := by decide +kernel
theorem dX10_sheet_76 : decode cX10_sheet 76 = .ok (.goto 16, 3) := by decide +kernel
theorem dX10_sheet_79 : decode cX10_sheet 79 = .ok (.iload_n 1, 1) := by decide +kernel
theorem dX10_sheet_80 : decode cX10_sheet 80 = .ok (.iconst 1, 1) := by decide +kernel
theorem dX10_sheet_81 : decode cX10_sheet 81 = .ok (.if_icmp .ne 9, 3) := by decide +kernel
theorem dX10_sheet_84 : decode cX10_sheet 84 = .ok (.iload 8, 2) := by decide +kernel
theorem dX10_sheet_86 : decode cX10_sheet 86 = .ok (.i2s, 1) := by decide +kernel
theorem dX10_sheet_87 : decode cX10_sheet 87 = .ok (.goto 5, 3) := by decide +kernel
theorem dX10_sheet_90 : decode cX10_sheet 90 = .ok (.iload 8, 2) := by decide +kernel
theorem dX10_sheet_92 : decode cX10_sheet 92 = .ok (.istore 9, 2) := by decide +kernel
theorem dX10_sheet_94 : decode cX10_sheet 94 = .ok (.iload_n 1, 1) := by decide +kernel
theorem dX10_sheet_95 : decode cX10_sheet 95 = .ok (.iconst 3, 1) := by decide +kernel
theorem dX10_sheet_96 : decode cX10_sheet 96 = .ok (.if_icmp .eq 9, 3) := by decide +kernel
theorem dX10_sheet_99 : decode cX10_sheet 99 = .ok (.iload 7, 2) := by decide +kernel
theorem dX10_sheet_101 : decode cX10_sheet 101 = .ok (.iload_n 2, 1) := by decide +kernel
theorem dX10_sheet_102 : decode cX10_sheet 102 = .ok (.if_icmp .lt 7, 3) := by decide +kernel
theorem dX10_sheet_105 : decode cX10_sheet 105 = .ok (.iconst 0, 1) := by decide +kernel
theorem dX10_sheet_106 : decode cX10_sheet 106 = .ok (.goto 14, 3) := by decide +kernel
theorem dX10_sheet_109 : decode cX10_sheet 109 = .ok (.iconst 0, 1) := by decide +kernel
theorem dX10_sheet_110 : decode cX10_sheet 110 = .ok (.bipush 99, 2) := by decide +kernel
theorem dX10_sheet_112 : decode cX10_sheet 112 = .ok (.iload 9, 2) := by decide +kernel
theorem dX10_sheet_114 : decode cX10_sheet 114 = .ok (.invokestatic 35, 3) := by decide +kernel
theorem dX10_sheet_117 : decode cX10_sheet 117 = .ok (.invokestatic 228, 3) := by decide +kernel
theorem dX10_sheet_120 : decode cX10_sheet 120 = .ok (.istore 10, 2) := by decide +kernel
theorem dX10_sheet_122 : decode cX10_sheet 122 = .ok (.aload_n 0, 1) := by decide +kernel
theorem dX10_sheet_123 : decode cX10_sheet 123 = .ok (.aload_n 0, 1) := by decide +kernel
theorem dX10_sheet_124 : decode cX10_sheet 124 = .ok (.getfield 118, 3) := by decide +kernel
theorem dX10_sheet_127 : decode cX10_sheet 127 = .ok (.iconst 0, 1) := by decide +kernel
theorem dX10_sheet_128 : decode cX10_sheet 128 = .ok (.iload 7, 2) := by decide +kernel
theorem dX10_sheet_130 : decode cX10_sheet 130 = .ok (.invokevirtual 216, 3) := by decide +kernel
theorem dX10_sheet_133 : decode cX10_sheet 133 = .ok (.pop, 1) := by decide +kernel
theorem dX10_sheet_134 : decode cX10_sheet 134 = .ok (.aload_n 0, 1) := by decide +kernel
theorem dX10_sheet_135 : decode cX10_sheet 135 = .ok (.getfield 118, 3) := by decide +kernel
theorem dX10_sheet_138 : decode cX10_sheet 138 = .ok (.iconst 0, 1) := by decide +kernel
theorem dX10_sheet_139 : decode cX10_sheet 139 = .ok (.aload_n 0, 1) := by decide +kernel
theorem dX10_sheet_140 : decode cX10_sheet 140 = .ok (.getfield 191, 3) := by decide +kernel
theorem dX10_sheet_143 : decode cX10_sheet 143 = .ok (.aload_n 0, 1) := by decide +kernel
theorem dX10_sheet_144 : decode cX10_sheet 144 = .ok (.getfield 194, 3) := by decide +kernel
theorem dX10_sheet_147 : decode cX10_sheet 147 = .ok (.invokestatic 223, 3) := by decide +kernel
theorem dX10_sheet_150 : decode cX10_sheet 150 = .ok (.iconst 1, 1) := by decide +kernel
theorem dX10_sheet_151 : decode cX10_sheet 151 = .ok (.isub, 1) := by decide +kernel
theorem dX10_sheet_152 : decode cX10_sheet 152 = .ok (.istore 11, 2) := by decide +kernel
theorem dX10_sheet_154 : decode cX10_sheet 154 = .ok (.iload 11, 2) := by decide +kernel
theorem dX10_sheet_156 : decode cX10_sheet 156 = .ok (.aload_n 0, 1) := by decide +kernel
theorem dX10_sheet_157 : decode cX10_sheet 157 = .ok (.getfield 194, 3) := by decide +kernel
theorem dX10_sheet_160 : decode cX10_sheet 160 = .ok (.if_icmp .lt 53, 3) := by decide +kernel
theorem dX10_sheet_163 : decode cX10_sheet 163 = .ok (.aload_n 0, 1) := by decide +kernel
theorem dX10_sheet_164 : decode cX10_sheet 164 = .ok (.getfield 118, 3) := by decide +kernel
theorem dX10_sheet_167 : decode cX10_sheet 167 = .ok (.iconst 0, 1) := by decide +kernel
theorem dX10_sheet_168 : decode cX10_sheet 168 = .ok (.aload_n 0, 1) := by decide +kernel
theorem dX10_sheet_169 : decode cX10_sheet 169 = .ok (.getfield 191, 3) := by decide +kernel
theorem dX10_sheet_172 : decode cX10_sheet 172 = .ok (.iload 11, 2) := by decide +kernel
theorem dX10_sheet_174 : decode cX10_sheet 174 = .ok (.iload 10, 2) := by decide +kernel
theorem dX10_sheet_176 : decode cX10_sheet 176 = .ok (.aload_n 0, 1) := by decide +kernel
theorem dX10_sheet_177 : decode cX10_sheet 177 = .ok (.getfield 118, 3) := by decide +kernel
theorem dX10_sheet_180 : decode cX10_sheet 180 = .ok (.iconst 0, 1) := by decide +kernel
theorem dX10_sheet_181 : decode cX10_sheet 181 = .ok (.aload_n 0, 1) := by decide +kernel
theorem dX10_sheet_182 : decode cX10_sheet 182 = .ok (.getfield 191, 3) := by decide +kernel
theorem dX10_sheet_185 : decode cX10_sheet 185 = .ok (.iload 11, 2) := by decide +kernel
theorem dX10_sheet_187 : decode cX10_sheet 187 = .ok (.invokestatic 181, 3) := by decide +kernel
theorem dX10_sheet_190 : decode cX10_sheet 190 = .ok (.iload 11, 2) := by decide +kernel
theorem dX10_sheet_192 : decode cX10_sheet 192 = .ok (.aload_n 0, 1) := by decide +kernel
theorem dX10_sheet_193 : decode cX10_sheet 193 = .ok (.getfield 194, 3) := by decide +kernel
theorem dX10_sheet_196 : decode cX10_sheet 196 = .ok (.if_icmp .ne 7, 3) := by decide +kernel
theorem dX10_sheet_199 : decode cX10_sheet 199 = .ok (.iconst 1, 1) := by decide +kernel
theorem dX10_sheet_200 : decode cX10_sheet 200 = .ok (.goto 4, 3) := by decide +kernel
theorem dX10_sheet_203 : decode cX10_sheet 203 = .ok (.iconst 0, 1) := by decide +kernel
theorem dX10_sheet_204 : decode cX10_sheet 204 = .ok (.invokestatic 184, 3) := by decide +kernel
theorem dX10_sheet_207 : decode cX10_sheet 207 = .ok (.iinc 11 (-1), 3) := by decide +kernel
theorem dX10_sheet_210 : decode cX10_sheet 210 = .ok (.goto (-56), 3) := by decide +kernel
theorem dX10_sheet_213 : decode cX10_sheet 213 = .ok (.iload 5, 2) := by decide +kernel
theorem dX10_sheet_215 : decode cX10_sheet 215 = .ok (.iload 10, 2) := by decide +kernel
theorem dX10_sheet_217 : decode cX10_sheet 217 = .ok (.iadd, 1) := by decide +kernel
theorem dX10_sheet_218 : decode cX10_sheet 218 = .ok (.istore 5, 2) := by decide +kernel
theorem dX10_sheet_220 : decode cX10_sheet 220 = .ok (.iinc 7 1, 3) := by decide +kernel
theorem dX10_sheet_223 : decode cX10_sheet 223 = .ok (.goto (-170), 3) := by decide +kernel
theorem dX10_sheet_226 : decode cX10_sheet 226 = .ok (.iload_n 1, 1) := by decide +kernel
theorem dX10_sheet_227 : decode cX10_sheet 227 = .ok (.iconst 3, 1) := by decide +kernel
theorem dX10_sheet_228 : decode cX10_sheet 228 = .ok (.if_icmp .ne 8, 3) := by decide +kernel
theorem dX10_sheet_231 : decode cX10_sheet 231 = .ok (.bipush (-3), 2) := by decide +kernel
theorem dX10_sheet_233 : decode cX10_sheet 233 = .ok (.goto 5, 3) := by decide +kernel
theorem dX10_sheet_236 : decode cX10_sheet 236 = .ok (.iload 5, 2) := by decide +kernel
theorem dX10_sheet_238 : decode cX10_sheet 238 = .ok (.ireturn, 1) := by decide +kernel
theorem dX10_addsOne_0 : decode cX10_addsOne 0 = .ok (.iload_n 2, 1) := by decide +kernel
theorem dX10_addsOne_1 : decode cX10_addsOne 1 = .ok (.invokestatic 211, 3) := by decide +kernel
theorem dX10_addsOne_4 : decode cX10_addsOne 4 = .ok (.ifCond .eq 33, 3) := by decide +kernel
theorem dX10_addsOne_7 : decode cX10_addsOne 7 = .ok (.iload_n 3, 1) := by decide +kernel
theorem dX10_addsOne_8 : decode cX10_addsOne 8 = .ok (.invokestatic 231, 3) := by decide +kernel
theorem dX10_addsOne_11 : decode cX10_addsOne 11 = .ok (.ifCond .eq 26, 3) := by decide +kernel
theorem dX10_addsOne_14 : decode cX10_addsOne 14 = .ok (.iload 4, 2) := by decide +kernel
theorem dX10_addsOne_16 : decode cX10_addsOne 16 = .ok (.i2l, 1) := by decide +kernel
theorem dX10_addsOne_17 : decode cX10_addsOne 17 = .ok (.lconst 0, 1) := by decide +kernel
theorem dX10_addsOne_18 : decode cX10_addsOne 18 = .ok (.ldc2_w 165, 3) := by decide +kernel
theorem dX10_addsOne_21 : decode cX10_addsOne 21 = .ok (.invokestatic 25, 3) := by decide +kernel
theorem dX10_addsOne_24 : decode cX10_addsOne 24 = .ok (.ifCond .eq 13, 3) := by decide +kernel
theorem dX10_addsOne_27 : decode cX10_addsOne 27 = .ok (.iload 5, 2) := by decide +kernel
theorem dX10_addsOne_29 : decode cX10_addsOne 29 = .ok (.iload 6, 2) := by decide +kernel
theorem dX10_addsOne_31 : decode cX10_addsOne 31 = .ok (.invokestatic 234, 3) := by decide +kernel
theorem dX10_addsOne_34 : decode cX10_addsOne 34 = .ok (.ifCond .ne 5, 3) := by decide +kernel
theorem dX10_addsOne_37 : decode cX10_addsOne 37 = .ok (.iconst (-1), 1) := by decide +kernel
theorem dX10_addsOne_38 : decode cX10_addsOne 38 = .ok (.ireturn, 1) := by decide +kernel
theorem dX10_addsOne_39 : decode cX10_addsOne 39 = .ok (.aload_n 1, 1) := by decide +kernel
theorem dX10_addsOne_40 : decode cX10_addsOne 40 = .ok (.iload_n 2, 1) := by decide +kernel
theorem dX10_addsOne_41 : decode cX10_addsOne 41 = .ok (.iload_n 3, 1) := by decide +kernel
theorem dX10_addsOne_42 : decode cX10_addsOne 42 = .ok (.iload 5, 2) := by decide +kernel
theorem dX10_addsOne_44 : decode cX10_addsOne 44 = .ok (.iload 6, 2) := by decide +kernel
theorem dX10_addsOne_46 : decode cX10_addsOne 46 = .ok (.invokestatic 238, 3) := by decide +kernel
theorem dX10_addsOne_49 : decode cX10_addsOne 49 = .ok (.ifCond .le 6, 3) := by decide +kernel
theorem dX10_addsOne_52 : decode cX10_addsOne 52 = .ok (.bipush (-2), 2) := by decide +kernel
theorem dX10_addsOne_54 : decode cX10_addsOne 54 = .ok (.ireturn, 1) := by decide +kernel
theorem dX10_addsOne_55 : decode cX10_addsOne 55 = .ok (.aload_n 1, 1) := by decide +kernel
theorem dX10_addsOne_56 : decode cX10_addsOne 56 = .ok (.aload_n 0, 1) := by decide +kernel
theorem dX10_addsOne_57 : decode cX10_addsOne 57 = .ok (.getfield 124, 3) := by decide +kernel
theorem dX10_addsOne_60 : decode cX10_addsOne 60 = .ok (.invokestatic 201, 3) := by decide +kernel
theorem dX10_addsOne_63 : decode cX10_addsOne 63 = .ok (.iload 5, 2) := by decide +kernel
theorem dX10_addsOne_65 : decode cX10_addsOne 65 = .ok (.istore 7, 2) := by decide +kernel
theorem dX10_addsOne_67 : decode cX10_addsOne 67 = .ok (.iload 7, 2) := by decide +kernel
theorem dX10_addsOne_69 : decode cX10_addsOne 69 = .ok (.iload 6, 2) := by decide +kernel
theorem dX10_addsOne_71 : decode cX10_addsOne 71 = .ok (.if_icmp .ge 36, 3) := by decide +kernel
theorem dX10_addsOne_74 : decode cX10_addsOne 74 = .ok (.aload_n 0, 1) := by decide +kernel
theorem dX10_addsOne_75 : decode cX10_addsOne 75 = .ok (.getfield 124, 3) := by decide +kernel
theorem dX10_addsOne_78 : decode cX10_addsOne 78 = .ok (.iload_n 2, 1) := by decide +kernel
theorem dX10_addsOne_79 : decode cX10_addsOne 79 = .ok (.iload_n 3, 1) := by decide +kernel
theorem dX10_addsOne_80 : decode cX10_addsOne 80 = .ok (.iload 7, 2) := by decide +kernel
theorem dX10_addsOne_82 : decode cX10_addsOne 82 = .ok (.iload 4, 2) := by decide +kernel
theorem dX10_addsOne_84 : decode cX10_addsOne 84 = .ok (.bipush 10, 2) := by decide +kernel
theorem dX10_addsOne_86 : decode cX10_addsOne 86 = .ok (.iload 7, 2) := by decide +kernel
theorem dX10_addsOne_88 : decode cX10_addsOne 88 = .ok (.iload 5, 2) := by decide +kernel
theorem dX10_addsOne_90 : decode cX10_addsOne 90 = .ok (.if_icmp .ne 7, 3) := by decide +kernel
theorem dX10_addsOne_93 : decode cX10_addsOne 93 = .ok (.iconst 1, 1) := by decide +kernel
theorem dX10_addsOne_94 : decode cX10_addsOne 94 = .ok (.goto 4, 3) := by decide +kernel
theorem dX10_addsOne_97 : decode cX10_addsOne 97 = .ok (.iconst 0, 1) := by decide +kernel
theorem dX10_addsOne_98 : decode cX10_addsOne 98 = .ok (.invokestatic 184, 3) := by decide +kernel
theorem dX10_addsOne_101 : decode cX10_addsOne 101 = .ok (.iinc 7 1, 3) := by decide +kernel
theorem dX10_addsOne_104 : decode cX10_addsOne 104 = .ok (.goto (-37), 3) := by decide +kernel
theorem dX10_addsOne_107 : decode cX10_addsOne 107 = .ok (.aload_n 0, 1) := by decide +kernel
theorem dX10_addsOne_108 : decode cX10_addsOne 108 = .ok (.aload_n 1, 1) := by decide +kernel
theorem dX10_addsOne_109 : decode cX10_addsOne 109 = .ok (.aload_n 0, 1) := by decide +kernel
theorem dX10_addsOne_110 : decode cX10_addsOne 110 = .ok (.getfield 124, 3) := by decide +kernel
theorem dX10_addsOne_113 : decode cX10_addsOne 113 = .ok (.iload_n 2, 1) := by decide +kernel
theorem dX10_addsOne_114 : decode cX10_addsOne 114 = .ok (.iload_n 3, 1) := by decide +kernel
theorem dX10_addsOne_115 : decode cX10_addsOne 115 = .ok (.iload 5, 2) := by decide +kernel
theorem dX10_addsOne_117 : decode cX10_addsOne 117 = .ok (.invokestatic 242, 3) := by decide +kernel
theorem dX10_addsOne_120 : decode cX10_addsOne 120 = .ok (.invokevirtual 245, 3) := by decide +kernel
theorem dX10_addsOne_123 : decode cX10_addsOne 123 = .ok (.ireturn, 1) := by decide +kernel
theorem dX10_turns_0 : decode cX10_turns 0 = .ok (.aload_n 1, 1) := by decide +kernel
theorem dX10_turns_1 : decode cX10_turns 1 = .ok (.iload_n 2, 1) := by decide +kernel
theorem dX10_turns_2 : decode cX10_turns 2 = .ok (.iload_n 3, 1) := by decide +kernel
theorem dX10_turns_3 : decode cX10_turns 3 = .ok (.iload 6, 2) := by decide +kernel
theorem dX10_turns_5 : decode cX10_turns 5 = .ok (.iload 7, 2) := by decide +kernel
theorem dX10_turns_7 : decode cX10_turns 7 = .ok (.invokestatic 238, 3) := by decide +kernel
theorem dX10_turns_10 : decode cX10_turns 10 = .ok (.istore 8, 2) := by decide +kernel
theorem dX10_turns_12 : decode cX10_turns 12 = .ok (.iload 8, 2) := by decide +kernel
theorem dX10_turns_14 : decode cX10_turns 14 = .ok (.ifCond .ne 6, 3) := by decide +kernel
theorem dX10_turns_17 : decode cX10_turns 17 = .ok (.bipush (-2), 2) := by decide +kernel
theorem dX10_turns_19 : decode cX10_turns 19 = .ok (.ireturn, 1) := by decide +kernel
theorem dX10_turns_20 : decode cX10_turns 20 = .ok (.aload_n 1, 1) := by decide +kernel
theorem dX10_turns_21 : decode cX10_turns 21 = .ok (.aload_n 0, 1) := by decide +kernel
theorem dX10_turns_22 : decode cX10_turns 22 = .ok (.getfield 124, 3) := by decide +kernel
theorem dX10_turns_25 : decode cX10_turns 25 = .ok (.invokestatic 201, 3) := by decide +kernel
theorem dX10_turns_28 : decode cX10_turns 28 = .ok (.iload 6, 2) := by decide +kernel
theorem dX10_turns_30 : decode cX10_turns 30 = .ok (.istore 9, 2) := by decide +kernel
theorem dX10_turns_32 : decode cX10_turns 32 = .ok (.iload 9, 2) := by decide +kernel
theorem dX10_turns_34 : decode cX10_turns 34 = .ok (.iload 7, 2) := by decide +kernel
theorem dX10_turns_36 : decode cX10_turns 36 = .ok (.if_icmp .ge 139, 3) := by decide +kernel
theorem dX10_turns_39 : decode cX10_turns 39 = .ok (.aload_n 1, 1) := by decide +kernel
theorem dX10_turns_40 : decode cX10_turns 40 = .ok (.iload_n 2, 1) := by decide +kernel
theorem dX10_turns_41 : decode cX10_turns 41 = .ok (.iload_n 3, 1) := by decide +kernel
theorem dX10_turns_42 : decode cX10_turns 42 = .ok (.iload 9, 2) := by decide +kernel
theorem dX10_turns_44 : decode cX10_turns 44 = .ok (.invokestatic 173, 3) := by decide +kernel
theorem dX10_turns_47 : decode cX10_turns 47 = .ok (.ifCond .eq 122, 3) := by decide +kernel
theorem dX10_turns_50 : decode cX10_turns 50 = .ok (.aload_n 1, 1) := by decide +kernel
theorem dX10_turns_51 : decode cX10_turns 51 = .ok (.iload_n 2, 1) := by decide +kernel
theorem dX10_turns_52 : decode cX10_turns 52 = .ok (.iload_n 3, 1) := by decide +kernel
theorem dX10_turns_53 : decode cX10_turns 53 = .ok (.iload 9, 2) := by decide +kernel
theorem dX10_turns_55 : decode cX10_turns 55 = .ok (.invokestatic 177, 3) := by decide +kernel
theorem dX10_turns_58 : decode cX10_turns 58 = .ok (.istore 10, 2) := by decide +kernel
theorem dX10_turns_60 : decode cX10_turns 60 = .ok (.aload_n 1, 1) := by decide +kernel
theorem dX10_turns_61 : decode cX10_turns 61 = .ok (.iload_n 2, 1) := by decide +kernel
theorem dX10_turns_62 : decode cX10_turns 62 = .ok (.iload_n 3, 1) := by decide +kernel
theorem dX10_turns_63 : decode cX10_turns 63 = .ok (.iload 9, 2) := by decide +kernel
theorem dX10_turns_65 : decode cX10_turns 65 = .ok (.invokestatic 181, 3) := by decide +kernel
theorem dX10_turns_68 : decode cX10_turns 68 = .ok (.istore 11, 2) := by decide +kernel
theorem dX10_turns_70 : decode cX10_turns 70 = .ok (.iload 4, 2) := by decide +kernel
theorem dX10_turns_72 : decode cX10_turns 72 = .ok (.ifCond .eq 8, 3) := by decide +kernel
theorem dX10_turns_75 : decode cX10_turns 75 = .ok (.iload 10, 2) := by decide +kernel
theorem dX10_turns_77 : decode cX10_turns 77 = .ok (.goto 5, 3) := by decide +kernel
theorem dX10_turns_80 : decode cX10_turns 80 = .ok (.iload 11, 2) := by decide +kernel
theorem dX10_turns_82 : decode cX10_turns 82 = .ok (.iload 5, 2) := by decide +kernel
theorem dX10_turns_84 : decode cX10_turns 84 = .ok (.if_icmp .eq 85, 3) := by decide +kernel
theorem dX10_turns_87 : decode cX10_turns 87 = .ok (.aload_n 1, 1) := by decide +kernel
theorem dX10_turns_88 : decode cX10_turns 88 = .ok (.iload_n 2, 1) := by decide +kernel
theorem dX10_turns_89 : decode cX10_turns 89 = .ok (.iload_n 3, 1) := by decide +kernel
theorem dX10_turns_90 : decode cX10_turns 90 = .ok (.iload 9, 2) := by decide +kernel
theorem dX10_turns_92 : decode cX10_turns 92 = .ok (.invokestatic 188, 3) := by decide +kernel
theorem dX10_turns_95 : decode cX10_turns 95 = .ok (.ifCond .ne 10, 3) := by decide +kernel
theorem dX10_turns_98 : decode cX10_turns 98 = .ok (.iload 9, 2) := by decide +kernel
theorem dX10_turns_100 : decode cX10_turns 100 = .ok (.iload 6, 2) := by decide +kernel
theorem dX10_turns_102 : decode cX10_turns 102 = .ok (.if_icmp .ne 7, 3) := by decide +kernel
theorem dX10_turns_105 : decode cX10_turns 105 = .ok (.iconst 1, 1) := by decide +kernel
theorem dX10_turns_106 : decode cX10_turns 106 = .ok (.goto 4, 3) := by decide +kernel
theorem dX10_turns_109 : decode cX10_turns 109 = .ok (.iconst 0, 1) := by decide +kernel
theorem dX10_turns_110 : decode cX10_turns 110 = .ok (.istore 12, 2) := by decide +kernel
theorem dX10_turns_112 : decode cX10_turns 112 = .ok (.aload_n 0, 1) := by decide +kernel
theorem dX10_turns_113 : decode cX10_turns 113 = .ok (.getfield 124, 3) := by decide +kernel
theorem dX10_turns_116 : decode cX10_turns 116 = .ok (.iload_n 2, 1) := by decide +kernel
theorem dX10_turns_117 : decode cX10_turns 117 = .ok (.iload_n 3, 1) := by decide +kernel
theorem dX10_turns_118 : decode cX10_turns 118 = .ok (.iload 9, 2) := by decide +kernel
theorem dX10_turns_120 : decode cX10_turns 120 = .ok (.iload 4, 2) := by decide +kernel
theorem dX10_turns_122 : decode cX10_turns 122 = .ok (.ifCond .eq 8, 3) := by decide +kernel
theorem dX10_turns_125 : decode cX10_turns 125 = .ok (.iload 5, 2) := by decide +kernel
theorem dX10_turns_127 : decode cX10_turns 127 = .ok (.goto 5, 3) := by decide +kernel
theorem dX10_turns_130 : decode cX10_turns 130 = .ok (.iload 10, 2) := by decide +kernel
theorem dX10_turns_132 : decode cX10_turns 132 = .ok (.iload 4, 2) := by decide +kernel
theorem dX10_turns_134 : decode cX10_turns 134 = .ok (.ifCond .eq 8, 3) := by decide +kernel
theorem dX10_turns_137 : decode cX10_turns 137 = .ok (.iload 11, 2) := by decide +kernel
theorem dX10_turns_139 : decode cX10_turns 139 = .ok (.goto 5, 3) := by decide +kernel
theorem dX10_turns_142 : decode cX10_turns 142 = .ok (.iload 5, 2) := by decide +kernel
theorem dX10_turns_144 : decode cX10_turns 144 = .ok (.iload 12, 2) := by decide +kernel
theorem dX10_turns_146 : decode cX10_turns 146 = .ok (.invokestatic 184, 3) := by decide +kernel
theorem dX10_turns_149 : decode cX10_turns 149 = .ok (.iload 9, 2) := by decide +kernel
theorem dX10_turns_151 : decode cX10_turns 151 = .ok (.iload 7, 2) := by decide +kernel
theorem dX10_turns_153 : decode cX10_turns 153 = .ok (.iconst 1, 1) := by decide +kernel
theorem dX10_turns_154 : decode cX10_turns 154 = .ok (.isub, 1) := by decide +kernel
theorem dX10_turns_155 : decode cX10_turns 155 = .ok (.if_icmp .ne 14, 3) := by decide +kernel
theorem dX10_turns_158 : decode cX10_turns 158 = .ok (.aload_n 0, 1) := by decide +kernel
theorem dX10_turns_159 : decode cX10_turns 159 = .ok (.getfield 124, 3) := by decide +kernel
theorem dX10_turns_162 : decode cX10_turns 162 = .ok (.iload_n 2, 1) := by decide +kernel
theorem dX10_turns_163 : decode cX10_turns 163 = .ok (.iload_n 3, 1) := by decide +kernel
theorem dX10_turns_164 : decode cX10_turns 164 = .ok (.iload 7, 2) := by decide +kernel
theorem dX10_turns_166 : decode cX10_turns 166 = .ok (.invokestatic 248, 3) := by decide +kernel
theorem dX10_turns_169 : decode cX10_turns 169 = .ok (.iinc 9 1, 3) := by decide +kernel
theorem dX10_turns_172 : decode cX10_turns 172 = .ok (.goto (-140), 3) := by decide +kernel
theorem dX10_turns_175 : decode cX10_turns 175 = .ok (.iload 8, 2) := by decide +kernel
theorem dX10_turns_177 : decode cX10_turns 177 = .ok (.ireturn, 1) := by decide +kernel
theorem dX10_setsOne_0 : decode cX10_setsOne 0 = .ok (.iload_n 2, 1) := by decide +kernel
theorem dX10_setsOne_1 : decode cX10_setsOne 1 = .ok (.invokestatic 211, 3) := by decide +kernel
theorem dX10_setsOne_4 : decode cX10_setsOne 4 = .ok (.ifCond .eq 33, 3) := by decide +kernel
theorem dX10_setsOne_7 : decode cX10_setsOne 7 = .ok (.iload_n 3, 1) := by decide +kernel
theorem dX10_setsOne_8 : decode cX10_setsOne 8 = .ok (.invokestatic 231, 3) := by decide +kernel
theorem dX10_setsOne_11 : decode cX10_setsOne 11 = .ok (.ifCond .eq 26, 3) := by decide +kernel
theorem dX10_setsOne_14 : decode cX10_setsOne 14 = .ok (.iload 4, 2) := by decide +kernel
theorem dX10_setsOne_16 : decode cX10_setsOne 16 = .ok (.i2l, 1) := by decide +kernel
theorem dX10_setsOne_17 : decode cX10_setsOne 17 = .ok (.lconst 0, 1) := by decide +kernel
theorem dX10_setsOne_18 : decode cX10_setsOne 18 = .ok (.ldc2_w 165, 3) := by decide +kernel
theorem dX10_setsOne_21 : decode cX10_setsOne 21 = .ok (.invokestatic 25, 3) := by decide +kernel
theorem dX10_setsOne_24 : decode cX10_setsOne 24 = .ok (.ifCond .eq 13, 3) := by decide +kernel
theorem dX10_setsOne_27 : decode cX10_setsOne 27 = .ok (.iload 5, 2) := by decide +kernel
theorem dX10_setsOne_29 : decode cX10_setsOne 29 = .ok (.iload 6, 2) := by decide +kernel
theorem dX10_setsOne_31 : decode cX10_setsOne 31 = .ok (.invokestatic 234, 3) := by decide +kernel
theorem dX10_setsOne_34 : decode cX10_setsOne 34 = .ok (.ifCond .ne 5, 3) := by decide +kernel
theorem dX10_setsOne_37 : decode cX10_setsOne 37 = .ok (.iconst (-1), 1) := by decide +kernel
theorem dX10_setsOne_38 : decode cX10_setsOne 38 = .ok (.ireturn, 1) := by decide +kernel
theorem dX10_setsOne_39 : decode cX10_setsOne 39 = .ok (.aload_n 0, 1) := by decide +kernel
theorem dX10_setsOne_40 : decode cX10_setsOne 40 = .ok (.aload_n 1, 1) := by decide +kernel
theorem dX10_setsOne_41 : decode cX10_setsOne 41 = .ok (.iload_n 2, 1) := by decide +kernel
theorem dX10_setsOne_42 : decode cX10_setsOne 42 = .ok (.iload_n 3, 1) := by decide +kernel
theorem dX10_setsOne_43 : decode cX10_setsOne 43 = .ok (.iconst 1, 1) := by decide +kernel
theorem dX10_setsOne_44 : decode cX10_setsOne 44 = .ok (.iload 4, 2) := by decide +kernel
theorem dX10_setsOne_46 : decode cX10_setsOne 46 = .ok (.iload 5, 2) := by decide +kernel
theorem dX10_setsOne_48 : decode cX10_setsOne 48 = .ok (.iload 6, 2) := by decide +kernel
theorem dX10_setsOne_50 : decode cX10_setsOne 50 = .ok (.invokevirtual 252, 3) := by decide +kernel
theorem dX10_setsOne_53 : decode cX10_setsOne 53 = .ok (.istore 7, 2) := by decide +kernel
theorem dX10_setsOne_55 : decode cX10_setsOne 55 = .ok (.iload 7, 2) := by decide +kernel
theorem dX10_setsOne_57 : decode cX10_setsOne 57 = .ok (.ifCond .ge 8, 3) := by decide +kernel
theorem dX10_setsOne_60 : decode cX10_setsOne 60 = .ok (.iload 7, 2) := by decide +kernel
theorem dX10_setsOne_62 : decode cX10_setsOne 62 = .ok (.goto 10, 3) := by decide +kernel
theorem dX10_setsOne_65 : decode cX10_setsOne 65 = .ok (.aload_n 0, 1) := by decide +kernel
theorem dX10_setsOne_66 : decode cX10_setsOne 66 = .ok (.aload_n 1, 1) := by decide +kernel
theorem dX10_setsOne_67 : decode cX10_setsOne 67 = .ok (.iload 7, 2) := by decide +kernel
theorem dX10_setsOne_69 : decode cX10_setsOne 69 = .ok (.invokevirtual 245, 3) := by decide +kernel
theorem dX10_setsOne_72 : decode cX10_setsOne 72 = .ok (.ireturn, 1) := by decide +kernel
theorem dX10_refersOne_0 : decode cX10_refersOne 0 = .ok (.iload_n 2, 1) := by decide +kernel
theorem dX10_refersOne_1 : decode cX10_refersOne 1 = .ok (.invokestatic 231, 3) := by decide +kernel
theorem dX10_refersOne_4 : decode cX10_refersOne 4 = .ok (.ifCond .eq 25, 3) := by decide +kernel
theorem dX10_refersOne_7 : decode cX10_refersOne 7 = .ok (.iload_n 3, 1) := by decide +kernel
theorem dX10_refersOne_8 : decode cX10_refersOne 8 = .ok (.i2l, 1) := by decide +kernel
theorem dX10_refersOne_9 : decode cX10_refersOne 9 = .ok (.lconst 0, 1) := by decide +kernel
theorem dX10_refersOne_10 : decode cX10_refersOne 10 = .ok (.ldc2_w 256, 3) := by decide +kernel
theorem dX10_refersOne_13 : decode cX10_refersOne 13 = .ok (.invokestatic 25, 3) := by decide +kernel
theorem dX10_refersOne_16 : decode cX10_refersOne 16 = .ok (.ifCond .eq 13, 3) := by decide +kernel
theorem dX10_refersOne_19 : decode cX10_refersOne 19 = .ok (.iload 4, 2) := by decide +kernel
theorem dX10_refersOne_21 : decode cX10_refersOne 21 = .ok (.iload 5, 2) := by decide +kernel
theorem dX10_refersOne_23 : decode cX10_refersOne 23 = .ok (.invokestatic 234, 3) := by decide +kernel
theorem dX10_refersOne_26 : decode cX10_refersOne 26 = .ok (.ifCond .ne 5, 3) := by decide +kernel
theorem dX10_refersOne_29 : decode cX10_refersOne 29 = .ok (.iconst (-1), 1) := by decide +kernel
theorem dX10_refersOne_30 : decode cX10_refersOne 30 = .ok (.ireturn, 1) := by decide +kernel
theorem dX10_refersOne_31 : decode cX10_refersOne 31 = .ok (.aload_n 0, 1) := by decide +kernel
theorem dX10_refersOne_32 : decode cX10_refersOne 32 = .ok (.aload_n 1, 1) := by decide +kernel
theorem dX10_refersOne_33 : decode cX10_refersOne 33 = .ok (.iconst 0, 1) := by decide +kernel
theorem dX10_refersOne_34 : decode cX10_refersOne 34 = .ok (.iload_n 2, 1) := by decide +kernel
theorem dX10_refersOne_35 : decode cX10_refersOne 35 = .ok (.iconst 0, 1) := by decide +kernel
theorem dX10_refersOne_36 : decode cX10_refersOne 36 = .ok (.iload_n 3, 1) := by decide +kernel
theorem dX10_refersOne_37 : decode cX10_refersOne 37 = .ok (.iload 4, 2) := by decide +kernel
theorem dX10_refersOne_39 : decode cX10_refersOne 39 = .ok (.iload 5, 2) := by decide +kernel
theorem dX10_refersOne_41 : decode cX10_refersOne 41 = .ok (.invokevirtual 252, 3) := by decide +kernel
theorem dX10_refersOne_44 : decode cX10_refersOne 44 = .ok (.istore 6, 2) := by decide +kernel
theorem dX10_refersOne_46 : decode cX10_refersOne 46 = .ok (.iload 6, 2) := by decide +kernel
theorem dX10_refersOne_48 : decode cX10_refersOne 48 = .ok (.ifCond .ge 8, 3) := by decide +kernel
theorem dX10_refersOne_51 : decode cX10_refersOne 51 = .ok (.iload 6, 2) := by decide +kernel
theorem dX10_refersOne_53 : decode cX10_refersOne 53 = .ok (.goto 25, 3) := by decide +kernel
theorem dX10_refersOne_56 : decode cX10_refersOne 56 = .ok (.aload_n 0, 1) := by decide +kernel
theorem dX10_refersOne_57 : decode cX10_refersOne 57 = .ok (.getfield 124, 3) := by decide +kernel
theorem dX10_refersOne_60 : decode cX10_refersOne 60 = .ok (.invokestatic 258, 3) := by decide +kernel
theorem dX10_refersOne_63 : decode cX10_refersOne 63 = .ok (.ifCond .eq 13, 3) := by decide +kernel
theorem dX10_refersOne_66 : decode cX10_refersOne 66 = .ok (.aload_n 0, 1) := by decide +kernel
theorem dX10_refersOne_67 : decode cX10_refersOne 67 = .ok (.aload_n 1, 1) := by decide +kernel
theorem dX10_refersOne_68 : decode cX10_refersOne 68 = .ok (.iload 6, 2) := by decide +kernel
theorem dX10_refersOne_70 : decode cX10_refersOne 70 = .ok (.invokevirtual 245, 3) := by decide +kernel
theorem dX10_refersOne_73 : decode cX10_refersOne 73 = .ok (.goto 5, 3) := by decide +kernel
theorem dX10_refersOne_76 : decode cX10_refersOne 76 = .ok (.bipush (-3), 2) := by decide +kernel
theorem dX10_refersOne_78 : decode cX10_refersOne 78 = .ok (.ireturn, 1) := by decide +kernel
theorem dX10_follows_0 : decode cX10_follows 0 = .ok (.aload_n 0, 1) := by decide +kernel
theorem dX10_follows_1 : decode cX10_follows 1 = .ok (.iconst 0, 1) := by decide +kernel
theorem dX10_follows_2 : decode cX10_follows 2 = .ok (.putfield 262, 3) := by decide +kernel
theorem dX10_follows_5 : decode cX10_follows 5 = .ok (.iconst 0, 1) := by decide +kernel
theorem dX10_follows_6 : decode cX10_follows 6 = .ok (.istore_n 2, 1) := by decide +kernel
theorem dX10_follows_7 : decode cX10_follows 7 = .ok (.iload_n 2, 1) := by decide +kernel
theorem dX10_follows_8 : decode cX10_follows 8 = .ok (.bipush 10, 2) := by decide +kernel
theorem dX10_follows_10 : decode cX10_follows 10 = .ok (.if_icmp .ge 167, 3) := by decide +kernel
theorem dX10_follows_13 : decode cX10_follows 13 = .ok (.iconst 0, 1) := by decide +kernel
theorem dX10_follows_14 : decode cX10_follows 14 = .ok (.istore_n 3, 1) := by decide +kernel
theorem dX10_follows_15 : decode cX10_follows 15 = .ok (.iconst 0, 1) := by decide +kernel
theorem dX10_follows_16 : decode cX10_follows 16 = .ok (.istore 4, 2) := by decide +kernel
theorem dX10_follows_18 : decode cX10_follows 18 = .ok (.iload 4, 2) := by decide +kernel
theorem dX10_follows_20 : decode cX10_follows 20 = .ok (.bipush 100, 2) := by decide +kernel
theorem dX10_follows_22 : decode cX10_follows 22 = .ok (.if_icmp .ge 149, 3) := by decide +kernel
theorem dX10_follows_25 : decode cX10_follows 25 = .ok (.aload_n 1, 1) := by decide +kernel
theorem dX10_follows_26 : decode cX10_follows 26 = .ok (.iconst 0, 1) := by decide +kernel
theorem dX10_follows_27 : decode cX10_follows 27 = .ok (.iload_n 2, 1) := by decide +kernel
theorem dX10_follows_28 : decode cX10_follows 28 = .ok (.iload 4, 2) := by decide +kernel
theorem dX10_follows_30 : decode cX10_follows 30 = .ok (.invokestatic 173, 3) := by decide +kernel
theorem dX10_follows_33 : decode cX10_follows 33 = .ok (.ifCond .eq 38, 3) := by decide +kernel
theorem dX10_follows_36 : decode cX10_follows 36 = .ok (.aload_n 1, 1) := by decide +kernel
theorem dX10_follows_37 : decode cX10_follows 37 = .ok (.iconst 0, 1) := by decide +kernel
theorem dX10_follows_38 : decode cX10_follows 38 = .ok (.iload_n 2, 1) := by decide +kernel
theorem dX10_follows_39 : decode cX10_follows 39 = .ok (.iload 4, 2) := by decide +kernel
theorem dX10_follows_41 : decode cX10_follows 41 = .ok (.invokestatic 181, 3) := by decide +kernel
theorem dX10_follows_44 : decode cX10_follows 44 = .ok (.bipush 10, 2) := by decide +kernel
theorem dX10_follows_46 : decode cX10_follows 46 = .ok (.if_icmp .eq 25, 3) := by decide +kernel
theorem dX10_follows_49 : decode cX10_follows 49 = .ok (.aload_n 1, 1) := by decide +kernel
theorem dX10_follows_50 : decode cX10_follows 50 = .ok (.iconst 1, 1) := by decide +kernel
theorem dX10_follows_51 : decode cX10_follows 51 = .ok (.aload_n 1, 1) := by decide +kernel
theorem dX10_follows_52 : decode cX10_follows 52 = .ok (.iconst 0, 1) := by decide +kernel
theorem dX10_follows_53 : decode cX10_follows 53 = .ok (.iload_n 2, 1) := by decide +kernel
theorem dX10_follows_54 : decode cX10_follows 54 = .ok (.iload 4, 2) := by decide +kernel
theorem dX10_follows_56 : decode cX10_follows 56 = .ok (.invokestatic 181, 3) := by decide +kernel
theorem dX10_follows_59 : decode cX10_follows 59 = .ok (.iload 4, 2) := by decide +kernel
theorem dX10_follows_61 : decode cX10_follows 61 = .ok (.invokestatic 173, 3) := by decide +kernel
theorem dX10_follows_64 : decode cX10_follows 64 = .ok (.ifCond .ne 7, 3) := by decide +kernel
theorem dX10_follows_67 : decode cX10_follows 67 = .ok (.iconst 1, 1) := by decide +kernel
theorem dX10_follows_68 : decode cX10_follows 68 = .ok (.goto 4, 3) := by decide +kernel
theorem dX10_follows_71 : decode cX10_follows 71 = .ok (.iconst 0, 1) := by decide +kernel
theorem dX10_follows_72 : decode cX10_follows 72 = .ok (.istore 5, 2) := by decide +kernel
theorem dX10_follows_74 : decode cX10_follows 74 = .ok (.iload 5, 2) := by decide +kernel
theorem dX10_follows_76 : decode cX10_follows 76 = .ok (.iload_n 3, 1) := by decide +kernel
theorem dX10_follows_77 : decode cX10_follows 77 = .ok (.if_icmp .eq 22, 3) := by decide +kernel
theorem dX10_follows_80 : decode cX10_follows 80 = .ok (.aload_n 1, 1) := by decide +kernel
theorem dX10_follows_81 : decode cX10_follows 81 = .ok (.iconst 0, 1) := by decide +kernel
theorem dX10_follows_82 : decode cX10_follows 82 = .ok (.iload_n 2, 1) := by decide +kernel
theorem dX10_follows_83 : decode cX10_follows 83 = .ok (.iload 4, 2) := by decide +kernel
theorem dX10_follows_85 : decode cX10_follows 85 = .ok (.invokestatic 173, 3) := by decide +kernel
theorem dX10_follows_88 : decode cX10_follows 88 = .ok (.ifCond .eq 11, 3) := by decide +kernel
theorem dX10_follows_91 : decode cX10_follows 91 = .ok (.aload_n 1, 1) := by decide +kernel
theorem dX10_follows_92 : decode cX10_follows 92 = .ok (.iconst 0, 1) := by decide +kernel
theorem dX10_follows_93 : decode cX10_follows 93 = .ok (.iload_n 2, 1) := by decide +kernel
theorem dX10_follows_94 : decode cX10_follows 94 = .ok (.iload 4, 2) := by decide +kernel
theorem dX10_follows_96 : decode cX10_follows 96 = .ok (.invokestatic 248, 3) := by decide +kernel
theorem dX10_follows_99 : decode cX10_follows 99 = .ok (.iload 5, 2) := by decide +kernel
theorem dX10_follows_101 : decode cX10_follows 101 = .ok (.istore_n 3, 1) := by decide +kernel
theorem dX10_follows_102 : decode cX10_follows 102 = .ok (.iload 5, 2) := by decide +kernel
theorem dX10_follows_104 : decode cX10_follows 104 = .ok (.ifCond .eq 61, 3) := by decide +kernel
theorem dX10_follows_107 : decode cX10_follows 107 = .ok (.aload_n 0, 1) := by decide +kernel
theorem dX10_follows_108 : decode cX10_follows 108 = .ok (.dup, 1) := by decide +kernel
theorem dX10_follows_109 : decode cX10_follows 109 = .ok (.getfield 262, 3) := by decide +kernel
theorem dX10_follows_112 : decode cX10_follows 112 = .ok (.iconst 1, 1) := by decide +kernel
theorem dX10_follows_113 : decode cX10_follows 113 = .ok (.iadd, 1) := by decide +kernel
theorem dX10_follows_114 : decode cX10_follows 114 = .ok (.putfield 262, 3) := by decide +kernel
theorem dX10_follows_117 : decode cX10_follows 117 = .ok (.aload_n 1, 1) := by decide +kernel
theorem dX10_follows_118 : decode cX10_follows 118 = .ok (.sipush 2000, 3) := by decide +kernel
theorem dX10_follows_121 : decode cX10_follows 121 = .ok (.iaload, 1) := by decide +kernel
theorem dX10_follows_122 : decode cX10_follows 122 = .ok (.iconst 1, 1) := by decide +kernel
theorem dX10_follows_123 : decode cX10_follows 123 = .ok (.if_icmp .ne 16, 3) := by decide +kernel
theorem dX10_follows_126 : decode cX10_follows 126 = .ok (.aload_n 1, 1) := by decide +kernel
theorem dX10_follows_127 : decode cX10_follows 127 = .ok (.iconst 0, 1) := by decide +kernel
theorem dX10_follows_128 : decode cX10_follows 128 = .ok (.iload_n 2, 1) := by decide +kernel
theorem dX10_follows_129 : decode cX10_follows 129 = .ok (.iload 4, 2) := by decide +kernel
theorem dX10_follows_131 : decode cX10_follows 131 = .ok (.invokestatic 170, 3) := by decide +kernel
theorem dX10_follows_134 : decode cX10_follows 134 = .ok (.iconst 0, 1) := by decide +kernel
theorem dX10_follows_135 : decode cX10_follows 135 = .ok (.iastore, 1) := by decide +kernel
theorem dX10_follows_136 : decode cX10_follows 136 = .ok (.goto 29, 3) := by decide +kernel
theorem dX10_follows_139 : decode cX10_follows 139 = .ok (.aload_n 1, 1) := by decide +kernel
theorem dX10_follows_140 : decode cX10_follows 140 = .ok (.iconst 0, 1) := by decide +kernel
theorem dX10_follows_141 : decode cX10_follows 141 = .ok (.iload_n 2, 1) := by decide +kernel
theorem dX10_follows_142 : decode cX10_follows 142 = .ok (.iload 4, 2) := by decide +kernel
theorem dX10_follows_144 : decode cX10_follows 144 = .ok (.aload_n 1, 1) := by decide +kernel
theorem dX10_follows_145 : decode cX10_follows 145 = .ok (.iconst 0, 1) := by decide +kernel
theorem dX10_follows_146 : decode cX10_follows 146 = .ok (.iload_n 2, 1) := by decide +kernel
theorem dX10_follows_147 : decode cX10_follows 147 = .ok (.iload 4, 2) := by decide +kernel
theorem dX10_follows_149 : decode cX10_follows 149 = .ok (.invokestatic 177, 3) := by decide +kernel
theorem dX10_follows_152 : decode cX10_follows 152 = .ok (.bipush 10, 2) := by decide +kernel
theorem dX10_follows_154 : decode cX10_follows 154 = .ok (.aload_n 1, 1) := by decide +kernel
theorem dX10_follows_155 : decode cX10_follows 155 = .ok (.iconst 0, 1) := by decide +kernel
theorem dX10_follows_156 : decode cX10_follows 156 = .ok (.iload_n 2, 1) := by decide +kernel
theorem dX10_follows_157 : decode cX10_follows 157 = .ok (.iload 4, 2) := by decide +kernel
theorem dX10_follows_159 : decode cX10_follows 159 = .ok (.invokestatic 188, 3) := by decide +kernel
theorem dX10_follows_162 : decode cX10_follows 162 = .ok (.invokestatic 184, 3) := by decide +kernel
theorem dX10_follows_165 : decode cX10_follows 165 = .ok (.iinc 4 1, 3) := by decide +kernel
theorem dX10_follows_168 : decode cX10_follows 168 = .ok (.goto (-150), 3) := by decide +kernel
theorem dX10_follows_171 : decode cX10_follows 171 = .ok (.iinc 2 1, 3) := by decide +kernel
theorem dX10_follows_174 : decode cX10_follows 174 = .ok (.goto (-167), 3) := by decide +kernel
theorem dX10_follows_177 : decode cX10_follows 177 = .ok (.return_, 1) := by decide +kernel
theorem dX10_takesOut_0 : decode cX10_takesOut 0 = .ok (.aload_n 0, 1) := by decide +kernel
theorem dX10_takesOut_1 : decode cX10_takesOut 1 = .ok (.iconst 0, 1) := by decide +kernel
theorem dX10_takesOut_2 : decode cX10_takesOut 2 = .ok (.putfield 265, 3) := by decide +kernel
theorem dX10_takesOut_5 : decode cX10_takesOut 5 = .ok (.iload 4, 2) := by decide +kernel
theorem dX10_takesOut_7 : decode cX10_takesOut 7 = .ok (.istore 6, 2) := by decide +kernel
theorem dX10_takesOut_9 : decode cX10_takesOut 9 = .ok (.iload 6, 2) := by decide +kernel
theorem dX10_takesOut_11 : decode cX10_takesOut 11 = .ok (.iload 5, 2) := by decide +kernel
theorem dX10_takesOut_13 : decode cX10_takesOut 13 = .ok (.if_icmp .ge 29, 3) := by decide +kernel
theorem dX10_takesOut_16 : decode cX10_takesOut 16 = .ok (.aload_n 0, 1) := by decide +kernel
theorem dX10_takesOut_17 : decode cX10_takesOut 17 = .ok (.dup, 1) := by decide +kernel
theorem dX10_takesOut_18 : decode cX10_takesOut 18 = .ok (.getfield 265, 3) := by decide +kernel
theorem dX10_takesOut_21 : decode cX10_takesOut 21 = .ok (.aload_n 1, 1) := by decide +kernel
theorem dX10_takesOut_22 : decode cX10_takesOut 22 = .ok (.iload_n 2, 1) := by decide +kernel
theorem dX10_takesOut_23 : decode cX10_takesOut 23 = .ok (.iload_n 3, 1) := by decide +kernel
theorem dX10_takesOut_24 : decode cX10_takesOut 24 = .ok (.iload 6, 2) := by decide +kernel
theorem dX10_takesOut_26 : decode cX10_takesOut 26 = .ok (.invokestatic 173, 3) := by decide +kernel
theorem dX10_takesOut_29 : decode cX10_takesOut 29 = .ok (.invokestatic 44, 3) := by decide +kernel
theorem dX10_takesOut_32 : decode cX10_takesOut 32 = .ok (.iadd, 1) := by decide +kernel
theorem dX10_takesOut_33 : decode cX10_takesOut 33 = .ok (.putfield 265, 3) := by decide +kernel
theorem dX10_takesOut_36 : decode cX10_takesOut 36 = .ok (.iinc 6 1, 3) := by decide +kernel
theorem dX10_takesOut_39 : decode cX10_takesOut 39 = .ok (.goto (-30), 3) := by decide +kernel
theorem dX10_takesOut_42 : decode cX10_takesOut 42 = .ok (.aload_n 1, 1) := by decide +kernel
theorem dX10_takesOut_43 : decode cX10_takesOut 43 = .ok (.iload_n 2, 1) := by decide +kernel
theorem dX10_takesOut_44 : decode cX10_takesOut 44 = .ok (.iload_n 3, 1) := by decide +kernel
theorem dX10_takesOut_45 : decode cX10_takesOut 45 = .ok (.iload 5, 2) := by decide +kernel
theorem dX10_takesOut_47 : decode cX10_takesOut 47 = .ok (.iconst 1, 1) := by decide +kernel
theorem dX10_takesOut_48 : decode cX10_takesOut 48 = .ok (.isub, 1) := by decide +kernel
theorem dX10_takesOut_49 : decode cX10_takesOut 49 = .ok (.invokestatic 173, 3) := by decide +kernel
theorem dX10_takesOut_52 : decode cX10_takesOut 52 = .ok (.ifCond .eq 11, 3) := by decide +kernel
theorem dX10_takesOut_55 : decode cX10_takesOut 55 = .ok (.aload_n 1, 1) := by decide +kernel
theorem dX10_takesOut_56 : decode cX10_takesOut 56 = .ok (.iload_n 2, 1) := by decide +kernel
theorem dX10_takesOut_57 : decode cX10_takesOut 57 = .ok (.iload_n 3, 1) := by decide +kernel
theorem dX10_takesOut_58 : decode cX10_takesOut 58 = .ok (.iload 5, 2) := by decide +kernel
theorem dX10_takesOut_60 : decode cX10_takesOut 60 = .ok (.invokestatic 248, 3) := by decide +kernel
theorem dX10_takesOut_63 : decode cX10_takesOut 63 = .ok (.iload 4, 2) := by decide +kernel
theorem dX10_takesOut_65 : decode cX10_takesOut 65 = .ok (.istore 6, 2) := by decide +kernel
theorem dX10_takesOut_67 : decode cX10_takesOut 67 = .ok (.iload 6, 2) := by decide +kernel
theorem dX10_takesOut_69 : decode cX10_takesOut 69 = .ok (.iload 5, 2) := by decide +kernel
theorem dX10_takesOut_71 : decode cX10_takesOut 71 = .ok (.if_icmp .ge 19, 3) := by decide +kernel
theorem dX10_takesOut_74 : decode cX10_takesOut 74 = .ok (.aload_n 1, 1) := by decide +kernel
theorem dX10_takesOut_75 : decode cX10_takesOut 75 = .ok (.iload_n 2, 1) := by decide +kernel
theorem dX10_takesOut_76 : decode cX10_takesOut 76 = .ok (.iload_n 3, 1) := by decide +kernel
theorem dX10_takesOut_77 : decode cX10_takesOut 77 = .ok (.iload 6, 2) := by decide +kernel
theorem dX10_takesOut_79 : decode cX10_takesOut 79 = .ok (.invokestatic 170, 3) := by decide +kernel
theorem dX10_takesOut_82 : decode cX10_takesOut 82 = .ok (.iconst 0, 1) := by decide +kernel
theorem dX10_takesOut_83 : decode cX10_takesOut 83 = .ok (.iastore, 1) := by decide +kernel
theorem dX10_takesOut_84 : decode cX10_takesOut 84 = .ok (.iinc 6 1, 3) := by decide +kernel
theorem dX10_takesOut_87 : decode cX10_takesOut 87 = .ok (.goto (-20), 3) := by decide +kernel
theorem dX10_takesOut_90 : decode cX10_takesOut 90 = .ok (.return_, 1) := by decide +kernel
theorem dX10_cutsOne_0 : decode cX10_cutsOne 0 = .ok (.iload_n 2, 1) := by decide +kernel
theorem dX10_cutsOne_1 : decode cX10_cutsOne 1 = .ok (.invokestatic 211, 3) := by decide +kernel
theorem dX10_cutsOne_4 : decode cX10_cutsOne 4 = .ok (.ifCond .eq 20, 3) := by decide +kernel
theorem dX10_cutsOne_7 : decode cX10_cutsOne 7 = .ok (.iload_n 3, 1) := by decide +kernel
theorem dX10_cutsOne_8 : decode cX10_cutsOne 8 = .ok (.invokestatic 231, 3) := by decide +kernel
theorem dX10_cutsOne_11 : decode cX10_cutsOne 11 = .ok (.ifCond .eq 13, 3) := by decide +kernel
theorem dX10_cutsOne_14 : decode cX10_cutsOne 14 = .ok (.iload 4, 2) := by decide +kernel
theorem dX10_cutsOne_16 : decode cX10_cutsOne 16 = .ok (.iload 5, 2) := by decide +kernel
theorem dX10_cutsOne_18 : decode cX10_cutsOne 18 = .ok (.invokestatic 234, 3) := by decide +kernel
theorem dX10_cutsOne_21 : decode cX10_cutsOne 21 = .ok (.ifCond .ne 5, 3) := by decide +kernel
theorem dX10_cutsOne_24 : decode cX10_cutsOne 24 = .ok (.iconst (-1), 1) := by decide +kernel
theorem dX10_cutsOne_25 : decode cX10_cutsOne 25 = .ok (.ireturn, 1) := by decide +kernel
theorem dX10_cutsOne_26 : decode cX10_cutsOne 26 = .ok (.aload_n 1, 1) := by decide +kernel
theorem dX10_cutsOne_27 : decode cX10_cutsOne 27 = .ok (.iload_n 2, 1) := by decide +kernel
theorem dX10_cutsOne_28 : decode cX10_cutsOne 28 = .ok (.iload_n 3, 1) := by decide +kernel
theorem dX10_cutsOne_29 : decode cX10_cutsOne 29 = .ok (.iload 4, 2) := by decide +kernel
theorem dX10_cutsOne_31 : decode cX10_cutsOne 31 = .ok (.iload 5, 2) := by decide +kernel
theorem dX10_cutsOne_33 : decode cX10_cutsOne 33 = .ok (.invokestatic 238, 3) := by decide +kernel
theorem dX10_cutsOne_36 : decode cX10_cutsOne 36 = .ok (.istore 6, 2) := by decide +kernel
theorem dX10_cutsOne_38 : decode cX10_cutsOne 38 = .ok (.iload 6, 2) := by decide +kernel
theorem dX10_cutsOne_40 : decode cX10_cutsOne 40 = .ok (.ifCond .ne 6, 3) := by decide +kernel
theorem dX10_cutsOne_43 : decode cX10_cutsOne 43 = .ok (.bipush (-2), 2) := by decide +kernel
theorem dX10_cutsOne_45 : decode cX10_cutsOne 45 = .ok (.ireturn, 1) := by decide +kernel
theorem dX10_cutsOne_46 : decode cX10_cutsOne 46 = .ok (.aload_n 1, 1) := by decide +kernel
theorem dX10_cutsOne_47 : decode cX10_cutsOne 47 = .ok (.aload_n 0, 1) := by decide +kernel
theorem dX10_cutsOne_48 : decode cX10_cutsOne 48 = .ok (.getfield 124, 3) := by decide +kernel
theorem dX10_cutsOne_51 : decode cX10_cutsOne 51 = .ok (.invokestatic 201, 3) := by decide +kernel
theorem dX10_cutsOne_54 : decode cX10_cutsOne 54 = .ok (.aload_n 0, 1) := by decide +kernel
theorem dX10_cutsOne_55 : decode cX10_cutsOne 55 = .ok (.aload_n 0, 1) := by decide +kernel
theorem dX10_cutsOne_56 : decode cX10_cutsOne 56 = .ok (.getfield 124, 3) := by decide +kernel
theorem dX10_cutsOne_59 : decode cX10_cutsOne 59 = .ok (.iload_n 2, 1) := by decide +kernel
theorem dX10_cutsOne_60 : decode cX10_cutsOne 60 = .ok (.iload_n 3, 1) := by decide +kernel
theorem dX10_cutsOne_61 : decode cX10_cutsOne 61 = .ok (.iload 4, 2) := by decide +kernel
theorem dX10_cutsOne_63 : decode cX10_cutsOne 63 = .ok (.iload 5, 2) := by decide +kernel
theorem dX10_cutsOne_65 : decode cX10_cutsOne 65 = .ok (.invokevirtual 268, 3) := by decide +kernel
theorem dX10_cutsOne_68 : decode cX10_cutsOne 68 = .ok (.aload_n 0, 1) := by decide +kernel
theorem dX10_cutsOne_69 : decode cX10_cutsOne 69 = .ok (.iconst 0, 1) := by decide +kernel
theorem dX10_cutsOne_70 : decode cX10_cutsOne 70 = .ok (.putfield 262, 3) := by decide +kernel
theorem dX10_cutsOne_73 : decode cX10_cutsOne 73 = .ok (.aload_n 0, 1) := by decide +kernel
theorem dX10_cutsOne_74 : decode cX10_cutsOne 74 = .ok (.getfield 124, 3) := by decide +kernel
theorem dX10_cutsOne_77 : decode cX10_cutsOne 77 = .ok (.invokestatic 258, 3) := by decide +kernel
theorem dX10_cutsOne_80 : decode cX10_cutsOne 80 = .ok (.ifCond .ne 25, 3) := by decide +kernel
theorem dX10_cutsOne_83 : decode cX10_cutsOne 83 = .ok (.aload_n 0, 1) := by decide +kernel
theorem dX10_cutsOne_84 : decode cX10_cutsOne 84 = .ok (.getfield 124, 3) := by decide +kernel
theorem dX10_cutsOne_87 : decode cX10_cutsOne 87 = .ok (.sipush 2000, 3) := by decide +kernel
theorem dX10_cutsOne_90 : decode cX10_cutsOne 90 = .ok (.iaload, 1) := by decide +kernel
theorem dX10_cutsOne_91 : decode cX10_cutsOne 91 = .ok (.ifCond .ne 6, 3) := by decide +kernel
theorem dX10_cutsOne_94 : decode cX10_cutsOne 94 = .ok (.bipush (-3), 2) := by decide +kernel
theorem dX10_cutsOne_96 : decode cX10_cutsOne 96 = .ok (.ireturn, 1) := by decide +kernel
theorem dX10_cutsOne_97 : decode cX10_cutsOne 97 = .ok (.aload_n 0, 1) := by decide +kernel
theorem dX10_cutsOne_98 : decode cX10_cutsOne 98 = .ok (.aload_n 0, 1) := by decide +kernel
theorem dX10_cutsOne_99 : decode cX10_cutsOne 99 = .ok (.getfield 124, 3) := by decide +kernel
theorem dX10_cutsOne_102 : decode cX10_cutsOne 102 = .ok (.invokevirtual 272, 3) := by decide +kernel
theorem dX10_cutsOne_105 : decode cX10_cutsOne 105 = .ok (.aload_n 0, 1) := by decide +kernel
theorem dX10_cutsOne_106 : decode cX10_cutsOne 106 = .ok (.aload_n 1, 1) := by decide +kernel
theorem dX10_cutsOne_107 : decode cX10_cutsOne 107 = .ok (.iload 6, 2) := by decide +kernel
theorem dX10_cutsOne_109 : decode cX10_cutsOne 109 = .ok (.invokevirtual 245, 3) := by decide +kernel
theorem dX10_cutsOne_112 : decode cX10_cutsOne 112 = .ok (.ireturn, 1) := by decide +kernel
theorem dX10_shiftsOne_0 : decode cX10_shiftsOne 0 = .ok (.iload_n 2, 1) := by decide +kernel
theorem dX10_shiftsOne_1 : decode cX10_shiftsOne 1 = .ok (.invokestatic 211, 3) := by decide +kernel
theorem dX10_shiftsOne_4 : decode cX10_shiftsOne 4 = .ok (.ifCond .eq 30, 3) := by decide +kernel
theorem dX10_shiftsOne_7 : decode cX10_shiftsOne 7 = .ok (.iload_n 3, 1) := by decide +kernel
theorem dX10_shiftsOne_8 : decode cX10_shiftsOne 8 = .ok (.invokestatic 231, 3) := by decide +kernel
theorem dX10_shiftsOne_11 : decode cX10_shiftsOne 11 = .ok (.ifCond .eq 23, 3) := by decide +kernel
theorem dX10_shiftsOne_14 : decode cX10_shiftsOne 14 = .ok (.iload 4, 2) := by decide +kernel
theorem dX10_shiftsOne_16 : decode cX10_shiftsOne 16 = .ok (.ifCond .eq 18, 3) := by decide +kernel
theorem dX10_shiftsOne_19 : decode cX10_shiftsOne 19 = .ok (.iload 4, 2) := by decide +kernel
theorem dX10_shiftsOne_21 : decode cX10_shiftsOne 21 = .ok (.i2l, 1) := by decide +kernel
theorem dX10_shiftsOne_22 : decode cX10_shiftsOne 22 = .ok (.ldc2_w 276, 3) := by decide +kernel
theorem dX10_shiftsOne_25 : decode cX10_shiftsOne 25 = .ok (.ldc2_w 165, 3) := by decide +kernel
theorem dX10_shiftsOne_28 : decode cX10_shiftsOne 28 = .ok (.invokestatic 25, 3) := by decide +kernel
theorem dX10_shiftsOne_31 : decode cX10_shiftsOne 31 = .ok (.ifCond .ne 5, 3) := by decide +kernel
theorem dX10_shiftsOne_34 : decode cX10_shiftsOne 34 = .ok (.iconst (-1), 1) := by decide +kernel
theorem dX10_shiftsOne_35 : decode cX10_shiftsOne 35 = .ok (.ireturn, 1) := by decide +kernel
theorem dX10_shiftsOne_36 : decode cX10_shiftsOne 36 = .ok (.aload_n 1, 1) := by decide +kernel
theorem dX10_shiftsOne_37 : decode cX10_shiftsOne 37 = .ok (.iload_n 2, 1) := by decide +kernel
theorem dX10_shiftsOne_38 : decode cX10_shiftsOne 38 = .ok (.iload_n 3, 1) := by decide +kernel
theorem dX10_shiftsOne_39 : decode cX10_shiftsOne 39 = .ok (.iconst 0, 1) := by decide +kernel
theorem dX10_shiftsOne_40 : decode cX10_shiftsOne 40 = .ok (.bipush 100, 2) := by decide +kernel
theorem dX10_shiftsOne_42 : decode cX10_shiftsOne 42 = .ok (.invokestatic 238, 3) := by decide +kernel
theorem dX10_shiftsOne_45 : decode cX10_shiftsOne 45 = .ok (.istore 5, 2) := by decide +kernel
theorem dX10_shiftsOne_47 : decode cX10_shiftsOne 47 = .ok (.iload 5, 2) := by decide +kernel
theorem dX10_shiftsOne_49 : decode cX10_shiftsOne 49 = .ok (.ifCond .ne 6, 3) := by decide +kernel
theorem dX10_shiftsOne_52 : decode cX10_shiftsOne 52 = .ok (.bipush (-2), 2) := by decide +kernel
theorem dX10_shiftsOne_54 : decode cX10_shiftsOne 54 = .ok (.ireturn, 1) := by decide +kernel
theorem dX10_shiftsOne_55 : decode cX10_shiftsOne 55 = .ok (.aload_n 1, 1) := by decide +kernel
theorem dX10_shiftsOne_56 : decode cX10_shiftsOne 56 = .ok (.aload_n 0, 1) := by decide +kernel
theorem dX10_shiftsOne_57 : decode cX10_shiftsOne 57 = .ok (.getfield 124, 3) := by decide +kernel
theorem dX10_shiftsOne_60 : decode cX10_shiftsOne 60 = .ok (.invokestatic 201, 3) := by decide +kernel
theorem dX10_shiftsOne_63 : decode cX10_shiftsOne 63 = .ok (.iconst 1, 1) := by decide +kernel
theorem dX10_shiftsOne_64 : decode cX10_shiftsOne 64 = .ok (.istore 6, 2) := by decide +kernel
theorem dX10_shiftsOne_66 : decode cX10_shiftsOne 66 = .ok (.iconst 0, 1) := by decide +kernel
theorem dX10_shiftsOne_67 : decode cX10_shiftsOne 67 = .ok (.istore 7, 2) := by decide +kernel
theorem dX10_shiftsOne_69 : decode cX10_shiftsOne 69 = .ok (.iload 7, 2) := by decide +kernel
theorem dX10_shiftsOne_71 : decode cX10_shiftsOne 71 = .ok (.bipush 100, 2) := by decide +kernel
theorem dX10_shiftsOne_73 : decode cX10_shiftsOne 73 = .ok (.if_icmp .ge 82, 3) := by decide +kernel
theorem dX10_shiftsOne_76 : decode cX10_shiftsOne 76 = .ok (.aload_n 0, 1) := by decide +kernel
theorem dX10_shiftsOne_77 : decode cX10_shiftsOne 77 = .ok (.getfield 124, 3) := by decide +kernel
theorem dX10_shiftsOne_80 : decode cX10_shiftsOne 80 = .ok (.iload_n 2, 1) := by decide +kernel
theorem dX10_shiftsOne_81 : decode cX10_shiftsOne 81 = .ok (.iload_n 3, 1) := by decide +kernel
theorem dX10_shiftsOne_82 : decode cX10_shiftsOne 82 = .ok (.iload 7, 2) := by decide +kernel
theorem dX10_shiftsOne_84 : decode cX10_shiftsOne 84 = .ok (.invokestatic 170, 3) := by decide +kernel
theorem dX10_shiftsOne_87 : decode cX10_shiftsOne 87 = .ok (.iload 7, 2) := by decide +kernel
theorem dX10_shiftsOne_89 : decode cX10_shiftsOne 89 = .ok (.iload 4, 2) := by decide +kernel
theorem dX10_shiftsOne_91 : decode cX10_shiftsOne 91 = .ok (.isub, 1) := by decide +kernel
theorem dX10_shiftsOne_92 : decode cX10_shiftsOne 92 = .ok (.invokestatic 167, 3) := by decide +kernel
theorem dX10_shiftsOne_95 : decode cX10_shiftsOne 95 = .ok (.ifCond .eq 18, 3) := by decide +kernel
theorem dX10_shiftsOne_98 : decode cX10_shiftsOne 98 = .ok (.aload_n 1, 1) := by decide +kernel
theorem dX10_shiftsOne_99 : decode cX10_shiftsOne 99 = .ok (.iload_n 2, 1) := by decide +kernel
theorem dX10_shiftsOne_100 : decode cX10_shiftsOne 100 = .ok (.iload_n 3, 1) := by decide +kernel
theorem dX10_shiftsOne_101 : decode cX10_shiftsOne 101 = .ok (.iload 7, 2) := by decide +kernel
theorem dX10_shiftsOne_103 : decode cX10_shiftsOne 103 = .ok (.iload 4, 2) := by decide +kernel
theorem dX10_shiftsOne_105 : decode cX10_shiftsOne 105 = .ok (.isub, 1) := by decide +kernel
theorem dX10_shiftsOne_106 : decode cX10_shiftsOne 106 = .ok (.invokestatic 170, 3) := by decide +kernel
theorem dX10_shiftsOne_109 : decode cX10_shiftsOne 109 = .ok (.iaload, 1) := by decide +kernel
theorem dX10_shiftsOne_110 : decode cX10_shiftsOne 110 = .ok (.goto 4, 3) := by decide +kernel
theorem dX10_shiftsOne_113 : decode cX10_shiftsOne 113 = .ok (.iconst 0, 1) := by decide +kernel
theorem dX10_shiftsOne_114 : decode cX10_shiftsOne 114 = .ok (.iastore, 1) := by decide +kernel
theorem dX10_shiftsOne_115 : decode cX10_shiftsOne 115 = .ok (.iload 6, 2) := by decide +kernel
theorem dX10_shiftsOne_117 : decode cX10_shiftsOne 117 = .ok (.ifCond .eq 29, 3) := by decide +kernel
theorem dX10_shiftsOne_120 : decode cX10_shiftsOne 120 = .ok (.aload_n 1, 1) := by decide +kernel
theorem dX10_shiftsOne_121 : decode cX10_shiftsOne 121 = .ok (.iload_n 2, 1) := by decide +kernel
theorem dX10_shiftsOne_122 : decode cX10_shiftsOne 122 = .ok (.iload_n 3, 1) := by decide +kernel
theorem dX10_shiftsOne_123 : decode cX10_shiftsOne 123 = .ok (.iload 7, 2) := by decide +kernel
theorem dX10_shiftsOne_125 : decode cX10_shiftsOne 125 = .ok (.invokestatic 173, 3) := by decide +kernel
theorem dX10_shiftsOne_128 : decode cX10_shiftsOne 128 = .ok (.ifCond .eq 14, 3) := by decide +kernel
theorem dX10_shiftsOne_131 : decode cX10_shiftsOne 131 = .ok (.iload 7, 2) := by decide +kernel
theorem dX10_shiftsOne_133 : decode cX10_shiftsOne 133 = .ok (.iload 4, 2) := by decide +kernel
theorem dX10_shiftsOne_135 : decode cX10_shiftsOne 135 = .ok (.iadd, 1) := by decide +kernel
theorem dX10_shiftsOne_136 : decode cX10_shiftsOne 136 = .ok (.invokestatic 167, 3) := by decide +kernel
theorem dX10_shiftsOne_139 : decode cX10_shiftsOne 139 = .ok (.ifCond .eq 7, 3) := by decide +kernel
theorem dX10_shiftsOne_142 : decode cX10_shiftsOne 142 = .ok (.iconst 1, 1) := by decide +kernel
theorem dX10_shiftsOne_143 : decode cX10_shiftsOne 143 = .ok (.goto 4, 3) := by decide +kernel
theorem dX10_shiftsOne_146 : decode cX10_shiftsOne 146 = .ok (.iconst 0, 1) := by decide +kernel
theorem dX10_shiftsOne_147 : decode cX10_shiftsOne 147 = .ok (.istore 6, 2) := by decide +kernel
theorem dX10_shiftsOne_149 : decode cX10_shiftsOne 149 = .ok (.iinc 7 1, 3) := by decide +kernel
theorem dX10_shiftsOne_152 : decode cX10_shiftsOne 152 = .ok (.goto (-83), 3) := by decide +kernel
theorem dX10_shiftsOne_155 : decode cX10_shiftsOne 155 = .ok (.iload 6, 2) := by decide +kernel
theorem dX10_shiftsOne_157 : decode cX10_shiftsOne 157 = .ok (.ifCond .ne 6, 3) := by decide +kernel
theorem dX10_shiftsOne_160 : decode cX10_shiftsOne 160 = .ok (.bipush (-3), 2) := by decide +kernel
theorem dX10_shiftsOne_162 : decode cX10_shiftsOne 162 = .ok (.ireturn, 1) := by decide +kernel
theorem dX10_shiftsOne_163 : decode cX10_shiftsOne 163 = .ok (.aload_n 0, 1) := by decide +kernel
theorem dX10_shiftsOne_164 : decode cX10_shiftsOne 164 = .ok (.getfield 124, 3) := by decide +kernel
theorem dX10_shiftsOne_167 : decode cX10_shiftsOne 167 = .ok (.invokestatic 258, 3) := by decide +kernel
theorem dX10_shiftsOne_170 : decode cX10_shiftsOne 170 = .ok (.ifCond .ne 29, 3) := by decide +kernel
theorem dX10_shiftsOne_173 : decode cX10_shiftsOne 173 = .ok (.iload_n 2, 1) := by decide +kernel
theorem dX10_shiftsOne_174 : decode cX10_shiftsOne 174 = .ok (.ifCond .eq 14, 3) := by decide +kernel
theorem dX10_shiftsOne_177 : decode cX10_shiftsOne 177 = .ok (.aload_n 0, 1) := by decide +kernel
theorem dX10_shiftsOne_178 : decode cX10_shiftsOne 178 = .ok (.getfield 124, 3) := by decide +kernel
theorem dX10_shiftsOne_181 : decode cX10_shiftsOne 181 = .ok (.sipush 2000, 3) := by decide +kernel
theorem dX10_shiftsOne_184 : decode cX10_shiftsOne 184 = .ok (.iaload, 1) := by decide +kernel
theorem dX10_shiftsOne_185 : decode cX10_shiftsOne 185 = .ok (.ifCond .ne 6, 3) := by decide +kernel
theorem dX10_shiftsOne_188 : decode cX10_shiftsOne 188 = .ok (.bipush (-4), 2) := by decide +kernel
theorem dX10_shiftsOne_190 : decode cX10_shiftsOne 190 = .ok (.ireturn, 1) := by decide +kernel
theorem dX10_shiftsOne_191 : decode cX10_shiftsOne 191 = .ok (.aload_n 0, 1) := by decide +kernel
theorem dX10_shiftsOne_192 : decode cX10_shiftsOne 192 = .ok (.aload_n 0, 1) := by decide +kernel
theorem dX10_shiftsOne_193 : decode cX10_shiftsOne 193 = .ok (.getfield 124, 3) := by decide +kernel
theorem dX10_shiftsOne_196 : decode cX10_shiftsOne 196 = .ok (.invokevirtual 272, 3) := by decide +kernel
theorem dX10_shiftsOne_199 : decode cX10_shiftsOne 199 = .ok (.aload_n 0, 1) := by decide +kernel
theorem dX10_shiftsOne_200 : decode cX10_shiftsOne 200 = .ok (.aload_n 1, 1) := by decide +kernel
theorem dX10_shiftsOne_201 : decode cX10_shiftsOne 201 = .ok (.iload 5, 2) := by decide +kernel
theorem dX10_shiftsOne_203 : decode cX10_shiftsOne 203 = .ok (.invokevirtual 245, 3) := by decide +kernel
theorem dX10_shiftsOne_206 : decode cX10_shiftsOne 206 = .ok (.ireturn, 1) := by decide +kernel
theorem dX10_joinsAll_0 : decode cX10_joinsAll 0 = .ok (.iconst 0, 1) := by decide +kernel
theorem dX10_joinsAll_1 : decode cX10_joinsAll 1 = .ok (.istore_n 2, 1) := by decide +kernel
theorem dX10_joinsAll_2 : decode cX10_joinsAll 2 = .ok (.iconst 0, 1) := by decide +kernel
theorem dX10_joinsAll_3 : decode cX10_joinsAll 3 = .ok (.istore_n 3, 1) := by decide +kernel
theorem dX10_joinsAll_4 : decode cX10_joinsAll 4 = .ok (.iload_n 3, 1) := by decide +kernel
theorem dX10_joinsAll_5 : decode cX10_joinsAll 5 = .ok (.bipush 10, 2) := by decide +kernel
theorem dX10_joinsAll_7 : decode cX10_joinsAll 7 = .ok (.if_icmp .ge 131, 3) := by decide +kernel
theorem dX10_joinsAll_10 : decode cX10_joinsAll 10 = .ok (.iconst 1, 1) := by decide +kernel
theorem dX10_joinsAll_11 : decode cX10_joinsAll 11 = .ok (.istore 4, 2) := by decide +kernel
theorem dX10_joinsAll_13 : decode cX10_joinsAll 13 = .ok (.iload 4, 2) := by decide +kernel
theorem dX10_joinsAll_15 : decode cX10_joinsAll 15 = .ok (.bipush 100, 2) := by decide +kernel
theorem dX10_joinsAll_17 : decode cX10_joinsAll 17 = .ok (.if_icmp .ge 115, 3) := by decide +kernel
theorem dX10_joinsAll_20 : decode cX10_joinsAll 20 = .ok (.aload_n 0, 1) := by decide +kernel
theorem dX10_joinsAll_21 : decode cX10_joinsAll 21 = .ok (.iload_n 1, 1) := by decide +kernel
theorem dX10_joinsAll_22 : decode cX10_joinsAll 22 = .ok (.iload_n 3, 1) := by decide +kernel
theorem dX10_joinsAll_23 : decode cX10_joinsAll 23 = .ok (.iload 4, 2) := by decide +kernel
theorem dX10_joinsAll_25 : decode cX10_joinsAll 25 = .ok (.invokestatic 188, 3) := by decide +kernel
theorem dX10_joinsAll_28 : decode cX10_joinsAll 28 = .ok (.ifCond .eq 62, 3) := by decide +kernel
theorem dX10_joinsAll_31 : decode cX10_joinsAll 31 = .ok (.aload_n 0, 1) := by decide +kernel
theorem dX10_joinsAll_32 : decode cX10_joinsAll 32 = .ok (.iload_n 1, 1) := by decide +kernel
theorem dX10_joinsAll_33 : decode cX10_joinsAll 33 = .ok (.iload_n 3, 1) := by decide +kernel
theorem dX10_joinsAll_34 : decode cX10_joinsAll 34 = .ok (.iload 4, 2) := by decide +kernel
theorem dX10_joinsAll_36 : decode cX10_joinsAll 36 = .ok (.iconst 1, 1) := by decide +kernel
theorem dX10_joinsAll_37 : decode cX10_joinsAll 37 = .ok (.isub, 1) := by decide +kernel
theorem dX10_joinsAll_38 : decode cX10_joinsAll 38 = .ok (.invokestatic 173, 3) := by decide +kernel
theorem dX10_joinsAll_41 : decode cX10_joinsAll 41 = .ok (.ifCond .eq 49, 3) := by decide +kernel
theorem dX10_joinsAll_44 : decode cX10_joinsAll 44 = .ok (.aload_n 0, 1) := by decide +kernel
theorem dX10_joinsAll_45 : decode cX10_joinsAll 45 = .ok (.iload_n 1, 1) := by decide +kernel
theorem dX10_joinsAll_46 : decode cX10_joinsAll 46 = .ok (.iload_n 3, 1) := by decide +kernel
theorem dX10_joinsAll_47 : decode cX10_joinsAll 47 = .ok (.iload 4, 2) := by decide +kernel
theorem dX10_joinsAll_49 : decode cX10_joinsAll 49 = .ok (.invokestatic 177, 3) := by decide +kernel
theorem dX10_joinsAll_52 : decode cX10_joinsAll 52 = .ok (.aload_n 0, 1) := by decide +kernel
theorem dX10_joinsAll_53 : decode cX10_joinsAll 53 = .ok (.iload_n 1, 1) := by decide +kernel
theorem dX10_joinsAll_54 : decode cX10_joinsAll 54 = .ok (.iload_n 3, 1) := by decide +kernel
theorem dX10_joinsAll_55 : decode cX10_joinsAll 55 = .ok (.iload 4, 2) := by decide +kernel
theorem dX10_joinsAll_57 : decode cX10_joinsAll 57 = .ok (.iconst 1, 1) := by decide +kernel
theorem dX10_joinsAll_58 : decode cX10_joinsAll 58 = .ok (.isub, 1) := by decide +kernel
theorem dX10_joinsAll_59 : decode cX10_joinsAll 59 = .ok (.invokestatic 177, 3) := by decide +kernel
theorem dX10_joinsAll_62 : decode cX10_joinsAll 62 = .ok (.if_icmp .ne 28, 3) := by decide +kernel
theorem dX10_joinsAll_65 : decode cX10_joinsAll 65 = .ok (.aload_n 0, 1) := by decide +kernel
theorem dX10_joinsAll_66 : decode cX10_joinsAll 66 = .ok (.iload_n 1, 1) := by decide +kernel
theorem dX10_joinsAll_67 : decode cX10_joinsAll 67 = .ok (.iload_n 3, 1) := by decide +kernel
theorem dX10_joinsAll_68 : decode cX10_joinsAll 68 = .ok (.iload 4, 2) := by decide +kernel
theorem dX10_joinsAll_70 : decode cX10_joinsAll 70 = .ok (.invokestatic 181, 3) := by decide +kernel
theorem dX10_joinsAll_73 : decode cX10_joinsAll 73 = .ok (.aload_n 0, 1) := by decide +kernel
theorem dX10_joinsAll_74 : decode cX10_joinsAll 74 = .ok (.iload_n 1, 1) := by decide +kernel
theorem dX10_joinsAll_75 : decode cX10_joinsAll 75 = .ok (.iload_n 3, 1) := by decide +kernel
theorem dX10_joinsAll_76 : decode cX10_joinsAll 76 = .ok (.iload 4, 2) := by decide +kernel
theorem dX10_joinsAll_78 : decode cX10_joinsAll 78 = .ok (.iconst 1, 1) := by decide +kernel
theorem dX10_joinsAll_79 : decode cX10_joinsAll 79 = .ok (.isub, 1) := by decide +kernel
theorem dX10_joinsAll_80 : decode cX10_joinsAll 80 = .ok (.invokestatic 181, 3) := by decide +kernel
theorem dX10_joinsAll_83 : decode cX10_joinsAll 83 = .ok (.if_icmp .ne 7, 3) := by decide +kernel
theorem dX10_joinsAll_86 : decode cX10_joinsAll 86 = .ok (.iconst 1, 1) := by decide +kernel
theorem dX10_joinsAll_87 : decode cX10_joinsAll 87 = .ok (.goto 4, 3) := by decide +kernel
theorem dX10_joinsAll_90 : decode cX10_joinsAll 90 = .ok (.iconst 0, 1) := by decide +kernel
theorem dX10_joinsAll_91 : decode cX10_joinsAll 91 = .ok (.istore 5, 2) := by decide +kernel
theorem dX10_joinsAll_93 : decode cX10_joinsAll 93 = .ok (.iload 5, 2) := by decide +kernel
theorem dX10_joinsAll_95 : decode cX10_joinsAll 95 = .ok (.ifCond .eq 31, 3) := by decide +kernel
theorem dX10_joinsAll_98 : decode cX10_joinsAll 98 = .ok (.aload_n 0, 1) := by decide +kernel
theorem dX10_joinsAll_99 : decode cX10_joinsAll 99 = .ok (.iload_n 1, 1) := by decide +kernel
theorem dX10_joinsAll_100 : decode cX10_joinsAll 100 = .ok (.iload_n 3, 1) := by decide +kernel
theorem dX10_joinsAll_101 : decode cX10_joinsAll 101 = .ok (.iload 4, 2) := by decide +kernel
theorem dX10_joinsAll_103 : decode cX10_joinsAll 103 = .ok (.aload_n 0, 1) := by decide +kernel
theorem dX10_joinsAll_104 : decode cX10_joinsAll 104 = .ok (.iload_n 1, 1) := by decide +kernel
theorem dX10_joinsAll_105 : decode cX10_joinsAll 105 = .ok (.iload_n 3, 1) := by decide +kernel
theorem dX10_joinsAll_106 : decode cX10_joinsAll 106 = .ok (.iload 4, 2) := by decide +kernel
theorem dX10_joinsAll_108 : decode cX10_joinsAll 108 = .ok (.invokestatic 177, 3) := by decide +kernel
theorem dX10_joinsAll_111 : decode cX10_joinsAll 111 = .ok (.aload_n 0, 1) := by decide +kernel
theorem dX10_joinsAll_112 : decode cX10_joinsAll 112 = .ok (.iload_n 1, 1) := by decide +kernel
theorem dX10_joinsAll_113 : decode cX10_joinsAll 113 = .ok (.iload_n 3, 1) := by decide +kernel
theorem dX10_joinsAll_114 : decode cX10_joinsAll 114 = .ok (.iload 4, 2) := by decide +kernel
theorem dX10_joinsAll_116 : decode cX10_joinsAll 116 = .ok (.invokestatic 181, 3) := by decide +kernel
theorem dX10_joinsAll_119 : decode cX10_joinsAll 119 = .ok (.iconst 0, 1) := by decide +kernel
theorem dX10_joinsAll_120 : decode cX10_joinsAll 120 = .ok (.invokestatic 184, 3) := by decide +kernel
theorem dX10_joinsAll_123 : decode cX10_joinsAll 123 = .ok (.iinc 2 1, 3) := by decide +kernel
theorem dX10_joinsAll_126 : decode cX10_joinsAll 126 = .ok (.iinc 4 1, 3) := by decide +kernel
theorem dX10_joinsAll_129 : decode cX10_joinsAll 129 = .ok (.goto (-116), 3) := by decide +kernel
theorem dX10_joinsAll_132 : decode cX10_joinsAll 132 = .ok (.iinc 3 1, 3) := by decide +kernel
theorem dX10_joinsAll_135 : decode cX10_joinsAll 135 = .ok (.goto (-131), 3) := by decide +kernel
theorem dX10_joinsAll_138 : decode cX10_joinsAll 138 = .ok (.iload_n 2, 1) := by decide +kernel
theorem dX10_joinsAll_139 : decode cX10_joinsAll 139 = .ok (.ireturn, 1) := by decide +kernel
theorem dX10_wayIs_0 : decode cX10_wayIs 0 = .ok (.iload_n 1, 1) := by decide +kernel
theorem dX10_wayIs_1 : decode cX10_wayIs 1 = .ok (.i2l, 1) := by decide +kernel
theorem dX10_wayIs_2 : decode cX10_wayIs 2 = .ok (.lconst 0, 1) := by decide +kernel
theorem dX10_wayIs_3 : decode cX10_wayIs 3 = .ok (.ldc2_w 278, 3) := by decide +kernel
theorem dX10_wayIs_6 : decode cX10_wayIs 6 = .ok (.invokestatic 25, 3) := by decide +kernel
theorem dX10_wayIs_9 : decode cX10_wayIs 9 = .ok (.ifCond .ne 5, 3) := by decide +kernel
theorem dX10_wayIs_12 : decode cX10_wayIs 12 = .ok (.iconst (-1), 1) := by decide +kernel
theorem dX10_wayIs_13 : decode cX10_wayIs 13 = .ok (.ireturn, 1) := by decide +kernel
theorem dX10_wayIs_14 : decode cX10_wayIs 14 = .ok (.aload_n 0, 1) := by decide +kernel
theorem dX10_wayIs_15 : decode cX10_wayIs 15 = .ok (.sipush 2000, 3) := by decide +kernel
theorem dX10_wayIs_18 : decode cX10_wayIs 18 = .ok (.iaload, 1) := by decide +kernel
theorem dX10_wayIs_19 : decode cX10_wayIs 19 = .ok (.istore_n 2, 1) := by decide +kernel
theorem dX10_wayIs_20 : decode cX10_wayIs 20 = .ok (.aload_n 0, 1) := by decide +kernel
theorem dX10_wayIs_21 : decode cX10_wayIs 21 = .ok (.sipush 2000, 3) := by decide +kernel
theorem dX10_wayIs_24 : decode cX10_wayIs 24 = .ok (.iload_n 1, 1) := by decide +kernel
theorem dX10_wayIs_25 : decode cX10_wayIs 25 = .ok (.iastore, 1) := by decide +kernel
theorem dX10_wayIs_26 : decode cX10_wayIs 26 = .ok (.iload_n 2, 1) := by decide +kernel
theorem dX10_wayIs_27 : decode cX10_wayIs 27 = .ok (.iload_n 1, 1) := by decide +kernel
theorem dX10_wayIs_28 : decode cX10_wayIs 28 = .ok (.if_icmp .ne 8, 3) := by decide +kernel
theorem dX10_wayIs_31 : decode cX10_wayIs 31 = .ok (.bipush (-2), 2) := by decide +kernel
theorem dX10_wayIs_33 : decode cX10_wayIs 33 = .ok (.goto 7, 3) := by decide +kernel
theorem dX10_wayIs_36 : decode cX10_wayIs 36 = .ok (.bipush 10, 2) := by decide +kernel
theorem dX10_wayIs_38 : decode cX10_wayIs 38 = .ok (.iload_n 2, 1) := by decide +kernel
theorem dX10_wayIs_39 : decode cX10_wayIs 39 = .ok (.iadd, 1) := by decide +kernel
theorem dX10_wayIs_40 : decode cX10_wayIs 40 = .ok (.ireturn, 1) := by decide +kernel
theorem dX10_rowsThen_0 : decode cX10_rowsThen 0 = .ok (.iload_n 1, 1) := by decide +kernel
theorem dX10_rowsThen_1 : decode cX10_rowsThen 1 = .ok (.ifCond .ge 5, 3) := by decide +kernel
theorem dX10_rowsThen_4 : decode cX10_rowsThen 4 = .ok (.iload_n 1, 1) := by decide +kernel
theorem dX10_rowsThen_5 : decode cX10_rowsThen 5 = .ok (.ireturn, 1) := by decide +kernel
theorem dX10_rowsThen_6 : decode cX10_rowsThen 6 = .ok (.aload_n 0, 1) := by decide +kernel
theorem dX10_rowsThen_7 : decode cX10_rowsThen 7 = .ok (.iconst 0, 1) := by decide +kernel
theorem dX10_rowsThen_8 : decode cX10_rowsThen 8 = .ok (.putfield 15, 3) := by decide +kernel
theorem dX10_rowsThen_11 : decode cX10_rowsThen 11 = .ok (.aload_n 0, 1) := by decide +kernel
theorem dX10_rowsThen_12 : decode cX10_rowsThen 12 = .ok (.aload_n 0, 1) := by decide +kernel
theorem dX10_rowsThen_13 : decode cX10_rowsThen 13 = .ok (.getfield 118, 3) := by decide +kernel
theorem dX10_rowsThen_16 : decode cX10_rowsThen 16 = .ok (.iload_n 2, 1) := by decide +kernel
theorem dX10_rowsThen_17 : decode cX10_rowsThen 17 = .ok (.invokestatic 197, 3) := by decide +kernel
theorem dX10_rowsThen_20 : decode cX10_rowsThen 20 = .ok (.i2l, 1) := by decide +kernel
theorem dX10_rowsThen_21 : decode cX10_rowsThen 21 = .ok (.invokevirtual 280, 3) := by decide +kernel
theorem dX10_rowsThen_24 : decode cX10_rowsThen 24 = .ok (.aload_n 0, 1) := by decide +kernel
theorem dX10_rowsThen_25 : decode cX10_rowsThen 25 = .ok (.iload_n 1, 1) := by decide +kernel
theorem dX10_rowsThen_26 : decode cX10_rowsThen 26 = .ok (.invokevirtual 208, 3) := by decide +kernel
theorem dX10_rowsThen_29 : decode cX10_rowsThen 29 = .ok (.ireturn, 1) := by decide +kernel
theorem dX10_adds_0 : decode cX10_adds 0 = .ok (.aload_n 0, 1) := by decide +kernel
theorem dX10_adds_1 : decode cX10_adds 1 = .ok (.iconst 0, 1) := by decide +kernel
theorem dX10_adds_2 : decode cX10_adds 2 = .ok (.putfield 3, 3) := by decide +kernel
theorem dX10_adds_5 : decode cX10_adds 5 = .ok (.aload_n 0, 1) := by decide +kernel
theorem dX10_adds_6 : decode cX10_adds 6 = .ok (.invokevirtual 284, 3) := by decide +kernel
theorem dX10_adds_9 : decode cX10_adds 9 = .ok (.aload_n 0, 1) := by decide +kernel
theorem dX10_adds_10 : decode cX10_adds 10 = .ok (.aload_n 0, 1) := by decide +kernel
theorem dX10_adds_11 : decode cX10_adds 11 = .ok (.aload_n 0, 1) := by decide +kernel
theorem dX10_adds_12 : decode cX10_adds 12 = .ok (.getfield 118, 3) := by decide +kernel
theorem dX10_adds_15 : decode cX10_adds 15 = .ok (.iload_n 1, 1) := by decide +kernel
theorem dX10_adds_16 : decode cX10_adds 16 = .ok (.iload_n 2, 1) := by decide +kernel
theorem dX10_adds_17 : decode cX10_adds 17 = .ok (.iload_n 3, 1) := by decide +kernel
theorem dX10_adds_18 : decode cX10_adds 18 = .ok (.iload 4, 2) := by decide +kernel
theorem dX10_adds_20 : decode cX10_adds 20 = .ok (.iload 5, 2) := by decide +kernel
theorem dX10_adds_22 : decode cX10_adds 22 = .ok (.invokevirtual 287, 3) := by decide +kernel
theorem dX10_adds_25 : decode cX10_adds 25 = .ok (.invokevirtual 291, 3) := by decide +kernel
theorem dX10_adds_28 : decode cX10_adds 28 = .ok (.ireturn, 1) := by decide +kernel
theorem dX10_sets_0 : decode cX10_sets 0 = .ok (.aload_n 0, 1) := by decide +kernel
theorem dX10_sets_1 : decode cX10_sets 1 = .ok (.iconst 0, 1) := by decide +kernel
theorem dX10_sets_2 : decode cX10_sets 2 = .ok (.putfield 3, 3) := by decide +kernel
theorem dX10_sets_5 : decode cX10_sets 5 = .ok (.aload_n 0, 1) := by decide +kernel
theorem dX10_sets_6 : decode cX10_sets 6 = .ok (.invokevirtual 284, 3) := by decide +kernel
theorem dX10_sets_9 : decode cX10_sets 9 = .ok (.aload_n 0, 1) := by decide +kernel
theorem dX10_sets_10 : decode cX10_sets 10 = .ok (.aload_n 0, 1) := by decide +kernel
theorem dX10_sets_11 : decode cX10_sets 11 = .ok (.aload_n 0, 1) := by decide +kernel
theorem dX10_sets_12 : decode cX10_sets 12 = .ok (.getfield 118, 3) := by decide +kernel
theorem dX10_sets_15 : decode cX10_sets 15 = .ok (.iload_n 1, 1) := by decide +kernel
theorem dX10_sets_16 : decode cX10_sets 16 = .ok (.iload_n 2, 1) := by decide +kernel
theorem dX10_sets_17 : decode cX10_sets 17 = .ok (.iload_n 3, 1) := by decide +kernel
theorem dX10_sets_18 : decode cX10_sets 18 = .ok (.iload 4, 2) := by decide +kernel
theorem dX10_sets_20 : decode cX10_sets 20 = .ok (.iload 5, 2) := by decide +kernel
theorem dX10_sets_22 : decode cX10_sets 22 = .ok (.invokevirtual 294, 3) := by decide +kernel
theorem dX10_sets_25 : decode cX10_sets 25 = .ok (.iload_n 1, 1) := by decide +kernel
theorem dX10_sets_26 : decode cX10_sets 26 = .ok (.invokevirtual 297, 3) := by decide +kernel
theorem dX10_sets_29 : decode cX10_sets 29 = .ok (.ireturn, 1) := by decide +kernel
theorem dX10_refers_0 : decode cX10_refers 0 = .ok (.aload_n 0, 1) := by decide +kernel
theorem dX10_refers_1 : decode cX10_refers 1 = .ok (.iconst 0, 1) := by decide +kernel
theorem dX10_refers_2 : decode cX10_refers 2 = .ok (.putfield 3, 3) := by decide +kernel
theorem dX10_refers_5 : decode cX10_refers 5 = .ok (.aload_n 0, 1) := by decide +kernel
theorem dX10_refers_6 : decode cX10_refers 6 = .ok (.invokevirtual 284, 3) := by decide +kernel
theorem dX10_refers_9 : decode cX10_refers 9 = .ok (.aload_n 0, 1) := by decide +kernel
theorem dX10_refers_10 : decode cX10_refers 10 = .ok (.aload_n 0, 1) := by decide +kernel
theorem dX10_refers_11 : decode cX10_refers 11 = .ok (.aload_n 0, 1) := by decide +kernel
theorem dX10_refers_12 : decode cX10_refers 12 = .ok (.getfield 118, 3) := by decide +kernel
theorem dX10_refers_15 : decode cX10_refers 15 = .ok (.iload_n 1, 1) := by decide +kernel
theorem dX10_refers_16 : decode cX10_refers 16 = .ok (.iload_n 2, 1) := by decide +kernel
theorem dX10_refers_17 : decode cX10_refers 17 = .ok (.iload_n 3, 1) := by decide +kernel
theorem dX10_refers_18 : decode cX10_refers 18 = .ok (.iload 4, 2) := by decide +kernel
theorem dX10_refers_20 : decode cX10_refers 20 = .ok (.invokevirtual 300, 3) := by decide +kernel
theorem dX10_refers_23 : decode cX10_refers 23 = .ok (.iconst 0, 1) := by decide +kernel
theorem dX10_refers_24 : decode cX10_refers 24 = .ok (.invokevirtual 297, 3) := by decide +kernel
theorem dX10_refers_27 : decode cX10_refers 27 = .ok (.ireturn, 1) := by decide +kernel
theorem dX10_cuts_0 : decode cX10_cuts 0 = .ok (.aload_n 0, 1) := by decide +kernel
theorem dX10_cuts_1 : decode cX10_cuts 1 = .ok (.iconst 0, 1) := by decide +kernel
theorem dX10_cuts_2 : decode cX10_cuts 2 = .ok (.putfield 3, 3) := by decide +kernel
theorem dX10_cuts_5 : decode cX10_cuts 5 = .ok (.aload_n 0, 1) := by decide +kernel
theorem dX10_cuts_6 : decode cX10_cuts 6 = .ok (.invokevirtual 284, 3) := by decide +kernel
theorem dX10_cuts_9 : decode cX10_cuts 9 = .ok (.aload_n 0, 1) := by decide +kernel
theorem dX10_cuts_10 : decode cX10_cuts 10 = .ok (.aload_n 0, 1) := by decide +kernel
theorem dX10_cuts_11 : decode cX10_cuts 11 = .ok (.getfield 118, 3) := by decide +kernel
theorem dX10_cuts_14 : decode cX10_cuts 14 = .ok (.iload_n 1, 1) := by decide +kernel
theorem dX10_cuts_15 : decode cX10_cuts 15 = .ok (.iload_n 2, 1) := by decide +kernel
theorem dX10_cuts_16 : decode cX10_cuts 16 = .ok (.iload_n 3, 1) := by decide +kernel
theorem dX10_cuts_17 : decode cX10_cuts 17 = .ok (.iload 4, 2) := by decide +kernel
theorem dX10_cuts_19 : decode cX10_cuts 19 = .ok (.invokevirtual 303, 3) := by decide +kernel
theorem dX10_cuts_22 : decode cX10_cuts 22 = .ok (.istore 5, 2) := by decide +kernel
theorem dX10_cuts_24 : decode cX10_cuts 24 = .ok (.iload 5, 2) := by decide +kernel
theorem dX10_cuts_26 : decode cX10_cuts 26 = .ok (.ifCond .ge 6, 3) := by decide +kernel
theorem dX10_cuts_29 : decode cX10_cuts 29 = .ok (.iload 5, 2) := by decide +kernel
theorem dX10_cuts_31 : decode cX10_cuts 31 = .ok (.ireturn, 1) := by decide +kernel
theorem dX10_cuts_32 : decode cX10_cuts 32 = .ok (.aload_n 0, 1) := by decide +kernel
theorem dX10_cuts_33 : decode cX10_cuts 33 = .ok (.iconst 0, 1) := by decide +kernel
theorem dX10_cuts_34 : decode cX10_cuts 34 = .ok (.putfield 15, 3) := by decide +kernel
theorem dX10_cuts_37 : decode cX10_cuts 37 = .ok (.aload_n 0, 1) := by decide +kernel
theorem dX10_cuts_38 : decode cX10_cuts 38 = .ok (.aload_n 0, 1) := by decide +kernel
theorem dX10_cuts_39 : decode cX10_cuts 39 = .ok (.getfield 265, 3) := by decide +kernel
theorem dX10_cuts_42 : decode cX10_cuts 42 = .ok (.i2l, 1) := by decide +kernel
theorem dX10_cuts_43 : decode cX10_cuts 43 = .ok (.invokevirtual 280, 3) := by decide +kernel
theorem dX10_cuts_46 : decode cX10_cuts 46 = .ok (.aload_n 0, 1) := by decide +kernel
theorem dX10_cuts_47 : decode cX10_cuts 47 = .ok (.aload_n 0, 1) := by decide +kernel
theorem dX10_cuts_48 : decode cX10_cuts 48 = .ok (.getfield 262, 3) := by decide +kernel
theorem dX10_cuts_51 : decode cX10_cuts 51 = .ok (.i2l, 1) := by decide +kernel
theorem dX10_cuts_52 : decode cX10_cuts 52 = .ok (.invokevirtual 280, 3) := by decide +kernel
theorem dX10_cuts_55 : decode cX10_cuts 55 = .ok (.aload_n 0, 1) := by decide +kernel
theorem dX10_cuts_56 : decode cX10_cuts 56 = .ok (.iload 5, 2) := by decide +kernel
theorem dX10_cuts_58 : decode cX10_cuts 58 = .ok (.invokevirtual 208, 3) := by decide +kernel
theorem dX10_cuts_61 : decode cX10_cuts 61 = .ok (.ireturn, 1) := by decide +kernel
theorem dX10_shifts_0 : decode cX10_shifts 0 = .ok (.aload_n 0, 1) := by decide +kernel
theorem dX10_shifts_1 : decode cX10_shifts 1 = .ok (.iconst 0, 1) := by decide +kernel
theorem dX10_shifts_2 : decode cX10_shifts 2 = .ok (.putfield 3, 3) := by decide +kernel
theorem dX10_shifts_5 : decode cX10_shifts 5 = .ok (.aload_n 0, 1) := by decide +kernel
theorem dX10_shifts_6 : decode cX10_shifts 6 = .ok (.invokevirtual 284, 3) := by decide +kernel
theorem dX10_shifts_9 : decode cX10_shifts 9 = .ok (.aload_n 0, 1) := by decide +kernel
theorem dX10_shifts_10 : decode cX10_shifts 10 = .ok (.aload_n 0, 1) := by decide +kernel
theorem dX10_shifts_11 : decode cX10_shifts 11 = .ok (.aload_n 0, 1) := by decide +kernel
theorem dX10_shifts_12 : decode cX10_shifts 12 = .ok (.getfield 118, 3) := by decide +kernel
theorem dX10_shifts_15 : decode cX10_shifts 15 = .ok (.iload_n 1, 1) := by decide +kernel
theorem dX10_shifts_16 : decode cX10_shifts 16 = .ok (.iload_n 2, 1) := by decide +kernel
theorem dX10_shifts_17 : decode cX10_shifts 17 = .ok (.iload_n 3, 1) := by decide +kernel
theorem dX10_shifts_18 : decode cX10_shifts 18 = .ok (.invokevirtual 306, 3) := by decide +kernel
theorem dX10_shifts_21 : decode cX10_shifts 21 = .ok (.invokevirtual 291, 3) := by decide +kernel
theorem dX10_shifts_24 : decode cX10_shifts 24 = .ok (.ireturn, 1) := by decide +kernel
theorem dX10_joins_0 : decode cX10_joins 0 = .ok (.aload_n 0, 1) := by decide +kernel
theorem dX10_joins_1 : decode cX10_joins 1 = .ok (.iconst 0, 1) := by decide +kernel
theorem dX10_joins_2 : decode cX10_joins 2 = .ok (.putfield 3, 3) := by decide +kernel
theorem dX10_joins_5 : decode cX10_joins 5 = .ok (.iload_n 1, 1) := by decide +kernel
theorem dX10_joins_6 : decode cX10_joins 6 = .ok (.invokestatic 211, 3) := by decide +kernel
theorem dX10_joins_9 : decode cX10_joins 9 = .ok (.ifCond .ne 5, 3) := by decide +kernel
theorem dX10_joins_12 : decode cX10_joins 12 = .ok (.iconst (-1), 1) := by decide +kernel
theorem dX10_joins_13 : decode cX10_joins 13 = .ok (.ireturn, 1) := by decide +kernel
theorem dX10_joins_14 : decode cX10_joins 14 = .ok (.aload_n 0, 1) := by decide +kernel
theorem dX10_joins_15 : decode cX10_joins 15 = .ok (.invokevirtual 284, 3) := by decide +kernel
theorem dX10_joins_18 : decode cX10_joins 18 = .ok (.aload_n 0, 1) := by decide +kernel
theorem dX10_joins_19 : decode cX10_joins 19 = .ok (.aload_n 0, 1) := by decide +kernel
theorem dX10_joins_20 : decode cX10_joins 20 = .ok (.getfield 118, 3) := by decide +kernel
theorem dX10_joins_23 : decode cX10_joins 23 = .ok (.iload_n 1, 1) := by decide +kernel
theorem dX10_joins_24 : decode cX10_joins 24 = .ok (.invokestatic 309, 3) := by decide +kernel
theorem dX10_joins_27 : decode cX10_joins 27 = .ok (.invokevirtual 208, 3) := by decide +kernel
theorem dX10_joins_30 : decode cX10_joins 30 = .ok (.ireturn, 1) := by decide +kernel
theorem dX10_way_0 : decode cX10_way 0 = .ok (.aload_n 0, 1) := by decide +kernel
theorem dX10_way_1 : decode cX10_way 1 = .ok (.iconst 0, 1) := by decide +kernel
theorem dX10_way_2 : decode cX10_way 2 = .ok (.putfield 3, 3) := by decide +kernel
theorem dX10_way_5 : decode cX10_way 5 = .ok (.aload_n 0, 1) := by decide +kernel
theorem dX10_way_6 : decode cX10_way 6 = .ok (.invokevirtual 284, 3) := by decide +kernel
theorem dX10_way_9 : decode cX10_way 9 = .ok (.aload_n 0, 1) := by decide +kernel
theorem dX10_way_10 : decode cX10_way 10 = .ok (.aload_n 0, 1) := by decide +kernel
theorem dX10_way_11 : decode cX10_way 11 = .ok (.getfield 118, 3) := by decide +kernel
theorem dX10_way_14 : decode cX10_way 14 = .ok (.iload_n 1, 1) := by decide +kernel
theorem dX10_way_15 : decode cX10_way 15 = .ok (.invokestatic 312, 3) := by decide +kernel
theorem dX10_way_18 : decode cX10_way 18 = .ok (.invokevirtual 291, 3) := by decide +kernel
theorem dX10_way_21 : decode cX10_way 21 = .ok (.ireturn, 1) := by decide +kernel
theorem dX10_readsPart_0 : decode cX10_readsPart 0 = .ok (.iload_n 1, 1) := by decide +kernel
theorem dX10_readsPart_1 : decode cX10_readsPart 1 = .ok (.lookupswitch 70 #[(100, 51), (110, 65), (116, 43), (119, 57)], 43) := by decide +kernel
theorem dX10_readsPart_44 : decode cX10_readsPart 44 = .ok (.aload_n 0, 1) := by decide +kernel
theorem dX10_readsPart_45 : decode cX10_readsPart 45 = .ok (.ldc_w 315, 3) := by decide +kernel
theorem dX10_readsPart_48 : decode cX10_readsPart 48 = .ok (.invokevirtual 89, 3) := by decide +kernel
theorem dX10_readsPart_51 : decode cX10_readsPart 51 = .ok (.ireturn, 1) := by decide +kernel
theorem dX10_readsPart_52 : decode cX10_readsPart 52 = .ok (.aload_n 0, 1) := by decide +kernel
theorem dX10_readsPart_53 : decode cX10_readsPart 53 = .ok (.iconst 1, 1) := by decide +kernel
theorem dX10_readsPart_54 : decode cX10_readsPart 54 = .ok (.invokevirtual 66, 3) := by decide +kernel
theorem dX10_readsPart_57 : decode cX10_readsPart 57 = .ok (.ireturn, 1) := by decide +kernel
theorem dX10_readsPart_58 : decode cX10_readsPart 58 = .ok (.aload_n 0, 1) := by decide +kernel
theorem dX10_readsPart_59 : decode cX10_readsPart 59 = .ok (.ldc_w 317, 3) := by decide +kernel
theorem dX10_readsPart_62 : decode cX10_readsPart 62 = .ok (.invokevirtual 89, 3) := by decide +kernel
theorem dX10_readsPart_65 : decode cX10_readsPart 65 = .ok (.ireturn, 1) := by decide +kernel
theorem dX10_readsPart_66 : decode cX10_readsPart 66 = .ok (.aload_n 0, 1) := by decide +kernel
theorem dX10_readsPart_67 : decode cX10_readsPart 67 = .ok (.invokevirtual 319, 3) := by decide +kernel
theorem dX10_readsPart_70 : decode cX10_readsPart 70 = .ok (.ireturn, 1) := by decide +kernel
theorem dX10_readsPart_71 : decode cX10_readsPart 71 = .ok (.aload_n 0, 1) := by decide +kernel
theorem dX10_readsPart_72 : decode cX10_readsPart 72 = .ok (.invokevirtual 319, 3) := by decide +kernel
theorem dX10_readsPart_75 : decode cX10_readsPart 75 = .ok (.istore_n 2, 1) := by decide +kernel
theorem dX10_readsPart_76 : decode cX10_readsPart 76 = .ok (.iload_n 2, 1) := by decide +kernel
theorem dX10_readsPart_77 : decode cX10_readsPart 77 = .ok (.ifCond .ne 8, 3) := by decide +kernel
theorem dX10_readsPart_80 : decode cX10_readsPart 80 = .ok (.bipush 100, 2) := by decide +kernel
theorem dX10_readsPart_82 : decode cX10_readsPart 82 = .ok (.goto 4, 3) := by decide +kernel
theorem dX10_readsPart_85 : decode cX10_readsPart 85 = .ok (.iload_n 2, 1) := by decide +kernel
theorem dX10_readsPart_86 : decode cX10_readsPart 86 = .ok (.ireturn, 1) := by decide +kernel
theorem dX10_partsOf_0 : decode cX10_partsOf 0 = .ok (.iload_n 0, 1) := by decide +kernel
theorem dX10_partsOf_1 : decode cX10_partsOf 1 = .ok (.iconst 2, 1) := by decide +kernel
theorem dX10_partsOf_2 : decode cX10_partsOf 2 = .ok (.if_icmp .ge 9, 3) := by decide +kernel
theorem dX10_partsOf_5 : decode cX10_partsOf 5 = .ok (.ldc_w 322, 3) := by decide +kernel
theorem dX10_partsOf_8 : decode cX10_partsOf 8 = .ok (.goto 39, 3) := by decide +kernel
theorem dX10_partsOf_11 : decode cX10_partsOf 11 = .ok (.iload_n 0, 1) := by decide +kernel
theorem dX10_partsOf_12 : decode cX10_partsOf 12 = .ok (.iconst 2, 1) := by decide +kernel
theorem dX10_partsOf_13 : decode cX10_partsOf 13 = .ok (.if_icmp .ne 9, 3) := by decide +kernel
theorem dX10_partsOf_16 : decode cX10_partsOf 16 = .ok (.ldc_w 324, 3) := by decide +kernel
theorem dX10_partsOf_19 : decode cX10_partsOf 19 = .ok (.goto 28, 3) := by decide +kernel
theorem dX10_partsOf_22 : decode cX10_partsOf 22 = .ok (.iload_n 0, 1) := by decide +kernel
theorem dX10_partsOf_23 : decode cX10_partsOf 23 = .ok (.iconst 3, 1) := by decide +kernel
theorem dX10_partsOf_24 : decode cX10_partsOf 24 = .ok (.if_icmp .ne 9, 3) := by decide +kernel
theorem dX10_partsOf_27 : decode cX10_partsOf 27 = .ok (.ldc_w 326, 3) := by decide +kernel
theorem dX10_partsOf_30 : decode cX10_partsOf 30 = .ok (.goto 17, 3) := by decide +kernel
theorem dX10_partsOf_33 : decode cX10_partsOf 33 = .ok (.iload_n 0, 1) := by decide +kernel
theorem dX10_partsOf_34 : decode cX10_partsOf 34 = .ok (.iconst 4, 1) := by decide +kernel
theorem dX10_partsOf_35 : decode cX10_partsOf 35 = .ok (.if_icmp .ne 9, 3) := by decide +kernel
theorem dX10_partsOf_38 : decode cX10_partsOf 38 = .ok (.ldc_w 328, 3) := by decide +kernel
theorem dX10_partsOf_41 : decode cX10_partsOf 41 = .ok (.goto 6, 3) := by decide +kernel
theorem dX10_partsOf_44 : decode cX10_partsOf 44 = .ok (.ldc_w 330, 3) := by decide +kernel
theorem dX10_partsOf_47 : decode cX10_partsOf 47 = .ok (.areturn, 1) := by decide +kernel
theorem dX10_readsAct_0 : decode cX10_readsAct 0 = .ok (.aload_n 0, 1) := by decide +kernel
theorem dX10_readsAct_1 : decode cX10_readsAct 1 = .ok (.getfield 332, 3) := by decide +kernel
theorem dX10_readsAct_4 : decode cX10_readsAct 4 = .ok (.istore_n 1, 1) := by decide +kernel
theorem dX10_readsAct_5 : decode cX10_readsAct 5 = .ok (.aload_n 0, 1) := by decide +kernel
theorem dX10_readsAct_6 : decode cX10_readsAct 6 = .ok (.getfield 130, 3) := by decide +kernel
theorem dX10_readsAct_9 : decode cX10_readsAct 9 = .ok (.iload_n 1, 1) := by decide +kernel
theorem dX10_readsAct_10 : decode cX10_readsAct 10 = .ok (.aload_n 0, 1) := by decide +kernel
theorem dX10_readsAct_11 : decode cX10_readsAct 11 = .ok (.ldc_w 335, 3) := by decide +kernel
theorem dX10_readsAct_14 : decode cX10_readsAct 14 = .ok (.invokevirtual 89, 3) := by decide +kernel
theorem dX10_readsAct_17 : decode cX10_readsAct 17 = .ok (.iastore, 1) := by decide +kernel
theorem dX10_readsAct_18 : decode cX10_readsAct 18 = .ok (.aload_n 0, 1) := by decide +kernel
theorem dX10_readsAct_19 : decode cX10_readsAct 19 = .ok (.dup, 1) := by decide +kernel
theorem dX10_readsAct_20 : decode cX10_readsAct 20 = .ok (.getfield 332, 3) := by decide +kernel
theorem dX10_readsAct_23 : decode cX10_readsAct 23 = .ok (.iconst 1, 1) := by decide +kernel
theorem dX10_readsAct_24 : decode cX10_readsAct 24 = .ok (.iadd, 1) := by decide +kernel
theorem dX10_readsAct_25 : decode cX10_readsAct 25 = .ok (.putfield 332, 3) := by decide +kernel
theorem dX10_readsAct_28 : decode cX10_readsAct 28 = .ok (.aload_n 0, 1) := by decide +kernel
theorem dX10_readsAct_29 : decode cX10_readsAct 29 = .ok (.getfield 130, 3) := by decide +kernel
theorem dX10_readsAct_32 : decode cX10_readsAct 32 = .ok (.iload_n 1, 1) := by decide +kernel
theorem dX10_readsAct_33 : decode cX10_readsAct 33 = .ok (.iaload, 1) := by decide +kernel
theorem dX10_readsAct_34 : decode cX10_readsAct 34 = .ok (.ifCond .ge 5, 3) := by decide +kernel
theorem dX10_readsAct_37 : decode cX10_readsAct 37 = .ok (.iconst 0, 1) := by decide +kernel
theorem dX10_readsAct_38 : decode cX10_readsAct 38 = .ok (.ireturn, 1) := by decide +kernel
theorem dX10_readsAct_39 : decode cX10_readsAct 39 = .ok (.aload_n 0, 1) := by decide +kernel
theorem dX10_readsAct_40 : decode cX10_readsAct 40 = .ok (.getfield 130, 3) := by decide +kernel
theorem dX10_readsAct_43 : decode cX10_readsAct 43 = .ok (.iload_n 1, 1) := by decide +kernel
theorem dX10_readsAct_44 : decode cX10_readsAct 44 = .ok (.iaload, 1) := by decide +kernel
theorem dX10_readsAct_45 : decode cX10_readsAct 45 = .ok (.invokestatic 337, 3) := by decide +kernel
theorem dX10_readsAct_48 : decode cX10_readsAct 48 = .ok (.astore_n 2, 1) := by decide +kernel
theorem dX10_readsAct_49 : decode cX10_readsAct 49 = .ok (.iconst 0, 1) := by decide +kernel
theorem dX10_readsAct_50 : decode cX10_readsAct 50 = .ok (.istore_n 3, 1) := by decide +kernel
theorem dX10_readsAct_51 : decode cX10_readsAct 51 = .ok (.iload_n 3, 1) := by decide +kernel
theorem dX10_readsAct_52 : decode cX10_readsAct 52 = .ok (.aload_n 2, 1) := by decide +kernel
theorem dX10_readsAct_53 : decode cX10_readsAct 53 = .ok (.invokevirtual 52, 3) := by decide +kernel
theorem dX10_readsAct_56 : decode cX10_readsAct 56 = .ok (.if_icmp .ge 39, 3) := by decide +kernel
theorem dX10_readsAct_59 : decode cX10_readsAct 59 = .ok (.aload_n 0, 1) := by decide +kernel
theorem dX10_readsAct_60 : decode cX10_readsAct 60 = .ok (.getfield 135, 3) := by decide +kernel
theorem dX10_readsAct_63 : decode cX10_readsAct 63 = .ok (.iload_n 1, 1) := by decide +kernel
theorem dX10_readsAct_64 : decode cX10_readsAct 64 = .ok (.aaload, 1) := by decide +kernel
theorem dX10_readsAct_65 : decode cX10_readsAct 65 = .ok (.iload_n 3, 1) := by decide +kernel
theorem dX10_readsAct_66 : decode cX10_readsAct 66 = .ok (.aload_n 0, 1) := by decide +kernel
theorem dX10_readsAct_67 : decode cX10_readsAct 67 = .ok (.aload_n 2, 1) := by decide +kernel
theorem dX10_readsAct_68 : decode cX10_readsAct 68 = .ok (.iload_n 3, 1) := by decide +kernel
theorem dX10_readsAct_69 : decode cX10_readsAct 69 = .ok (.invokevirtual 58, 3) := by decide +kernel
theorem dX10_readsAct_72 : decode cX10_readsAct 72 = .ok (.invokevirtual 341, 3) := by decide +kernel
theorem dX10_readsAct_75 : decode cX10_readsAct 75 = .ok (.iastore, 1) := by decide +kernel
theorem dX10_readsAct_76 : decode cX10_readsAct 76 = .ok (.aload_n 0, 1) := by decide +kernel
theorem dX10_readsAct_77 : decode cX10_readsAct 77 = .ok (.getfield 135, 3) := by decide +kernel
theorem dX10_readsAct_80 : decode cX10_readsAct 80 = .ok (.iload_n 1, 1) := by decide +kernel
theorem dX10_readsAct_81 : decode cX10_readsAct 81 = .ok (.aaload, 1) := by decide +kernel
theorem dX10_readsAct_82 : decode cX10_readsAct 82 = .ok (.iload_n 3, 1) := by decide +kernel
theorem dX10_readsAct_83 : decode cX10_readsAct 83 = .ok (.iaload, 1) := by decide +kernel
theorem dX10_readsAct_84 : decode cX10_readsAct 84 = .ok (.ifCond .ge 5, 3) := by decide +kernel
theorem dX10_readsAct_87 : decode cX10_readsAct 87 = .ok (.iconst 0, 1) := by decide +kernel
theorem dX10_readsAct_88 : decode cX10_readsAct 88 = .ok (.ireturn, 1) := by decide +kernel
theorem dX10_readsAct_89 : decode cX10_readsAct 89 = .ok (.iinc 3 1, 3) := by decide +kernel
theorem dX10_readsAct_92 : decode cX10_readsAct 92 = .ok (.goto (-41), 3) := by decide +kernel
theorem dX10_readsAct_95 : decode cX10_readsAct 95 = .ok (.iconst 1, 1) := by decide +kernel
theorem dX10_readsAct_96 : decode cX10_readsAct 96 = .ok (.ireturn, 1) := by decide +kernel
theorem dX10_does_0 : decode cX10_does 0 = .ok (.aload_n 0, 1) := by decide +kernel
theorem dX10_does_1 : decode cX10_does 1 = .ok (.getfield 135, 3) := by decide +kernel
theorem dX10_does_4 : decode cX10_does 4 = .ok (.iload_n 1, 1) := by decide +kernel
theorem dX10_does_5 : decode cX10_does 5 = .ok (.aaload, 1) := by decide +kernel
theorem dX10_does_6 : decode cX10_does 6 = .ok (.astore_n 2, 1) := by decide +kernel
theorem dX10_does_7 : decode cX10_does 7 = .ok (.aload_n 0, 1) := by decide +kernel
theorem dX10_does_8 : decode cX10_does 8 = .ok (.getfield 130, 3) := by decide +kernel
theorem dX10_does_11 : decode cX10_does 11 = .ok (.iload_n 1, 1) := by decide +kernel
theorem dX10_does_12 : decode cX10_does 12 = .ok (.iaload, 1) := by decide +kernel
theorem dX10_does_13 : decode cX10_does 13 = .ok (.tableswitch 136 0 4 #[35, 59, 83, 104, 125], 35) := by decide +kernel
theorem dX10_does_48 : decode cX10_does 48 = .ok (.aload_n 0, 1) := by decide +kernel
theorem dX10_does_49 : decode cX10_does 49 = .ok (.aload_n 0, 1) := by decide +kernel
theorem dX10_does_50 : decode cX10_does 50 = .ok (.getfield 118, 3) := by decide +kernel
theorem dX10_does_53 : decode cX10_does 53 = .ok (.aload_n 2, 1) := by decide +kernel
theorem dX10_does_54 : decode cX10_does 54 = .ok (.iconst 0, 1) := by decide +kernel
theorem dX10_does_55 : decode cX10_does 55 = .ok (.iaload, 1) := by decide +kernel
theorem dX10_does_56 : decode cX10_does 56 = .ok (.aload_n 2, 1) := by decide +kernel
theorem dX10_does_57 : decode cX10_does 57 = .ok (.iconst 1, 1) := by decide +kernel
theorem dX10_does_58 : decode cX10_does 58 = .ok (.iaload, 1) := by decide +kernel
theorem dX10_does_59 : decode cX10_does 59 = .ok (.aload_n 2, 1) := by decide +kernel
theorem dX10_does_60 : decode cX10_does 60 = .ok (.iconst 2, 1) := by decide +kernel
theorem dX10_does_61 : decode cX10_does 61 = .ok (.iaload, 1) := by decide +kernel
theorem dX10_does_62 : decode cX10_does 62 = .ok (.aload_n 2, 1) := by decide +kernel
theorem dX10_does_63 : decode cX10_does 63 = .ok (.iconst 3, 1) := by decide +kernel
theorem dX10_does_64 : decode cX10_does 64 = .ok (.iaload, 1) := by decide +kernel
theorem dX10_does_65 : decode cX10_does 65 = .ok (.aload_n 2, 1) := by decide +kernel
theorem dX10_does_66 : decode cX10_does 66 = .ok (.iconst 4, 1) := by decide +kernel
theorem dX10_does_67 : decode cX10_does 67 = .ok (.iaload, 1) := by decide +kernel
theorem dX10_does_68 : decode cX10_does 68 = .ok (.invokevirtual 287, 3) := by decide +kernel
theorem dX10_does_71 : decode cX10_does 71 = .ok (.ireturn, 1) := by decide +kernel
theorem dX10_does_72 : decode cX10_does 72 = .ok (.aload_n 0, 1) := by decide +kernel
theorem dX10_does_73 : decode cX10_does 73 = .ok (.aload_n 0, 1) := by decide +kernel
theorem dX10_does_74 : decode cX10_does 74 = .ok (.getfield 118, 3) := by decide +kernel
theorem dX10_does_77 : decode cX10_does 77 = .ok (.aload_n 2, 1) := by decide +kernel
theorem dX10_does_78 : decode cX10_does 78 = .ok (.iconst 0, 1) := by decide +kernel
theorem dX10_does_79 : decode cX10_does 79 = .ok (.iaload, 1) := by decide +kernel
theorem dX10_does_80 : decode cX10_does 80 = .ok (.aload_n 2, 1) := by decide +kernel
theorem dX10_does_81 : decode cX10_does 81 = .ok (.iconst 1, 1) := by decide +kernel
theorem dX10_does_82 : decode cX10_does 82 = .ok (.iaload, 1) := by decide +kernel
theorem dX10_does_83 : decode cX10_does 83 = .ok (.aload_n 2, 1) := by decide +kernel
theorem dX10_does_84 : decode cX10_does 84 = .ok (.iconst 2, 1) := by decide +kernel
theorem dX10_does_85 : decode cX10_does 85 = .ok (.iaload, 1) := by decide +kernel
theorem dX10_does_86 : decode cX10_does 86 = .ok (.aload_n 2, 1) := by decide +kernel
