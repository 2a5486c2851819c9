theorem dX6_daysOfRow_8 : decode cX6_daysOfRow 8 = .ok (.iconst 2, 1) := by decide +kernel
theorem dX6_daysOfRow_9 : decode cX6_daysOfRow 9 = .ok (.invokevirtual 29, 3) := by decide +kernel
theorem dX6_daysOfRow_12 : decode cX6_daysOfRow 12 = .ok (.isub, 1) := by decide +kernel
theorem dX6_daysOfRow_13 : decode cX6_daysOfRow 13 = .ok (.ireturn, 1) := by decide +kernel
theorem dX6_daysOfRowWithin_0 : decode cX6_daysOfRowWithin 0 = .ok (.iconst 0, 1) := by decide +kernel
theorem dX6_daysOfRowWithin_1 : decode cX6_daysOfRowWithin 1 = .ok (.iload_n 3, 1) := by decide +kernel
theorem dX6_daysOfRowWithin_2 : decode cX6_daysOfRowWithin 2 = .ok (.aload_n 0, 1) := by decide +kernel
theorem dX6_daysOfRowWithin_3 : decode cX6_daysOfRowWithin 3 = .ok (.iload_n 1, 1) := by decide +kernel
theorem dX6_daysOfRowWithin_4 : decode cX6_daysOfRowWithin 4 = .ok (.iconst 3, 1) := by decide +kernel
theorem dX6_daysOfRowWithin_5 : decode cX6_daysOfRowWithin 5 = .ok (.invokevirtual 29, 3) := by decide +kernel
theorem dX6_daysOfRowWithin_8 : decode cX6_daysOfRowWithin 8 = .ok (.invokestatic 38, 3) := by decide +kernel
theorem dX6_daysOfRowWithin_11 : decode cX6_daysOfRowWithin 11 = .ok (.iload_n 2, 1) := by decide +kernel
theorem dX6_daysOfRowWithin_12 : decode cX6_daysOfRowWithin 12 = .ok (.aload_n 0, 1) := by decide +kernel
theorem dX6_daysOfRowWithin_13 : decode cX6_daysOfRowWithin 13 = .ok (.iload_n 1, 1) := by decide +kernel
theorem dX6_daysOfRowWithin_14 : decode cX6_daysOfRowWithin 14 = .ok (.iconst 2, 1) := by decide +kernel
theorem dX6_daysOfRowWithin_15 : decode cX6_daysOfRowWithin 15 = .ok (.invokevirtual 29, 3) := by decide +kernel
theorem dX6_daysOfRowWithin_18 : decode cX6_daysOfRowWithin 18 = .ok (.invokestatic 33, 3) := by decide +kernel
theorem dX6_daysOfRowWithin_21 : decode cX6_daysOfRowWithin 21 = .ok (.isub, 1) := by decide +kernel
theorem dX6_daysOfRowWithin_22 : decode cX6_daysOfRowWithin 22 = .ok (.invokestatic 33, 3) := by decide +kernel
theorem dX6_daysOfRowWithin_25 : decode cX6_daysOfRowWithin 25 = .ok (.ireturn, 1) := by decide +kernel
theorem dX6_touches_0 : decode cX6_touches 0 = .ok (.aload_n 0, 1) := by decide +kernel
theorem dX6_touches_1 : decode cX6_touches 1 = .ok (.iload_n 1, 1) := by decide +kernel
theorem dX6_touches_2 : decode cX6_touches 2 = .ok (.iconst 0, 1) := by decide +kernel
theorem dX6_touches_3 : decode cX6_touches 3 = .ok (.invokevirtual 29, 3) := by decide +kernel
theorem dX6_touches_6 : decode cX6_touches 6 = .ok (.iload_n 2, 1) := by decide +kernel
theorem dX6_touches_7 : decode cX6_touches 7 = .ok (.if_icmp .ne 18, 3) := by decide +kernel
theorem dX6_touches_10 : decode cX6_touches 10 = .ok (.aload_n 0, 1) := by decide +kernel
theorem dX6_touches_11 : decode cX6_touches 11 = .ok (.iload_n 1, 1) := by decide +kernel
theorem dX6_touches_12 : decode cX6_touches 12 = .ok (.iload_n 3, 1) := by decide +kernel
theorem dX6_touches_13 : decode cX6_touches 13 = .ok (.iload 4, 2) := by decide +kernel
theorem dX6_touches_15 : decode cX6_touches 15 = .ok (.invokevirtual 71, 3) := by decide +kernel
theorem dX6_touches_18 : decode cX6_touches 18 = .ok (.ifCond .le 7, 3) := by decide +kernel
theorem dX6_touches_21 : decode cX6_touches 21 = .ok (.iconst 1, 1) := by decide +kernel
theorem dX6_touches_22 : decode cX6_touches 22 = .ok (.goto 4, 3) := by decide +kernel
theorem dX6_touches_25 : decode cX6_touches 25 = .ok (.iconst 0, 1) := by decide +kernel
theorem dX6_touches_26 : decode cX6_touches 26 = .ok (.ireturn, 1) := by decide +kernel
theorem dX6_touching_0 : decode cX6_touching 0 = .ok (.iconst 0, 1) := by decide +kernel
theorem dX6_touching_1 : decode cX6_touching 1 = .ok (.istore 4, 2) := by decide +kernel
theorem dX6_touching_3 : decode cX6_touching 3 = .ok (.iconst 0, 1) := by decide +kernel
theorem dX6_touching_4 : decode cX6_touching 4 = .ok (.istore 5, 2) := by decide +kernel
theorem dX6_touching_6 : decode cX6_touching 6 = .ok (.iload 5, 2) := by decide +kernel
theorem dX6_touching_8 : decode cX6_touching 8 = .ok (.aload_n 0, 1) := by decide +kernel
theorem dX6_touching_9 : decode cX6_touching 9 = .ok (.getfield 15, 3) := by decide +kernel
theorem dX6_touching_12 : decode cX6_touching 12 = .ok (.if_icmp .ge 24, 3) := by decide +kernel
theorem dX6_touching_15 : decode cX6_touching 15 = .ok (.aload_n 0, 1) := by decide +kernel
theorem dX6_touching_16 : decode cX6_touching 16 = .ok (.iload 5, 2) := by decide +kernel
theorem dX6_touching_18 : decode cX6_touching 18 = .ok (.iload_n 1, 1) := by decide +kernel
theorem dX6_touching_19 : decode cX6_touching 19 = .ok (.iload_n 2, 1) := by decide +kernel
theorem dX6_touching_20 : decode cX6_touching 20 = .ok (.iload_n 3, 1) := by decide +kernel
theorem dX6_touching_21 : decode cX6_touching 21 = .ok (.invokevirtual 52, 3) := by decide +kernel
theorem dX6_touching_24 : decode cX6_touching 24 = .ok (.ifCond .eq 6, 3) := by decide +kernel
theorem dX6_touching_27 : decode cX6_touching 27 = .ok (.iinc 4 1, 3) := by decide +kernel
theorem dX6_touching_30 : decode cX6_touching 30 = .ok (.iinc 5 1, 3) := by decide +kernel
theorem dX6_touching_33 : decode cX6_touching 33 = .ok (.goto (-27), 3) := by decide +kernel
theorem dX6_touching_36 : decode cX6_touching 36 = .ok (.iload 4, 2) := by decide +kernel
theorem dX6_touching_38 : decode cX6_touching 38 = .ok (.ireturn, 1) := by decide +kernel
theorem dX6_daysWithin_0 : decode cX6_daysWithin 0 = .ok (.iconst 0, 1) := by decide +kernel
theorem dX6_daysWithin_1 : decode cX6_daysWithin 1 = .ok (.istore 4, 2) := by decide +kernel
theorem dX6_daysWithin_3 : decode cX6_daysWithin 3 = .ok (.iconst 0, 1) := by decide +kernel
theorem dX6_daysWithin_4 : decode cX6_daysWithin 4 = .ok (.istore 5, 2) := by decide +kernel
theorem dX6_daysWithin_6 : decode cX6_daysWithin 6 = .ok (.iload 5, 2) := by decide +kernel
theorem dX6_daysWithin_8 : decode cX6_daysWithin 8 = .ok (.aload_n 0, 1) := by decide +kernel
theorem dX6_daysWithin_9 : decode cX6_daysWithin 9 = .ok (.getfield 15, 3) := by decide +kernel
theorem dX6_daysWithin_12 : decode cX6_daysWithin 12 = .ok (.if_icmp .ge 33, 3) := by decide +kernel
theorem dX6_daysWithin_15 : decode cX6_daysWithin 15 = .ok (.aload_n 0, 1) := by decide +kernel
theorem dX6_daysWithin_16 : decode cX6_daysWithin 16 = .ok (.iload 5, 2) := by decide +kernel
theorem dX6_daysWithin_18 : decode cX6_daysWithin 18 = .ok (.iconst 0, 1) := by decide +kernel
theorem dX6_daysWithin_19 : decode cX6_daysWithin 19 = .ok (.invokevirtual 29, 3) := by decide +kernel
theorem dX6_daysWithin_22 : decode cX6_daysWithin 22 = .ok (.iload_n 1, 1) := by decide +kernel
theorem dX6_daysWithin_23 : decode cX6_daysWithin 23 = .ok (.if_icmp .ne 16, 3) := by decide +kernel
theorem dX6_daysWithin_26 : decode cX6_daysWithin 26 = .ok (.iload 4, 2) := by decide +kernel
theorem dX6_daysWithin_28 : decode cX6_daysWithin 28 = .ok (.aload_n 0, 1) := by decide +kernel
theorem dX6_daysWithin_29 : decode cX6_daysWithin 29 = .ok (.iload 5, 2) := by decide +kernel
theorem dX6_daysWithin_31 : decode cX6_daysWithin 31 = .ok (.iload_n 2, 1) := by decide +kernel
theorem dX6_daysWithin_32 : decode cX6_daysWithin 32 = .ok (.iload_n 3, 1) := by decide +kernel
theorem dX6_daysWithin_33 : decode cX6_daysWithin 33 = .ok (.invokevirtual 71, 3) := by decide +kernel
theorem dX6_daysWithin_36 : decode cX6_daysWithin 36 = .ok (.iadd, 1) := by decide +kernel
theorem dX6_daysWithin_37 : decode cX6_daysWithin 37 = .ok (.istore 4, 2) := by decide +kernel
theorem dX6_daysWithin_39 : decode cX6_daysWithin 39 = .ok (.iinc 5 1, 3) := by decide +kernel
theorem dX6_daysWithin_42 : decode cX6_daysWithin 42 = .ok (.goto (-36), 3) := by decide +kernel
theorem dX6_daysWithin_45 : decode cX6_daysWithin 45 = .ok (.iload 4, 2) := by decide +kernel
theorem dX6_daysWithin_47 : decode cX6_daysWithin 47 = .ok (.ireturn, 1) := by decide +kernel
theorem dX6_firstBareDay_0 : decode cX6_firstBareDay 0 = .ok (.iload_n 2, 1) := by decide +kernel
theorem dX6_firstBareDay_1 : decode cX6_firstBareDay 1 = .ok (.istore_n 3, 1) := by decide +kernel
theorem dX6_firstBareDay_2 : decode cX6_firstBareDay 2 = .ok (.iconst 0, 1) := by decide +kernel
theorem dX6_firstBareDay_3 : decode cX6_firstBareDay 3 = .ok (.istore 4, 2) := by decide +kernel
theorem dX6_firstBareDay_5 : decode cX6_firstBareDay 5 = .ok (.iload 4, 2) := by decide +kernel
theorem dX6_firstBareDay_7 : decode cX6_firstBareDay 7 = .ok (.aload_n 0, 1) := by decide +kernel
theorem dX6_firstBareDay_8 : decode cX6_firstBareDay 8 = .ok (.getfield 15, 3) := by decide +kernel
theorem dX6_firstBareDay_11 : decode cX6_firstBareDay 11 = .ok (.if_icmp .ge 31, 3) := by decide +kernel
theorem dX6_firstBareDay_14 : decode cX6_firstBareDay 14 = .ok (.aload_n 0, 1) := by decide +kernel
theorem dX6_firstBareDay_15 : decode cX6_firstBareDay 15 = .ok (.iload 4, 2) := by decide +kernel
theorem dX6_firstBareDay_17 : decode cX6_firstBareDay 17 = .ok (.iload_n 1, 1) := by decide +kernel
theorem dX6_firstBareDay_18 : decode cX6_firstBareDay 18 = .ok (.iload_n 3, 1) := by decide +kernel
theorem dX6_firstBareDay_19 : decode cX6_firstBareDay 19 = .ok (.iload_n 3, 1) := by decide +kernel
theorem dX6_firstBareDay_20 : decode cX6_firstBareDay 20 = .ok (.iconst 1, 1) := by decide +kernel
theorem dX6_firstBareDay_21 : decode cX6_firstBareDay 21 = .ok (.iadd, 1) := by decide +kernel
theorem dX6_firstBareDay_22 : decode cX6_firstBareDay 22 = .ok (.invokevirtual 52, 3) := by decide +kernel
theorem dX6_firstBareDay_25 : decode cX6_firstBareDay 25 = .ok (.ifCond .eq 11, 3) := by decide +kernel
theorem dX6_firstBareDay_28 : decode cX6_firstBareDay 28 = .ok (.aload_n 0, 1) := by decide +kernel
theorem dX6_firstBareDay_29 : decode cX6_firstBareDay 29 = .ok (.iload 4, 2) := by decide +kernel
theorem dX6_firstBareDay_31 : decode cX6_firstBareDay 31 = .ok (.iconst 3, 1) := by decide +kernel
theorem dX6_firstBareDay_32 : decode cX6_firstBareDay 32 = .ok (.invokevirtual 29, 3) := by decide +kernel
theorem dX6_firstBareDay_35 : decode cX6_firstBareDay 35 = .ok (.istore_n 3, 1) := by decide +kernel
theorem dX6_firstBareDay_36 : decode cX6_firstBareDay 36 = .ok (.iinc 4 1, 3) := by decide +kernel
theorem dX6_firstBareDay_39 : decode cX6_firstBareDay 39 = .ok (.goto (-34), 3) := by decide +kernel
theorem dX6_firstBareDay_42 : decode cX6_firstBareDay 42 = .ok (.iload_n 3, 1) := by decide +kernel
theorem dX6_firstBareDay_43 : decode cX6_firstBareDay 43 = .ok (.ireturn, 1) := by decide +kernel
theorem dX6_nextFrom_0 : decode cX6_nextFrom 0 = .ok (.bipush 100, 2) := by decide +kernel
theorem dX6_nextFrom_2 : decode cX6_nextFrom 2 = .ok (.istore_n 3, 1) := by decide +kernel
theorem dX6_nextFrom_3 : decode cX6_nextFrom 3 = .ok (.iconst 0, 1) := by decide +kernel
theorem dX6_nextFrom_4 : decode cX6_nextFrom 4 = .ok (.istore 4, 2) := by decide +kernel
theorem dX6_nextFrom_6 : decode cX6_nextFrom 6 = .ok (.iload 4, 2) := by decide +kernel
theorem dX6_nextFrom_8 : decode cX6_nextFrom 8 = .ok (.aload_n 0, 1) := by decide +kernel
theorem dX6_nextFrom_9 : decode cX6_nextFrom 9 = .ok (.getfield 15, 3) := by decide +kernel
theorem dX6_nextFrom_12 : decode cX6_nextFrom 12 = .ok (.if_icmp .ge 43, 3) := by decide +kernel
theorem dX6_nextFrom_15 : decode cX6_nextFrom 15 = .ok (.aload_n 0, 1) := by decide +kernel
theorem dX6_nextFrom_16 : decode cX6_nextFrom 16 = .ok (.iload 4, 2) := by decide +kernel
theorem dX6_nextFrom_18 : decode cX6_nextFrom 18 = .ok (.iconst 0, 1) := by decide +kernel
theorem dX6_nextFrom_19 : decode cX6_nextFrom 19 = .ok (.invokevirtual 29, 3) := by decide +kernel
theorem dX6_nextFrom_22 : decode cX6_nextFrom 22 = .ok (.iload_n 1, 1) := by decide +kernel
theorem dX6_nextFrom_23 : decode cX6_nextFrom 23 = .ok (.if_icmp .ne 26, 3) := by decide +kernel
theorem dX6_nextFrom_26 : decode cX6_nextFrom 26 = .ok (.aload_n 0, 1) := by decide +kernel
theorem dX6_nextFrom_27 : decode cX6_nextFrom 27 = .ok (.iload 4, 2) := by decide +kernel
theorem dX6_nextFrom_29 : decode cX6_nextFrom 29 = .ok (.iconst 2, 1) := by decide +kernel
theorem dX6_nextFrom_30 : decode cX6_nextFrom 30 = .ok (.invokevirtual 29, 3) := by decide +kernel
theorem dX6_nextFrom_33 : decode cX6_nextFrom 33 = .ok (.iload_n 2, 1) := by decide +kernel
theorem dX6_nextFrom_34 : decode cX6_nextFrom 34 = .ok (.if_icmp .le 15, 3) := by decide +kernel
theorem dX6_nextFrom_37 : decode cX6_nextFrom 37 = .ok (.iload_n 3, 1) := by decide +kernel
theorem dX6_nextFrom_38 : decode cX6_nextFrom 38 = .ok (.aload_n 0, 1) := by decide +kernel
theorem dX6_nextFrom_39 : decode cX6_nextFrom 39 = .ok (.iload 4, 2) := by decide +kernel
theorem dX6_nextFrom_41 : decode cX6_nextFrom 41 = .ok (.iconst 2, 1) := by decide +kernel
theorem dX6_nextFrom_42 : decode cX6_nextFrom 42 = .ok (.invokevirtual 29, 3) := by decide +kernel
theorem dX6_nextFrom_45 : decode cX6_nextFrom 45 = .ok (.invokestatic 38, 3) := by decide +kernel
theorem dX6_nextFrom_48 : decode cX6_nextFrom 48 = .ok (.istore_n 3, 1) := by decide +kernel
theorem dX6_nextFrom_49 : decode cX6_nextFrom 49 = .ok (.iinc 4 1, 3) := by decide +kernel
theorem dX6_nextFrom_52 : decode cX6_nextFrom 52 = .ok (.goto (-46), 3) := by decide +kernel
theorem dX6_nextFrom_55 : decode cX6_nextFrom 55 = .ok (.iload_n 3, 1) := by decide +kernel
theorem dX6_nextFrom_56 : decode cX6_nextFrom 56 = .ok (.ireturn, 1) := by decide +kernel
theorem dX6_numberFor_0 : decode cX6_numberFor 0 = .ok (.iconst 0, 1) := by decide +kernel
theorem dX6_numberFor_1 : decode cX6_numberFor 1 = .ok (.istore_n 3, 1) := by decide +kernel
theorem dX6_numberFor_2 : decode cX6_numberFor 2 = .ok (.iconst 0, 1) := by decide +kernel
theorem dX6_numberFor_3 : decode cX6_numberFor 3 = .ok (.istore 4, 2) := by decide +kernel
theorem dX6_numberFor_5 : decode cX6_numberFor 5 = .ok (.iload 4, 2) := by decide +kernel
theorem dX6_numberFor_7 : decode cX6_numberFor 7 = .ok (.aload_n 0, 1) := by decide +kernel
theorem dX6_numberFor_8 : decode cX6_numberFor 8 = .ok (.getfield 15, 3) := by decide +kernel
theorem dX6_numberFor_11 : decode cX6_numberFor 11 = .ok (.if_icmp .ge 45, 3) := by decide +kernel
theorem dX6_numberFor_14 : decode cX6_numberFor 14 = .ok (.aload_n 0, 1) := by decide +kernel
theorem dX6_numberFor_15 : decode cX6_numberFor 15 = .ok (.iload 4, 2) := by decide +kernel
theorem dX6_numberFor_17 : decode cX6_numberFor 17 = .ok (.iconst 0, 1) := by decide +kernel
theorem dX6_numberFor_18 : decode cX6_numberFor 18 = .ok (.invokevirtual 29, 3) := by decide +kernel
theorem dX6_numberFor_21 : decode cX6_numberFor 21 = .ok (.iload_n 1, 1) := by decide +kernel
theorem dX6_numberFor_22 : decode cX6_numberFor 22 = .ok (.if_icmp .lt 25, 3) := by decide +kernel
theorem dX6_numberFor_25 : decode cX6_numberFor 25 = .ok (.aload_n 0, 1) := by decide +kernel
theorem dX6_numberFor_26 : decode cX6_numberFor 26 = .ok (.iload 4, 2) := by decide +kernel
theorem dX6_numberFor_28 : decode cX6_numberFor 28 = .ok (.iconst 0, 1) := by decide +kernel
theorem dX6_numberFor_29 : decode cX6_numberFor 29 = .ok (.invokevirtual 29, 3) := by decide +kernel
theorem dX6_numberFor_32 : decode cX6_numberFor 32 = .ok (.iload_n 1, 1) := by decide +kernel
theorem dX6_numberFor_33 : decode cX6_numberFor 33 = .ok (.if_icmp .ne 17, 3) := by decide +kernel
theorem dX6_numberFor_36 : decode cX6_numberFor 36 = .ok (.aload_n 0, 1) := by decide +kernel
theorem dX6_numberFor_37 : decode cX6_numberFor 37 = .ok (.iload 4, 2) := by decide +kernel
theorem dX6_numberFor_39 : decode cX6_numberFor 39 = .ok (.iconst 2, 1) := by decide +kernel
theorem dX6_numberFor_40 : decode cX6_numberFor 40 = .ok (.invokevirtual 29, 3) := by decide +kernel
theorem dX6_numberFor_43 : decode cX6_numberFor 43 = .ok (.iload_n 2, 1) := by decide +kernel
theorem dX6_numberFor_44 : decode cX6_numberFor 44 = .ok (.if_icmp .ge 6, 3) := by decide +kernel
theorem dX6_numberFor_47 : decode cX6_numberFor 47 = .ok (.iinc 3 1, 3) := by decide +kernel
theorem dX6_numberFor_50 : decode cX6_numberFor 50 = .ok (.iinc 4 1, 3) := by decide +kernel
theorem dX6_numberFor_53 : decode cX6_numberFor 53 = .ok (.goto (-48), 3) := by decide +kernel
theorem dX6_numberFor_56 : decode cX6_numberFor 56 = .ok (.iload_n 3, 1) := by decide +kernel
theorem dX6_numberFor_57 : decode cX6_numberFor 57 = .ok (.ireturn, 1) := by decide +kernel
theorem dX6_followsOn_0 : decode cX6_followsOn 0 = .ok (.iload_n 1, 1) := by decide +kernel
theorem dX6_followsOn_1 : decode cX6_followsOn 1 = .ok (.ifCond .le 41, 3) := by decide +kernel
theorem dX6_followsOn_4 : decode cX6_followsOn 4 = .ok (.aload_n 0, 1) := by decide +kernel
theorem dX6_followsOn_5 : decode cX6_followsOn 5 = .ok (.iload_n 1, 1) := by decide +kernel
theorem dX6_followsOn_6 : decode cX6_followsOn 6 = .ok (.iconst 1, 1) := by decide +kernel
theorem dX6_followsOn_7 : decode cX6_followsOn 7 = .ok (.isub, 1) := by decide +kernel
theorem dX6_followsOn_8 : decode cX6_followsOn 8 = .ok (.iconst 0, 1) := by decide +kernel
theorem dX6_followsOn_9 : decode cX6_followsOn 9 = .ok (.invokevirtual 29, 3) := by decide +kernel
theorem dX6_followsOn_12 : decode cX6_followsOn 12 = .ok (.aload_n 0, 1) := by decide +kernel
theorem dX6_followsOn_13 : decode cX6_followsOn 13 = .ok (.iload_n 1, 1) := by decide +kernel
theorem dX6_followsOn_14 : decode cX6_followsOn 14 = .ok (.iconst 0, 1) := by decide +kernel
theorem dX6_followsOn_15 : decode cX6_followsOn 15 = .ok (.invokevirtual 29, 3) := by decide +kernel
theorem dX6_followsOn_18 : decode cX6_followsOn 18 = .ok (.if_icmp .ne 24, 3) := by decide +kernel
theorem dX6_followsOn_21 : decode cX6_followsOn 21 = .ok (.aload_n 0, 1) := by decide +kernel
theorem dX6_followsOn_22 : decode cX6_followsOn 22 = .ok (.iload_n 1, 1) := by decide +kernel
theorem dX6_followsOn_23 : decode cX6_followsOn 23 = .ok (.iconst 1, 1) := by decide +kernel
theorem dX6_followsOn_24 : decode cX6_followsOn 24 = .ok (.isub, 1) := by decide +kernel
theorem dX6_followsOn_25 : decode cX6_followsOn 25 = .ok (.iconst 3, 1) := by decide +kernel
theorem dX6_followsOn_26 : decode cX6_followsOn 26 = .ok (.invokevirtual 29, 3) := by decide +kernel
theorem dX6_followsOn_29 : decode cX6_followsOn 29 = .ok (.aload_n 0, 1) := by decide +kernel
theorem dX6_followsOn_30 : decode cX6_followsOn 30 = .ok (.iload_n 1, 1) := by decide +kernel
theorem dX6_followsOn_31 : decode cX6_followsOn 31 = .ok (.iconst 2, 1) := by decide +kernel
theorem dX6_followsOn_32 : decode cX6_followsOn 32 = .ok (.invokevirtual 29, 3) := by decide +kernel
theorem dX6_followsOn_35 : decode cX6_followsOn 35 = .ok (.if_icmp .ne 7, 3) := by decide +kernel
theorem dX6_followsOn_38 : decode cX6_followsOn 38 = .ok (.iconst 1, 1) := by decide +kernel
theorem dX6_followsOn_39 : decode cX6_followsOn 39 = .ok (.goto 4, 3) := by decide +kernel
theorem dX6_followsOn_42 : decode cX6_followsOn 42 = .ok (.iconst 0, 1) := by decide +kernel
theorem dX6_followsOn_43 : decode cX6_followsOn 43 = .ok (.ireturn, 1) := by decide +kernel
theorem dX6_isAlikeBefore_0 : decode cX6_isAlikeBefore 0 = .ok (.aload_n 0, 1) := by decide +kernel
theorem dX6_isAlikeBefore_1 : decode cX6_isAlikeBefore 1 = .ok (.iload_n 1, 1) := by decide +kernel
theorem dX6_isAlikeBefore_2 : decode cX6_isAlikeBefore 2 = .ok (.invokevirtual 75, 3) := by decide +kernel
theorem dX6_isAlikeBefore_5 : decode cX6_isAlikeBefore 5 = .ok (.ifCond .eq 41, 3) := by decide +kernel
theorem dX6_isAlikeBefore_8 : decode cX6_isAlikeBefore 8 = .ok (.aload_n 0, 1) := by decide +kernel
theorem dX6_isAlikeBefore_9 : decode cX6_isAlikeBefore 9 = .ok (.iload_n 1, 1) := by decide +kernel
theorem dX6_isAlikeBefore_10 : decode cX6_isAlikeBefore 10 = .ok (.iconst 1, 1) := by decide +kernel
theorem dX6_isAlikeBefore_11 : decode cX6_isAlikeBefore 11 = .ok (.isub, 1) := by decide +kernel
theorem dX6_isAlikeBefore_12 : decode cX6_isAlikeBefore 12 = .ok (.iconst 1, 1) := by decide +kernel
theorem dX6_isAlikeBefore_13 : decode cX6_isAlikeBefore 13 = .ok (.invokevirtual 29, 3) := by decide +kernel
theorem dX6_isAlikeBefore_16 : decode cX6_isAlikeBefore 16 = .ok (.aload_n 0, 1) := by decide +kernel
theorem dX6_isAlikeBefore_17 : decode cX6_isAlikeBefore 17 = .ok (.iload_n 1, 1) := by decide +kernel
theorem dX6_isAlikeBefore_18 : decode cX6_isAlikeBefore 18 = .ok (.iconst 1, 1) := by decide +kernel
theorem dX6_isAlikeBefore_19 : decode cX6_isAlikeBefore 19 = .ok (.invokevirtual 29, 3) := by decide +kernel
theorem dX6_isAlikeBefore_22 : decode cX6_isAlikeBefore 22 = .ok (.if_icmp .ne 24, 3) := by decide +kernel
theorem dX6_isAlikeBefore_25 : decode cX6_isAlikeBefore 25 = .ok (.aload_n 0, 1) := by decide +kernel
theorem dX6_isAlikeBefore_26 : decode cX6_isAlikeBefore 26 = .ok (.iload_n 1, 1) := by decide +kernel
theorem dX6_isAlikeBefore_27 : decode cX6_isAlikeBefore 27 = .ok (.iconst 1, 1) := by decide +kernel
theorem dX6_isAlikeBefore_28 : decode cX6_isAlikeBefore 28 = .ok (.isub, 1) := by decide +kernel
theorem dX6_isAlikeBefore_29 : decode cX6_isAlikeBefore 29 = .ok (.iconst 4, 1) := by decide +kernel
theorem dX6_isAlikeBefore_30 : decode cX6_isAlikeBefore 30 = .ok (.invokevirtual 29, 3) := by decide +kernel
theorem dX6_isAlikeBefore_33 : decode cX6_isAlikeBefore 33 = .ok (.aload_n 0, 1) := by decide +kernel
theorem dX6_isAlikeBefore_34 : decode cX6_isAlikeBefore 34 = .ok (.iload_n 1, 1) := by decide +kernel
theorem dX6_isAlikeBefore_35 : decode cX6_isAlikeBefore 35 = .ok (.iconst 4, 1) := by decide +kernel
theorem dX6_isAlikeBefore_36 : decode cX6_isAlikeBefore 36 = .ok (.invokevirtual 29, 3) := by decide +kernel
theorem dX6_isAlikeBefore_39 : decode cX6_isAlikeBefore 39 = .ok (.if_icmp .ne 7, 3) := by decide +kernel
theorem dX6_isAlikeBefore_42 : decode cX6_isAlikeBefore 42 = .ok (.iconst 1, 1) := by decide +kernel
theorem dX6_isAlikeBefore_43 : decode cX6_isAlikeBefore 43 = .ok (.goto 4, 3) := by decide +kernel
theorem dX6_isAlikeBefore_46 : decode cX6_isAlikeBefore 46 = .ok (.iconst 0, 1) := by decide +kernel
theorem dX6_isAlikeBefore_47 : decode cX6_isAlikeBefore 47 = .ok (.ireturn, 1) := by decide +kernel
theorem dX6_alikeNeighbours_0 : decode cX6_alikeNeighbours 0 = .ok (.iconst 0, 1) := by decide +kernel
theorem dX6_alikeNeighbours_1 : decode cX6_alikeNeighbours 1 = .ok (.istore_n 1, 1) := by decide +kernel
theorem dX6_alikeNeighbours_2 : decode cX6_alikeNeighbours 2 = .ok (.iconst 1, 1) := by decide +kernel
theorem dX6_alikeNeighbours_3 : decode cX6_alikeNeighbours 3 = .ok (.istore_n 2, 1) := by decide +kernel
theorem dX6_alikeNeighbours_4 : decode cX6_alikeNeighbours 4 = .ok (.iload_n 2, 1) := by decide +kernel
theorem dX6_alikeNeighbours_5 : decode cX6_alikeNeighbours 5 = .ok (.aload_n 0, 1) := by decide +kernel
theorem dX6_alikeNeighbours_6 : decode cX6_alikeNeighbours 6 = .ok (.getfield 15, 3) := by decide +kernel
theorem dX6_alikeNeighbours_9 : decode cX6_alikeNeighbours 9 = .ok (.if_icmp .ge 20, 3) := by decide +kernel
theorem dX6_alikeNeighbours_12 : decode cX6_alikeNeighbours 12 = .ok (.aload_n 0, 1) := by decide +kernel
theorem dX6_alikeNeighbours_13 : decode cX6_alikeNeighbours 13 = .ok (.iload_n 2, 1) := by decide +kernel
theorem dX6_alikeNeighbours_14 : decode cX6_alikeNeighbours 14 = .ok (.invokevirtual 64, 3) := by decide +kernel
theorem dX6_alikeNeighbours_17 : decode cX6_alikeNeighbours 17 = .ok (.ifCond .eq 6, 3) := by decide +kernel
theorem dX6_alikeNeighbours_20 : decode cX6_alikeNeighbours 20 = .ok (.iinc 1 1, 3) := by decide +kernel
theorem dX6_alikeNeighbours_23 : decode cX6_alikeNeighbours 23 = .ok (.iinc 2 1, 3) := by decide +kernel
theorem dX6_alikeNeighbours_26 : decode cX6_alikeNeighbours 26 = .ok (.goto (-22), 3) := by decide +kernel
theorem dX6_alikeNeighbours_29 : decode cX6_alikeNeighbours 29 = .ok (.iload_n 1, 1) := by decide +kernel
theorem dX6_alikeNeighbours_30 : decode cX6_alikeNeighbours 30 = .ok (.ireturn, 1) := by decide +kernel
theorem dX6_allDays_0 : decode cX6_allDays 0 = .ok (.iconst 0, 1) := by decide +kernel
theorem dX6_allDays_1 : decode cX6_allDays 1 = .ok (.istore_n 1, 1) := by decide +kernel
theorem dX6_allDays_2 : decode cX6_allDays 2 = .ok (.iconst 0, 1) := by decide +kernel
theorem dX6_allDays_3 : decode cX6_allDays 3 = .ok (.istore_n 2, 1) := by decide +kernel
theorem dX6_allDays_4 : decode cX6_allDays 4 = .ok (.iload_n 2, 1) := by decide +kernel
theorem dX6_allDays_5 : decode cX6_allDays 5 = .ok (.aload_n 0, 1) := by decide +kernel
theorem dX6_allDays_6 : decode cX6_allDays 6 = .ok (.getfield 15, 3) := by decide +kernel
theorem dX6_allDays_9 : decode cX6_allDays 9 = .ok (.if_icmp .ge 17, 3) := by decide +kernel
theorem dX6_allDays_12 : decode cX6_allDays 12 = .ok (.iload_n 1, 1) := by decide +kernel
theorem dX6_allDays_13 : decode cX6_allDays 13 = .ok (.aload_n 0, 1) := by decide +kernel
theorem dX6_allDays_14 : decode cX6_allDays 14 = .ok (.iload_n 2, 1) := by decide +kernel
theorem dX6_allDays_15 : decode cX6_allDays 15 = .ok (.invokevirtual 78, 3) := by decide +kernel
theorem dX6_allDays_18 : decode cX6_allDays 18 = .ok (.iadd, 1) := by decide +kernel
theorem dX6_allDays_19 : decode cX6_allDays 19 = .ok (.istore_n 1, 1) := by decide +kernel
theorem dX6_allDays_20 : decode cX6_allDays 20 = .ok (.iinc 2 1, 3) := by decide +kernel
theorem dX6_allDays_23 : decode cX6_allDays 23 = .ok (.goto (-19), 3) := by decide +kernel
theorem dX6_allDays_26 : decode cX6_allDays 26 = .ok (.iload_n 1, 1) := by decide +kernel
theorem dX6_allDays_27 : decode cX6_allDays 27 = .ok (.ireturn, 1) := by decide +kernel
theorem dX6_rowsWithRef_0 : decode cX6_rowsWithRef 0 = .ok (.iconst 0, 1) := by decide +kernel
theorem dX6_rowsWithRef_1 : decode cX6_rowsWithRef 1 = .ok (.istore_n 1, 1) := by decide +kernel
theorem dX6_rowsWithRef_2 : decode cX6_rowsWithRef 2 = .ok (.iconst 0, 1) := by decide +kernel
theorem dX6_rowsWithRef_3 : decode cX6_rowsWithRef 3 = .ok (.istore_n 2, 1) := by decide +kernel
theorem dX6_rowsWithRef_4 : decode cX6_rowsWithRef 4 = .ok (.iload_n 2, 1) := by decide +kernel
theorem dX6_rowsWithRef_5 : decode cX6_rowsWithRef 5 = .ok (.aload_n 0, 1) := by decide +kernel
theorem dX6_rowsWithRef_6 : decode cX6_rowsWithRef 6 = .ok (.getfield 15, 3) := by decide +kernel
theorem dX6_rowsWithRef_9 : decode cX6_rowsWithRef 9 = .ok (.if_icmp .ge 23, 3) := by decide +kernel
theorem dX6_rowsWithRef_12 : decode cX6_rowsWithRef 12 = .ok (.aload_n 0, 1) := by decide +kernel
theorem dX6_rowsWithRef_13 : decode cX6_rowsWithRef 13 = .ok (.iload_n 2, 1) := by decide +kernel
theorem dX6_rowsWithRef_14 : decode cX6_rowsWithRef 14 = .ok (.iconst 4, 1) := by decide +kernel
theorem dX6_rowsWithRef_15 : decode cX6_rowsWithRef 15 = .ok (.invokevirtual 29, 3) := by decide +kernel
theorem dX6_rowsWithRef_18 : decode cX6_rowsWithRef 18 = .ok (.bipush 10, 2) := by decide +kernel
theorem dX6_rowsWithRef_20 : decode cX6_rowsWithRef 20 = .ok (.if_icmp .eq 6, 3) := by decide +kernel
theorem dX6_rowsWithRef_23 : decode cX6_rowsWithRef 23 = .ok (.iinc 1 1, 3) := by decide +kernel
theorem dX6_rowsWithRef_26 : decode cX6_rowsWithRef 26 = .ok (.iinc 2 1, 3) := by decide +kernel
theorem dX6_rowsWithRef_29 : decode cX6_rowsWithRef 29 = .ok (.goto (-25), 3) := by decide +kernel
theorem dX6_rowsWithRef_32 : decode cX6_rowsWithRef 32 = .ok (.iload_n 1, 1) := by decide +kernel
theorem dX6_rowsWithRef_33 : decode cX6_rowsWithRef 33 = .ok (.ireturn, 1) := by decide +kernel
theorem dX6_fromTimesValue_0 : decode cX6_fromTimesValue 0 = .ok (.iconst 0, 1) := by decide +kernel
theorem dX6_fromTimesValue_1 : decode cX6_fromTimesValue 1 = .ok (.istore_n 1, 1) := by decide +kernel
theorem dX6_fromTimesValue_2 : decode cX6_fromTimesValue 2 = .ok (.iconst 0, 1) := by decide +kernel
theorem dX6_fromTimesValue_3 : decode cX6_fromTimesValue 3 = .ok (.istore_n 2, 1) := by decide +kernel
theorem dX6_fromTimesValue_4 : decode cX6_fromTimesValue 4 = .ok (.iload_n 2, 1) := by decide +kernel
theorem dX6_fromTimesValue_5 : decode cX6_fromTimesValue 5 = .ok (.aload_n 0, 1) := by decide +kernel
theorem dX6_fromTimesValue_6 : decode cX6_fromTimesValue 6 = .ok (.getfield 15, 3) := by decide +kernel
theorem dX6_fromTimesValue_9 : decode cX6_fromTimesValue 9 = .ok (.if_icmp .ge 25, 3) := by decide +kernel
theorem dX6_fromTimesValue_12 : decode cX6_fromTimesValue 12 = .ok (.iload_n 1, 1) := by decide +kernel
theorem dX6_fromTimesValue_13 : decode cX6_fromTimesValue 13 = .ok (.aload_n 0, 1) := by decide +kernel
theorem dX6_fromTimesValue_14 : decode cX6_fromTimesValue 14 = .ok (.iload_n 2, 1) := by decide +kernel
theorem dX6_fromTimesValue_15 : decode cX6_fromTimesValue 15 = .ok (.iconst 2, 1) := by decide +kernel
theorem dX6_fromTimesValue_16 : decode cX6_fromTimesValue 16 = .ok (.invokevirtual 29, 3) := by decide +kernel
theorem dX6_fromTimesValue_19 : decode cX6_fromTimesValue 19 = .ok (.aload_n 0, 1) := by decide +kernel
theorem dX6_fromTimesValue_20 : decode cX6_fromTimesValue 20 = .ok (.iload_n 2, 1) := by decide +kernel
theorem dX6_fromTimesValue_21 : decode cX6_fromTimesValue 21 = .ok (.iconst 1, 1) := by decide +kernel
theorem dX6_fromTimesValue_22 : decode cX6_fromTimesValue 22 = .ok (.invokevirtual 29, 3) := by decide +kernel
theorem dX6_fromTimesValue_25 : decode cX6_fromTimesValue 25 = .ok (.imul, 1) := by decide +kernel
theorem dX6_fromTimesValue_26 : decode cX6_fromTimesValue 26 = .ok (.iadd, 1) := by decide +kernel
theorem dX6_fromTimesValue_27 : decode cX6_fromTimesValue 27 = .ok (.istore_n 1, 1) := by decide +kernel
theorem dX6_fromTimesValue_28 : decode cX6_fromTimesValue 28 = .ok (.iinc 2 1, 3) := by decide +kernel
theorem dX6_fromTimesValue_31 : decode cX6_fromTimesValue 31 = .ok (.goto (-27), 3) := by decide +kernel
theorem dX6_fromTimesValue_34 : decode cX6_fromTimesValue 34 = .ok (.iload_n 1, 1) := by decide +kernel
theorem dX6_fromTimesValue_35 : decode cX6_fromTimesValue 35 = .ok (.ireturn, 1) := by decide +kernel
theorem dX7_init_0 : decode cX7_init 0 = .ok (.aload_n 0, 1) := by decide +kernel
theorem dX7_init_1 : decode cX7_init 1 = .ok (.invokespecial 3, 3) := by decide +kernel
theorem dX7_init_4 : decode cX7_init 4 = .ok (.aload_n 0, 1) := by decide +kernel
theorem dX7_init_5 : decode cX7_init 5 = .ok (.bipush 80, 2) := by decide +kernel
theorem dX7_init_7 : decode cX7_init 7 = .ok (.newarray .char, 2) := by decide +kernel
theorem dX7_init_9 : decode cX7_init 9 = .ok (.putfield 11, 3) := by decide +kernel
theorem dX7_init_12 : decode cX7_init 12 = .ok (.return_, 1) := by decide +kernel
theorem dX7_clear_0 : decode cX7_clear 0 = .ok (.aload_n 0, 1) := by decide +kernel
theorem dX7_clear_1 : decode cX7_clear 1 = .ok (.iconst 0, 1) := by decide +kernel
theorem dX7_clear_2 : decode cX7_clear 2 = .ok (.putfield 15, 3) := by decide +kernel
theorem dX7_clear_5 : decode cX7_clear 5 = .ok (.return_, 1) := by decide +kernel
theorem dX7_appendFour_0 : decode cX7_appendFour 0 = .ok (.aload_n 0, 1) := by decide +kernel
theorem dX7_appendFour_1 : decode cX7_appendFour 1 = .ok (.getfield 15, 3) := by decide +kernel
theorem dX7_appendFour_4 : decode cX7_appendFour 4 = .ok (.iconst 4, 1) := by decide +kernel
theorem dX7_appendFour_5 : decode cX7_appendFour 5 = .ok (.iadd, 1) := by decide +kernel
theorem dX7_appendFour_6 : decode cX7_appendFour 6 = .ok (.bipush 80, 2) := by decide +kernel
theorem dX7_appendFour_8 : decode cX7_appendFour 8 = .ok (.if_icmp .le 5, 3) := by decide +kernel
theorem dX7_appendFour_11 : decode cX7_appendFour 11 = .ok (.iconst 0, 1) := by decide +kernel
theorem dX7_appendFour_12 : decode cX7_appendFour 12 = .ok (.ireturn, 1) := by decide +kernel
theorem dX7_appendFour_13 : decode cX7_appendFour 13 = .ok (.iconst 0, 1) := by decide +kernel
theorem dX7_appendFour_14 : decode cX7_appendFour 14 = .ok (.istore_n 2, 1) := by decide +kernel
theorem dX7_appendFour_15 : decode cX7_appendFour 15 = .ok (.iload_n 2, 1) := by decide +kernel
theorem dX7_appendFour_16 : decode cX7_appendFour 16 = .ok (.iconst 4, 1) := by decide +kernel
theorem dX7_appendFour_17 : decode cX7_appendFour 17 = .ok (.if_icmp .ge 42, 3) := by decide +kernel
theorem dX7_appendFour_20 : decode cX7_appendFour 20 = .ok (.aload_n 0, 1) := by decide +kernel
theorem dX7_appendFour_21 : decode cX7_appendFour 21 = .ok (.getfield 11, 3) := by decide +kernel
theorem dX7_appendFour_24 : decode cX7_appendFour 24 = .ok (.aload_n 0, 1) := by decide +kernel
theorem dX7_appendFour_25 : decode cX7_appendFour 25 = .ok (.getfield 15, 3) := by decide +kernel
theorem dX7_appendFour_28 : decode cX7_appendFour 28 = .ok (.iload_n 1, 1) := by decide +kernel
theorem dX7_appendFour_29 : decode cX7_appendFour 29 = .ok (.bipush 24, 2) := by decide +kernel
theorem dX7_appendFour_31 : decode cX7_appendFour 31 = .ok (.bipush 8, 2) := by decide +kernel
theorem dX7_appendFour_33 : decode cX7_appendFour 33 = .ok (.iload_n 2, 1) := by decide +kernel
theorem dX7_appendFour_34 : decode cX7_appendFour 34 = .ok (.imul, 1) := by decide +kernel
theorem dX7_appendFour_35 : decode cX7_appendFour 35 = .ok (.isub, 1) := by decide +kernel
theorem dX7_appendFour_36 : decode cX7_appendFour 36 = .ok (.iushr, 1) := by decide +kernel
theorem dX7_appendFour_37 : decode cX7_appendFour 37 = .ok (.sipush 255, 3) := by decide +kernel
theorem dX7_appendFour_40 : decode cX7_appendFour 40 = .ok (.iand, 1) := by decide +kernel
theorem dX7_appendFour_41 : decode cX7_appendFour 41 = .ok (.i2c, 1) := by decide +kernel
theorem dX7_appendFour_42 : decode cX7_appendFour 42 = .ok (.castore, 1) := by decide +kernel
theorem dX7_appendFour_43 : decode cX7_appendFour 43 = .ok (.aload_n 0, 1) := by decide +kernel
theorem dX7_appendFour_44 : decode cX7_appendFour 44 = .ok (.dup, 1) := by decide +kernel
theorem dX7_appendFour_45 : decode cX7_appendFour 45 = .ok (.getfield 15, 3) := by decide +kernel
theorem dX7_appendFour_48 : decode cX7_appendFour 48 = .ok (.iconst 1, 1) := by decide +kernel
theorem dX7_appendFour_49 : decode cX7_appendFour 49 = .ok (.iadd, 1) := by decide +kernel
theorem dX7_appendFour_50 : decode cX7_appendFour 50 = .ok (.putfield 15, 3) := by decide +kernel
theorem dX7_appendFour_53 : decode cX7_appendFour 53 = .ok (.iinc 2 1, 3) := by decide +kernel
theorem dX7_appendFour_56 : decode cX7_appendFour 56 = .ok (.goto (-41), 3) := by decide +kernel
theorem dX7_appendFour_59 : decode cX7_appendFour 59 = .ok (.iconst 1, 1) := by decide +kernel
theorem dX7_appendFour_60 : decode cX7_appendFour 60 = .ok (.ireturn, 1) := by decide +kernel
theorem dX7_signAt_0 : decode cX7_signAt 0 = .ok (.iload_n 1, 1) := by decide +kernel
theorem dX7_signAt_1 : decode cX7_signAt 1 = .ok (.ifCond .lt 26, 3) := by decide +kernel
theorem dX7_signAt_4 : decode cX7_signAt 4 = .ok (.iload_n 1, 1) := by decide +kernel
theorem dX7_signAt_5 : decode cX7_signAt 5 = .ok (.aload_n 0, 1) := by decide +kernel
theorem dX7_signAt_6 : decode cX7_signAt 6 = .ok (.getfield 15, 3) := by decide +kernel
theorem dX7_signAt_9 : decode cX7_signAt 9 = .ok (.if_icmp .ge 18, 3) := by decide +kernel
theorem dX7_signAt_12 : decode cX7_signAt 12 = .ok (.iload_n 1, 1) := by decide +kernel
theorem dX7_signAt_13 : decode cX7_signAt 13 = .ok (.bipush 80, 2) := by decide +kernel
theorem dX7_signAt_15 : decode cX7_signAt 15 = .ok (.if_icmp .ge 12, 3) := by decide +kernel
theorem dX7_signAt_18 : decode cX7_signAt 18 = .ok (.aload_n 0, 1) := by decide +kernel
theorem dX7_signAt_19 : decode cX7_signAt 19 = .ok (.getfield 11, 3) := by decide +kernel
theorem dX7_signAt_22 : decode cX7_signAt 22 = .ok (.iload_n 1, 1) := by decide +kernel
theorem dX7_signAt_23 : decode cX7_signAt 23 = .ok (.caload, 1) := by decide +kernel
theorem dX7_signAt_24 : decode cX7_signAt 24 = .ok (.goto 4, 3) := by decide +kernel
theorem dX7_signAt_27 : decode cX7_signAt 27 = .ok (.iconst (-1), 1) := by decide +kernel
theorem dX7_signAt_28 : decode cX7_signAt 28 = .ok (.ireturn, 1) := by decide +kernel
theorem dX7_digitAt_0 : decode cX7_digitAt 0 = .ok (.aload_n 0, 1) := by decide +kernel
theorem dX7_digitAt_1 : decode cX7_digitAt 1 = .ok (.iload_n 1, 1) := by decide +kernel
theorem dX7_digitAt_2 : decode cX7_digitAt 2 = .ok (.invokevirtual 19, 3) := by decide +kernel
theorem dX7_digitAt_5 : decode cX7_digitAt 5 = .ok (.istore_n 2, 1) := by decide +kernel
theorem dX7_digitAt_6 : decode cX7_digitAt 6 = .ok (.iload_n 2, 1) := by decide +kernel
theorem dX7_digitAt_7 : decode cX7_digitAt 7 = .ok (.bipush 48, 2) := by decide +kernel
theorem dX7_digitAt_9 : decode cX7_digitAt 9 = .ok (.if_icmp .lt 16, 3) := by decide +kernel
theorem dX7_digitAt_12 : decode cX7_digitAt 12 = .ok (.iload_n 2, 1) := by decide +kernel
theorem dX7_digitAt_13 : decode cX7_digitAt 13 = .ok (.bipush 57, 2) := by decide +kernel
theorem dX7_digitAt_15 : decode cX7_digitAt 15 = .ok (.if_icmp .gt 10, 3) := by decide +kernel
theorem dX7_digitAt_18 : decode cX7_digitAt 18 = .ok (.iload_n 2, 1) := by decide +kernel
theorem dX7_digitAt_19 : decode cX7_digitAt 19 = .ok (.bipush 48, 2) := by decide +kernel
theorem dX7_digitAt_21 : decode cX7_digitAt 21 = .ok (.isub, 1) := by decide +kernel
theorem dX7_digitAt_22 : decode cX7_digitAt 22 = .ok (.goto 4, 3) := by decide +kernel
theorem dX7_digitAt_25 : decode cX7_digitAt 25 = .ok (.iconst 0, 1) := by decide +kernel
theorem dX7_digitAt_26 : decode cX7_digitAt 26 = .ok (.ireturn, 1) := by decide +kernel
theorem dX7_pairAt_0 : decode cX7_pairAt 0 = .ok (.bipush 10, 2) := by decide +kernel
theorem dX7_pairAt_2 : decode cX7_pairAt 2 = .ok (.aload_n 0, 1) := by decide +kernel
theorem dX7_pairAt_3 : decode cX7_pairAt 3 = .ok (.iload_n 1, 1) := by decide +kernel
theorem dX7_pairAt_4 : decode cX7_pairAt 4 = .ok (.invokevirtual 23, 3) := by decide +kernel
theorem dX7_pairAt_7 : decode cX7_pairAt 7 = .ok (.imul, 1) := by decide +kernel
theorem dX7_pairAt_8 : decode cX7_pairAt 8 = .ok (.aload_n 0, 1) := by decide +kernel
theorem dX7_pairAt_9 : decode cX7_pairAt 9 = .ok (.iload_n 1, 1) := by decide +kernel
theorem dX7_pairAt_10 : decode cX7_pairAt 10 = .ok (.iconst 1, 1) := by decide +kernel
theorem dX7_pairAt_11 : decode cX7_pairAt 11 = .ok (.iadd, 1) := by decide +kernel
theorem dX7_pairAt_12 : decode cX7_pairAt 12 = .ok (.invokevirtual 23, 3) := by decide +kernel
theorem dX7_pairAt_15 : decode cX7_pairAt 15 = .ok (.iadd, 1) := by decide +kernel
theorem dX7_pairAt_16 : decode cX7_pairAt 16 = .ok (.ireturn, 1) := by decide +kernel
theorem dX7_toAt_0 : decode cX7_toAt 0 = .ok (.aload_n 0, 1) := by decide +kernel
theorem dX7_toAt_1 : decode cX7_toAt 1 = .ok (.iload_n 1, 1) := by decide +kernel
theorem dX7_toAt_2 : decode cX7_toAt 2 = .ok (.invokevirtual 26, 3) := by decide +kernel
theorem dX7_toAt_5 : decode cX7_toAt 5 = .ok (.istore_n 2, 1) := by decide +kernel
theorem dX7_toAt_6 : decode cX7_toAt 6 = .ok (.iload_n 2, 1) := by decide +kernel
theorem dX7_toAt_7 : decode cX7_toAt 7 = .ok (.ifCond .ne 8, 3) := by decide +kernel
theorem dX7_toAt_10 : decode cX7_toAt 10 = .ok (.bipush 100, 2) := by decide +kernel
theorem dX7_toAt_12 : decode cX7_toAt 12 = .ok (.goto 4, 3) := by decide +kernel
theorem dX7_toAt_15 : decode cX7_toAt 15 = .ok (.iload_n 2, 1) := by decide +kernel
theorem dX7_toAt_16 : decode cX7_toAt 16 = .ok (.ireturn, 1) := by decide +kernel
theorem dX7_formOf_0 : decode cX7_formOf 0 = .ok (.iload_n 0, 1) := by decide +kernel
theorem dX7_formOf_1 : decode cX7_formOf 1 = .ok (.lookupswitch 74 #[(97, 59), (99, 65), (106, 68), (114, 62), (115, 59), (119, 71)], 59) := by decide +kernel
theorem dX7_formOf_60 : decode cX7_formOf 60 = .ok (.ldc 29, 2) := by decide +kernel
theorem dX7_formOf_62 : decode cX7_formOf 62 = .ok (.areturn, 1) := by decide +kernel
theorem dX7_formOf_63 : decode cX7_formOf 63 = .ok (.ldc 31, 2) := by decide +kernel
theorem dX7_formOf_65 : decode cX7_formOf 65 = .ok (.areturn, 1) := by decide +kernel
theorem dX7_formOf_66 : decode cX7_formOf 66 = .ok (.ldc 33, 2) := by decide +kernel
theorem dX7_formOf_68 : decode cX7_formOf 68 = .ok (.areturn, 1) := by decide +kernel
theorem dX7_formOf_69 : decode cX7_formOf 69 = .ok (.ldc 35, 2) := by decide +kernel
theorem dX7_formOf_71 : decode cX7_formOf 71 = .ok (.areturn, 1) := by decide +kernel
theorem dX7_formOf_72 : decode cX7_formOf 72 = .ok (.ldc 37, 2) := by decide +kernel
theorem dX7_formOf_74 : decode cX7_formOf 74 = .ok (.areturn, 1) := by decide +kernel
theorem dX7_formOf_75 : decode cX7_formOf 75 = .ok (.ldc 39, 2) := by decide +kernel
theorem dX7_formOf_77 : decode cX7_formOf 77 = .ok (.areturn, 1) := by decide +kernel
theorem dX7_faultOfWork_0 : decode cX7_faultOfWork 0 = .ok (.iconst 0, 1) := by decide +kernel
theorem dX7_faultOfWork_1 : decode cX7_faultOfWork 1 = .ok (.istore_n 1, 1) := by decide +kernel
theorem dX7_faultOfWork_2 : decode cX7_faultOfWork 2 = .ok (.iconst 0, 1) := by decide +kernel
theorem dX7_faultOfWork_3 : decode cX7_faultOfWork 3 = .ok (.istore_n 2, 1) := by decide +kernel
theorem dX7_faultOfWork_4 : decode cX7_faultOfWork 4 = .ok (.iload_n 2, 1) := by decide +kernel
theorem dX7_faultOfWork_5 : decode cX7_faultOfWork 5 = .ok (.bipush 80, 2) := by decide +kernel
theorem dX7_faultOfWork_7 : decode cX7_faultOfWork 7 = .ok (.if_icmp .ge 85, 3) := by decide +kernel
theorem dX7_faultOfWork_10 : decode cX7_faultOfWork 10 = .ok (.iload_n 1, 1) := by decide +kernel
theorem dX7_faultOfWork_11 : decode cX7_faultOfWork 11 = .ok (.aload_n 0, 1) := by decide +kernel
theorem dX7_faultOfWork_12 : decode cX7_faultOfWork 12 = .ok (.getfield 15, 3) := by decide +kernel
theorem dX7_faultOfWork_15 : decode cX7_faultOfWork 15 = .ok (.if_icmp .ge 77, 3) := by decide +kernel
theorem dX7_faultOfWork_18 : decode cX7_faultOfWork 18 = .ok (.aload_n 0, 1) := by decide +kernel
theorem dX7_faultOfWork_19 : decode cX7_faultOfWork 19 = .ok (.iload_n 1, 1) := by decide +kernel
theorem dX7_faultOfWork_20 : decode cX7_faultOfWork 20 = .ok (.invokevirtual 19, 3) := by decide +kernel
theorem dX7_faultOfWork_23 : decode cX7_faultOfWork 23 = .ok (.invokestatic 41, 3) := by decide +kernel
theorem dX7_faultOfWork_26 : decode cX7_faultOfWork 26 = .ok (.astore_n 3, 1) := by decide +kernel
theorem dX7_faultOfWork_27 : decode cX7_faultOfWork 27 = .ok (.aload_n 3, 1) := by decide +kernel
theorem dX7_faultOfWork_28 : decode cX7_faultOfWork 28 = .ok (.invokevirtual 45, 3) := by decide +kernel
theorem dX7_faultOfWork_31 : decode cX7_faultOfWork 31 = .ok (.ifCond .eq 5, 3) := by decide +kernel
theorem dX7_faultOfWork_34 : decode cX7_faultOfWork 34 = .ok (.iload_n 1, 1) := by decide +kernel
theorem dX7_faultOfWork_35 : decode cX7_faultOfWork 35 = .ok (.ireturn, 1) := by decide +kernel
theorem dX7_faultOfWork_36 : decode cX7_faultOfWork 36 = .ok (.iconst 0, 1) := by decide +kernel
theorem dX7_faultOfWork_37 : decode cX7_faultOfWork 37 = .ok (.istore 4, 2) := by decide +kernel
theorem dX7_faultOfWork_39 : decode cX7_faultOfWork 39 = .ok (.iload 4, 2) := by decide +kernel
theorem dX7_faultOfWork_41 : decode cX7_faultOfWork 41 = .ok (.aload_n 3, 1) := by decide +kernel
theorem dX7_faultOfWork_42 : decode cX7_faultOfWork 42 = .ok (.invokevirtual 51, 3) := by decide +kernel
theorem dX7_faultOfWork_45 : decode cX7_faultOfWork 45 = .ok (.if_icmp .ge 38, 3) := by decide +kernel
theorem dX7_faultOfWork_48 : decode cX7_faultOfWork 48 = .ok (.iinc 1 1, 3) := by decide +kernel
theorem dX7_faultOfWork_51 : decode cX7_faultOfWork 51 = .ok (.aload_n 0, 1) := by decide +kernel
theorem dX7_faultOfWork_52 : decode cX7_faultOfWork 52 = .ok (.iload_n 1, 1) := by decide +kernel
theorem dX7_faultOfWork_53 : decode cX7_faultOfWork 53 = .ok (.invokevirtual 19, 3) := by decide +kernel
theorem dX7_faultOfWork_56 : decode cX7_faultOfWork 56 = .ok (.bipush 48, 2) := by decide +kernel
theorem dX7_faultOfWork_58 : decode cX7_faultOfWork 58 = .ok (.if_icmp .lt 17, 3) := by decide +kernel
theorem dX7_faultOfWork_61 : decode cX7_faultOfWork 61 = .ok (.aload_n 0, 1) := by decide +kernel
theorem dX7_faultOfWork_62 : decode cX7_faultOfWork 62 = .ok (.iload_n 1, 1) := by decide +kernel
theorem dX7_faultOfWork_63 : decode cX7_faultOfWork 63 = .ok (.invokevirtual 19, 3) := by decide +kernel
theorem dX7_faultOfWork_66 : decode cX7_faultOfWork 66 = .ok (.aload_n 3, 1) := by decide +kernel
theorem dX7_faultOfWork_67 : decode cX7_faultOfWork 67 = .ok (.iload 4, 2) := by decide +kernel
theorem dX7_faultOfWork_69 : decode cX7_faultOfWork 69 = .ok (.invokevirtual 55, 3) := by decide +kernel
theorem dX7_faultOfWork_72 : decode cX7_faultOfWork 72 = .ok (.if_icmp .le 5, 3) := by decide +kernel
theorem dX7_faultOfWork_75 : decode cX7_faultOfWork 75 = .ok (.iload_n 1, 1) := by decide +kernel
theorem dX7_faultOfWork_76 : decode cX7_faultOfWork 76 = .ok (.ireturn, 1) := by decide +kernel
theorem dX7_faultOfWork_77 : decode cX7_faultOfWork 77 = .ok (.iinc 4 1, 3) := by decide +kernel
theorem dX7_faultOfWork_80 : decode cX7_faultOfWork 80 = .ok (.goto (-41), 3) := by decide +kernel
theorem dX7_faultOfWork_83 : decode cX7_faultOfWork 83 = .ok (.iinc 1 1, 3) := by decide +kernel
theorem dX7_faultOfWork_86 : decode cX7_faultOfWork 86 = .ok (.iinc 2 1, 3) := by decide +kernel
theorem dX7_faultOfWork_89 : decode cX7_faultOfWork 89 = .ok (.goto (-85), 3) := by decide +kernel
theorem dX7_faultOfWork_92 : decode cX7_faultOfWork 92 = .ok (.iconst (-1), 1) := by decide +kernel
theorem dX7_faultOfWork_93 : decode cX7_faultOfWork 93 = .ok (.ireturn, 1) := by decide +kernel
theorem dX8_init_0 : decode cX8_init 0 = .ok (.aload_n 0, 1) := by decide +kernel
theorem dX8_init_1 : decode cX8_init 1 = .ok (.invokespecial 1, 3) := by decide +kernel
theorem dX8_init_4 : decode cX8_init 4 = .ok (.aload_n 0, 1) := by decide +kernel
theorem dX8_init_5 : decode cX8_init 5 = .ok (.bipush 12, 2) := by decide +kernel
theorem dX8_init_7 : decode cX8_init 7 = .ok (.newarray .long, 2) := by decide +kernel
theorem dX8_init_9 : decode cX8_init 9 = .ok (.putfield 9, 3) := by decide +kernel
theorem dX8_init_12 : decode cX8_init 12 = .ok (.return_, 1) := by decide +kernel
theorem dX8_clear_0 : decode cX8_clear 0 = .ok (.aload_n 0, 1) := by decide +kernel
theorem dX8_clear_1 : decode cX8_clear 1 = .ok (.iconst 0, 1) := by decide +kernel
theorem dX8_clear_2 : decode cX8_clear 2 = .ok (.putfield 13, 3) := by decide +kernel
theorem dX8_clear_5 : decode cX8_clear 5 = .ok (.return_, 1) := by decide +kernel
theorem dX8_add_0 : decode cX8_add 0 = .ok (.aload_n 0, 1) := by decide +kernel
theorem dX8_add_1 : decode cX8_add 1 = .ok (.getfield 13, 3) := by decide +kernel
theorem dX8_add_4 : decode cX8_add 4 = .ok (.ifCond .lt 32, 3) := by decide +kernel
theorem dX8_add_7 : decode cX8_add 7 = .ok (.aload_n 0, 1) := by decide +kernel
theorem dX8_add_8 : decode cX8_add 8 = .ok (.getfield 13, 3) := by decide +kernel
theorem dX8_add_11 : decode cX8_add 11 = .ok (.bipush 12, 2) := by decide +kernel
theorem dX8_add_13 : decode cX8_add 13 = .ok (.if_icmp .ge 23, 3) := by decide +kernel
theorem dX8_add_16 : decode cX8_add 16 = .ok (.aload_n 0, 1) := by decide +kernel
theorem dX8_add_17 : decode cX8_add 17 = .ok (.getfield 9, 3) := by decide +kernel
theorem dX8_add_20 : decode cX8_add 20 = .ok (.aload_n 0, 1) := by decide +kernel
theorem dX8_add_21 : decode cX8_add 21 = .ok (.getfield 13, 3) := by decide +kernel
theorem dX8_add_24 : decode cX8_add 24 = .ok (.lload_n 1, 1) := by decide +kernel
theorem dX8_add_25 : decode cX8_add 25 = .ok (.lastore, 1) := by decide +kernel
theorem dX8_add_26 : decode cX8_add 26 = .ok (.aload_n 0, 1) := by decide +kernel
theorem dX8_add_27 : decode cX8_add 27 = .ok (.dup, 1) := by decide +kernel
theorem dX8_add_28 : decode cX8_add 28 = .ok (.getfield 13, 3) := by decide +kernel
theorem dX8_add_31 : decode cX8_add 31 = .ok (.iconst 1, 1) := by decide +kernel
theorem dX8_add_32 : decode cX8_add 32 = .ok (.iadd, 1) := by decide +kernel
theorem dX8_add_33 : decode cX8_add 33 = .ok (.putfield 13, 3) := by decide +kernel
theorem dX8_add_36 : decode cX8_add 36 = .ok (.return_, 1) := by decide +kernel
theorem dX8_tell_0 : decode cX8_tell 0 = .ok (.aload_n 0, 1) := by decide +kernel
theorem dX8_tell_1 : decode cX8_tell 1 = .ok (.invokevirtual 17, 3) := by decide +kernel
theorem dX8_tell_4 : decode cX8_tell 4 = .ok (.aload_n 0, 1) := by decide +kernel
theorem dX8_tell_5 : decode cX8_tell 5 = .ok (.lload_n 1, 1) := by decide +kernel
theorem dX8_tell_6 : decode cX8_tell 6 = .ok (.invokevirtual 20, 3) := by decide +kernel
theorem dX8_tell_9 : decode cX8_tell 9 = .ok (.return_, 1) := by decide +kernel
theorem dX8_tell__0 : decode cX8_tell_ 0 = .ok (.aload_n 0, 1) := by decide +kernel
theorem dX8_tell__1 : decode cX8_tell_ 1 = .ok (.lload_n 1, 1) := by decide +kernel
theorem dX8_tell__2 : decode cX8_tell_ 2 = .ok (.invokevirtual 24, 3) := by decide +kernel
theorem dX8_tell__5 : decode cX8_tell_ 5 = .ok (.aload_n 0, 1) := by decide +kernel
theorem dX8_tell__6 : decode cX8_tell_ 6 = .ok (.lload_n 3, 1) := by decide +kernel
theorem dX8_tell__7 : decode cX8_tell_ 7 = .ok (.invokevirtual 20, 3) := by decide +kernel
theorem dX8_tell__10 : decode cX8_tell_ 10 = .ok (.return_, 1) := by decide +kernel
theorem dX8_tell___0 : decode cX8_tell__ 0 = .ok (.aload_n 0, 1) := by decide +kernel
theorem dX8_tell___1 : decode cX8_tell__ 1 = .ok (.lload_n 1, 1) := by decide +kernel
theorem dX8_tell___2 : decode cX8_tell__ 2 = .ok (.lload_n 3, 1) := by decide +kernel
theorem dX8_tell___3 : decode cX8_tell__ 3 = .ok (.invokevirtual 27, 3) := by decide +kernel
theorem dX8_tell___6 : decode cX8_tell__ 6 = .ok (.aload_n 0, 1) := by decide +kernel
theorem dX8_tell___7 : decode cX8_tell__ 7 = .ok (.lload 5, 2) := by decide +kernel
theorem dX8_tell___9 : decode cX8_tell__ 9 = .ok (.invokevirtual 20, 3) := by decide +kernel
theorem dX8_tell___12 : decode cX8_tell__ 12 = .ok (.return_, 1) := by decide +kernel
theorem dX8_number_0 : decode cX8_number 0 = .ok (.iload_n 1, 1) := by decide +kernel
theorem dX8_number_1 : decode cX8_number 1 = .ok (.ifCond .lt 26, 3) := by decide +kernel
theorem dX8_number_4 : decode cX8_number 4 = .ok (.iload_n 1, 1) := by decide +kernel
theorem dX8_number_5 : decode cX8_number 5 = .ok (.aload_n 0, 1) := by decide +kernel
theorem dX8_number_6 : decode cX8_number 6 = .ok (.getfield 13, 3) := by decide +kernel
theorem dX8_number_9 : decode cX8_number 9 = .ok (.if_icmp .ge 18, 3) := by decide +kernel
theorem dX8_number_12 : decode cX8_number 12 = .ok (.iload_n 1, 1) := by decide +kernel
theorem dX8_number_13 : decode cX8_number 13 = .ok (.bipush 12, 2) := by decide +kernel
theorem dX8_number_15 : decode cX8_number 15 = .ok (.if_icmp .ge 12, 3) := by decide +kernel
theorem dX8_number_18 : decode cX8_number 18 = .ok (.aload_n 0, 1) := by decide +kernel
theorem dX8_number_19 : decode cX8_number 19 = .ok (.getfield 9, 3) := by decide +kernel
theorem dX8_number_22 : decode cX8_number 22 = .ok (.iload_n 1, 1) := by decide +kernel
theorem dX8_number_23 : decode cX8_number 23 = .ok (.laload, 1) := by decide +kernel
theorem dX8_number_24 : decode cX8_number 24 = .ok (.goto 4, 3) := by decide +kernel
theorem dX8_number_27 : decode cX8_number 27 = .ok (.lconst 0, 1) := by decide +kernel
theorem dX8_number_28 : decode cX8_number 28 = .ok (.lreturn, 1) := by decide +kernel
theorem dX9_init_0 : decode cX9_init 0 = .ok (.aload_n 0, 1) := by decide +kernel
theorem dX9_init_1 : decode cX9_init 1 = .ok (.invokespecial 1, 3) := by decide +kernel
theorem dX9_init_4 : decode cX9_init 4 = .ok (.aload_n 0, 1) := by decide +kernel
theorem dX9_init_5 : decode cX9_init 5 = .ok (.new 7, 3) := by decide +kernel
theorem dX9_init_8 : decode cX9_init 8 = .ok (.dup, 1) := by decide +kernel
theorem dX9_init_9 : decode cX9_init 9 = .ok (.invokespecial 9, 3) := by decide +kernel
theorem dX9_init_12 : decode cX9_init 12 = .ok (.putfield 10, 3) := by decide +kernel
theorem dX9_init_15 : decode cX9_init 15 = .ok (.aload_n 0, 1) := by decide +kernel
theorem dX9_init_16 : decode cX9_init 16 = .ok (.new 7, 3) := by decide +kernel
theorem dX9_init_19 : decode cX9_init 19 = .ok (.dup, 1) := by decide +kernel
theorem dX9_init_20 : decode cX9_init 20 = .ok (.invokespecial 9, 3) := by decide +kernel
theorem dX9_init_23 : decode cX9_init 23 = .ok (.putfield 16, 3) := by decide +kernel
theorem dX9_init_26 : decode cX9_init 26 = .ok (.aload_n 0, 1) := by decide +kernel
theorem dX9_init_27 : decode cX9_init 27 = .ok (.new 19, 3) := by decide +kernel
theorem dX9_init_30 : decode cX9_init 30 = .ok (.dup, 1) := by decide +kernel
theorem dX9_init_31 : decode cX9_init 31 = .ok (.invokespecial 21, 3) := by decide +kernel
theorem dX9_init_34 : decode cX9_init 34 = .ok (.putfield 22, 3) := by decide +kernel
theorem dX9_init_37 : decode cX9_init 37 = .ok (.aload_n 0, 1) := by decide +kernel
theorem dX9_init_38 : decode cX9_init 38 = .ok (.iconst 2, 1) := by decide +kernel
theorem dX9_init_39 : decode cX9_init 39 = .ok (.anewarray 7, 3) := by decide +kernel
theorem dX9_init_42 : decode cX9_init 42 = .ok (.dup, 1) := by decide +kernel
theorem dX9_init_43 : decode cX9_init 43 = .ok (.iconst 0, 1) := by decide +kernel
theorem dX9_init_44 : decode cX9_init 44 = .ok (.new 7, 3) := by decide +kernel
theorem dX9_init_47 : decode cX9_init 47 = .ok (.dup, 1) := by decide +kernel
theorem dX9_init_48 : decode cX9_init 48 = .ok (.invokespecial 9, 3) := by decide +kernel
theorem dX9_init_51 : decode cX9_init 51 = .ok (.aastore, 1) := by decide +kernel
theorem dX9_init_52 : decode cX9_init 52 = .ok (.dup, 1) := by decide +kernel
theorem dX9_init_53 : decode cX9_init 53 = .ok (.iconst 1, 1) := by decide +kernel
theorem dX9_init_54 : decode cX9_init 54 = .ok (.new 7, 3) := by decide +kernel
theorem dX9_init_57 : decode cX9_init 57 = .ok (.dup, 1) := by decide +kernel
theorem dX9_init_58 : decode cX9_init 58 = .ok (.invokespecial 9, 3) := by decide +kernel
theorem dX9_init_61 : decode cX9_init 61 = .ok (.aastore, 1) := by decide +kernel
theorem dX9_init_62 : decode cX9_init 62 = .ok (.putfield 26, 3) := by decide +kernel
theorem dX9_init_65 : decode cX9_init 65 = .ok (.aload_n 0, 1) := by decide +kernel
theorem dX9_init_66 : decode cX9_init 66 = .ok (.new 30, 3) := by decide +kernel
theorem dX9_init_69 : decode cX9_init 69 = .ok (.dup, 1) := by decide +kernel
theorem dX9_init_70 : decode cX9_init 70 = .ok (.invokespecial 32, 3) := by decide +kernel
theorem dX9_init_73 : decode cX9_init 73 = .ok (.putfield 33, 3) := by decide +kernel
theorem dX9_init_76 : decode cX9_init 76 = .ok (.aload_n 0, 1) := by decide +kernel
theorem dX9_init_77 : decode cX9_init 77 = .ok (.new 37, 3) := by decide +kernel
theorem dX9_init_80 : decode cX9_init 80 = .ok (.dup, 1) := by decide +kernel
theorem dX9_init_81 : decode cX9_init 81 = .ok (.invokespecial 39, 3) := by decide +kernel
theorem dX9_init_84 : decode cX9_init 84 = .ok (.putfield 40, 3) := by decide +kernel
theorem dX9_init_87 : decode cX9_init 87 = .ok (.aload_n 0, 1) := by decide +kernel
theorem dX9_init_88 : decode cX9_init 88 = .ok (.new 44, 3) := by decide +kernel
theorem dX9_init_91 : decode cX9_init 91 = .ok (.dup, 1) := by decide +kernel
theorem dX9_init_92 : decode cX9_init 92 = .ok (.invokespecial 46, 3) := by decide +kernel
theorem dX9_init_95 : decode cX9_init 95 = .ok (.putfield 47, 3) := by decide +kernel
theorem dX9_init_98 : decode cX9_init 98 = .ok (.aload_n 0, 1) := by decide +kernel
theorem dX9_init_99 : decode cX9_init 99 = .ok (.new 51, 3) := by decide +kernel
theorem dX9_init_102 : decode cX9_init 102 = .ok (.dup, 1) := by decide +kernel
theorem dX9_init_103 : decode cX9_init 103 = .ok (.invokespecial 53, 3) := by decide +kernel
theorem dX9_init_106 : decode cX9_init 106 = .ok (.putfield 54, 3) := by decide +kernel
theorem dX9_init_109 : decode cX9_init 109 = .ok (.aload_n 0, 1) := by decide +kernel
theorem dX9_init_110 : decode cX9_init 110 = .ok (.new 51, 3) := by decide +kernel
theorem dX9_init_113 : decode cX9_init 113 = .ok (.dup, 1) := by decide +kernel
theorem dX9_init_114 : decode cX9_init 114 = .ok (.invokespecial 53, 3) := by decide +kernel
theorem dX9_init_117 : decode cX9_init 117 = .ok (.putfield 58, 3) := by decide +kernel
theorem dX9_init_120 : decode cX9_init 120 = .ok (.aload_n 0, 1) := by decide +kernel
theorem dX9_init_121 : decode cX9_init 121 = .ok (.new 61, 3) := by decide +kernel
theorem dX9_init_124 : decode cX9_init 124 = .ok (.dup, 1) := by decide +kernel
theorem dX9_init_125 : decode cX9_init 125 = .ok (.invokespecial 63, 3) := by decide +kernel
theorem dX9_init_128 : decode cX9_init 128 = .ok (.putfield 64, 3) := by decide +kernel
theorem dX9_init_131 : decode cX9_init 131 = .ok (.aload_n 0, 1) := by decide +kernel
theorem dX9_init_132 : decode cX9_init 132 = .ok (.new 68, 3) := by decide +kernel
theorem dX9_init_135 : decode cX9_init 135 = .ok (.dup, 1) := by decide +kernel
theorem dX9_init_136 : decode cX9_init 136 = .ok (.invokespecial 70, 3) := by decide +kernel
theorem dX9_init_139 : decode cX9_init 139 = .ok (.putfield 71, 3) := by decide +kernel
theorem dX9_init_142 : decode cX9_init 142 = .ok (.return_, 1) := by decide +kernel
theorem dX9_sign_0 : decode cX9_sign 0 = .ok (.aload_n 0, 1) := by decide +kernel
theorem dX9_sign_1 : decode cX9_sign 1 = .ok (.getfield 33, 3) := by decide +kernel
theorem dX9_sign_4 : decode cX9_sign 4 = .ok (.iload_n 1, 1) := by decide +kernel
theorem dX9_sign_5 : decode cX9_sign 5 = .ok (.invokevirtual 75, 3) := by decide +kernel
theorem dX9_sign_8 : decode cX9_sign 8 = .ok (.ifCond .eq 13, 3) := by decide +kernel
theorem dX9_sign_11 : decode cX9_sign 11 = .ok (.aload_n 0, 1) := by decide +kernel
theorem dX9_sign_12 : decode cX9_sign 12 = .ok (.getfield 33, 3) := by decide +kernel
theorem dX9_sign_15 : decode cX9_sign 15 = .ok (.getfield 79, 3) := by decide +kernel
theorem dX9_sign_18 : decode cX9_sign 18 = .ok (.goto 4, 3) := by decide +kernel
theorem dX9_sign_21 : decode cX9_sign 21 = .ok (.iconst (-1), 1) := by decide +kernel
theorem dX9_sign_22 : decode cX9_sign 22 = .ok (.ireturn, 1) := by decide +kernel
theorem dX9_end_0 : decode cX9_end 0 = .ok (.iload_n 1, 1) := by decide +kernel
theorem dX9_end_1 : decode cX9_end 1 = .ok (.ifCond .lt 14, 3) := by decide +kernel
theorem dX9_end_4 : decode cX9_end 4 = .ok (.iload_n 1, 1) := by decide +kernel
theorem dX9_end_5 : decode cX9_end 5 = .ok (.aload_n 0, 1) := by decide +kernel
theorem dX9_end_6 : decode cX9_end 6 = .ok (.getfield 33, 3) := by decide +kernel
theorem dX9_end_9 : decode cX9_end 9 = .ok (.getfield 79, 3) := by decide +kernel
theorem dX9_end_12 : decode cX9_end 12 = .ok (.if_icmp .le 5, 3) := by decide +kernel
theorem dX9_end_15 : decode cX9_end 15 = .ok (.iconst 0, 1) := by decide +kernel
theorem dX9_end_16 : decode cX9_end 16 = .ok (.ireturn, 1) := by decide +kernel
theorem dX9_end_17 : decode cX9_end 17 = .ok (.aload_n 0, 1) := by decide +kernel
theorem dX9_end_18 : decode cX9_end 18 = .ok (.getfield 33, 3) := by decide +kernel
theorem dX9_end_21 : decode cX9_end 21 = .ok (.iload_n 1, 1) := by decide +kernel
theorem dX9_end_22 : decode cX9_end 22 = .ok (.putfield 79, 3) := by decide +kernel
theorem dX9_end_25 : decode cX9_end 25 = .ok (.iconst 1, 1) := by decide +kernel
theorem dX9_end_26 : decode cX9_end 26 = .ok (.ireturn, 1) := by decide +kernel
theorem dX9_entry_0 : decode cX9_entry 0 = .ok (.iload_n 1, 1) := by decide +kernel
theorem dX9_entry_1 : decode cX9_entry 1 = .ok (.invokestatic 83, 3) := by decide +kernel
theorem dX9_entry_4 : decode cX9_entry 4 = .ok (.ifCond .eq 27, 3) := by decide +kernel
theorem dX9_entry_7 : decode cX9_entry 7 = .ok (.aload_n 0, 1) := by decide +kernel
theorem dX9_entry_8 : decode cX9_entry 8 = .ok (.getfield 10, 3) := by decide +kernel
theorem dX9_entry_11 : decode cX9_entry 11 = .ok (.iload_n 1, 1) := by decide +kernel
theorem dX9_entry_12 : decode cX9_entry 12 = .ok (.invokevirtual 86, 3) := by decide +kernel
theorem dX9_entry_15 : decode cX9_entry 15 = .ok (.iload_n 2, 1) := by decide +kernel
theorem dX9_entry_16 : decode cX9_entry 16 = .ok (.invokevirtual 90, 3) := by decide +kernel
theorem dX9_entry_19 : decode cX9_entry 19 = .ok (.ifCond .eq 12, 3) := by decide +kernel
theorem dX9_entry_22 : decode cX9_entry 22 = .ok (.iload_n 3, 1) := by decide +kernel
theorem dX9_entry_23 : decode cX9_entry 23 = .ok (.ifCond .lt 8, 3) := by decide +kernel
theorem dX9_entry_26 : decode cX9_entry 26 = .ok (.iload_n 3, 1) := by decide +kernel
theorem dX9_entry_27 : decode cX9_entry 27 = .ok (.iconst 5, 1) := by decide +kernel
theorem dX9_entry_28 : decode cX9_entry 28 = .ok (.if_icmp .lt 11, 3) := by decide +kernel
theorem dX9_entry_31 : decode cX9_entry 31 = .ok (.new 95, 3) := by decide +kernel
theorem dX9_entry_34 : decode cX9_entry 34 = .ok (.dup, 1) := by decide +kernel
theorem dX9_entry_35 : decode cX9_entry 35 = .ok (.invokespecial 97, 3) := by decide +kernel
theorem dX9_entry_38 : decode cX9_entry 38 = .ok (.athrow, 1) := by decide +kernel
theorem dX9_entry_39 : decode cX9_entry 39 = .ok (.aload_n 0, 1) := by decide +kernel
theorem dX9_entry_40 : decode cX9_entry 40 = .ok (.getfield 10, 3) := by decide +kernel
theorem dX9_entry_43 : decode cX9_entry 43 = .ok (.iload_n 1, 1) := by decide +kernel
theorem dX9_entry_44 : decode cX9_entry 44 = .ok (.invokevirtual 86, 3) := by decide +kernel
theorem dX9_entry_47 : decode cX9_entry 47 = .ok (.iload_n 2, 1) := by decide +kernel
theorem dX9_entry_48 : decode cX9_entry 48 = .ok (.iload_n 3, 1) := by decide +kernel
theorem dX9_entry_49 : decode cX9_entry 49 = .ok (.invokevirtual 98, 3) := by decide +kernel
theorem dX9_entry_52 : decode cX9_entry 52 = .ok (.ireturn, 1) := by decide +kernel
theorem dX9_sheet_0 : decode cX9_sheet 0 = .ok (.iload_n 1, 1) := by decide +kernel
theorem dX9_sheet_1 : decode cX9_sheet 1 = .ok (.ifCond .lt 14, 3) := by decide +kernel
theorem dX9_sheet_4 : decode cX9_sheet 4 = .ok (.iload_n 1, 1) := by decide +kernel
theorem dX9_sheet_5 : decode cX9_sheet 5 = .ok (.iconst 3, 1) := by decide +kernel
theorem dX9_sheet_6 : decode cX9_sheet 6 = .ok (.if_icmp .gt 9, 3) := by decide +kernel
theorem dX9_sheet_9 : decode cX9_sheet 9 = .ok (.iload_n 2, 1) := by decide +kernel
theorem dX9_sheet_10 : decode cX9_sheet 10 = .ok (.bipush 20, 2) := by decide +kernel
theorem dX9_sheet_12 : decode cX9_sheet 12 = .ok (.if_icmp .le 5, 3) := by decide +kernel
theorem dX9_sheet_15 : decode cX9_sheet 15 = .ok (.iconst (-1), 1) := by decide +kernel
theorem dX9_sheet_16 : decode cX9_sheet 16 = .ok (.ireturn, 1) := by decide +kernel
theorem dX9_sheet_17 : decode cX9_sheet 17 = .ok (.iload_n 1, 1) := by decide +kernel
theorem dX9_sheet_18 : decode cX9_sheet 18 = .ok (.iconst 3, 1) := by decide +kernel
theorem dX9_sheet_19 : decode cX9_sheet 19 = .ok (.if_icmp .ne 7, 3) := by decide +kernel
theorem dX9_sheet_22 : decode cX9_sheet 22 = .ok (.iconst 1, 1) := by decide +kernel
theorem dX9_sheet_23 : decode cX9_sheet 23 = .ok (.goto 4, 3) := by decide +kernel
theorem dX9_sheet_26 : decode cX9_sheet 26 = .ok (.iconst 0, 1) := by decide +kernel
theorem dX9_sheet_27 : decode cX9_sheet 27 = .ok (.istore 5, 2) := by decide +kernel
theorem dX9_sheet_29 : decode cX9_sheet 29 = .ok (.iload 5, 2) := by decide +kernel
theorem dX9_sheet_31 : decode cX9_sheet 31 = .ok (.ifCond .ne 10, 3) := by decide +kernel
theorem dX9_sheet_34 : decode cX9_sheet 34 = .ok (.iload_n 2, 1) := by decide +kernel
theorem dX9_sheet_35 : decode cX9_sheet 35 = .ok (.ifCond .ge 6, 3) := by decide +kernel
theorem dX9_sheet_38 : decode cX9_sheet 38 = .ok (.bipush (-2), 2) := by decide +kernel
theorem dX9_sheet_40 : decode cX9_sheet 40 = .ok (.ireturn, 1) := by decide +kernel
theorem dX9_sheet_41 : decode cX9_sheet 41 = .ok (.iconst 0, 1) := by decide +kernel
theorem dX9_sheet_42 : decode cX9_sheet 42 = .ok (.istore 6, 2) := by decide +kernel
theorem dX9_sheet_44 : decode cX9_sheet 44 = .ok (.iconst 0, 1) := by decide +kernel
theorem dX9_sheet_45 : decode cX9_sheet 45 = .ok (.istore 7, 2) := by decide +kernel
theorem dX9_sheet_47 : decode cX9_sheet 47 = .ok (.iload 7, 2) := by decide +kernel
theorem dX9_sheet_49 : decode cX9_sheet 49 = .ok (.aload_n 0, 1) := by decide +kernel
theorem dX9_sheet_50 : decode cX9_sheet 50 = .ok (.getfield 10, 3) := by decide +kernel
theorem dX9_sheet_53 : decode cX9_sheet 53 = .ok (.getfield 102, 3) := by decide +kernel
theorem dX9_sheet_56 : decode cX9_sheet 56 = .ok (.getfield 106, 3) := by decide +kernel
theorem dX9_sheet_59 : decode cX9_sheet 59 = .ok (.if_icmp .ge 59, 3) := by decide +kernel
theorem dX9_sheet_62 : decode cX9_sheet 62 = .ok (.iload 5, 2) := by decide +kernel
theorem dX9_sheet_64 : decode cX9_sheet 64 = .ok (.ifCond .ne 9, 3) := by decide +kernel
theorem dX9_sheet_67 : decode cX9_sheet 67 = .ok (.iload 7, 2) := by decide +kernel
theorem dX9_sheet_69 : decode cX9_sheet 69 = .ok (.iload_n 2, 1) := by decide +kernel
theorem dX9_sheet_70 : decode cX9_sheet 70 = .ok (.if_icmp .lt 7, 3) := by decide +kernel
theorem dX9_sheet_73 : decode cX9_sheet 73 = .ok (.iconst 0, 1) := by decide +kernel
theorem dX9_sheet_74 : decode cX9_sheet 74 = .ok (.goto 14, 3) := by decide +kernel
theorem dX9_sheet_77 : decode cX9_sheet 77 = .ok (.iload_n 1, 1) := by decide +kernel
theorem dX9_sheet_78 : decode cX9_sheet 78 = .ok (.iload_n 3, 1) := by decide +kernel
theorem dX9_sheet_79 : decode cX9_sheet 79 = .ok (.iload 7, 2) := by decide +kernel
theorem dX9_sheet_81 : decode cX9_sheet 81 = .ok (.iload 4, 2) := by decide +kernel
theorem dX9_sheet_83 : decode cX9_sheet 83 = .ok (.imul, 1) := by decide +kernel
theorem dX9_sheet_84 : decode cX9_sheet 84 = .ok (.iadd, 1) := by decide +kernel
theorem dX9_sheet_85 : decode cX9_sheet 85 = .ok (.invokestatic 107, 3) := by decide +kernel
theorem dX9_sheet_88 : decode cX9_sheet 88 = .ok (.istore 8, 2) := by decide +kernel
theorem dX9_sheet_90 : decode cX9_sheet 90 = .ok (.aload_n 0, 1) := by decide +kernel
theorem dX9_sheet_91 : decode cX9_sheet 91 = .ok (.getfield 10, 3) := by decide +kernel
theorem dX9_sheet_94 : decode cX9_sheet 94 = .ok (.getfield 102, 3) := by decide +kernel
theorem dX9_sheet_97 : decode cX9_sheet 97 = .ok (.iload 7, 2) := by decide +kernel
theorem dX9_sheet_99 : decode cX9_sheet 99 = .ok (.iconst 1, 1) := by decide +kernel
theorem dX9_sheet_100 : decode cX9_sheet 100 = .ok (.iload 8, 2) := by decide +kernel
theorem dX9_sheet_102 : decode cX9_sheet 102 = .ok (.invokevirtual 110, 3) := by decide +kernel
theorem dX9_sheet_105 : decode cX9_sheet 105 = .ok (.iload 6, 2) := by decide +kernel
theorem dX9_sheet_107 : decode cX9_sheet 107 = .ok (.iload 8, 2) := by decide +kernel
theorem dX9_sheet_109 : decode cX9_sheet 109 = .ok (.iadd, 1) := by decide +kernel
theorem dX9_sheet_110 : decode cX9_sheet 110 = .ok (.istore 6, 2) := by decide +kernel
theorem dX9_sheet_112 : decode cX9_sheet 112 = .ok (.iinc 7 1, 3) := by decide +kernel
theorem dX9_sheet_115 : decode cX9_sheet 115 = .ok (.goto (-68), 3) := by decide +kernel
theorem dX9_sheet_118 : decode cX9_sheet 118 = .ok (.iload 5, 2) := by decide +kernel
theorem dX9_sheet_120 : decode cX9_sheet 120 = .ok (.ifCond .eq 8, 3) := by decide +kernel
theorem dX9_sheet_123 : decode cX9_sheet 123 = .ok (.bipush (-3), 2) := by decide +kernel
theorem dX9_sheet_125 : decode cX9_sheet 125 = .ok (.goto 5, 3) := by decide +kernel
theorem dX9_sheet_128 : decode cX9_sheet 128 = .ok (.iload 6, 2) := by decide +kernel
theorem dX9_sheet_130 : decode cX9_sheet 130 = .ok (.ireturn, 1) := by decide +kernel
theorem dX9_toldBySheet_0 : decode cX9_toldBySheet 0 = .ok (.iload_n 0, 1) := by decide +kernel
theorem dX9_toldBySheet_1 : decode cX9_toldBySheet 1 = .ok (.ifCond .ne 8, 3) := by decide +kernel
theorem dX9_toldBySheet_4 : decode cX9_toldBySheet 4 = .ok (.iload_n 1, 1) := by decide +kernel
theorem dX9_toldBySheet_5 : decode cX9_toldBySheet 5 = .ok (.i2b, 1) := by decide +kernel
theorem dX9_toldBySheet_6 : decode cX9_toldBySheet 6 = .ok (.goto 14, 3) := by decide +kernel
theorem dX9_toldBySheet_9 : decode cX9_toldBySheet 9 = .ok (.iload_n 0, 1) := by decide +kernel
theorem dX9_toldBySheet_10 : decode cX9_toldBySheet 10 = .ok (.iconst 1, 1) := by decide +kernel
theorem dX9_toldBySheet_11 : decode cX9_toldBySheet 11 = .ok (.if_icmp .ne 8, 3) := by decide +kernel
theorem dX9_toldBySheet_14 : decode cX9_toldBySheet 14 = .ok (.iload_n 1, 1) := by decide +kernel
theorem dX9_toldBySheet_15 : decode cX9_toldBySheet 15 = .ok (.i2s, 1) := by decide +kernel
theorem dX9_toldBySheet_16 : decode cX9_toldBySheet 16 = .ok (.goto 4, 3) := by decide +kernel
theorem dX9_toldBySheet_19 : decode cX9_toldBySheet 19 = .ok (.iload_n 1, 1) := by decide +kernel
theorem dX9_toldBySheet_20 : decode cX9_toldBySheet 20 = .ok (.istore_n 2, 1) := by decide +kernel
theorem dX9_toldBySheet_21 : decode cX9_toldBySheet 21 = .ok (.iconst 0, 1) := by decide +kernel
theorem dX9_toldBySheet_22 : decode cX9_toldBySheet 22 = .ok (.bipush 99, 2) := by decide +kernel
theorem dX9_toldBySheet_24 : decode cX9_toldBySheet 24 = .ok (.iload_n 2, 1) := by decide +kernel
theorem dX9_toldBySheet_25 : decode cX9_toldBySheet 25 = .ok (.invokestatic 114, 3) := by decide +kernel
theorem dX9_toldBySheet_28 : decode cX9_toldBySheet 28 = .ok (.invokestatic 119, 3) := by decide +kernel
theorem dX9_toldBySheet_31 : decode cX9_toldBySheet 31 = .ok (.ireturn, 1) := by decide +kernel
theorem dX9_adds_0 : decode cX9_adds 0 = .ok (.aload_n 0, 1) := by decide +kernel
theorem dX9_adds_1 : decode cX9_adds 1 = .ok (.getfield 22, 3) := by decide +kernel
theorem dX9_adds_4 : decode cX9_adds 4 = .ok (.aload_n 0, 1) := by decide +kernel
theorem dX9_adds_5 : decode cX9_adds 5 = .ok (.getfield 10, 3) := by decide +kernel
theorem dX9_adds_8 : decode cX9_adds 8 = .ok (.invokevirtual 122, 3) := by decide +kernel
theorem dX9_adds_11 : decode cX9_adds 11 = .ok (.aload_n 0, 1) := by decide +kernel
theorem dX9_adds_12 : decode cX9_adds 12 = .ok (.aload_n 0, 1) := by decide +kernel
theorem dX9_adds_13 : decode cX9_adds 13 = .ok (.iload_n 1, 1) := by decide +kernel
theorem dX9_adds_14 : decode cX9_adds 14 = .ok (.iload_n 2, 1) := by decide +kernel
theorem dX9_adds_15 : decode cX9_adds 15 = .ok (.iload_n 3, 1) := by decide +kernel
theorem dX9_adds_16 : decode cX9_adds 16 = .ok (.iload 4, 2) := by decide +kernel
theorem dX9_adds_18 : decode cX9_adds 18 = .ok (.iload 5, 2) := by decide +kernel
theorem dX9_adds_20 : decode cX9_adds 20 = .ok (.invokevirtual 126, 3) := by decide +kernel
theorem dX9_adds_23 : decode cX9_adds 23 = .ok (.invokevirtual 130, 3) := by decide +kernel
theorem dX9_adds_26 : decode cX9_adds 26 = .ok (.ireturn, 1) := by decide +kernel
theorem dX9_sets_0 : decode cX9_sets 0 = .ok (.aload_n 0, 1) := by decide +kernel
theorem dX9_sets_1 : decode cX9_sets 1 = .ok (.getfield 22, 3) := by decide +kernel
theorem dX9_sets_4 : decode cX9_sets 4 = .ok (.aload_n 0, 1) := by decide +kernel
theorem dX9_sets_5 : decode cX9_sets 5 = .ok (.getfield 10, 3) := by decide +kernel
theorem dX9_sets_8 : decode cX9_sets 8 = .ok (.invokevirtual 122, 3) := by decide +kernel
theorem dX9_sets_11 : decode cX9_sets 11 = .ok (.aload_n 0, 1) := by decide +kernel
theorem dX9_sets_12 : decode cX9_sets 12 = .ok (.aload_n 0, 1) := by decide +kernel
theorem dX9_sets_13 : decode cX9_sets 13 = .ok (.iload_n 1, 1) := by decide +kernel
theorem dX9_sets_14 : decode cX9_sets 14 = .ok (.iload_n 2, 1) := by decide +kernel
theorem dX9_sets_15 : decode cX9_sets 15 = .ok (.iload_n 3, 1) := by decide +kernel
theorem dX9_sets_16 : decode cX9_sets 16 = .ok (.iload 4, 2) := by decide +kernel
theorem dX9_sets_18 : decode cX9_sets 18 = .ok (.iload 5, 2) := by decide +kernel
theorem dX9_sets_20 : decode cX9_sets 20 = .ok (.invokevirtual 134, 3) := by decide +kernel
theorem dX9_sets_23 : decode cX9_sets 23 = .ok (.invokevirtual 130, 3) := by decide +kernel
theorem dX9_sets_26 : decode cX9_sets 26 = .ok (.ireturn, 1) := by decide +kernel
theorem dX9_refers_0 : decode cX9_refers 0 = .ok (.aload_n 0, 1) := by decide +kernel
theorem dX9_refers_1 : decode cX9_refers 1 = .ok (.getfield 22, 3) := by decide +kernel
theorem dX9_refers_4 : decode cX9_refers 4 = .ok (.aload_n 0, 1) := by decide +kernel
theorem dX9_refers_5 : decode cX9_refers 5 = .ok (.getfield 10, 3) := by decide +kernel
theorem dX9_refers_8 : decode cX9_refers 8 = .ok (.invokevirtual 122, 3) := by decide +kernel
theorem dX9_refers_11 : decode cX9_refers 11 = .ok (.aload_n 0, 1) := by decide +kernel
theorem dX9_refers_12 : decode cX9_refers 12 = .ok (.aload_n 0, 1) := by decide +kernel
theorem dX9_refers_13 : decode cX9_refers 13 = .ok (.iload_n 1, 1) := by decide +kernel
theorem dX9_refers_14 : decode cX9_refers 14 = .ok (.iload_n 2, 1) := by decide +kernel
theorem dX9_refers_15 : decode cX9_refers 15 = .ok (.iload_n 3, 1) := by decide +kernel
theorem dX9_refers_16 : decode cX9_refers 16 = .ok (.iload 4, 2) := by decide +kernel
theorem dX9_refers_18 : decode cX9_refers 18 = .ok (.invokevirtual 137, 3) := by decide +kernel
theorem dX9_refers_21 : decode cX9_refers 21 = .ok (.invokevirtual 130, 3) := by decide +kernel
theorem dX9_refers_24 : decode cX9_refers 24 = .ok (.ireturn, 1) := by decide +kernel
theorem dX9_cuts_0 : decode cX9_cuts 0 = .ok (.aload_n 0, 1) := by decide +kernel
theorem dX9_cuts_1 : decode cX9_cuts 1 = .ok (.getfield 22, 3) := by decide +kernel
theorem dX9_cuts_4 : decode cX9_cuts 4 = .ok (.aload_n 0, 1) := by decide +kernel
theorem dX9_cuts_5 : decode cX9_cuts 5 = .ok (.getfield 10, 3) := by decide +kernel
theorem dX9_cuts_8 : decode cX9_cuts 8 = .ok (.invokevirtual 122, 3) := by decide +kernel
theorem dX9_cuts_11 : decode cX9_cuts 11 = .ok (.aload_n 0, 1) := by decide +kernel
theorem dX9_cuts_12 : decode cX9_cuts 12 = .ok (.aload_n 0, 1) := by decide +kernel
theorem dX9_cuts_13 : decode cX9_cuts 13 = .ok (.iload_n 1, 1) := by decide +kernel
theorem dX9_cuts_14 : decode cX9_cuts 14 = .ok (.iload_n 2, 1) := by decide +kernel
theorem dX9_cuts_15 : decode cX9_cuts 15 = .ok (.iload_n 3, 1) := by decide +kernel
theorem dX9_cuts_16 : decode cX9_cuts 16 = .ok (.iload 4, 2) := by decide +kernel
theorem dX9_cuts_18 : decode cX9_cuts 18 = .ok (.invokevirtual 141, 3) := by decide +kernel
theorem dX9_cuts_21 : decode cX9_cuts 21 = .ok (.invokevirtual 130, 3) := by decide +kernel
theorem dX9_cuts_24 : decode cX9_cuts 24 = .ok (.ireturn, 1) := by decide +kernel
theorem dX9_shifts_0 : decode cX9_shifts 0 = .ok (.aload_n 0, 1) := by decide +kernel
theorem dX9_shifts_1 : decode cX9_shifts 1 = .ok (.getfield 22, 3) := by decide +kernel
theorem dX9_shifts_4 : decode cX9_shifts 4 = .ok (.aload_n 0, 1) := by decide +kernel
theorem dX9_shifts_5 : decode cX9_shifts 5 = .ok (.getfield 10, 3) := by decide +kernel
theorem dX9_shifts_8 : decode cX9_shifts 8 = .ok (.invokevirtual 122, 3) := by decide +kernel
theorem dX9_shifts_11 : decode cX9_shifts 11 = .ok (.aload_n 0, 1) := by decide +kernel
theorem dX9_shifts_12 : decode cX9_shifts 12 = .ok (.aload_n 0, 1) := by decide +kernel
theorem dX9_shifts_13 : decode cX9_shifts 13 = .ok (.iload_n 1, 1) := by decide +kernel
theorem dX9_shifts_14 : decode cX9_shifts 14 = .ok (.iload_n 2, 1) := by decide +kernel
theorem dX9_shifts_15 : decode cX9_shifts 15 = .ok (.iload_n 3, 1) := by decide +kernel
theorem dX9_shifts_16 : decode cX9_shifts 16 = .ok (.invokevirtual 144, 3) := by decide +kernel
theorem dX9_shifts_19 : decode cX9_shifts 19 = .ok (.invokevirtual 130, 3) := by decide +kernel
theorem dX9_shifts_22 : decode cX9_shifts 22 = .ok (.ireturn, 1) := by decide +kernel
theorem dX9_joins_0 : decode cX9_joins 0 = .ok (.aload_n 0, 1) := by decide +kernel
theorem dX9_joins_1 : decode cX9_joins 1 = .ok (.getfield 22, 3) := by decide +kernel
theorem dX9_joins_4 : decode cX9_joins 4 = .ok (.aload_n 0, 1) := by decide +kernel
theorem dX9_joins_5 : decode cX9_joins 5 = .ok (.getfield 10, 3) := by decide +kernel
theorem dX9_joins_8 : decode cX9_joins 8 = .ok (.invokevirtual 122, 3) := by decide +kernel
theorem dX9_joins_11 : decode cX9_joins 11 = .ok (.aload_n 0, 1) := by decide +kernel
theorem dX9_joins_12 : decode cX9_joins 12 = .ok (.aload_n 0, 1) := by decide +kernel
theorem dX9_joins_13 : decode cX9_joins 13 = .ok (.iload_n 1, 1) := by decide +kernel
theorem dX9_joins_14 : decode cX9_joins 14 = .ok (.invokevirtual 148, 3) := by decide +kernel
theorem dX9_joins_17 : decode cX9_joins 17 = .ok (.invokevirtual 130, 3) := by decide +kernel
theorem dX9_joins_20 : decode cX9_joins 20 = .ok (.ireturn, 1) := by decide +kernel
theorem dX9_way_0 : decode cX9_way 0 = .ok (.aload_n 0, 1) := by decide +kernel
theorem dX9_way_1 : decode cX9_way 1 = .ok (.getfield 22, 3) := by decide +kernel
theorem dX9_way_4 : decode cX9_way 4 = .ok (.aload_n 0, 1) := by decide +kernel
theorem dX9_way_5 : decode cX9_way 5 = .ok (.getfield 10, 3) := by decide +kernel
theorem dX9_way_8 : decode cX9_way 8 = .ok (.invokevirtual 122, 3) := by decide +kernel
theorem dX9_way_11 : decode cX9_way 11 = .ok (.aload_n 0, 1) := by decide +kernel
theorem dX9_way_12 : decode cX9_way 12 = .ok (.aload_n 0, 1) := by decide +kernel
theorem dX9_way_13 : decode cX9_way 13 = .ok (.iload_n 1, 1) := by decide +kernel
theorem dX9_way_14 : decode cX9_way 14 = .ok (.invokevirtual 151, 3) := by decide +kernel
theorem dX9_way_17 : decode cX9_way 17 = .ok (.invokevirtual 130, 3) := by decide +kernel
theorem dX9_way_20 : decode cX9_way 20 = .ok (.ireturn, 1) := by decide +kernel
theorem dX9_work_0 : decode cX9_work 0 = .ok (.aload_n 0, 1) := by decide +kernel
theorem dX9_work_1 : decode cX9_work 1 = .ok (.getfield 33, 3) := by decide +kernel
theorem dX9_work_4 : decode cX9_work 4 = .ok (.invokevirtual 154, 3) := by decide +kernel
theorem dX9_work_7 : decode cX9_work 7 = .ok (.istore_n 1, 1) := by decide +kernel
theorem dX9_work_8 : decode cX9_work 8 = .ok (.iload_n 1, 1) := by decide +kernel
theorem dX9_work_9 : decode cX9_work 9 = .ok (.ifCond .lt 14, 3) := by decide +kernel
theorem dX9_work_12 : decode cX9_work 12 = .ok (.aload_n 0, 1) := by decide +kernel
theorem dX9_work_13 : decode cX9_work 13 = .ok (.getfield 33, 3) := by decide +kernel
theorem dX9_work_16 : decode cX9_work 16 = .ok (.invokevirtual 158, 3) := by decide +kernel
theorem dX9_work_19 : decode cX9_work 19 = .ok (.iconst (-1), 1) := by decide +kernel
theorem dX9_work_20 : decode cX9_work 20 = .ok (.iload_n 1, 1) := by decide +kernel
theorem dX9_work_21 : decode cX9_work 21 = .ok (.isub, 1) := by decide +kernel
theorem dX9_work_22 : decode cX9_work 22 = .ok (.ireturn, 1) := by decide +kernel
theorem dX9_work_23 : decode cX9_work 23 = .ok (.aload_n 0, 1) := by decide +kernel
theorem dX9_work_24 : decode cX9_work 24 = .ok (.getfield 22, 3) := by decide +kernel
theorem dX9_work_27 : decode cX9_work 27 = .ok (.aload_n 0, 1) := by decide +kernel
theorem dX9_work_28 : decode cX9_work 28 = .ok (.getfield 10, 3) := by decide +kernel
theorem dX9_work_31 : decode cX9_work 31 = .ok (.invokevirtual 122, 3) := by decide +kernel
theorem dX9_work_34 : decode cX9_work 34 = .ok (.iconst 0, 1) := by decide +kernel
theorem dX9_work_35 : decode cX9_work 35 = .ok (.istore_n 2, 1) := by decide +kernel
theorem dX9_work_36 : decode cX9_work 36 = .ok (.iconst 0, 1) := by decide +kernel
theorem dX9_work_37 : decode cX9_work 37 = .ok (.istore_n 3, 1) := by decide +kernel
theorem dX9_work_38 : decode cX9_work 38 = .ok (.iconst 0, 1) := by decide +kernel
theorem dX9_work_39 : decode cX9_work 39 = .ok (.istore 4, 2) := by decide +kernel
theorem dX9_work_41 : decode cX9_work 41 = .ok (.iconst 0, 1) := by decide +kernel
theorem dX9_work_42 : decode cX9_work 42 = .ok (.istore 5, 2) := by decide +kernel
theorem dX9_work_44 : decode cX9_work 44 = .ok (.iload 5, 2) := by decide +kernel
theorem dX9_work_46 : decode cX9_work 46 = .ok (.bipush 80, 2) := by decide +kernel
theorem dX9_work_48 : decode cX9_work 48 = .ok (.if_icmp .ge 64, 3) := by decide +kernel
theorem dX9_work_51 : decode cX9_work 51 = .ok (.iload 4, 2) := by decide +kernel
theorem dX9_work_53 : decode cX9_work 53 = .ok (.aload_n 0, 1) := by decide +kernel
theorem dX9_work_54 : decode cX9_work 54 = .ok (.getfield 33, 3) := by decide +kernel
theorem dX9_work_57 : decode cX9_work 57 = .ok (.getfield 79, 3) := by decide +kernel
theorem dX9_work_60 : decode cX9_work 60 = .ok (.if_icmp .ge 52, 3) := by decide +kernel
theorem dX9_work_63 : decode cX9_work 63 = .ok (.iload_n 3, 1) := by decide +kernel
theorem dX9_work_64 : decode cX9_work 64 = .ok (.ifCond .ne 48, 3) := by decide +kernel
theorem dX9_work_67 : decode cX9_work 67 = .ok (.aload_n 0, 1) := by decide +kernel
theorem dX9_work_68 : decode cX9_work 68 = .ok (.iload 4, 2) := by decide +kernel
theorem dX9_work_70 : decode cX9_work 70 = .ok (.invokevirtual 161, 3) := by decide +kernel
theorem dX9_work_73 : decode cX9_work 73 = .ok (.ifCond .ge 8, 3) := by decide +kernel
theorem dX9_work_76 : decode cX9_work 76 = .ok (.iconst 1, 1) := by decide +kernel
theorem dX9_work_77 : decode cX9_work 77 = .ok (.istore_n 3, 1) := by decide +kernel
theorem dX9_work_78 : decode cX9_work 78 = .ok (.goto 6, 3) := by decide +kernel
theorem dX9_work_81 : decode cX9_work 81 = .ok (.iinc 2 1, 3) := by decide +kernel
theorem dX9_work_84 : decode cX9_work 84 = .ok (.iload 4, 2) := by decide +kernel
theorem dX9_work_86 : decode cX9_work 86 = .ok (.iconst 1, 1) := by decide +kernel
theorem dX9_work_87 : decode cX9_work 87 = .ok (.aload_n 0, 1) := by decide +kernel
theorem dX9_work_88 : decode cX9_work 88 = .ok (.getfield 33, 3) := by decide +kernel
theorem dX9_work_91 : decode cX9_work 91 = .ok (.iload 4, 2) := by decide +kernel
theorem dX9_work_93 : decode cX9_work 93 = .ok (.invokevirtual 164, 3) := by decide +kernel
theorem dX9_work_96 : decode cX9_work 96 = .ok (.invokestatic 167, 3) := by decide +kernel
theorem dX9_work_99 : decode cX9_work 99 = .ok (.invokevirtual 171, 3) := by decide +kernel
theorem dX9_work_102 : decode cX9_work 102 = .ok (.iadd, 1) := by decide +kernel
theorem dX9_work_103 : decode cX9_work 103 = .ok (.iadd, 1) := by decide +kernel
theorem dX9_work_104 : decode cX9_work 104 = .ok (.istore 4, 2) := by decide +kernel
theorem dX9_work_106 : decode cX9_work 106 = .ok (.iinc 5 1, 3) := by decide +kernel
theorem dX9_work_109 : decode cX9_work 109 = .ok (.goto (-65), 3) := by decide +kernel
theorem dX9_work_112 : decode cX9_work 112 = .ok (.iload_n 2, 1) := by decide +kernel
theorem dX9_work_113 : decode cX9_work 113 = .ok (.ifCond .le 10, 3) := by decide +kernel
theorem dX9_work_116 : decode cX9_work 116 = .ok (.aload_n 0, 1) := by decide +kernel
theorem dX9_work_117 : decode cX9_work 117 = .ok (.getfield 22, 3) := by decide +kernel
theorem dX9_work_120 : decode cX9_work 120 = .ok (.invokevirtual 176, 3) := by decide +kernel
theorem dX9_work_123 : decode cX9_work 123 = .ok (.aload_n 0, 1) := by decide +kernel
theorem dX9_work_124 : decode cX9_work 124 = .ok (.getfield 33, 3) := by decide +kernel
theorem dX9_work_127 : decode cX9_work 127 = .ok (.invokevirtual 158, 3) := by decide +kernel
theorem dX9_work_130 : decode cX9_work 130 = .ok (.aload_n 0, 1) := by decide +kernel
theorem dX9_work_131 : decode cX9_work 131 = .ok (.getfield 40, 3) := by decide +kernel
theorem dX9_work_134 : decode cX9_work 134 = .ok (.iload_n 3, 1) := by decide +kernel
theorem dX9_work_135 : decode cX9_work 135 = .ok (.ifCond .eq 7, 3) := by decide +kernel
theorem dX9_work_138 : decode cX9_work 138 = .ok (.lconst 1, 1) := by decide +kernel
theorem dX9_work_139 : decode cX9_work 139 = .ok (.goto 4, 3) := by decide +kernel
theorem dX9_work_142 : decode cX9_work 142 = .ok (.lconst 0, 1) := by decide +kernel
theorem dX9_work_143 : decode cX9_work 143 = .ok (.aload_n 0, 1) := by decide +kernel
theorem dX9_work_144 : decode cX9_work 144 = .ok (.getfield 10, 3) := by decide +kernel
theorem dX9_work_147 : decode cX9_work 147 = .ok (.getfield 102, 3) := by decide +kernel
theorem dX9_work_150 : decode cX9_work 150 = .ok (.getfield 106, 3) := by decide +kernel
theorem dX9_work_153 : decode cX9_work 153 = .ok (.aload_n 0, 1) := by decide +kernel
theorem dX9_work_154 : decode cX9_work 154 = .ok (.getfield 10, 3) := by decide +kernel
theorem dX9_work_157 : decode cX9_work 157 = .ok (.getfield 179, 3) := by decide +kernel
theorem dX9_work_160 : decode cX9_work 160 = .ok (.getfield 106, 3) := by decide +kernel
theorem dX9_work_163 : decode cX9_work 163 = .ok (.iadd, 1) := by decide +kernel
theorem dX9_work_164 : decode cX9_work 164 = .ok (.i2l, 1) := by decide +kernel
theorem dX9_work_165 : decode cX9_work 165 = .ok (.invokevirtual 182, 3) := by decide +kernel
theorem dX9_work_168 : decode cX9_work 168 = .ok (.iload_n 2, 1) := by decide +kernel
theorem dX9_work_169 : decode cX9_work 169 = .ok (.ireturn, 1) := by decide +kernel
theorem dX9_undo_0 : decode cX9_undo 0 = .ok (.aload_n 0, 1) := by decide +kernel
theorem dX9_undo_1 : decode cX9_undo 1 = .ok (.getfield 22, 3) := by decide +kernel
theorem dX9_undo_4 : decode cX9_undo 4 = .ok (.getfield 186, 3) := by decide +kernel
theorem dX9_undo_7 : decode cX9_undo 7 = .ok (.ifCond .ne 5, 3) := by decide +kernel
theorem dX9_undo_10 : decode cX9_undo 10 = .ok (.iconst (-1), 1) := by decide +kernel
theorem dX9_undo_11 : decode cX9_undo 11 = .ok (.ireturn, 1) := by decide +kernel
theorem dX9_undo_12 : decode cX9_undo 12 = .ok (.aload_n 0, 1) := by decide +kernel
theorem dX9_undo_13 : decode cX9_undo 13 = .ok (.getfield 22, 3) := by decide +kernel
theorem dX9_undo_16 : decode cX9_undo 16 = .ok (.dup, 1) := by decide +kernel
theorem dX9_undo_17 : decode cX9_undo 17 = .ok (.getfield 186, 3) := by decide +kernel
theorem dX9_undo_20 : decode cX9_undo 20 = .ok (.iconst 1, 1) := by decide +kernel
theorem dX9_undo_21 : decode cX9_undo 21 = .ok (.isub, 1) := by decide +kernel
theorem dX9_undo_22 : decode cX9_undo 22 = .ok (.putfield 186, 3) := by decide +kernel
theorem dX9_undo_25 : decode cX9_undo 25 = .ok (.aload_n 0, 1) := by decide +kernel
theorem dX9_undo_26 : decode cX9_undo 26 = .ok (.getfield 10, 3) := by decide +kernel
theorem dX9_undo_29 : decode cX9_undo 29 = .ok (.aload_n 0, 1) := by decide +kernel
theorem dX9_undo_30 : decode cX9_undo 30 = .ok (.getfield 22, 3) := by decide +kernel
theorem dX9_undo_33 : decode cX9_undo 33 = .ok (.aload_n 0, 1) := by decide +kernel
theorem dX9_undo_34 : decode cX9_undo 34 = .ok (.getfield 22, 3) := by decide +kernel
theorem dX9_undo_37 : decode cX9_undo 37 = .ok (.getfield 186, 3) := by decide +kernel
theorem dX9_undo_40 : decode cX9_undo 40 = .ok (.invokevirtual 187, 3) := by decide +kernel
theorem dX9_undo_43 : decode cX9_undo 43 = .ok (.invokevirtual 191, 3) := by decide +kernel
theorem dX9_undo_46 : decode cX9_undo 46 = .ok (.aload_n 0, 1) := by decide +kernel
theorem dX9_undo_47 : decode cX9_undo 47 = .ok (.getfield 22, 3) := by decide +kernel
theorem dX9_undo_50 : decode cX9_undo 50 = .ok (.getfield 186, 3) := by decide +kernel
theorem dX9_undo_53 : decode cX9_undo 53 = .ok (.ireturn, 1) := by decide +kernel
theorem dX9_noted_0 : decode cX9_noted 0 = .ok (.iload_n 1, 1) := by decide +kernel
theorem dX9_noted_1 : decode cX9_noted 1 = .ok (.ifCond .lt 10, 3) := by decide +kernel
theorem dX9_noted_4 : decode cX9_noted 4 = .ok (.aload_n 0, 1) := by decide +kernel
theorem dX9_noted_5 : decode cX9_noted 5 = .ok (.getfield 22, 3) := by decide +kernel
theorem dX9_noted_8 : decode cX9_noted 8 = .ok (.invokevirtual 176, 3) := by decide +kernel
theorem dX9_noted_11 : decode cX9_noted 11 = .ok (.iload_n 1, 1) := by decide +kernel
theorem dX9_noted_12 : decode cX9_noted 12 = .ok (.ireturn, 1) := by decide +kernel
theorem dX9_taken_0 : decode cX9_taken 0 = .ok (.aload_n 0, 1) := by decide +kernel
theorem dX9_taken_1 : decode cX9_taken 1 = .ok (.getfield 16, 3) := by decide +kernel
theorem dX9_taken_4 : decode cX9_taken 4 = .ok (.getfield 102, 3) := by decide +kernel
theorem dX9_taken_7 : decode cX9_taken 7 = .ok (.getfield 106, 3) := by decide +kernel
theorem dX9_taken_10 : decode cX9_taken 10 = .ok (.bipush 20, 2) := by decide +kernel
theorem dX9_taken_12 : decode cX9_taken 12 = .ok (.if_icmp .gt 18, 3) := by decide +kernel
theorem dX9_taken_15 : decode cX9_taken 15 = .ok (.aload_n 0, 1) := by decide +kernel
theorem dX9_taken_16 : decode cX9_taken 16 = .ok (.getfield 16, 3) := by decide +kernel
theorem dX9_taken_19 : decode cX9_taken 19 = .ok (.getfield 179, 3) := by decide +kernel
theorem dX9_taken_22 : decode cX9_taken 22 = .ok (.getfield 106, 3) := by decide +kernel
theorem dX9_taken_25 : decode cX9_taken 25 = .ok (.bipush 20, 2) := by decide +kernel
theorem dX9_taken_27 : decode cX9_taken 27 = .ok (.if_icmp .le 6, 3) := by decide +kernel
theorem dX9_taken_30 : decode cX9_taken 30 = .ok (.bipush (-9), 2) := by decide +kernel
theorem dX9_taken_32 : decode cX9_taken 32 = .ok (.ireturn, 1) := by decide +kernel
theorem dX9_taken_33 : decode cX9_taken 33 = .ok (.aload_n 0, 1) := by decide +kernel
theorem dX9_taken_34 : decode cX9_taken 34 = .ok (.getfield 10, 3) := by decide +kernel
theorem dX9_taken_37 : decode cX9_taken 37 = .ok (.aload_n 0, 1) := by decide +kernel
theorem dX9_taken_38 : decode cX9_taken 38 = .ok (.getfield 16, 3) := by decide +kernel
theorem dX9_taken_41 : decode cX9_taken 41 = .ok (.invokevirtual 191, 3) := by decide +kernel
theorem dX9_taken_44 : decode cX9_taken 44 = .ok (.iload_n 1, 1) := by decide +kernel
theorem dX9_taken_45 : decode cX9_taken 45 = .ok (.ireturn, 1) := by decide +kernel
theorem dX9_addRow_0 : decode cX9_addRow 0 = .ok (.iload_n 1, 1) := by decide +kernel
theorem dX9_addRow_1 : decode cX9_addRow 1 = .ok (.iload_n 2, 1) := by decide +kernel
theorem dX9_addRow_2 : decode cX9_addRow 2 = .ok (.iload 4, 2) := by decide +kernel
theorem dX9_addRow_4 : decode cX9_addRow 4 = .ok (.iload 5, 2) := by decide +kernel
theorem dX9_addRow_6 : decode cX9_addRow 6 = .ok (.invokestatic 194, 3) := by decide +kernel
theorem dX9_addRow_9 : decode cX9_addRow 9 = .ok (.ifCond .eq 10, 3) := by decide +kernel
theorem dX9_addRow_12 : decode cX9_addRow 12 = .ok (.iload_n 3, 1) := by decide +kernel
theorem dX9_addRow_13 : decode cX9_addRow 13 = .ok (.invokestatic 198, 3) := by decide +kernel
theorem dX9_addRow_16 : decode cX9_addRow 16 = .ok (.ifCond .ne 5, 3) := by decide +kernel
theorem dX9_addRow_19 : decode cX9_addRow 19 = .ok (.iconst (-1), 1) := by decide +kernel
theorem dX9_addRow_20 : decode cX9_addRow 20 = .ok (.ireturn, 1) := by decide +kernel
theorem dX9_addRow_21 : decode cX9_addRow 21 = .ok (.aload_n 0, 1) := by decide +kernel
theorem dX9_addRow_22 : decode cX9_addRow 22 = .ok (.getfield 10, 3) := by decide +kernel
theorem dX9_addRow_25 : decode cX9_addRow 25 = .ok (.iload_n 1, 1) := by decide +kernel
theorem dX9_addRow_26 : decode cX9_addRow 26 = .ok (.invokevirtual 86, 3) := by decide +kernel
theorem dX9_addRow_29 : decode cX9_addRow 29 = .ok (.astore 6, 2) := by decide +kernel
theorem dX9_addRow_31 : decode cX9_addRow 31 = .ok (.aload 6, 2) := by decide +kernel
theorem dX9_addRow_33 : decode cX9_addRow 33 = .ok (.iload_n 2, 1) := by decide +kernel
theorem dX9_addRow_34 : decode cX9_addRow 34 = .ok (.iload 4, 2) := by decide +kernel
theorem dX9_addRow_36 : decode cX9_addRow 36 = .ok (.iload 5, 2) := by decide +kernel
theorem dX9_addRow_38 : decode cX9_addRow 38 = .ok (.invokevirtual 201, 3) := by decide +kernel
theorem dX9_addRow_41 : decode cX9_addRow 41 = .ok (.ifCond .le 6, 3) := by decide +kernel
theorem dX9_addRow_44 : decode cX9_addRow 44 = .ok (.bipush (-2), 2) := by decide +kernel
theorem dX9_addRow_46 : decode cX9_addRow 46 = .ok (.ireturn, 1) := by decide +kernel
theorem dX9_addRow_47 : decode cX9_addRow 47 = .ok (.aload_n 0, 1) := by decide +kernel
theorem dX9_addRow_48 : decode cX9_addRow 48 = .ok (.getfield 16, 3) := by decide +kernel
theorem dX9_addRow_51 : decode cX9_addRow 51 = .ok (.aload_n 0, 1) := by decide +kernel
theorem dX9_addRow_52 : decode cX9_addRow 52 = .ok (.getfield 10, 3) := by decide +kernel
theorem dX9_addRow_55 : decode cX9_addRow 55 = .ok (.invokevirtual 191, 3) := by decide +kernel
theorem dX9_addRow_58 : decode cX9_addRow 58 = .ok (.aload_n 0, 1) := by decide +kernel
theorem dX9_addRow_59 : decode cX9_addRow 59 = .ok (.getfield 16, 3) := by decide +kernel
theorem dX9_addRow_62 : decode cX9_addRow 62 = .ok (.iload_n 1, 1) := by decide +kernel
theorem dX9_addRow_63 : decode cX9_addRow 63 = .ok (.invokevirtual 86, 3) := by decide +kernel
theorem dX9_addRow_66 : decode cX9_addRow 66 = .ok (.astore 7, 2) := by decide +kernel
theorem dX9_addRow_68 : decode cX9_addRow 68 = .ok (.aload 6, 2) := by decide +kernel
theorem dX9_addRow_70 : decode cX9_addRow 70 = .ok (.iload_n 2, 1) := by decide +kernel
theorem dX9_addRow_71 : decode cX9_addRow 71 = .ok (.iload 4, 2) := by decide +kernel
theorem dX9_addRow_73 : decode cX9_addRow 73 = .ok (.invokevirtual 204, 3) := by decide +kernel
theorem dX9_addRow_76 : decode cX9_addRow 76 = .ok (.istore 8, 2) := by decide +kernel
theorem dX9_addRow_78 : decode cX9_addRow 78 = .ok (.aload 7, 2) := by decide +kernel
theorem dX9_addRow_80 : decode cX9_addRow 80 = .ok (.iload 8, 2) := by decide +kernel
theorem dX9_addRow_82 : decode cX9_addRow 82 = .ok (.putfield 106, 3) := by decide +kernel
theorem dX9_addRow_85 : decode cX9_addRow 85 = .ok (.aload 7, 2) := by decide +kernel
theorem dX9_addRow_87 : decode cX9_addRow 87 = .ok (.iload_n 2, 1) := by decide +kernel
theorem dX9_addRow_88 : decode cX9_addRow 88 = .ok (.iload_n 3, 1) := by decide +kernel
theorem dX9_addRow_89 : decode cX9_addRow 89 = .ok (.iload 4, 2) := by decide +kernel
theorem dX9_addRow_91 : decode cX9_addRow 91 = .ok (.iload 5, 2) := by decide +kernel
theorem dX9_addRow_93 : decode cX9_addRow 93 = .ok (.bipush 10, 2) := by decide +kernel
theorem dX9_addRow_95 : decode cX9_addRow 95 = .ok (.invokevirtual 207, 3) := by decide +kernel
theorem dX9_addRow_98 : decode cX9_addRow 98 = .ok (.iload 8, 2) := by decide +kernel
theorem dX9_addRow_100 : decode cX9_addRow 100 = .ok (.istore 9, 2) := by decide +kernel
theorem dX9_addRow_102 : decode cX9_addRow 102 = .ok (.iload 9, 2) := by decide +kernel
theorem dX9_addRow_104 : decode cX9_addRow 104 = .ok (.aload 6, 2) := by decide +kernel
theorem dX9_addRow_106 : decode cX9_addRow 106 = .ok (.getfield 106, 3) := by decide +kernel
theorem dX9_addRow_109 : decode cX9_addRow 109 = .ok (.if_icmp .ge 21, 3) := by decide +kernel
theorem dX9_addRow_112 : decode cX9_addRow 112 = .ok (.aload 7, 2) := by decide +kernel
theorem dX9_addRow_114 : decode cX9_addRow 114 = .ok (.aload 6, 2) := by decide +kernel
theorem dX9_addRow_116 : decode cX9_addRow 116 = .ok (.iload 9, 2) := by decide +kernel
theorem dX9_addRow_118 : decode cX9_addRow 118 = .ok (.iconst 0, 1) := by decide +kernel
theorem dX9_addRow_119 : decode cX9_addRow 119 = .ok (.bipush 100, 2) := by decide +kernel
theorem dX9_addRow_121 : decode cX9_addRow 121 = .ok (.invokevirtual 211, 3) := by decide +kernel
theorem dX9_addRow_124 : decode cX9_addRow 124 = .ok (.iinc 9 1, 3) := by decide +kernel
theorem dX9_addRow_127 : decode cX9_addRow 127 = .ok (.goto (-25), 3) := by decide +kernel
theorem dX9_addRow_130 : decode cX9_addRow 130 = .ok (.aload_n 0, 1) := by decide +kernel
theorem dX9_addRow_131 : decode cX9_addRow 131 = .ok (.iload 8, 2) := by decide +kernel
theorem dX9_addRow_133 : decode cX9_addRow 133 = .ok (.invokevirtual 215, 3) := by decide +kernel
theorem dX9_addRow_136 : decode cX9_addRow 136 = .ok (.ireturn, 1) := by decide +kernel
theorem dX9_setValue_0 : decode cX9_setValue 0 = .ok (.iload_n 1, 1) := by decide +kernel
theorem dX9_setValue_1 : decode cX9_setValue 1 = .ok (.iload_n 2, 1) := by decide +kernel
theorem dX9_setValue_2 : decode cX9_setValue 2 = .ok (.iload 4, 2) := by decide +kernel
theorem dX9_setValue_4 : decode cX9_setValue 4 = .ok (.iload 5, 2) := by decide +kernel
theorem dX9_setValue_6 : decode cX9_setValue 6 = .ok (.invokestatic 194, 3) := by decide +kernel
theorem dX9_setValue_9 : decode cX9_setValue 9 = .ok (.ifCond .eq 10, 3) := by decide +kernel
theorem dX9_setValue_12 : decode cX9_setValue 12 = .ok (.iload_n 3, 1) := by decide +kernel
theorem dX9_setValue_13 : decode cX9_setValue 13 = .ok (.invokestatic 198, 3) := by decide +kernel
theorem dX9_setValue_16 : decode cX9_setValue 16 = .ok (.ifCond .ne 5, 3) := by decide +kernel
theorem dX9_setValue_19 : decode cX9_setValue 19 = .ok (.iconst (-1), 1) := by decide +kernel
theorem dX9_setValue_20 : decode cX9_setValue 20 = .ok (.ireturn, 1) := by decide +kernel
theorem dX9_setValue_21 : decode cX9_setValue 21 = .ok (.aload_n 0, 1) := by decide +kernel
theorem dX9_setValue_22 : decode cX9_setValue 22 = .ok (.getfield 10, 3) := by decide +kernel
theorem dX9_setValue_25 : decode cX9_setValue 25 = .ok (.iload_n 1, 1) := by decide +kernel
theorem dX9_setValue_26 : decode cX9_setValue 26 = .ok (.invokevirtual 86, 3) := by decide +kernel
theorem dX9_setValue_29 : decode cX9_setValue 29 = .ok (.astore 6, 2) := by decide +kernel
theorem dX9_setValue_31 : decode cX9_setValue 31 = .ok (.aload 6, 2) := by decide +kernel
theorem dX9_setValue_33 : decode cX9_setValue 33 = .ok (.iload_n 2, 1) := by decide +kernel
theorem dX9_setValue_34 : decode cX9_setValue 34 = .ok (.iload 4, 2) := by decide +kernel
theorem dX9_setValue_36 : decode cX9_setValue 36 = .ok (.iload 5, 2) := by decide +kernel
theorem dX9_setValue_38 : decode cX9_setValue 38 = .ok (.invokevirtual 201, 3) := by decide +kernel
theorem dX9_setValue_41 : decode cX9_setValue 41 = .ok (.istore 7, 2) := by decide +kernel
theorem dX9_setValue_43 : decode cX9_setValue 43 = .ok (.iload 7, 2) := by decide +kernel
theorem dX9_setValue_45 : decode cX9_setValue 45 = .ok (.ifCond .ne 6, 3) := by decide +kernel
theorem dX9_setValue_48 : decode cX9_setValue 48 = .ok (.bipush (-2), 2) := by decide +kernel
theorem dX9_setValue_50 : decode cX9_setValue 50 = .ok (.ireturn, 1) := by decide +kernel
theorem dX9_setValue_51 : decode cX9_setValue 51 = .ok (.aload_n 0, 1) := by decide +kernel
theorem dX9_setValue_52 : decode cX9_setValue 52 = .ok (.getfield 16, 3) := by decide +kernel
theorem dX9_setValue_55 : decode cX9_setValue 55 = .ok (.aload_n 0, 1) := by decide +kernel
theorem dX9_setValue_56 : decode cX9_setValue 56 = .ok (.getfield 10, 3) := by decide +kernel
theorem dX9_setValue_59 : decode cX9_setValue 59 = .ok (.invokevirtual 191, 3) := by decide +kernel
theorem dX9_setValue_62 : decode cX9_setValue 62 = .ok (.aload_n 0, 1) := by decide +kernel
theorem dX9_setValue_63 : decode cX9_setValue 63 = .ok (.getfield 16, 3) := by decide +kernel
theorem dX9_setValue_66 : decode cX9_setValue 66 = .ok (.iload_n 1, 1) := by decide +kernel
theorem dX9_setValue_67 : decode cX9_setValue 67 = .ok (.invokevirtual 86, 3) := by decide +kernel
theorem dX9_setValue_70 : decode cX9_setValue 70 = .ok (.aload 6, 2) := by decide +kernel
theorem dX9_setValue_72 : decode cX9_setValue 72 = .ok (.iload_n 2, 1) := by decide +kernel
theorem dX9_setValue_73 : decode cX9_setValue 73 = .ok (.iload 4, 2) := by decide +kernel
theorem dX9_setValue_75 : decode cX9_setValue 75 = .ok (.iload 5, 2) := by decide +kernel
theorem dX9_setValue_77 : decode cX9_setValue 77 = .ok (.iconst 1, 1) := by decide +kernel
theorem dX9_setValue_78 : decode cX9_setValue 78 = .ok (.iload_n 3, 1) := by decide +kernel
theorem dX9_setValue_79 : decode cX9_setValue 79 = .ok (.invokevirtual 218, 3) := by decide +kernel
theorem dX9_setValue_82 : decode cX9_setValue 82 = .ok (.aload_n 0, 1) := by decide +kernel
theorem dX9_setValue_83 : decode cX9_setValue 83 = .ok (.iload 7, 2) := by decide +kernel
theorem dX9_setValue_85 : decode cX9_setValue 85 = .ok (.iload_n 1, 1) := by decide +kernel
theorem dX9_setValue_86 : decode cX9_setValue 86 = .ok (.invokevirtual 222, 3) := by decide +kernel
theorem dX9_setValue_89 : decode cX9_setValue 89 = .ok (.ireturn, 1) := by decide +kernel
theorem dX9_setRef_0 : decode cX9_setRef 0 = .ok (.iconst 0, 1) := by decide +kernel
theorem dX9_setRef_1 : decode cX9_setRef 1 = .ok (.iload_n 1, 1) := by decide +kernel
theorem dX9_setRef_2 : decode cX9_setRef 2 = .ok (.iload_n 3, 1) := by decide +kernel
theorem dX9_setRef_3 : decode cX9_setRef 3 = .ok (.iload 4, 2) := by decide +kernel
theorem dX9_setRef_5 : decode cX9_setRef 5 = .ok (.invokestatic 194, 3) := by decide +kernel
theorem dX9_setRef_8 : decode cX9_setRef 8 = .ok (.ifCond .eq 13, 3) := by decide +kernel
theorem dX9_setRef_11 : decode cX9_setRef 11 = .ok (.iload_n 2, 1) := by decide +kernel
theorem dX9_setRef_12 : decode cX9_setRef 12 = .ok (.ifCond .lt 9, 3) := by decide +kernel
theorem dX9_setRef_15 : decode cX9_setRef 15 = .ok (.iload_n 2, 1) := by decide +kernel
theorem dX9_setRef_16 : decode cX9_setRef 16 = .ok (.bipush 10, 2) := by decide +kernel
theorem dX9_setRef_18 : decode cX9_setRef 18 = .ok (.if_icmp .le 5, 3) := by decide +kernel
theorem dX9_setRef_21 : decode cX9_setRef 21 = .ok (.iconst (-1), 1) := by decide +kernel
theorem dX9_setRef_22 : decode cX9_setRef 22 = .ok (.ireturn, 1) := by decide +kernel
theorem dX9_setRef_23 : decode cX9_setRef 23 = .ok (.aload_n 0, 1) := by decide +kernel
theorem dX9_setRef_24 : decode cX9_setRef 24 = .ok (.getfield 10, 3) := by decide +kernel
theorem dX9_setRef_27 : decode cX9_setRef 27 = .ok (.getfield 102, 3) := by decide +kernel
theorem dX9_setRef_30 : decode cX9_setRef 30 = .ok (.iload_n 1, 1) := by decide +kernel
theorem dX9_setRef_31 : decode cX9_setRef 31 = .ok (.iload_n 3, 1) := by decide +kernel
theorem dX9_setRef_32 : decode cX9_setRef 32 = .ok (.iload 4, 2) := by decide +kernel
theorem dX9_setRef_34 : decode cX9_setRef 34 = .ok (.invokevirtual 201, 3) := by decide +kernel
theorem dX9_setRef_37 : decode cX9_setRef 37 = .ok (.istore 5, 2) := by decide +kernel
theorem dX9_setRef_39 : decode cX9_setRef 39 = .ok (.iload 5, 2) := by decide +kernel
theorem dX9_setRef_41 : decode cX9_setRef 41 = .ok (.ifCond .ne 6, 3) := by decide +kernel
theorem dX9_setRef_44 : decode cX9_setRef 44 = .ok (.bipush (-2), 2) := by decide +kernel
theorem dX9_setRef_46 : decode cX9_setRef 46 = .ok (.ireturn, 1) := by decide +kernel
theorem dX9_setRef_47 : decode cX9_setRef 47 = .ok (.aload_n 0, 1) := by decide +kernel
theorem dX9_setRef_48 : decode cX9_setRef 48 = .ok (.getfield 16, 3) := by decide +kernel
theorem dX9_setRef_51 : decode cX9_setRef 51 = .ok (.aload_n 0, 1) := by decide +kernel
theorem dX9_setRef_52 : decode cX9_setRef 52 = .ok (.getfield 10, 3) := by decide +kernel
theorem dX9_setRef_55 : decode cX9_setRef 55 = .ok (.invokevirtual 191, 3) := by decide +kernel
theorem dX9_setRef_58 : decode cX9_setRef 58 = .ok (.aload_n 0, 1) := by decide +kernel
theorem dX9_setRef_59 : decode cX9_setRef 59 = .ok (.getfield 16, 3) := by decide +kernel
theorem dX9_setRef_62 : decode cX9_setRef 62 = .ok (.getfield 102, 3) := by decide +kernel
theorem dX9_setRef_65 : decode cX9_setRef 65 = .ok (.aload_n 0, 1) := by decide +kernel
theorem dX9_setRef_66 : decode cX9_setRef 66 = .ok (.getfield 10, 3) := by decide +kernel
theorem dX9_setRef_69 : decode cX9_setRef 69 = .ok (.getfield 102, 3) := by decide +kernel
theorem dX9_setRef_72 : decode cX9_setRef 72 = .ok (.iload_n 1, 1) := by decide +kernel
theorem dX9_setRef_73 : decode cX9_setRef 73 = .ok (.iload_n 3, 1) := by decide +kernel
theorem dX9_setRef_74 : decode cX9_setRef 74 = .ok (.iload 4, 2) := by decide +kernel
theorem dX9_setRef_76 : decode cX9_setRef 76 = .ok (.iconst 4, 1) := by decide +kernel
theorem dX9_setRef_77 : decode cX9_setRef 77 = .ok (.iload_n 2, 1) := by decide +kernel
theorem dX9_setRef_78 : decode cX9_setRef 78 = .ok (.invokevirtual 218, 3) := by decide +kernel
theorem dX9_setRef_81 : decode cX9_setRef 81 = .ok (.aload_n 0, 1) := by decide +kernel
theorem dX9_setRef_82 : decode cX9_setRef 82 = .ok (.getfield 16, 3) := by decide +kernel
theorem dX9_setRef_85 : decode cX9_setRef 85 = .ok (.invokevirtual 225, 3) := by decide +kernel
theorem dX9_setRef_88 : decode cX9_setRef 88 = .ok (.ifCond .eq 13, 3) := by decide +kernel
theorem dX9_setRef_91 : decode cX9_setRef 91 = .ok (.aload_n 0, 1) := by decide +kernel
theorem dX9_setRef_92 : decode cX9_setRef 92 = .ok (.iload 5, 2) := by decide +kernel
theorem dX9_setRef_94 : decode cX9_setRef 94 = .ok (.iconst 0, 1) := by decide +kernel
theorem dX9_setRef_95 : decode cX9_setRef 95 = .ok (.invokevirtual 222, 3) := by decide +kernel
theorem dX9_setRef_98 : decode cX9_setRef 98 = .ok (.goto 5, 3) := by decide +kernel
theorem dX9_setRef_101 : decode cX9_setRef 101 = .ok (.bipush (-3), 2) := by decide +kernel
theorem dX9_setRef_103 : decode cX9_setRef 103 = .ok (.ireturn, 1) := by decide +kernel
theorem dX9_takenAndTold_0 : decode cX9_takenAndTold 0 = .ok (.aload_n 0, 1) := by decide +kernel
theorem dX9_takenAndTold_1 : decode cX9_takenAndTold 1 = .ok (.iload_n 1, 1) := by decide +kernel
theorem dX9_takenAndTold_2 : decode cX9_takenAndTold 2 = .ok (.invokevirtual 215, 3) := by decide +kernel
theorem dX9_takenAndTold_5 : decode cX9_takenAndTold 5 = .ok (.istore_n 3, 1) := by decide +kernel
theorem dX9_takenAndTold_6 : decode cX9_takenAndTold 6 = .ok (.iload_n 3, 1) := by decide +kernel
theorem dX9_takenAndTold_7 : decode cX9_takenAndTold 7 = .ok (.ifCond .lt 22, 3) := by decide +kernel
theorem dX9_takenAndTold_10 : decode cX9_takenAndTold 10 = .ok (.aload_n 0, 1) := by decide +kernel
theorem dX9_takenAndTold_11 : decode cX9_takenAndTold 11 = .ok (.getfield 40, 3) := by decide +kernel
theorem dX9_takenAndTold_14 : decode cX9_takenAndTold 14 = .ok (.aload_n 0, 1) := by decide +kernel
theorem dX9_takenAndTold_15 : decode cX9_takenAndTold 15 = .ok (.getfield 10, 3) := by decide +kernel
theorem dX9_takenAndTold_18 : decode cX9_takenAndTold 18 = .ok (.iload_n 2, 1) := by decide +kernel
theorem dX9_takenAndTold_19 : decode cX9_takenAndTold 19 = .ok (.invokevirtual 86, 3) := by decide +kernel
theorem dX9_takenAndTold_22 : decode cX9_takenAndTold 22 = .ok (.getfield 106, 3) := by decide +kernel
theorem dX9_takenAndTold_25 : decode cX9_takenAndTold 25 = .ok (.i2l, 1) := by decide +kernel
theorem dX9_takenAndTold_26 : decode cX9_takenAndTold 26 = .ok (.invokevirtual 229, 3) := by decide +kernel
theorem dX9_takenAndTold_29 : decode cX9_takenAndTold 29 = .ok (.iload_n 3, 1) := by decide +kernel
theorem dX9_takenAndTold_30 : decode cX9_takenAndTold 30 = .ok (.ireturn, 1) := by decide +kernel
theorem dX9_cutPeriod_0 : decode cX9_cutPeriod 0 = .ok (.iload_n 1, 1) := by decide +kernel
theorem dX9_cutPeriod_1 : decode cX9_cutPeriod 1 = .ok (.iload_n 2, 1) := by decide +kernel
theorem dX9_cutPeriod_2 : decode cX9_cutPeriod 2 = .ok (.iload_n 3, 1) := by decide +kernel
theorem dX9_cutPeriod_3 : decode cX9_cutPeriod 3 = .ok (.iload 4, 2) := by decide +kernel
theorem dX9_cutPeriod_5 : decode cX9_cutPeriod 5 = .ok (.invokestatic 194, 3) := by decide +kernel
theorem dX9_cutPeriod_8 : decode cX9_cutPeriod 8 = .ok (.ifCond .ne 5, 3) := by decide +kernel
theorem dX9_cutPeriod_11 : decode cX9_cutPeriod 11 = .ok (.iconst (-1), 1) := by decide +kernel
theorem dX9_cutPeriod_12 : decode cX9_cutPeriod 12 = .ok (.ireturn, 1) := by decide +kernel
theorem dX9_cutPeriod_13 : decode cX9_cutPeriod 13 = .ok (.aload_n 0, 1) := by decide +kernel
theorem dX9_cutPeriod_14 : decode cX9_cutPeriod 14 = .ok (.getfield 10, 3) := by decide +kernel
theorem dX9_cutPeriod_17 : decode cX9_cutPeriod 17 = .ok (.iload_n 1, 1) := by decide +kernel
theorem dX9_cutPeriod_18 : decode cX9_cutPeriod 18 = .ok (.invokevirtual 86, 3) := by decide +kernel
theorem dX9_cutPeriod_21 : decode cX9_cutPeriod 21 = .ok (.astore 5, 2) := by decide +kernel
theorem dX9_cutPeriod_23 : decode cX9_cutPeriod 23 = .ok (.aload 5, 2) := by decide +kernel
theorem dX9_cutPeriod_25 : decode cX9_cutPeriod 25 = .ok (.iload_n 2, 1) := by decide +kernel
theorem dX9_cutPeriod_26 : decode cX9_cutPeriod 26 = .ok (.iload_n 3, 1) := by decide +kernel
theorem dX9_cutPeriod_27 : decode cX9_cutPeriod 27 = .ok (.iload 4, 2) := by decide +kernel
theorem dX9_cutPeriod_29 : decode cX9_cutPeriod 29 = .ok (.invokevirtual 201, 3) := by decide +kernel
theorem dX9_cutPeriod_32 : decode cX9_cutPeriod 32 = .ok (.istore 6, 2) := by decide +kernel
theorem dX9_cutPeriod_34 : decode cX9_cutPeriod 34 = .ok (.iload 6, 2) := by decide +kernel
theorem dX9_cutPeriod_36 : decode cX9_cutPeriod 36 = .ok (.ifCond .ne 6, 3) := by decide +kernel
theorem dX9_cutPeriod_39 : decode cX9_cutPeriod 39 = .ok (.bipush (-2), 2) := by decide +kernel
theorem dX9_cutPeriod_41 : decode cX9_cutPeriod 41 = .ok (.ireturn, 1) := by decide +kernel
theorem dX9_cutPeriod_42 : decode cX9_cutPeriod 42 = .ok (.aload 5, 2) := by decide +kernel
theorem dX9_cutPeriod_44 : decode cX9_cutPeriod 44 = .ok (.iload_n 2, 1) := by decide +kernel
theorem dX9_cutPeriod_45 : decode cX9_cutPeriod 45 = .ok (.iload_n 3, 1) := by decide +kernel
theorem dX9_cutPeriod_46 : decode cX9_cutPeriod 46 = .ok (.iload 4, 2) := by decide +kernel
theorem dX9_cutPeriod_48 : decode cX9_cutPeriod 48 = .ok (.invokevirtual 232, 3) := by decide +kernel
theorem dX9_cutPeriod_51 : decode cX9_cutPeriod 51 = .ok (.istore 7, 2) := by decide +kernel
theorem dX9_cutPeriod_53 : decode cX9_cutPeriod 53 = .ok (.aload_n 0, 1) := by decide +kernel
theorem dX9_cutPeriod_54 : decode cX9_cutPeriod 54 = .ok (.getfield 16, 3) := by decide +kernel
theorem dX9_cutPeriod_57 : decode cX9_cutPeriod 57 = .ok (.aload_n 0, 1) := by decide +kernel
theorem dX9_cutPeriod_58 : decode cX9_cutPeriod 58 = .ok (.getfield 10, 3) := by decide +kernel
theorem dX9_cutPeriod_61 : decode cX9_cutPeriod 61 = .ok (.invokevirtual 191, 3) := by decide +kernel
theorem dX9_cutPeriod_64 : decode cX9_cutPeriod 64 = .ok (.aload_n 0, 1) := by decide +kernel
theorem dX9_cutPeriod_65 : decode cX9_cutPeriod 65 = .ok (.getfield 16, 3) := by decide +kernel
