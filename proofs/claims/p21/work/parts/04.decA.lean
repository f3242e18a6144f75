theorem dX0_init_0 : decode cX0_init 0 = .ok (.aload_n 0, 1) := by decide +kernel
theorem dX0_init_1 : decode cX0_init 1 = .ok (.invokespecial 3, 3) := by decide +kernel
theorem dX0_init_4 : decode cX0_init 4 = .ok (.aload_n 0, 1) := by decide +kernel
theorem dX0_init_5 : decode cX0_init 5 = .ok (.iconst 0, 1) := by decide +kernel
theorem dX0_init_6 : decode cX0_init 6 = .ok (.putfield 9, 3) := by decide +kernel
theorem dX0_init_9 : decode cX0_init 9 = .ok (.aload_n 0, 1) := by decide +kernel
theorem dX0_init_10 : decode cX0_init 10 = .ok (.bipush 40, 2) := by decide +kernel
theorem dX0_init_12 : decode cX0_init 12 = .ok (.newarray .boolean, 2) := by decide +kernel
theorem dX0_init_14 : decode cX0_init 14 = .ok (.putfield 15, 3) := by decide +kernel
theorem dX0_init_17 : decode cX0_init 17 = .ok (.aload_n 0, 1) := by decide +kernel
theorem dX0_init_18 : decode cX0_init 18 = .ok (.bipush 40, 2) := by decide +kernel
theorem dX0_init_20 : decode cX0_init 20 = .ok (.newarray .int, 2) := by decide +kernel
theorem dX0_init_22 : decode cX0_init 22 = .ok (.putfield 19, 3) := by decide +kernel
theorem dX0_init_25 : decode cX0_init 25 = .ok (.aload_n 0, 1) := by decide +kernel
theorem dX0_init_26 : decode cX0_init 26 = .ok (.bipush 40, 2) := by decide +kernel
theorem dX0_init_28 : decode cX0_init 28 = .ok (.newarray .int, 2) := by decide +kernel
theorem dX0_init_30 : decode cX0_init 30 = .ok (.putfield 23, 3) := by decide +kernel
theorem dX0_init_33 : decode cX0_init 33 = .ok (.aload_n 0, 1) := by decide +kernel
theorem dX0_init_34 : decode cX0_init 34 = .ok (.bipush 40, 2) := by decide +kernel
theorem dX0_init_36 : decode cX0_init 36 = .ok (.newarray .int, 2) := by decide +kernel
theorem dX0_init_38 : decode cX0_init 38 = .ok (.putfield 26, 3) := by decide +kernel
theorem dX0_init_41 : decode cX0_init 41 = .ok (.aload_n 0, 1) := by decide +kernel
theorem dX0_init_42 : decode cX0_init 42 = .ok (.bipush 40, 2) := by decide +kernel
theorem dX0_init_44 : decode cX0_init 44 = .ok (.bipush 40, 2) := by decide +kernel
theorem dX0_init_46 : decode cX0_init 46 = .ok (.multianewarray 29 2, 4) := by decide +kernel
theorem dX0_init_50 : decode cX0_init 50 = .ok (.putfield 31, 3) := by decide +kernel
theorem dX0_init_53 : decode cX0_init 53 = .ok (.return_, 1) := by decide +kernel
theorem dX0_knows_0 : decode cX0_knows 0 = .ok (.iload_n 1, 1) := by decide +kernel
theorem dX0_knows_1 : decode cX0_knows 1 = .ok (.ifCond .lt 15, 3) := by decide +kernel
theorem dX0_knows_4 : decode cX0_knows 4 = .ok (.iload_n 1, 1) := by decide +kernel
theorem dX0_knows_5 : decode cX0_knows 5 = .ok (.aload_n 0, 1) := by decide +kernel
theorem dX0_knows_6 : decode cX0_knows 6 = .ok (.getfield 9, 3) := by decide +kernel
theorem dX0_knows_9 : decode cX0_knows 9 = .ok (.if_icmp .ge 7, 3) := by decide +kernel
theorem dX0_knows_12 : decode cX0_knows 12 = .ok (.iconst 1, 1) := by decide +kernel
theorem dX0_knows_13 : decode cX0_knows 13 = .ok (.goto 4, 3) := by decide +kernel
theorem dX0_knows_16 : decode cX0_knows 16 = .ok (.iconst 0, 1) := by decide +kernel
theorem dX0_knows_17 : decode cX0_knows 17 = .ok (.ireturn, 1) := by decide +kernel
theorem dX0_isFull_0 : decode cX0_isFull 0 = .ok (.aload_n 0, 1) := by decide +kernel
theorem dX0_isFull_1 : decode cX0_isFull 1 = .ok (.getfield 9, 3) := by decide +kernel
theorem dX0_isFull_4 : decode cX0_isFull 4 = .ok (.bipush 40, 2) := by decide +kernel
theorem dX0_isFull_6 : decode cX0_isFull 6 = .ok (.if_icmp .lt 7, 3) := by decide +kernel
theorem dX0_isFull_9 : decode cX0_isFull 9 = .ok (.iconst 1, 1) := by decide +kernel
theorem dX0_isFull_10 : decode cX0_isFull 10 = .ok (.goto 4, 3) := by decide +kernel
theorem dX0_isFull_13 : decode cX0_isFull 13 = .ok (.iconst 0, 1) := by decide +kernel
theorem dX0_isFull_14 : decode cX0_isFull 14 = .ok (.ireturn, 1) := by decide +kernel
theorem dX0_add_0 : decode cX0_add 0 = .ok (.aload_n 0, 1) := by decide +kernel
theorem dX0_add_1 : decode cX0_add 1 = .ok (.invokevirtual 34, 3) := by decide +kernel
theorem dX0_add_4 : decode cX0_add 4 = .ok (.ifCond .eq 5, 3) := by decide +kernel
theorem dX0_add_7 : decode cX0_add 7 = .ok (.iconst (-1), 1) := by decide +kernel
theorem dX0_add_8 : decode cX0_add 8 = .ok (.ireturn, 1) := by decide +kernel
theorem dX0_add_9 : decode cX0_add 9 = .ok (.aload_n 0, 1) := by decide +kernel
theorem dX0_add_10 : decode cX0_add 10 = .ok (.getfield 9, 3) := by decide +kernel
theorem dX0_add_13 : decode cX0_add 13 = .ok (.istore 5, 2) := by decide +kernel
theorem dX0_add_15 : decode cX0_add 15 = .ok (.aload_n 0, 1) := by decide +kernel
theorem dX0_add_16 : decode cX0_add 16 = .ok (.getfield 15, 3) := by decide +kernel
theorem dX0_add_19 : decode cX0_add 19 = .ok (.iload 5, 2) := by decide +kernel
theorem dX0_add_21 : decode cX0_add 21 = .ok (.iload_n 1, 1) := by decide +kernel
theorem dX0_add_22 : decode cX0_add 22 = .ok (.bastore, 1) := by decide +kernel
theorem dX0_add_23 : decode cX0_add 23 = .ok (.aload_n 0, 1) := by decide +kernel
theorem dX0_add_24 : decode cX0_add 24 = .ok (.getfield 19, 3) := by decide +kernel
theorem dX0_add_27 : decode cX0_add 27 = .ok (.iload 5, 2) := by decide +kernel
theorem dX0_add_29 : decode cX0_add 29 = .ok (.iload_n 2, 1) := by decide +kernel
theorem dX0_add_30 : decode cX0_add 30 = .ok (.iastore, 1) := by decide +kernel
theorem dX0_add_31 : decode cX0_add 31 = .ok (.aload_n 0, 1) := by decide +kernel
theorem dX0_add_32 : decode cX0_add 32 = .ok (.getfield 23, 3) := by decide +kernel
theorem dX0_add_35 : decode cX0_add 35 = .ok (.iload 5, 2) := by decide +kernel
theorem dX0_add_37 : decode cX0_add 37 = .ok (.iload_n 3, 1) := by decide +kernel
theorem dX0_add_38 : decode cX0_add 38 = .ok (.iastore, 1) := by decide +kernel
theorem dX0_add_39 : decode cX0_add 39 = .ok (.aload_n 0, 1) := by decide +kernel
theorem dX0_add_40 : decode cX0_add 40 = .ok (.getfield 26, 3) := by decide +kernel
theorem dX0_add_43 : decode cX0_add 43 = .ok (.iload 5, 2) := by decide +kernel
theorem dX0_add_45 : decode cX0_add 45 = .ok (.iload 4, 2) := by decide +kernel
theorem dX0_add_47 : decode cX0_add 47 = .ok (.iastore, 1) := by decide +kernel
theorem dX0_add_48 : decode cX0_add 48 = .ok (.iconst 0, 1) := by decide +kernel
theorem dX0_add_49 : decode cX0_add 49 = .ok (.istore 6, 2) := by decide +kernel
theorem dX0_add_51 : decode cX0_add 51 = .ok (.iload 6, 2) := by decide +kernel
theorem dX0_add_53 : decode cX0_add 53 = .ok (.iload 5, 2) := by decide +kernel
theorem dX0_add_55 : decode cX0_add 55 = .ok (.if_icmp .ge 44, 3) := by decide +kernel
theorem dX0_add_58 : decode cX0_add 58 = .ok (.aload_n 0, 1) := by decide +kernel
theorem dX0_add_59 : decode cX0_add 59 = .ok (.iload_n 3, 1) := by decide +kernel
theorem dX0_add_60 : decode cX0_add 60 = .ok (.iload 4, 2) := by decide +kernel
theorem dX0_add_62 : decode cX0_add 62 = .ok (.iload 6, 2) := by decide +kernel
theorem dX0_add_64 : decode cX0_add 64 = .ok (.invokevirtual 38, 3) := by decide +kernel
theorem dX0_add_67 : decode cX0_add 67 = .ok (.istore 7, 2) := by decide +kernel
theorem dX0_add_69 : decode cX0_add 69 = .ok (.aload_n 0, 1) := by decide +kernel
theorem dX0_add_70 : decode cX0_add 70 = .ok (.getfield 31, 3) := by decide +kernel
theorem dX0_add_73 : decode cX0_add 73 = .ok (.iload 5, 2) := by decide +kernel
theorem dX0_add_75 : decode cX0_add 75 = .ok (.aaload, 1) := by decide +kernel
theorem dX0_add_76 : decode cX0_add 76 = .ok (.iload 6, 2) := by decide +kernel
theorem dX0_add_78 : decode cX0_add 78 = .ok (.iload 7, 2) := by decide +kernel
theorem dX0_add_80 : decode cX0_add 80 = .ok (.iastore, 1) := by decide +kernel
theorem dX0_add_81 : decode cX0_add 81 = .ok (.aload_n 0, 1) := by decide +kernel
theorem dX0_add_82 : decode cX0_add 82 = .ok (.getfield 31, 3) := by decide +kernel
theorem dX0_add_85 : decode cX0_add 85 = .ok (.iload 6, 2) := by decide +kernel
theorem dX0_add_87 : decode cX0_add 87 = .ok (.aaload, 1) := by decide +kernel
theorem dX0_add_88 : decode cX0_add 88 = .ok (.iload 5, 2) := by decide +kernel
theorem dX0_add_90 : decode cX0_add 90 = .ok (.iload 7, 2) := by decide +kernel
theorem dX0_add_92 : decode cX0_add 92 = .ok (.iastore, 1) := by decide +kernel
theorem dX0_add_93 : decode cX0_add 93 = .ok (.iinc 6 1, 3) := by decide +kernel
theorem dX0_add_96 : decode cX0_add 96 = .ok (.goto (-45), 3) := by decide +kernel
theorem dX0_add_99 : decode cX0_add 99 = .ok (.aload_n 0, 1) := by decide +kernel
theorem dX0_add_100 : decode cX0_add 100 = .ok (.getfield 31, 3) := by decide +kernel
theorem dX0_add_103 : decode cX0_add 103 = .ok (.iload 5, 2) := by decide +kernel
theorem dX0_add_105 : decode cX0_add 105 = .ok (.aaload, 1) := by decide +kernel
theorem dX0_add_106 : decode cX0_add 106 = .ok (.iload 5, 2) := by decide +kernel
theorem dX0_add_108 : decode cX0_add 108 = .ok (.iconst 0, 1) := by decide +kernel
theorem dX0_add_109 : decode cX0_add 109 = .ok (.iastore, 1) := by decide +kernel
theorem dX0_add_110 : decode cX0_add 110 = .ok (.aload_n 0, 1) := by decide +kernel
theorem dX0_add_111 : decode cX0_add 111 = .ok (.iload 5, 2) := by decide +kernel
theorem dX0_add_113 : decode cX0_add 113 = .ok (.iconst 1, 1) := by decide +kernel
theorem dX0_add_114 : decode cX0_add 114 = .ok (.iadd, 1) := by decide +kernel
theorem dX0_add_115 : decode cX0_add 115 = .ok (.putfield 9, 3) := by decide +kernel
theorem dX0_add_118 : decode cX0_add 118 = .ok (.iload 5, 2) := by decide +kernel
theorem dX0_add_120 : decode cX0_add 120 = .ok (.ireturn, 1) := by decide +kernel
theorem dX0_stepsThroughParents_0 : decode cX0_stepsThroughParents 0 = .ok (.aload_n 0, 1) := by decide +kernel
theorem dX0_stepsThroughParents_1 : decode cX0_stepsThroughParents 1 = .ok (.iload_n 1, 1) := by decide +kernel
theorem dX0_stepsThroughParents_2 : decode cX0_stepsThroughParents 2 = .ok (.iload_n 3, 1) := by decide +kernel
theorem dX0_stepsThroughParents_3 : decode cX0_stepsThroughParents 3 = .ok (.invokevirtual 42, 3) := by decide +kernel
theorem dX0_stepsThroughParents_6 : decode cX0_stepsThroughParents 6 = .ok (.istore 4, 2) := by decide +kernel
theorem dX0_stepsThroughParents_8 : decode cX0_stepsThroughParents 8 = .ok (.aload_n 0, 1) := by decide +kernel
theorem dX0_stepsThroughParents_9 : decode cX0_stepsThroughParents 9 = .ok (.iload_n 2, 1) := by decide +kernel
theorem dX0_stepsThroughParents_10 : decode cX0_stepsThroughParents 10 = .ok (.iload_n 3, 1) := by decide +kernel
theorem dX0_stepsThroughParents_11 : decode cX0_stepsThroughParents 11 = .ok (.invokevirtual 42, 3) := by decide +kernel
theorem dX0_stepsThroughParents_14 : decode cX0_stepsThroughParents 14 = .ok (.istore 5, 2) := by decide +kernel
theorem dX0_stepsThroughParents_16 : decode cX0_stepsThroughParents 16 = .ok (.iload 4, 2) := by decide +kernel
theorem dX0_stepsThroughParents_18 : decode cX0_stepsThroughParents 18 = .ok (.iconst (-1), 1) := by decide +kernel
theorem dX0_stepsThroughParents_19 : decode cX0_stepsThroughParents 19 = .ok (.if_icmp .ne 11, 3) := by decide +kernel
theorem dX0_stepsThroughParents_22 : decode cX0_stepsThroughParents 22 = .ok (.iload 5, 2) := by decide +kernel
theorem dX0_stepsThroughParents_24 : decode cX0_stepsThroughParents 24 = .ok (.iconst (-1), 1) := by decide +kernel
theorem dX0_stepsThroughParents_25 : decode cX0_stepsThroughParents 25 = .ok (.if_icmp .ne 5, 3) := by decide +kernel
theorem dX0_stepsThroughParents_28 : decode cX0_stepsThroughParents 28 = .ok (.iconst (-1), 1) := by decide +kernel
theorem dX0_stepsThroughParents_29 : decode cX0_stepsThroughParents 29 = .ok (.ireturn, 1) := by decide +kernel
theorem dX0_stepsThroughParents_30 : decode cX0_stepsThroughParents 30 = .ok (.iload 4, 2) := by decide +kernel
theorem dX0_stepsThroughParents_32 : decode cX0_stepsThroughParents 32 = .ok (.iconst (-1), 1) := by decide +kernel
theorem dX0_stepsThroughParents_33 : decode cX0_stepsThroughParents 33 = .ok (.if_icmp .ne 8, 3) := by decide +kernel
theorem dX0_stepsThroughParents_36 : decode cX0_stepsThroughParents 36 = .ok (.iload 5, 2) := by decide +kernel
theorem dX0_stepsThroughParents_38 : decode cX0_stepsThroughParents 38 = .ok (.iconst 1, 1) := by decide +kernel
theorem dX0_stepsThroughParents_39 : decode cX0_stepsThroughParents 39 = .ok (.iadd, 1) := by decide +kernel
theorem dX0_stepsThroughParents_40 : decode cX0_stepsThroughParents 40 = .ok (.ireturn, 1) := by decide +kernel
theorem dX0_stepsThroughParents_41 : decode cX0_stepsThroughParents 41 = .ok (.iload 5, 2) := by decide +kernel
theorem dX0_stepsThroughParents_43 : decode cX0_stepsThroughParents 43 = .ok (.iconst (-1), 1) := by decide +kernel
theorem dX0_stepsThroughParents_44 : decode cX0_stepsThroughParents 44 = .ok (.if_icmp .ne 10, 3) := by decide +kernel
theorem dX0_stepsThroughParents_47 : decode cX0_stepsThroughParents 47 = .ok (.iload 4, 2) := by decide +kernel
theorem dX0_stepsThroughParents_49 : decode cX0_stepsThroughParents 49 = .ok (.iconst 1, 1) := by decide +kernel
theorem dX0_stepsThroughParents_50 : decode cX0_stepsThroughParents 50 = .ok (.iadd, 1) := by decide +kernel
theorem dX0_stepsThroughParents_51 : decode cX0_stepsThroughParents 51 = .ok (.goto 12, 3) := by decide +kernel
theorem dX0_stepsThroughParents_54 : decode cX0_stepsThroughParents 54 = .ok (.iload 4, 2) := by decide +kernel
theorem dX0_stepsThroughParents_56 : decode cX0_stepsThroughParents 56 = .ok (.iload 5, 2) := by decide +kernel
theorem dX0_stepsThroughParents_58 : decode cX0_stepsThroughParents 58 = .ok (.invokestatic 46, 3) := by decide +kernel
theorem dX0_stepsThroughParents_61 : decode cX0_stepsThroughParents 61 = .ok (.iconst 1, 1) := by decide +kernel
theorem dX0_stepsThroughParents_62 : decode cX0_stepsThroughParents 62 = .ok (.iadd, 1) := by decide +kernel
theorem dX0_stepsThroughParents_63 : decode cX0_stepsThroughParents 63 = .ok (.ireturn, 1) := by decide +kernel
theorem dX0_stepsBetween_0 : decode cX0_stepsBetween 0 = .ok (.aload_n 0, 1) := by decide +kernel
theorem dX0_stepsBetween_1 : decode cX0_stepsBetween 1 = .ok (.iload_n 1, 1) := by decide +kernel
theorem dX0_stepsBetween_2 : decode cX0_stepsBetween 2 = .ok (.invokevirtual 51, 3) := by decide +kernel
theorem dX0_stepsBetween_5 : decode cX0_stepsBetween 5 = .ok (.ifCond .eq 22, 3) := by decide +kernel
theorem dX0_stepsBetween_8 : decode cX0_stepsBetween 8 = .ok (.aload_n 0, 1) := by decide +kernel
theorem dX0_stepsBetween_9 : decode cX0_stepsBetween 9 = .ok (.iload_n 2, 1) := by decide +kernel
theorem dX0_stepsBetween_10 : decode cX0_stepsBetween 10 = .ok (.invokevirtual 51, 3) := by decide +kernel
theorem dX0_stepsBetween_13 : decode cX0_stepsBetween 13 = .ok (.ifCond .eq 14, 3) := by decide +kernel
theorem dX0_stepsBetween_16 : decode cX0_stepsBetween 16 = .ok (.aload_n 0, 1) := by decide +kernel
theorem dX0_stepsBetween_17 : decode cX0_stepsBetween 17 = .ok (.getfield 31, 3) := by decide +kernel
theorem dX0_stepsBetween_20 : decode cX0_stepsBetween 20 = .ok (.iload_n 1, 1) := by decide +kernel
theorem dX0_stepsBetween_21 : decode cX0_stepsBetween 21 = .ok (.aaload, 1) := by decide +kernel
theorem dX0_stepsBetween_22 : decode cX0_stepsBetween 22 = .ok (.iload_n 2, 1) := by decide +kernel
theorem dX0_stepsBetween_23 : decode cX0_stepsBetween 23 = .ok (.iaload, 1) := by decide +kernel
theorem dX0_stepsBetween_24 : decode cX0_stepsBetween 24 = .ok (.goto 4, 3) := by decide +kernel
theorem dX0_stepsBetween_27 : decode cX0_stepsBetween 27 = .ok (.iconst (-1), 1) := by decide +kernel
theorem dX0_stepsBetween_28 : decode cX0_stepsBetween 28 = .ok (.ireturn, 1) := by decide +kernel
theorem dX0_isBefore_0 : decode cX0_isBefore 0 = .ok (.aload_n 0, 1) := by decide +kernel
theorem dX0_isBefore_1 : decode cX0_isBefore 1 = .ok (.getfield 19, 3) := by decide +kernel
theorem dX0_isBefore_4 : decode cX0_isBefore 4 = .ok (.iload_n 1, 1) := by decide +kernel
theorem dX0_isBefore_5 : decode cX0_isBefore 5 = .ok (.iaload, 1) := by decide +kernel
theorem dX0_isBefore_6 : decode cX0_isBefore 6 = .ok (.aload_n 0, 1) := by decide +kernel
theorem dX0_isBefore_7 : decode cX0_isBefore 7 = .ok (.getfield 19, 3) := by decide +kernel
theorem dX0_isBefore_10 : decode cX0_isBefore 10 = .ok (.iload_n 2, 1) := by decide +kernel
theorem dX0_isBefore_11 : decode cX0_isBefore 11 = .ok (.iaload, 1) := by decide +kernel
theorem dX0_isBefore_12 : decode cX0_isBefore 12 = .ok (.if_icmp .lt 23, 3) := by decide +kernel
theorem dX0_isBefore_15 : decode cX0_isBefore 15 = .ok (.aload_n 0, 1) := by decide +kernel
theorem dX0_isBefore_16 : decode cX0_isBefore 16 = .ok (.getfield 19, 3) := by decide +kernel
theorem dX0_isBefore_19 : decode cX0_isBefore 19 = .ok (.iload_n 1, 1) := by decide +kernel
theorem dX0_isBefore_20 : decode cX0_isBefore 20 = .ok (.iaload, 1) := by decide +kernel
theorem dX0_isBefore_21 : decode cX0_isBefore 21 = .ok (.aload_n 0, 1) := by decide +kernel
theorem dX0_isBefore_22 : decode cX0_isBefore 22 = .ok (.getfield 19, 3) := by decide +kernel
theorem dX0_isBefore_25 : decode cX0_isBefore 25 = .ok (.iload_n 2, 1) := by decide +kernel
theorem dX0_isBefore_26 : decode cX0_isBefore 26 = .ok (.iaload, 1) := by decide +kernel
theorem dX0_isBefore_27 : decode cX0_isBefore 27 = .ok (.if_icmp .ne 12, 3) := by decide +kernel
theorem dX0_isBefore_30 : decode cX0_isBefore 30 = .ok (.iload_n 1, 1) := by decide +kernel
theorem dX0_isBefore_31 : decode cX0_isBefore 31 = .ok (.iload_n 2, 1) := by decide +kernel
theorem dX0_isBefore_32 : decode cX0_isBefore 32 = .ok (.if_icmp .ge 7, 3) := by decide +kernel
theorem dX0_isBefore_35 : decode cX0_isBefore 35 = .ok (.iconst 1, 1) := by decide +kernel
theorem dX0_isBefore_36 : decode cX0_isBefore 36 = .ok (.goto 4, 3) := by decide +kernel
theorem dX0_isBefore_39 : decode cX0_isBefore 39 = .ok (.iconst 0, 1) := by decide +kernel
theorem dX0_isBefore_40 : decode cX0_isBefore 40 = .ok (.ireturn, 1) := by decide +kernel
theorem dX0_isAhead_0 : decode cX0_isAhead 0 = .ok (.iload_n 3, 1) := by decide +kernel
theorem dX0_isAhead_1 : decode cX0_isAhead 1 = .ok (.ifCond .ne 25, 3) := by decide +kernel
theorem dX0_isAhead_4 : decode cX0_isAhead 4 = .ok (.aload_n 0, 1) := by decide +kernel
theorem dX0_isAhead_5 : decode cX0_isAhead 5 = .ok (.getfield 15, 3) := by decide +kernel
theorem dX0_isAhead_8 : decode cX0_isAhead 8 = .ok (.iload_n 1, 1) := by decide +kernel
theorem dX0_isAhead_9 : decode cX0_isAhead 9 = .ok (.baload, 1) := by decide +kernel
theorem dX0_isAhead_10 : decode cX0_isAhead 10 = .ok (.aload_n 0, 1) := by decide +kernel
theorem dX0_isAhead_11 : decode cX0_isAhead 11 = .ok (.getfield 15, 3) := by decide +kernel
theorem dX0_isAhead_14 : decode cX0_isAhead 14 = .ok (.iload_n 2, 1) := by decide +kernel
theorem dX0_isAhead_15 : decode cX0_isAhead 15 = .ok (.baload, 1) := by decide +kernel
theorem dX0_isAhead_16 : decode cX0_isAhead 16 = .ok (.if_icmp .eq 10, 3) := by decide +kernel
theorem dX0_isAhead_19 : decode cX0_isAhead 19 = .ok (.aload_n 0, 1) := by decide +kernel
theorem dX0_isAhead_20 : decode cX0_isAhead 20 = .ok (.getfield 15, 3) := by decide +kernel
theorem dX0_isAhead_23 : decode cX0_isAhead 23 = .ok (.iload_n 1, 1) := by decide +kernel
theorem dX0_isAhead_24 : decode cX0_isAhead 24 = .ok (.baload, 1) := by decide +kernel
theorem dX0_isAhead_25 : decode cX0_isAhead 25 = .ok (.ireturn, 1) := by decide +kernel
theorem dX0_isAhead_26 : decode cX0_isAhead 26 = .ok (.iload_n 3, 1) := by decide +kernel
theorem dX0_isAhead_27 : decode cX0_isAhead 27 = .ok (.ifCond .eq 8, 3) := by decide +kernel
theorem dX0_isAhead_30 : decode cX0_isAhead 30 = .ok (.iload_n 3, 1) := by decide +kernel
theorem dX0_isAhead_31 : decode cX0_isAhead 31 = .ok (.iconst 1, 1) := by decide +kernel
theorem dX0_isAhead_32 : decode cX0_isAhead 32 = .ok (.if_icmp .ne 10, 3) := by decide +kernel
theorem dX0_isAhead_35 : decode cX0_isAhead 35 = .ok (.aload_n 0, 1) := by decide +kernel
theorem dX0_isAhead_36 : decode cX0_isAhead 36 = .ok (.iload_n 1, 1) := by decide +kernel
theorem dX0_isAhead_37 : decode cX0_isAhead 37 = .ok (.iload_n 2, 1) := by decide +kernel
theorem dX0_isAhead_38 : decode cX0_isAhead 38 = .ok (.invokevirtual 55, 3) := by decide +kernel
theorem dX0_isAhead_41 : decode cX0_isAhead 41 = .ok (.ireturn, 1) := by decide +kernel
theorem dX0_isAhead_42 : decode cX0_isAhead 42 = .ok (.aload_n 0, 1) := by decide +kernel
theorem dX0_isAhead_43 : decode cX0_isAhead 43 = .ok (.iload_n 2, 1) := by decide +kernel
theorem dX0_isAhead_44 : decode cX0_isAhead 44 = .ok (.iload_n 1, 1) := by decide +kernel
theorem dX0_isAhead_45 : decode cX0_isAhead 45 = .ok (.invokevirtual 55, 3) := by decide +kernel
theorem dX0_isAhead_48 : decode cX0_isAhead 48 = .ok (.ireturn, 1) := by decide +kernel
theorem dX0_childrenOf_0 : decode cX0_childrenOf 0 = .ok (.iconst 0, 1) := by decide +kernel
theorem dX0_childrenOf_1 : decode cX0_childrenOf 1 = .ok (.istore_n 2, 1) := by decide +kernel
theorem dX0_childrenOf_2 : decode cX0_childrenOf 2 = .ok (.iconst 0, 1) := by decide +kernel
theorem dX0_childrenOf_3 : decode cX0_childrenOf 3 = .ok (.istore_n 3, 1) := by decide +kernel
theorem dX0_childrenOf_4 : decode cX0_childrenOf 4 = .ok (.iload_n 3, 1) := by decide +kernel
theorem dX0_childrenOf_5 : decode cX0_childrenOf 5 = .ok (.aload_n 0, 1) := by decide +kernel
theorem dX0_childrenOf_6 : decode cX0_childrenOf 6 = .ok (.getfield 9, 3) := by decide +kernel
theorem dX0_childrenOf_9 : decode cX0_childrenOf 9 = .ok (.if_icmp .ge 32, 3) := by decide +kernel
theorem dX0_childrenOf_12 : decode cX0_childrenOf 12 = .ok (.aload_n 0, 1) := by decide +kernel
theorem dX0_childrenOf_13 : decode cX0_childrenOf 13 = .ok (.getfield 23, 3) := by decide +kernel
theorem dX0_childrenOf_16 : decode cX0_childrenOf 16 = .ok (.iload_n 3, 1) := by decide +kernel
theorem dX0_childrenOf_17 : decode cX0_childrenOf 17 = .ok (.iaload, 1) := by decide +kernel
theorem dX0_childrenOf_18 : decode cX0_childrenOf 18 = .ok (.iload_n 1, 1) := by decide +kernel
theorem dX0_childrenOf_19 : decode cX0_childrenOf 19 = .ok (.if_icmp .eq 13, 3) := by decide +kernel
theorem dX0_childrenOf_22 : decode cX0_childrenOf 22 = .ok (.aload_n 0, 1) := by decide +kernel
theorem dX0_childrenOf_23 : decode cX0_childrenOf 23 = .ok (.getfield 26, 3) := by decide +kernel
theorem dX0_childrenOf_26 : decode cX0_childrenOf 26 = .ok (.iload_n 3, 1) := by decide +kernel
theorem dX0_childrenOf_27 : decode cX0_childrenOf 27 = .ok (.iaload, 1) := by decide +kernel
theorem dX0_childrenOf_28 : decode cX0_childrenOf 28 = .ok (.iload_n 1, 1) := by decide +kernel
theorem dX0_childrenOf_29 : decode cX0_childrenOf 29 = .ok (.if_icmp .ne 6, 3) := by decide +kernel
theorem dX0_childrenOf_32 : decode cX0_childrenOf 32 = .ok (.iinc 2 1, 3) := by decide +kernel
theorem dX0_childrenOf_35 : decode cX0_childrenOf 35 = .ok (.iinc 3 1, 3) := by decide +kernel
theorem dX0_childrenOf_38 : decode cX0_childrenOf 38 = .ok (.goto (-34), 3) := by decide +kernel
theorem dX0_childrenOf_41 : decode cX0_childrenOf 41 = .ok (.iload_n 2, 1) := by decide +kernel
theorem dX0_childrenOf_42 : decode cX0_childrenOf 42 = .ok (.ireturn, 1) := by decide +kernel
theorem dX1_init_0 : decode cX1_init 0 = .ok (.aload_n 0, 1) := by decide +kernel
theorem dX1_init_1 : decode cX1_init 1 = .ok (.invokespecial 3, 3) := by decide +kernel
theorem dX1_init_4 : decode cX1_init 4 = .ok (.aload_n 0, 1) := by decide +kernel
theorem dX1_init_5 : decode cX1_init 5 = .ok (.iconst 0, 1) := by decide +kernel
theorem dX1_init_6 : decode cX1_init 6 = .ok (.putfield 9, 3) := by decide +kernel
theorem dX1_init_9 : decode cX1_init 9 = .ok (.aload_n 0, 1) := by decide +kernel
theorem dX1_init_10 : decode cX1_init 10 = .ok (.bipush 12, 2) := by decide +kernel
theorem dX1_init_12 : decode cX1_init 12 = .ok (.newarray .int, 2) := by decide +kernel
theorem dX1_init_14 : decode cX1_init 14 = .ok (.putfield 15, 3) := by decide +kernel
theorem dX1_init_17 : decode cX1_init 17 = .ok (.aload_n 0, 1) := by decide +kernel
theorem dX1_init_18 : decode cX1_init 18 = .ok (.bipush 12, 2) := by decide +kernel
theorem dX1_init_20 : decode cX1_init 20 = .ok (.newarray .int, 2) := by decide +kernel
theorem dX1_init_22 : decode cX1_init 22 = .ok (.putfield 19, 3) := by decide +kernel
theorem dX1_init_25 : decode cX1_init 25 = .ok (.aload_n 0, 1) := by decide +kernel
theorem dX1_init_26 : decode cX1_init 26 = .ok (.bipush 12, 2) := by decide +kernel
theorem dX1_init_28 : decode cX1_init 28 = .ok (.newarray .int, 2) := by decide +kernel
theorem dX1_init_30 : decode cX1_init 30 = .ok (.putfield 22, 3) := by decide +kernel
theorem dX1_init_33 : decode cX1_init 33 = .ok (.aload_n 0, 1) := by decide +kernel
theorem dX1_init_34 : decode cX1_init 34 = .ok (.bipush 12, 2) := by decide +kernel
theorem dX1_init_36 : decode cX1_init 36 = .ok (.newarray .int, 2) := by decide +kernel
theorem dX1_init_38 : decode cX1_init 38 = .ok (.putfield 25, 3) := by decide +kernel
theorem dX1_init_41 : decode cX1_init 41 = .ok (.aload_n 0, 1) := by decide +kernel
theorem dX1_init_42 : decode cX1_init 42 = .ok (.bipush 12, 2) := by decide +kernel
theorem dX1_init_44 : decode cX1_init 44 = .ok (.newarray .int, 2) := by decide +kernel
theorem dX1_init_46 : decode cX1_init 46 = .ok (.putfield 28, 3) := by decide +kernel
theorem dX1_init_49 : decode cX1_init 49 = .ok (.aload_n 0, 1) := by decide +kernel
theorem dX1_init_50 : decode cX1_init 50 = .ok (.bipush 12, 2) := by decide +kernel
theorem dX1_init_52 : decode cX1_init 52 = .ok (.bipush 15, 2) := by decide +kernel
theorem dX1_init_54 : decode cX1_init 54 = .ok (.multianewarray 31 2, 4) := by decide +kernel
theorem dX1_init_58 : decode cX1_init 58 = .ok (.putfield 33, 3) := by decide +kernel
theorem dX1_init_61 : decode cX1_init 61 = .ok (.return_, 1) := by decide +kernel
theorem dX1_knows_0 : decode cX1_knows 0 = .ok (.iload_n 1, 1) := by decide +kernel
theorem dX1_knows_1 : decode cX1_knows 1 = .ok (.ifCond .lt 15, 3) := by decide +kernel
theorem dX1_knows_4 : decode cX1_knows 4 = .ok (.iload_n 1, 1) := by decide +kernel
theorem dX1_knows_5 : decode cX1_knows 5 = .ok (.aload_n 0, 1) := by decide +kernel
theorem dX1_knows_6 : decode cX1_knows 6 = .ok (.getfield 9, 3) := by decide +kernel
theorem dX1_knows_9 : decode cX1_knows 9 = .ok (.if_icmp .ge 7, 3) := by decide +kernel
theorem dX1_knows_12 : decode cX1_knows 12 = .ok (.iconst 1, 1) := by decide +kernel
theorem dX1_knows_13 : decode cX1_knows 13 = .ok (.goto 4, 3) := by decide +kernel
theorem dX1_knows_16 : decode cX1_knows 16 = .ok (.iconst 0, 1) := by decide +kernel
theorem dX1_knows_17 : decode cX1_knows 17 = .ok (.ireturn, 1) := by decide +kernel
theorem dX1_isFull_0 : decode cX1_isFull 0 = .ok (.aload_n 0, 1) := by decide +kernel
theorem dX1_isFull_1 : decode cX1_isFull 1 = .ok (.getfield 9, 3) := by decide +kernel
theorem dX1_isFull_4 : decode cX1_isFull 4 = .ok (.bipush 12, 2) := by decide +kernel
theorem dX1_isFull_6 : decode cX1_isFull 6 = .ok (.if_icmp .lt 7, 3) := by decide +kernel
theorem dX1_isFull_9 : decode cX1_isFull 9 = .ok (.iconst 1, 1) := by decide +kernel
theorem dX1_isFull_10 : decode cX1_isFull 10 = .ok (.goto 4, 3) := by decide +kernel
theorem dX1_isFull_13 : decode cX1_isFull 13 = .ok (.iconst 0, 1) := by decide +kernel
theorem dX1_isFull_14 : decode cX1_isFull 14 = .ok (.ireturn, 1) := by decide +kernel
theorem dX1_add_0 : decode cX1_add 0 = .ok (.aload_n 0, 1) := by decide +kernel
theorem dX1_add_1 : decode cX1_add 1 = .ok (.invokevirtual 36, 3) := by decide +kernel
theorem dX1_add_4 : decode cX1_add 4 = .ok (.ifCond .eq 5, 3) := by decide +kernel
theorem dX1_add_7 : decode cX1_add 7 = .ok (.iconst (-1), 1) := by decide +kernel
theorem dX1_add_8 : decode cX1_add 8 = .ok (.ireturn, 1) := by decide +kernel
theorem dX1_add_9 : decode cX1_add 9 = .ok (.aload_n 0, 1) := by decide +kernel
theorem dX1_add_10 : decode cX1_add 10 = .ok (.getfield 9, 3) := by decide +kernel
theorem dX1_add_13 : decode cX1_add 13 = .ok (.istore 4, 2) := by decide +kernel
theorem dX1_add_15 : decode cX1_add 15 = .ok (.aload_n 0, 1) := by decide +kernel
theorem dX1_add_16 : decode cX1_add 16 = .ok (.getfield 15, 3) := by decide +kernel
theorem dX1_add_19 : decode cX1_add 19 = .ok (.iload 4, 2) := by decide +kernel
theorem dX1_add_21 : decode cX1_add 21 = .ok (.iload_n 1, 1) := by decide +kernel
theorem dX1_add_22 : decode cX1_add 22 = .ok (.iastore, 1) := by decide +kernel
theorem dX1_add_23 : decode cX1_add 23 = .ok (.aload_n 0, 1) := by decide +kernel
theorem dX1_add_24 : decode cX1_add 24 = .ok (.getfield 19, 3) := by decide +kernel
theorem dX1_add_27 : decode cX1_add 27 = .ok (.iload 4, 2) := by decide +kernel
theorem dX1_add_29 : decode cX1_add 29 = .ok (.iload_n 2, 1) := by decide +kernel
theorem dX1_add_30 : decode cX1_add 30 = .ok (.iastore, 1) := by decide +kernel
theorem dX1_add_31 : decode cX1_add 31 = .ok (.aload_n 0, 1) := by decide +kernel
theorem dX1_add_32 : decode cX1_add 32 = .ok (.iload 4, 2) := by decide +kernel
theorem dX1_add_34 : decode cX1_add 34 = .ok (.iload_n 3, 1) := by decide +kernel
theorem dX1_add_35 : decode cX1_add 35 = .ok (.invokevirtual 40, 3) := by decide +kernel
theorem dX1_add_38 : decode cX1_add 38 = .ok (.aload_n 0, 1) := by decide +kernel
theorem dX1_add_39 : decode cX1_add 39 = .ok (.iload 4, 2) := by decide +kernel
theorem dX1_add_41 : decode cX1_add 41 = .ok (.iconst 1, 1) := by decide +kernel
theorem dX1_add_42 : decode cX1_add 42 = .ok (.iadd, 1) := by decide +kernel
theorem dX1_add_43 : decode cX1_add 43 = .ok (.putfield 9, 3) := by decide +kernel
theorem dX1_add_46 : decode cX1_add 46 = .ok (.iload 4, 2) := by decide +kernel
theorem dX1_add_48 : decode cX1_add 48 = .ok (.ireturn, 1) := by decide +kernel
theorem dX1_handTo_0 : decode cX1_handTo 0 = .ok (.aload_n 0, 1) := by decide +kernel
theorem dX1_handTo_1 : decode cX1_handTo 1 = .ok (.getfield 22, 3) := by decide +kernel
theorem dX1_handTo_4 : decode cX1_handTo 4 = .ok (.iload_n 1, 1) := by decide +kernel
theorem dX1_handTo_5 : decode cX1_handTo 5 = .ok (.iload_n 2, 1) := by decide +kernel
theorem dX1_handTo_6 : decode cX1_handTo 6 = .ok (.iastore, 1) := by decide +kernel
theorem dX1_handTo_7 : decode cX1_handTo 7 = .ok (.iload_n 2, 1) := by decide +kernel
theorem dX1_handTo_8 : decode cX1_handTo 8 = .ok (.iconst (-1), 1) := by decide +kernel
theorem dX1_handTo_9 : decode cX1_handTo 9 = .ok (.if_icmp .ne 4, 3) := by decide +kernel
theorem dX1_handTo_12 : decode cX1_handTo 12 = .ok (.return_, 1) := by decide +kernel
theorem dX1_handTo_13 : decode cX1_handTo 13 = .ok (.aload_n 0, 1) := by decide +kernel
theorem dX1_handTo_14 : decode cX1_handTo 14 = .ok (.getfield 25, 3) := by decide +kernel
theorem dX1_handTo_17 : decode cX1_handTo 17 = .ok (.iload_n 1, 1) := by decide +kernel
theorem dX1_handTo_18 : decode cX1_handTo 18 = .ok (.dup2, 1) := by decide +kernel
theorem dX1_handTo_19 : decode cX1_handTo 19 = .ok (.iaload, 1) := by decide +kernel
theorem dX1_handTo_20 : decode cX1_handTo 20 = .ok (.iconst 1, 1) := by decide +kernel
theorem dX1_handTo_21 : decode cX1_handTo 21 = .ok (.iadd, 1) := by decide +kernel
theorem dX1_handTo_22 : decode cX1_handTo 22 = .ok (.iastore, 1) := by decide +kernel
theorem dX1_handTo_23 : decode cX1_handTo 23 = .ok (.aload_n 0, 1) := by decide +kernel
theorem dX1_handTo_24 : decode cX1_handTo 24 = .ok (.getfield 33, 3) := by decide +kernel
theorem dX1_handTo_27 : decode cX1_handTo 27 = .ok (.iload_n 1, 1) := by decide +kernel
theorem dX1_handTo_28 : decode cX1_handTo 28 = .ok (.aaload, 1) := by decide +kernel
theorem dX1_handTo_29 : decode cX1_handTo 29 = .ok (.iconst 0, 1) := by decide +kernel
theorem dX1_handTo_30 : decode cX1_handTo 30 = .ok (.aload_n 0, 1) := by decide +kernel
theorem dX1_handTo_31 : decode cX1_handTo 31 = .ok (.getfield 33, 3) := by decide +kernel
theorem dX1_handTo_34 : decode cX1_handTo 34 = .ok (.iload_n 1, 1) := by decide +kernel
theorem dX1_handTo_35 : decode cX1_handTo 35 = .ok (.aaload, 1) := by decide +kernel
theorem dX1_handTo_36 : decode cX1_handTo 36 = .ok (.iconst 1, 1) := by decide +kernel
theorem dX1_handTo_37 : decode cX1_handTo 37 = .ok (.bipush 14, 2) := by decide +kernel
theorem dX1_handTo_39 : decode cX1_handTo 39 = .ok (.invokestatic 44, 3) := by decide +kernel
theorem dX1_handTo_42 : decode cX1_handTo 42 = .ok (.aload_n 0, 1) := by decide +kernel
theorem dX1_handTo_43 : decode cX1_handTo 43 = .ok (.getfield 33, 3) := by decide +kernel
theorem dX1_handTo_46 : decode cX1_handTo 46 = .ok (.iload_n 1, 1) := by decide +kernel
theorem dX1_handTo_47 : decode cX1_handTo 47 = .ok (.aaload, 1) := by decide +kernel
theorem dX1_handTo_48 : decode cX1_handTo 48 = .ok (.iconst 0, 1) := by decide +kernel
theorem dX1_handTo_49 : decode cX1_handTo 49 = .ok (.iload_n 2, 1) := by decide +kernel
theorem dX1_handTo_50 : decode cX1_handTo 50 = .ok (.iastore, 1) := by decide +kernel
theorem dX1_handTo_51 : decode cX1_handTo 51 = .ok (.aload_n 0, 1) := by decide +kernel
theorem dX1_handTo_52 : decode cX1_handTo 52 = .ok (.getfield 28, 3) := by decide +kernel
theorem dX1_handTo_55 : decode cX1_handTo 55 = .ok (.iload_n 1, 1) := by decide +kernel
theorem dX1_handTo_56 : decode cX1_handTo 56 = .ok (.aload_n 0, 1) := by decide +kernel
theorem dX1_handTo_57 : decode cX1_handTo 57 = .ok (.getfield 28, 3) := by decide +kernel
theorem dX1_handTo_60 : decode cX1_handTo 60 = .ok (.iload_n 1, 1) := by decide +kernel
theorem dX1_handTo_61 : decode cX1_handTo 61 = .ok (.iaload, 1) := by decide +kernel
theorem dX1_handTo_62 : decode cX1_handTo 62 = .ok (.iconst 1, 1) := by decide +kernel
theorem dX1_handTo_63 : decode cX1_handTo 63 = .ok (.iadd, 1) := by decide +kernel
theorem dX1_handTo_64 : decode cX1_handTo 64 = .ok (.bipush 15, 2) := by decide +kernel
theorem dX1_handTo_66 : decode cX1_handTo 66 = .ok (.invokestatic 50, 3) := by decide +kernel
theorem dX1_handTo_69 : decode cX1_handTo 69 = .ok (.iastore, 1) := by decide +kernel
theorem dX1_handTo_70 : decode cX1_handTo 70 = .ok (.return_, 1) := by decide +kernel
theorem dX1_rulerOf_0 : decode cX1_rulerOf 0 = .ok (.aload_n 0, 1) := by decide +kernel
theorem dX1_rulerOf_1 : decode cX1_rulerOf 1 = .ok (.iload_n 1, 1) := by decide +kernel
theorem dX1_rulerOf_2 : decode cX1_rulerOf 2 = .ok (.invokevirtual 56, 3) := by decide +kernel
theorem dX1_rulerOf_5 : decode cX1_rulerOf 5 = .ok (.ifCond .eq 12, 3) := by decide +kernel
theorem dX1_rulerOf_8 : decode cX1_rulerOf 8 = .ok (.aload_n 0, 1) := by decide +kernel
theorem dX1_rulerOf_9 : decode cX1_rulerOf 9 = .ok (.getfield 22, 3) := by decide +kernel
theorem dX1_rulerOf_12 : decode cX1_rulerOf 12 = .ok (.iload_n 1, 1) := by decide +kernel
theorem dX1_rulerOf_13 : decode cX1_rulerOf 13 = .ok (.iaload, 1) := by decide +kernel
theorem dX1_rulerOf_14 : decode cX1_rulerOf 14 = .ok (.goto 4, 3) := by decide +kernel
theorem dX1_rulerOf_17 : decode cX1_rulerOf 17 = .ok (.iconst (-1), 1) := by decide +kernel
theorem dX1_rulerOf_18 : decode cX1_rulerOf 18 = .ok (.ireturn, 1) := by decide +kernel
theorem dX1_numberUnder_0 : decode cX1_numberUnder 0 = .ok (.iconst 0, 1) := by decide +kernel
theorem dX1_numberUnder_1 : decode cX1_numberUnder 1 = .ok (.istore_n 2, 1) := by decide +kernel
theorem dX1_numberUnder_2 : decode cX1_numberUnder 2 = .ok (.iconst 0, 1) := by decide +kernel
theorem dX1_numberUnder_3 : decode cX1_numberUnder 3 = .ok (.istore_n 3, 1) := by decide +kernel
theorem dX1_numberUnder_4 : decode cX1_numberUnder 4 = .ok (.iload_n 3, 1) := by decide +kernel
theorem dX1_numberUnder_5 : decode cX1_numberUnder 5 = .ok (.aload_n 0, 1) := by decide +kernel
theorem dX1_numberUnder_6 : decode cX1_numberUnder 6 = .ok (.getfield 9, 3) := by decide +kernel
theorem dX1_numberUnder_9 : decode cX1_numberUnder 9 = .ok (.if_icmp .ge 22, 3) := by decide +kernel
theorem dX1_numberUnder_12 : decode cX1_numberUnder 12 = .ok (.aload_n 0, 1) := by decide +kernel
theorem dX1_numberUnder_13 : decode cX1_numberUnder 13 = .ok (.getfield 22, 3) := by decide +kernel
theorem dX1_numberUnder_16 : decode cX1_numberUnder 16 = .ok (.iload_n 3, 1) := by decide +kernel
theorem dX1_numberUnder_17 : decode cX1_numberUnder 17 = .ok (.iaload, 1) := by decide +kernel
theorem dX1_numberUnder_18 : decode cX1_numberUnder 18 = .ok (.iload_n 1, 1) := by decide +kernel
theorem dX1_numberUnder_19 : decode cX1_numberUnder 19 = .ok (.if_icmp .ne 6, 3) := by decide +kernel
theorem dX1_numberUnder_22 : decode cX1_numberUnder 22 = .ok (.iinc 2 1, 3) := by decide +kernel
theorem dX1_numberUnder_25 : decode cX1_numberUnder 25 = .ok (.iinc 3 1, 3) := by decide +kernel
theorem dX1_numberUnder_28 : decode cX1_numberUnder 28 = .ok (.goto (-24), 3) := by decide +kernel
theorem dX1_numberUnder_31 : decode cX1_numberUnder 31 = .ok (.iload_n 2, 1) := by decide +kernel
theorem dX1_numberUnder_32 : decode cX1_numberUnder 32 = .ok (.ireturn, 1) := by decide +kernel
theorem dX1_worthUnder_0 : decode cX1_worthUnder 0 = .ok (.iconst 0, 1) := by decide +kernel
theorem dX1_worthUnder_1 : decode cX1_worthUnder 1 = .ok (.istore_n 2, 1) := by decide +kernel
theorem dX1_worthUnder_2 : decode cX1_worthUnder 2 = .ok (.iconst 0, 1) := by decide +kernel
theorem dX1_worthUnder_3 : decode cX1_worthUnder 3 = .ok (.istore_n 3, 1) := by decide +kernel
theorem dX1_worthUnder_4 : decode cX1_worthUnder 4 = .ok (.iload_n 3, 1) := by decide +kernel
theorem dX1_worthUnder_5 : decode cX1_worthUnder 5 = .ok (.aload_n 0, 1) := by decide +kernel
theorem dX1_worthUnder_6 : decode cX1_worthUnder 6 = .ok (.getfield 9, 3) := by decide +kernel
theorem dX1_worthUnder_9 : decode cX1_worthUnder 9 = .ok (.if_icmp .ge 28, 3) := by decide +kernel
theorem dX1_worthUnder_12 : decode cX1_worthUnder 12 = .ok (.aload_n 0, 1) := by decide +kernel
theorem dX1_worthUnder_13 : decode cX1_worthUnder 13 = .ok (.getfield 22, 3) := by decide +kernel
theorem dX1_worthUnder_16 : decode cX1_worthUnder 16 = .ok (.iload_n 3, 1) := by decide +kernel
theorem dX1_worthUnder_17 : decode cX1_worthUnder 17 = .ok (.iaload, 1) := by decide +kernel
theorem dX1_worthUnder_18 : decode cX1_worthUnder 18 = .ok (.iload_n 1, 1) := by decide +kernel
theorem dX1_worthUnder_19 : decode cX1_worthUnder 19 = .ok (.if_icmp .ne 12, 3) := by decide +kernel
theorem dX1_worthUnder_22 : decode cX1_worthUnder 22 = .ok (.iload_n 2, 1) := by decide +kernel
theorem dX1_worthUnder_23 : decode cX1_worthUnder 23 = .ok (.aload_n 0, 1) := by decide +kernel
theorem dX1_worthUnder_24 : decode cX1_worthUnder 24 = .ok (.getfield 15, 3) := by decide +kernel
theorem dX1_worthUnder_27 : decode cX1_worthUnder 27 = .ok (.iload_n 3, 1) := by decide +kernel
theorem dX1_worthUnder_28 : decode cX1_worthUnder 28 = .ok (.iaload, 1) := by decide +kernel
theorem dX1_worthUnder_29 : decode cX1_worthUnder 29 = .ok (.iadd, 1) := by decide +kernel
theorem dX1_worthUnder_30 : decode cX1_worthUnder 30 = .ok (.istore_n 2, 1) := by decide +kernel
theorem dX1_worthUnder_31 : decode cX1_worthUnder 31 = .ok (.iinc 3 1, 3) := by decide +kernel
theorem dX1_worthUnder_34 : decode cX1_worthUnder 34 = .ok (.goto (-30), 3) := by decide +kernel
theorem dX1_worthUnder_37 : decode cX1_worthUnder 37 = .ok (.iload_n 2, 1) := by decide +kernel
theorem dX1_worthUnder_38 : decode cX1_worthUnder 38 = .ok (.ireturn, 1) := by decide +kernel
theorem dX1_takeRulers_0 : decode cX1_takeRulers 0 = .ok (.aload_n 0, 1) := by decide +kernel
theorem dX1_takeRulers_1 : decode cX1_takeRulers 1 = .ok (.aload_n 1, 1) := by decide +kernel
theorem dX1_takeRulers_2 : decode cX1_takeRulers 2 = .ok (.getfield 9, 3) := by decide +kernel
theorem dX1_takeRulers_5 : decode cX1_takeRulers 5 = .ok (.putfield 9, 3) := by decide +kernel
theorem dX1_takeRulers_8 : decode cX1_takeRulers 8 = .ok (.aload_n 1, 1) := by decide +kernel
theorem dX1_takeRulers_9 : decode cX1_takeRulers 9 = .ok (.getfield 19, 3) := by decide +kernel
theorem dX1_takeRulers_12 : decode cX1_takeRulers 12 = .ok (.iconst 0, 1) := by decide +kernel
theorem dX1_takeRulers_13 : decode cX1_takeRulers 13 = .ok (.aload_n 0, 1) := by decide +kernel
theorem dX1_takeRulers_14 : decode cX1_takeRulers 14 = .ok (.getfield 19, 3) := by decide +kernel
theorem dX1_takeRulers_17 : decode cX1_takeRulers 17 = .ok (.iconst 0, 1) := by decide +kernel
theorem dX1_takeRulers_18 : decode cX1_takeRulers 18 = .ok (.bipush 12, 2) := by decide +kernel
theorem dX1_takeRulers_20 : decode cX1_takeRulers 20 = .ok (.invokestatic 44, 3) := by decide +kernel
theorem dX1_takeRulers_23 : decode cX1_takeRulers 23 = .ok (.aload_n 1, 1) := by decide +kernel
theorem dX1_takeRulers_24 : decode cX1_takeRulers 24 = .ok (.getfield 22, 3) := by decide +kernel
theorem dX1_takeRulers_27 : decode cX1_takeRulers 27 = .ok (.iconst 0, 1) := by decide +kernel
theorem dX1_takeRulers_28 : decode cX1_takeRulers 28 = .ok (.aload_n 0, 1) := by decide +kernel
theorem dX1_takeRulers_29 : decode cX1_takeRulers 29 = .ok (.getfield 22, 3) := by decide +kernel
theorem dX1_takeRulers_32 : decode cX1_takeRulers 32 = .ok (.iconst 0, 1) := by decide +kernel
theorem dX1_takeRulers_33 : decode cX1_takeRulers 33 = .ok (.bipush 12, 2) := by decide +kernel
theorem dX1_takeRulers_35 : decode cX1_takeRulers 35 = .ok (.invokestatic 44, 3) := by decide +kernel
theorem dX1_takeRulers_38 : decode cX1_takeRulers 38 = .ok (.return_, 1) := by decide +kernel
theorem dX2_init_0 : decode cX2_init 0 = .ok (.aload_n 0, 1) := by decide +kernel
theorem dX2_init_1 : decode cX2_init 1 = .ok (.invokespecial 3, 3) := by decide +kernel
theorem dX2_init_4 : decode cX2_init 4 = .ok (.aload_n 0, 1) := by decide +kernel
theorem dX2_init_5 : decode cX2_init 5 = .ok (.bipush 40, 2) := by decide +kernel
theorem dX2_init_7 : decode cX2_init 7 = .ok (.newarray .int, 2) := by decide +kernel
theorem dX2_init_9 : decode cX2_init 9 = .ok (.putfield 9, 3) := by decide +kernel
theorem dX2_init_12 : decode cX2_init 12 = .ok (.aload_n 0, 1) := by decide +kernel
theorem dX2_init_13 : decode cX2_init 13 = .ok (.bipush 40, 2) := by decide +kernel
theorem dX2_init_15 : decode cX2_init 15 = .ok (.newarray .int, 2) := by decide +kernel
theorem dX2_init_17 : decode cX2_init 17 = .ok (.putfield 15, 3) := by decide +kernel
theorem dX2_init_20 : decode cX2_init 20 = .ok (.return_, 1) := by decide +kernel
theorem dX2_clear_0 : decode cX2_clear 0 = .ok (.aload_n 0, 1) := by decide +kernel
theorem dX2_clear_1 : decode cX2_clear 1 = .ok (.getfield 9, 3) := by decide +kernel
theorem dX2_clear_4 : decode cX2_clear 4 = .ok (.iconst (-1), 1) := by decide +kernel
theorem dX2_clear_5 : decode cX2_clear 5 = .ok (.invokestatic 18, 3) := by decide +kernel
theorem dX2_clear_8 : decode cX2_clear 8 = .ok (.aload_n 0, 1) := by decide +kernel
theorem dX2_clear_9 : decode cX2_clear 9 = .ok (.getfield 15, 3) := by decide +kernel
theorem dX2_clear_12 : decode cX2_clear 12 = .ok (.iconst (-1), 1) := by decide +kernel
theorem dX2_clear_13 : decode cX2_clear 13 = .ok (.invokestatic 18, 3) := by decide +kernel
theorem dX2_clear_16 : decode cX2_clear 16 = .ok (.return_, 1) := by decide +kernel
theorem dX2_firstOf_0 : decode cX2_firstOf 0 = .ok (.iload_n 1, 1) := by decide +kernel
theorem dX2_firstOf_1 : decode cX2_firstOf 1 = .ok (.ifCond .lt 18, 3) := by decide +kernel
theorem dX2_firstOf_4 : decode cX2_firstOf 4 = .ok (.iload_n 1, 1) := by decide +kernel
theorem dX2_firstOf_5 : decode cX2_firstOf 5 = .ok (.bipush 40, 2) := by decide +kernel
theorem dX2_firstOf_7 : decode cX2_firstOf 7 = .ok (.if_icmp .ge 12, 3) := by decide +kernel
theorem dX2_firstOf_10 : decode cX2_firstOf 10 = .ok (.aload_n 0, 1) := by decide +kernel
theorem dX2_firstOf_11 : decode cX2_firstOf 11 = .ok (.getfield 9, 3) := by decide +kernel
theorem dX2_firstOf_14 : decode cX2_firstOf 14 = .ok (.iload_n 1, 1) := by decide +kernel
theorem dX2_firstOf_15 : decode cX2_firstOf 15 = .ok (.iaload, 1) := by decide +kernel
theorem dX2_firstOf_16 : decode cX2_firstOf 16 = .ok (.goto 4, 3) := by decide +kernel
theorem dX2_firstOf_19 : decode cX2_firstOf 19 = .ok (.iconst (-1), 1) := by decide +kernel
theorem dX2_firstOf_20 : decode cX2_firstOf 20 = .ok (.ireturn, 1) := by decide +kernel
theorem dX2_tell_0 : decode cX2_tell 0 = .ok (.aload_n 1, 1) := by decide +kernel
theorem dX2_tell_1 : decode cX2_tell 1 = .ok (.iload_n 3, 1) := by decide +kernel
theorem dX2_tell_2 : decode cX2_tell 2 = .ok (.invokevirtual 24, 3) := by decide +kernel
theorem dX2_tell_5 : decode cX2_tell 5 = .ok (.ifCond .ne 4, 3) := by decide +kernel
theorem dX2_tell_8 : decode cX2_tell 8 = .ok (.return_, 1) := by decide +kernel
theorem dX2_tell_9 : decode cX2_tell 9 = .ok (.aload_n 0, 1) := by decide +kernel
theorem dX2_tell_10 : decode cX2_tell 10 = .ok (.getfield 15, 3) := by decide +kernel
theorem dX2_tell_13 : decode cX2_tell 13 = .ok (.iload_n 3, 1) := by decide +kernel
theorem dX2_tell_14 : decode cX2_tell 14 = .ok (.iaload, 1) := by decide +kernel
theorem dX2_tell_15 : decode cX2_tell 15 = .ok (.istore 6, 2) := by decide +kernel
theorem dX2_tell_17 : decode cX2_tell 17 = .ok (.aload_n 1, 1) := by decide +kernel
theorem dX2_tell_18 : decode cX2_tell 18 = .ok (.iload 6, 2) := by decide +kernel
theorem dX2_tell_20 : decode cX2_tell 20 = .ok (.invokevirtual 24, 3) := by decide +kernel
theorem dX2_tell_23 : decode cX2_tell 23 = .ok (.ifCond .eq 15, 3) := by decide +kernel
theorem dX2_tell_26 : decode cX2_tell 26 = .ok (.aload_n 1, 1) := by decide +kernel
theorem dX2_tell_27 : decode cX2_tell 27 = .ok (.iload 4, 2) := by decide +kernel
theorem dX2_tell_29 : decode cX2_tell 29 = .ok (.iload 6, 2) := by decide +kernel
theorem dX2_tell_31 : decode cX2_tell 31 = .ok (.iload_n 2, 1) := by decide +kernel
theorem dX2_tell_32 : decode cX2_tell 32 = .ok (.invokevirtual 30, 3) := by decide +kernel
theorem dX2_tell_35 : decode cX2_tell 35 = .ok (.ifCond .eq 19, 3) := by decide +kernel
theorem dX2_tell_38 : decode cX2_tell 38 = .ok (.aload_n 0, 1) := by decide +kernel
theorem dX2_tell_39 : decode cX2_tell 39 = .ok (.getfield 15, 3) := by decide +kernel
theorem dX2_tell_42 : decode cX2_tell 42 = .ok (.iload_n 3, 1) := by decide +kernel
theorem dX2_tell_43 : decode cX2_tell 43 = .ok (.iload 4, 2) := by decide +kernel
theorem dX2_tell_45 : decode cX2_tell 45 = .ok (.iastore, 1) := by decide +kernel
theorem dX2_tell_46 : decode cX2_tell 46 = .ok (.aload_n 0, 1) := by decide +kernel
theorem dX2_tell_47 : decode cX2_tell 47 = .ok (.getfield 9, 3) := by decide +kernel
theorem dX2_tell_50 : decode cX2_tell 50 = .ok (.iload_n 3, 1) := by decide +kernel
theorem dX2_tell_51 : decode cX2_tell 51 = .ok (.iload 5, 2) := by decide +kernel
theorem dX2_tell_53 : decode cX2_tell 53 = .ok (.iastore, 1) := by decide +kernel
theorem dX2_tell_54 : decode cX2_tell 54 = .ok (.return_, 1) := by decide +kernel
theorem dX3_init_0 : decode cX3_init 0 = .ok (.aload_n 0, 1) := by decide +kernel
theorem dX3_init_1 : decode cX3_init 1 = .ok (.invokespecial 3, 3) := by decide +kernel
theorem dX3_init_4 : decode cX3_init 4 = .ok (.aload_n 0, 1) := by decide +kernel
theorem dX3_init_5 : decode cX3_init 5 = .ok (.bipush 40, 2) := by decide +kernel
theorem dX3_init_7 : decode cX3_init 7 = .ok (.newarray .int, 2) := by decide +kernel
theorem dX3_init_9 : decode cX3_init 9 = .ok (.putfield 9, 3) := by decide +kernel
theorem dX3_init_12 : decode cX3_init 12 = .ok (.aload_n 0, 1) := by decide +kernel
theorem dX3_init_13 : decode cX3_init 13 = .ok (.bipush 40, 2) := by decide +kernel
theorem dX3_init_15 : decode cX3_init 15 = .ok (.newarray .int, 2) := by decide +kernel
theorem dX3_init_17 : decode cX3_init 17 = .ok (.putfield 15, 3) := by decide +kernel
theorem dX3_init_20 : decode cX3_init 20 = .ok (.aload_n 0, 1) := by decide +kernel
theorem dX3_init_21 : decode cX3_init 21 = .ok (.getfield 9, 3) := by decide +kernel
theorem dX3_init_24 : decode cX3_init 24 = .ok (.iconst (-1), 1) := by decide +kernel
theorem dX3_init_25 : decode cX3_init 25 = .ok (.invokestatic 18, 3) := by decide +kernel
theorem dX3_init_28 : decode cX3_init 28 = .ok (.aload_n 0, 1) := by decide +kernel
theorem dX3_init_29 : decode cX3_init 29 = .ok (.getfield 15, 3) := by decide +kernel
theorem dX3_init_32 : decode cX3_init 32 = .ok (.iconst (-1), 1) := by decide +kernel
theorem dX3_init_33 : decode cX3_init 33 = .ok (.invokestatic 18, 3) := by decide +kernel
theorem dX3_init_36 : decode cX3_init 36 = .ok (.return_, 1) := by decide +kernel
theorem dX3_fits_0 : decode cX3_fits 0 = .ok (.iload_n 0, 1) := by decide +kernel
theorem dX3_fits_1 : decode cX3_fits 1 = .ok (.ifCond .lt 13, 3) := by decide +kernel
theorem dX3_fits_4 : decode cX3_fits 4 = .ok (.iload_n 0, 1) := by decide +kernel
theorem dX3_fits_5 : decode cX3_fits 5 = .ok (.bipush 40, 2) := by decide +kernel
theorem dX3_fits_7 : decode cX3_fits 7 = .ok (.if_icmp .ge 7, 3) := by decide +kernel
theorem dX3_fits_10 : decode cX3_fits 10 = .ok (.iconst 1, 1) := by decide +kernel
theorem dX3_fits_11 : decode cX3_fits 11 = .ok (.goto 4, 3) := by decide +kernel
theorem dX3_fits_14 : decode cX3_fits 14 = .ok (.iconst 0, 1) := by decide +kernel
theorem dX3_fits_15 : decode cX3_fits 15 = .ok (.ireturn, 1) := by decide +kernel
theorem dX3_spouseOf_0 : decode cX3_spouseOf 0 = .ok (.iload_n 1, 1) := by decide +kernel
theorem dX3_spouseOf_1 : decode cX3_spouseOf 1 = .ok (.invokestatic 24, 3) := by decide +kernel
theorem dX3_spouseOf_4 : decode cX3_spouseOf 4 = .ok (.ifCond .eq 12, 3) := by decide +kernel
theorem dX3_spouseOf_7 : decode cX3_spouseOf 7 = .ok (.aload_n 0, 1) := by decide +kernel
theorem dX3_spouseOf_8 : decode cX3_spouseOf 8 = .ok (.getfield 9, 3) := by decide +kernel
theorem dX3_spouseOf_11 : decode cX3_spouseOf 11 = .ok (.iload_n 1, 1) := by decide +kernel
theorem dX3_spouseOf_12 : decode cX3_spouseOf 12 = .ok (.iaload, 1) := by decide +kernel
theorem dX3_spouseOf_13 : decode cX3_spouseOf 13 = .ok (.goto 4, 3) := by decide +kernel
theorem dX3_spouseOf_16 : decode cX3_spouseOf 16 = .ok (.iconst (-1), 1) := by decide +kernel
theorem dX3_spouseOf_17 : decode cX3_spouseOf 17 = .ok (.ireturn, 1) := by decide +kernel
theorem dX3_givenBy_0 : decode cX3_givenBy 0 = .ok (.iload_n 1, 1) := by decide +kernel
theorem dX3_givenBy_1 : decode cX3_givenBy 1 = .ok (.invokestatic 24, 3) := by decide +kernel
theorem dX3_givenBy_4 : decode cX3_givenBy 4 = .ok (.ifCond .eq 12, 3) := by decide +kernel
theorem dX3_givenBy_7 : decode cX3_givenBy 7 = .ok (.aload_n 0, 1) := by decide +kernel
theorem dX3_givenBy_8 : decode cX3_givenBy 8 = .ok (.getfield 15, 3) := by decide +kernel
theorem dX3_givenBy_11 : decode cX3_givenBy 11 = .ok (.iload_n 1, 1) := by decide +kernel
theorem dX3_givenBy_12 : decode cX3_givenBy 12 = .ok (.iaload, 1) := by decide +kernel
theorem dX3_givenBy_13 : decode cX3_givenBy 13 = .ok (.goto 4, 3) := by decide +kernel
theorem dX3_givenBy_16 : decode cX3_givenBy 16 = .ok (.iconst (-1), 1) := by decide +kernel
theorem dX3_givenBy_17 : decode cX3_givenBy 17 = .ok (.ireturn, 1) := by decide +kernel
theorem dX3_bind_0 : decode cX3_bind 0 = .ok (.aload_n 0, 1) := by decide +kernel
theorem dX3_bind_1 : decode cX3_bind 1 = .ok (.getfield 9, 3) := by decide +kernel
theorem dX3_bind_4 : decode cX3_bind 4 = .ok (.iload_n 1, 1) := by decide +kernel
theorem dX3_bind_5 : decode cX3_bind 5 = .ok (.iload_n 2, 1) := by decide +kernel
theorem dX3_bind_6 : decode cX3_bind 6 = .ok (.iastore, 1) := by decide +kernel
theorem dX3_bind_7 : decode cX3_bind 7 = .ok (.aload_n 0, 1) := by decide +kernel
theorem dX3_bind_8 : decode cX3_bind 8 = .ok (.getfield 9, 3) := by decide +kernel
theorem dX3_bind_11 : decode cX3_bind 11 = .ok (.iload_n 2, 1) := by decide +kernel
theorem dX3_bind_12 : decode cX3_bind 12 = .ok (.iload_n 1, 1) := by decide +kernel
theorem dX3_bind_13 : decode cX3_bind 13 = .ok (.iastore, 1) := by decide +kernel
theorem dX3_bind_14 : decode cX3_bind 14 = .ok (.return_, 1) := by decide +kernel
theorem dX3_part_0 : decode cX3_part 0 = .ok (.aload_n 0, 1) := by decide +kernel
theorem dX3_part_1 : decode cX3_part 1 = .ok (.iload_n 1, 1) := by decide +kernel
theorem dX3_part_2 : decode cX3_part 2 = .ok (.invokevirtual 28, 3) := by decide +kernel
theorem dX3_part_5 : decode cX3_part 5 = .ok (.istore_n 2, 1) := by decide +kernel
theorem dX3_part_6 : decode cX3_part 6 = .ok (.iload_n 1, 1) := by decide +kernel
theorem dX3_part_7 : decode cX3_part 7 = .ok (.invokestatic 24, 3) := by decide +kernel
theorem dX3_part_10 : decode cX3_part 10 = .ok (.ifCond .eq 10, 3) := by decide +kernel
theorem dX3_part_13 : decode cX3_part 13 = .ok (.iload_n 2, 1) := by decide +kernel
theorem dX3_part_14 : decode cX3_part 14 = .ok (.invokestatic 24, 3) := by decide +kernel
theorem dX3_part_17 : decode cX3_part 17 = .ok (.ifCond .ne 4, 3) := by decide +kernel
theorem dX3_part_20 : decode cX3_part 20 = .ok (.return_, 1) := by decide +kernel
theorem dX3_part_21 : decode cX3_part 21 = .ok (.aload_n 0, 1) := by decide +kernel
theorem dX3_part_22 : decode cX3_part 22 = .ok (.getfield 9, 3) := by decide +kernel
theorem dX3_part_25 : decode cX3_part 25 = .ok (.iload_n 1, 1) := by decide +kernel
theorem dX3_part_26 : decode cX3_part 26 = .ok (.iconst (-1), 1) := by decide +kernel
theorem dX3_part_27 : decode cX3_part 27 = .ok (.iastore, 1) := by decide +kernel
theorem dX3_part_28 : decode cX3_part 28 = .ok (.aload_n 0, 1) := by decide +kernel
theorem dX3_part_29 : decode cX3_part 29 = .ok (.getfield 9, 3) := by decide +kernel
theorem dX3_part_32 : decode cX3_part 32 = .ok (.iload_n 2, 1) := by decide +kernel
theorem dX3_part_33 : decode cX3_part 33 = .ok (.iconst (-1), 1) := by decide +kernel
theorem dX3_part_34 : decode cX3_part 34 = .ok (.iastore, 1) := by decide +kernel
theorem dX3_part_35 : decode cX3_part 35 = .ok (.aload_n 0, 1) := by decide +kernel
theorem dX3_part_36 : decode cX3_part 36 = .ok (.getfield 15, 3) := by decide +kernel
theorem dX3_part_39 : decode cX3_part 39 = .ok (.iload_n 1, 1) := by decide +kernel
theorem dX3_part_40 : decode cX3_part 40 = .ok (.iconst (-1), 1) := by decide +kernel
theorem dX3_part_41 : decode cX3_part 41 = .ok (.iastore, 1) := by decide +kernel
theorem dX3_part_42 : decode cX3_part 42 = .ok (.aload_n 0, 1) := by decide +kernel
theorem dX3_part_43 : decode cX3_part 43 = .ok (.getfield 15, 3) := by decide +kernel
theorem dX3_part_46 : decode cX3_part 46 = .ok (.iload_n 2, 1) := by decide +kernel
theorem dX3_part_47 : decode cX3_part 47 = .ok (.iconst (-1), 1) := by decide +kernel
theorem dX3_part_48 : decode cX3_part 48 = .ok (.iastore, 1) := by decide +kernel
theorem dX3_part_49 : decode cX3_part 49 = .ok (.return_, 1) := by decide +kernel
theorem dX3_couples_0 : decode cX3_couples 0 = .ok (.iconst 0, 1) := by decide +kernel
theorem dX3_couples_1 : decode cX3_couples 1 = .ok (.istore_n 1, 1) := by decide +kernel
theorem dX3_couples_2 : decode cX3_couples 2 = .ok (.iconst 0, 1) := by decide +kernel
theorem dX3_couples_3 : decode cX3_couples 3 = .ok (.istore_n 2, 1) := by decide +kernel
theorem dX3_couples_4 : decode cX3_couples 4 = .ok (.iload_n 2, 1) := by decide +kernel
theorem dX3_couples_5 : decode cX3_couples 5 = .ok (.bipush 40, 2) := by decide +kernel
theorem dX3_couples_7 : decode cX3_couples 7 = .ok (.if_icmp .ge 22, 3) := by decide +kernel
theorem dX3_couples_10 : decode cX3_couples 10 = .ok (.aload_n 0, 1) := by decide +kernel
theorem dX3_couples_11 : decode cX3_couples 11 = .ok (.getfield 9, 3) := by decide +kernel
theorem dX3_couples_14 : decode cX3_couples 14 = .ok (.iload_n 2, 1) := by decide +kernel
theorem dX3_couples_15 : decode cX3_couples 15 = .ok (.iaload, 1) := by decide +kernel
theorem dX3_couples_16 : decode cX3_couples 16 = .ok (.iload_n 2, 1) := by decide +kernel
theorem dX3_couples_17 : decode cX3_couples 17 = .ok (.if_icmp .le 6, 3) := by decide +kernel
theorem dX3_couples_20 : decode cX3_couples 20 = .ok (.iinc 1 1, 3) := by decide +kernel
theorem dX3_couples_23 : decode cX3_couples 23 = .ok (.iinc 2 1, 3) := by decide +kernel
theorem dX3_couples_26 : decode cX3_couples 26 = .ok (.goto (-22), 3) := by decide +kernel
theorem dX3_couples_29 : decode cX3_couples 29 = .ok (.iload_n 1, 1) := by decide +kernel
theorem dX3_couples_30 : decode cX3_couples 30 = .ok (.ireturn, 1) := by decide +kernel
theorem dX4_init_0 : decode cX4_init 0 = .ok (.aload_n 0, 1) := by decide +kernel
theorem dX4_init_1 : decode cX4_init 1 = .ok (.invokespecial 3, 3) := by decide +kernel
theorem dX4_init_4 : decode cX4_init 4 = .ok (.aload_n 0, 1) := by decide +kernel
theorem dX4_init_5 : decode cX4_init 5 = .ok (.new 9, 3) := by decide +kernel
theorem dX4_init_8 : decode cX4_init 8 = .ok (.dup, 1) := by decide +kernel
theorem dX4_init_9 : decode cX4_init 9 = .ok (.invokespecial 11, 3) := by decide +kernel
theorem dX4_init_12 : decode cX4_init 12 = .ok (.putfield 12, 3) := by decide +kernel
theorem dX4_init_15 : decode cX4_init 15 = .ok (.aload_n 0, 1) := by decide +kernel
theorem dX4_init_16 : decode cX4_init 16 = .ok (.new 18, 3) := by decide +kernel
theorem dX4_init_19 : decode cX4_init 19 = .ok (.dup, 1) := by decide +kernel
theorem dX4_init_20 : decode cX4_init 20 = .ok (.invokespecial 20, 3) := by decide +kernel
theorem dX4_init_23 : decode cX4_init 23 = .ok (.putfield 21, 3) := by decide +kernel
theorem dX4_init_26 : decode cX4_init 26 = .ok (.aload_n 0, 1) := by decide +kernel
theorem dX4_init_27 : decode cX4_init 27 = .ok (.new 25, 3) := by decide +kernel
theorem dX4_init_30 : decode cX4_init 30 = .ok (.dup, 1) := by decide +kernel
theorem dX4_init_31 : decode cX4_init 31 = .ok (.invokespecial 27, 3) := by decide +kernel
theorem dX4_init_34 : decode cX4_init 34 = .ok (.putfield 28, 3) := by decide +kernel
theorem dX4_init_37 : decode cX4_init 37 = .ok (.aload_n 0, 1) := by decide +kernel
theorem dX4_init_38 : decode cX4_init 38 = .ok (.bipush 40, 2) := by decide +kernel
theorem dX4_init_40 : decode cX4_init 40 = .ok (.newarray .int, 2) := by decide +kernel
theorem dX4_init_42 : decode cX4_init 42 = .ok (.putfield 32, 3) := by decide +kernel
theorem dX4_init_45 : decode cX4_init 45 = .ok (.aload_n 0, 1) := by decide +kernel
theorem dX4_init_46 : decode cX4_init 46 = .ok (.iconst 0, 1) := by decide +kernel
theorem dX4_init_47 : decode cX4_init 47 = .ok (.putfield 36, 3) := by decide +kernel
theorem dX4_init_50 : decode cX4_init 50 = .ok (.aload_n 0, 1) := by decide +kernel
theorem dX4_init_51 : decode cX4_init 51 = .ok (.aload_n 1, 1) := by decide +kernel
theorem dX4_init_52 : decode cX4_init 52 = .ok (.putfield 40, 3) := by decide +kernel
theorem dX4_init_55 : decode cX4_init 55 = .ok (.aload_n 0, 1) := by decide +kernel
theorem dX4_init_56 : decode cX4_init 56 = .ok (.getfield 32, 3) := by decide +kernel
theorem dX4_init_59 : decode cX4_init 59 = .ok (.iconst (-1), 1) := by decide +kernel
theorem dX4_init_60 : decode cX4_init 60 = .ok (.invokestatic 44, 3) := by decide +kernel
theorem dX4_init_63 : decode cX4_init 63 = .ok (.return_, 1) := by decide +kernel
theorem dX4_startFrom_0 : decode cX4_startFrom 0 = .ok (.aload_n 0, 1) := by decide +kernel
theorem dX4_startFrom_1 : decode cX4_startFrom 1 = .ok (.aload_n 1, 1) := by decide +kernel
theorem dX4_startFrom_2 : decode cX4_startFrom 2 = .ok (.getfield 36, 3) := by decide +kernel
theorem dX4_startFrom_5 : decode cX4_startFrom 5 = .ok (.putfield 36, 3) := by decide +kernel
theorem dX4_startFrom_8 : decode cX4_startFrom 8 = .ok (.aload_n 1, 1) := by decide +kernel
theorem dX4_startFrom_9 : decode cX4_startFrom 9 = .ok (.getfield 32, 3) := by decide +kernel
theorem dX4_startFrom_12 : decode cX4_startFrom 12 = .ok (.iconst 0, 1) := by decide +kernel
theorem dX4_startFrom_13 : decode cX4_startFrom 13 = .ok (.aload_n 0, 1) := by decide +kernel
theorem dX4_startFrom_14 : decode cX4_startFrom 14 = .ok (.getfield 32, 3) := by decide +kernel
theorem dX4_startFrom_17 : decode cX4_startFrom 17 = .ok (.iconst 0, 1) := by decide +kernel
theorem dX4_startFrom_18 : decode cX4_startFrom 18 = .ok (.bipush 40, 2) := by decide +kernel
theorem dX4_startFrom_20 : decode cX4_startFrom 20 = .ok (.invokestatic 50, 3) := by decide +kernel
theorem dX4_startFrom_23 : decode cX4_startFrom 23 = .ok (.aload_n 0, 1) := by decide +kernel
theorem dX4_startFrom_24 : decode cX4_startFrom 24 = .ok (.getfield 12, 3) := by decide +kernel
theorem dX4_startFrom_27 : decode cX4_startFrom 27 = .ok (.aload_n 1, 1) := by decide +kernel
theorem dX4_startFrom_28 : decode cX4_startFrom 28 = .ok (.getfield 12, 3) := by decide +kernel
theorem dX4_startFrom_31 : decode cX4_startFrom 31 = .ok (.invokevirtual 56, 3) := by decide +kernel
theorem dX4_startFrom_34 : decode cX4_startFrom 34 = .ok (.return_, 1) := by decide +kernel
theorem dX4_lives_0 : decode cX4_lives 0 = .ok (.aload_n 0, 1) := by decide +kernel
theorem dX4_lives_1 : decode cX4_lives 1 = .ok (.getfield 40, 3) := by decide +kernel
theorem dX4_lives_4 : decode cX4_lives 4 = .ok (.iload_n 1, 1) := by decide +kernel
theorem dX4_lives_5 : decode cX4_lives 5 = .ok (.invokevirtual 60, 3) := by decide +kernel
theorem dX4_lives_8 : decode cX4_lives 8 = .ok (.ifCond .eq 17, 3) := by decide +kernel
theorem dX4_lives_11 : decode cX4_lives 11 = .ok (.aload_n 0, 1) := by decide +kernel
theorem dX4_lives_12 : decode cX4_lives 12 = .ok (.getfield 32, 3) := by decide +kernel
theorem dX4_lives_15 : decode cX4_lives 15 = .ok (.iload_n 1, 1) := by decide +kernel
theorem dX4_lives_16 : decode cX4_lives 16 = .ok (.iaload, 1) := by decide +kernel
theorem dX4_lives_17 : decode cX4_lives 17 = .ok (.iconst (-1), 1) := by decide +kernel
theorem dX4_lives_18 : decode cX4_lives 18 = .ok (.if_icmp .ne 7, 3) := by decide +kernel
theorem dX4_lives_21 : decode cX4_lives 21 = .ok (.iconst 1, 1) := by decide +kernel
theorem dX4_lives_22 : decode cX4_lives 22 = .ok (.goto 4, 3) := by decide +kernel
theorem dX4_lives_25 : decode cX4_lives 25 = .ok (.iconst 0, 1) := by decide +kernel
theorem dX4_lives_26 : decode cX4_lives 26 = .ok (.ireturn, 1) := by decide +kernel
theorem dX4_age_0 : decode cX4_age 0 = .ok (.aload_n 0, 1) := by decide +kernel
theorem dX4_age_1 : decode cX4_age 1 = .ok (.getfield 40, 3) := by decide +kernel
theorem dX4_age_4 : decode cX4_age 4 = .ok (.iload_n 1, 1) := by decide +kernel
theorem dX4_age_5 : decode cX4_age 5 = .ok (.invokevirtual 60, 3) := by decide +kernel
theorem dX4_age_8 : decode cX4_age 8 = .ok (.ifCond .eq 20, 3) := by decide +kernel
theorem dX4_age_11 : decode cX4_age 11 = .ok (.aload_n 0, 1) := by decide +kernel
theorem dX4_age_12 : decode cX4_age 12 = .ok (.getfield 36, 3) := by decide +kernel
theorem dX4_age_15 : decode cX4_age 15 = .ok (.aload_n 0, 1) := by decide +kernel
theorem dX4_age_16 : decode cX4_age 16 = .ok (.getfield 40, 3) := by decide +kernel
theorem dX4_age_19 : decode cX4_age 19 = .ok (.getfield 66, 3) := by decide +kernel
theorem dX4_age_22 : decode cX4_age 22 = .ok (.iload_n 1, 1) := by decide +kernel
theorem dX4_age_23 : decode cX4_age 23 = .ok (.iaload, 1) := by decide +kernel
theorem dX4_age_24 : decode cX4_age 24 = .ok (.isub, 1) := by decide +kernel
theorem dX4_age_25 : decode cX4_age 25 = .ok (.goto 4, 3) := by decide +kernel
theorem dX4_age_28 : decode cX4_age 28 = .ok (.iconst 0, 1) := by decide +kernel
theorem dX4_age_29 : decode cX4_age 29 = .ok (.ireturn, 1) := by decide +kernel
theorem dX4_isFree_0 : decode cX4_isFree 0 = .ok (.aload_n 0, 1) := by decide +kernel
theorem dX4_isFree_1 : decode cX4_isFree 1 = .ok (.iload_n 1, 1) := by decide +kernel
theorem dX4_isFree_2 : decode cX4_isFree 2 = .ok (.invokevirtual 69, 3) := by decide +kernel
theorem dX4_isFree_5 : decode cX4_isFree 5 = .ok (.ifCond .eq 29, 3) := by decide +kernel
theorem dX4_isFree_8 : decode cX4_isFree 8 = .ok (.aload_n 0, 1) := by decide +kernel
theorem dX4_isFree_9 : decode cX4_isFree 9 = .ok (.iload_n 1, 1) := by decide +kernel
theorem dX4_isFree_10 : decode cX4_isFree 10 = .ok (.invokevirtual 72, 3) := by decide +kernel
theorem dX4_isFree_13 : decode cX4_isFree 13 = .ok (.bipush 16, 2) := by decide +kernel
theorem dX4_isFree_15 : decode cX4_isFree 15 = .ok (.if_icmp .lt 19, 3) := by decide +kernel
theorem dX4_isFree_18 : decode cX4_isFree 18 = .ok (.aload_n 0, 1) := by decide +kernel
theorem dX4_isFree_19 : decode cX4_isFree 19 = .ok (.getfield 21, 3) := by decide +kernel
theorem dX4_isFree_22 : decode cX4_isFree 22 = .ok (.iload_n 1, 1) := by decide +kernel
theorem dX4_isFree_23 : decode cX4_isFree 23 = .ok (.invokevirtual 76, 3) := by decide +kernel
theorem dX4_isFree_26 : decode cX4_isFree 26 = .ok (.iconst (-1), 1) := by decide +kernel
theorem dX4_isFree_27 : decode cX4_isFree 27 = .ok (.if_icmp .ne 7, 3) := by decide +kernel
theorem dX4_isFree_30 : decode cX4_isFree 30 = .ok (.iconst 1, 1) := by decide +kernel
theorem dX4_isFree_31 : decode cX4_isFree 31 = .ok (.goto 4, 3) := by decide +kernel
theorem dX4_isFree_34 : decode cX4_isFree 34 = .ok (.iconst 0, 1) := by decide +kernel
theorem dX4_isFree_35 : decode cX4_isFree 35 = .ok (.ireturn, 1) := by decide +kernel
theorem dX4_mayMarry_0 : decode cX4_mayMarry 0 = .ok (.aload_n 0, 1) := by decide +kernel
theorem dX4_mayMarry_1 : decode cX4_mayMarry 1 = .ok (.iload_n 1, 1) := by decide +kernel
theorem dX4_mayMarry_2 : decode cX4_mayMarry 2 = .ok (.invokevirtual 79, 3) := by decide +kernel
theorem dX4_mayMarry_5 : decode cX4_mayMarry 5 = .ok (.ifCond .eq 32, 3) := by decide +kernel
theorem dX4_mayMarry_8 : decode cX4_mayMarry 8 = .ok (.aload_n 0, 1) := by decide +kernel
theorem dX4_mayMarry_9 : decode cX4_mayMarry 9 = .ok (.iload_n 2, 1) := by decide +kernel
theorem dX4_mayMarry_10 : decode cX4_mayMarry 10 = .ok (.invokevirtual 79, 3) := by decide +kernel
theorem dX4_mayMarry_13 : decode cX4_mayMarry 13 = .ok (.ifCond .eq 24, 3) := by decide +kernel
theorem dX4_mayMarry_16 : decode cX4_mayMarry 16 = .ok (.aload_n 0, 1) := by decide +kernel
theorem dX4_mayMarry_17 : decode cX4_mayMarry 17 = .ok (.getfield 40, 3) := by decide +kernel
theorem dX4_mayMarry_20 : decode cX4_mayMarry 20 = .ok (.getfield 82, 3) := by decide +kernel
theorem dX4_mayMarry_23 : decode cX4_mayMarry 23 = .ok (.iload_n 1, 1) := by decide +kernel
theorem dX4_mayMarry_24 : decode cX4_mayMarry 24 = .ok (.baload, 1) := by decide +kernel
theorem dX4_mayMarry_25 : decode cX4_mayMarry 25 = .ok (.aload_n 0, 1) := by decide +kernel
theorem dX4_mayMarry_26 : decode cX4_mayMarry 26 = .ok (.getfield 40, 3) := by decide +kernel
theorem dX4_mayMarry_29 : decode cX4_mayMarry 29 = .ok (.getfield 82, 3) := by decide +kernel
theorem dX4_mayMarry_32 : decode cX4_mayMarry 32 = .ok (.iload_n 2, 1) := by decide +kernel
theorem dX4_mayMarry_33 : decode cX4_mayMarry 33 = .ok (.baload, 1) := by decide +kernel
theorem dX4_mayMarry_34 : decode cX4_mayMarry 34 = .ok (.if_icmp .ne 5, 3) := by decide +kernel
theorem dX4_mayMarry_37 : decode cX4_mayMarry 37 = .ok (.iconst 0, 1) := by decide +kernel
theorem dX4_mayMarry_38 : decode cX4_mayMarry 38 = .ok (.ireturn, 1) := by decide +kernel
theorem dX4_mayMarry_39 : decode cX4_mayMarry 39 = .ok (.aload_n 0, 1) := by decide +kernel
theorem dX4_mayMarry_40 : decode cX4_mayMarry 40 = .ok (.getfield 40, 3) := by decide +kernel
theorem dX4_mayMarry_43 : decode cX4_mayMarry 43 = .ok (.iload_n 1, 1) := by decide +kernel
theorem dX4_mayMarry_44 : decode cX4_mayMarry 44 = .ok (.iload_n 2, 1) := by decide +kernel
theorem dX4_mayMarry_45 : decode cX4_mayMarry 45 = .ok (.invokevirtual 86, 3) := by decide +kernel
theorem dX4_mayMarry_48 : decode cX4_mayMarry 48 = .ok (.istore_n 3, 1) := by decide +kernel
theorem dX4_mayMarry_49 : decode cX4_mayMarry 49 = .ok (.iload_n 3, 1) := by decide +kernel
theorem dX4_mayMarry_50 : decode cX4_mayMarry 50 = .ok (.iconst (-1), 1) := by decide +kernel
theorem dX4_mayMarry_51 : decode cX4_mayMarry 51 = .ok (.if_icmp .eq 8, 3) := by decide +kernel
theorem dX4_mayMarry_54 : decode cX4_mayMarry 54 = .ok (.iload_n 3, 1) := by decide +kernel
theorem dX4_mayMarry_55 : decode cX4_mayMarry 55 = .ok (.iconst 3, 1) := by decide +kernel
theorem dX4_mayMarry_56 : decode cX4_mayMarry 56 = .ok (.if_icmp .lt 7, 3) := by decide +kernel
theorem dX4_mayMarry_59 : decode cX4_mayMarry 59 = .ok (.iconst 1, 1) := by decide +kernel
theorem dX4_mayMarry_60 : decode cX4_mayMarry 60 = .ok (.goto 4, 3) := by decide +kernel
theorem dX4_mayMarry_63 : decode cX4_mayMarry 63 = .ok (.iconst 0, 1) := by decide +kernel
theorem dX4_mayMarry_64 : decode cX4_mayMarry 64 = .ok (.ireturn, 1) := by decide +kernel
theorem dX4_wed_0 : decode cX4_wed 0 = .ok (.aload_n 0, 1) := by decide +kernel
theorem dX4_wed_1 : decode cX4_wed 1 = .ok (.getfield 21, 3) := by decide +kernel
theorem dX4_wed_4 : decode cX4_wed 4 = .ok (.iload_n 1, 1) := by decide +kernel
theorem dX4_wed_5 : decode cX4_wed 5 = .ok (.iload_n 2, 1) := by decide +kernel
theorem dX4_wed_6 : decode cX4_wed 6 = .ok (.invokevirtual 90, 3) := by decide +kernel
theorem dX4_wed_9 : decode cX4_wed 9 = .ok (.aload_n 0, 1) := by decide +kernel
theorem dX4_wed_10 : decode cX4_wed 10 = .ok (.getfield 12, 3) := by decide +kernel
theorem dX4_wed_13 : decode cX4_wed 13 = .ok (.iload_n 3, 1) := by decide +kernel
theorem dX4_wed_14 : decode cX4_wed 14 = .ok (.invokevirtual 94, 3) := by decide +kernel
theorem dX4_wed_17 : decode cX4_wed 17 = .ok (.istore 4, 2) := by decide +kernel
theorem dX4_wed_19 : decode cX4_wed 19 = .ok (.iload 4, 2) := by decide +kernel
theorem dX4_wed_21 : decode cX4_wed 21 = .ok (.iload_n 1, 1) := by decide +kernel
theorem dX4_wed_22 : decode cX4_wed 22 = .ok (.if_icmp .eq 9, 3) := by decide +kernel
theorem dX4_wed_25 : decode cX4_wed 25 = .ok (.iload 4, 2) := by decide +kernel
theorem dX4_wed_27 : decode cX4_wed 27 = .ok (.iload_n 2, 1) := by decide +kernel
theorem dX4_wed_28 : decode cX4_wed 28 = .ok (.if_icmp .ne 33, 3) := by decide +kernel
theorem dX4_wed_31 : decode cX4_wed 31 = .ok (.aload_n 0, 1) := by decide +kernel
theorem dX4_wed_32 : decode cX4_wed 32 = .ok (.getfield 21, 3) := by decide +kernel
theorem dX4_wed_35 : decode cX4_wed 35 = .ok (.getfield 97, 3) := by decide +kernel
theorem dX4_wed_38 : decode cX4_wed 38 = .ok (.iload 4, 2) := by decide +kernel
theorem dX4_wed_40 : decode cX4_wed 40 = .ok (.iload_n 3, 1) := by decide +kernel
theorem dX4_wed_41 : decode cX4_wed 41 = .ok (.iastore, 1) := by decide +kernel
theorem dX4_wed_42 : decode cX4_wed 42 = .ok (.aload_n 0, 1) := by decide +kernel
theorem dX4_wed_43 : decode cX4_wed 43 = .ok (.getfield 12, 3) := by decide +kernel
theorem dX4_wed_46 : decode cX4_wed 46 = .ok (.iload_n 3, 1) := by decide +kernel
theorem dX4_wed_47 : decode cX4_wed 47 = .ok (.iload 4, 2) := by decide +kernel
theorem dX4_wed_49 : decode cX4_wed 49 = .ok (.iload_n 1, 1) := by decide +kernel
theorem dX4_wed_50 : decode cX4_wed 50 = .ok (.if_icmp .ne 7, 3) := by decide +kernel
theorem dX4_wed_53 : decode cX4_wed 53 = .ok (.iload_n 2, 1) := by decide +kernel
theorem dX4_wed_54 : decode cX4_wed 54 = .ok (.goto 4, 3) := by decide +kernel
theorem dX4_wed_57 : decode cX4_wed 57 = .ok (.iload_n 1, 1) := by decide +kernel
theorem dX4_wed_58 : decode cX4_wed 58 = .ok (.invokevirtual 100, 3) := by decide +kernel
theorem dX4_wed_61 : decode cX4_wed 61 = .ok (.return_, 1) := by decide +kernel
theorem dX4_separate_0 : decode cX4_separate 0 = .ok (.aload_n 0, 1) := by decide +kernel
theorem dX4_separate_1 : decode cX4_separate 1 = .ok (.getfield 21, 3) := by decide +kernel
theorem dX4_separate_4 : decode cX4_separate 4 = .ok (.iload_n 1, 1) := by decide +kernel
theorem dX4_separate_5 : decode cX4_separate 5 = .ok (.invokevirtual 76, 3) := by decide +kernel
theorem dX4_separate_8 : decode cX4_separate 8 = .ok (.istore_n 2, 1) := by decide +kernel
theorem dX4_separate_9 : decode cX4_separate 9 = .ok (.iload_n 2, 1) := by decide +kernel
theorem dX4_separate_10 : decode cX4_separate 10 = .ok (.iconst (-1), 1) := by decide +kernel
theorem dX4_separate_11 : decode cX4_separate 11 = .ok (.if_icmp .ne 5, 3) := by decide +kernel
theorem dX4_separate_14 : decode cX4_separate 14 = .ok (.iconst (-1), 1) := by decide +kernel
theorem dX4_separate_15 : decode cX4_separate 15 = .ok (.ireturn, 1) := by decide +kernel
theorem dX4_separate_16 : decode cX4_separate 16 = .ok (.aload_n 0, 1) := by decide +kernel
theorem dX4_separate_17 : decode cX4_separate 17 = .ok (.getfield 21, 3) := by decide +kernel
theorem dX4_separate_20 : decode cX4_separate 20 = .ok (.iload_n 1, 1) := by decide +kernel
theorem dX4_separate_21 : decode cX4_separate 21 = .ok (.invokevirtual 103, 3) := by decide +kernel
theorem dX4_separate_24 : decode cX4_separate 24 = .ok (.iconst (-1), 1) := by decide +kernel
theorem dX4_separate_25 : decode cX4_separate 25 = .ok (.if_icmp .ne 7, 3) := by decide +kernel
theorem dX4_separate_28 : decode cX4_separate 28 = .ok (.iload_n 2, 1) := by decide +kernel
theorem dX4_separate_29 : decode cX4_separate 29 = .ok (.goto 4, 3) := by decide +kernel
theorem dX4_separate_32 : decode cX4_separate 32 = .ok (.iload_n 1, 1) := by decide +kernel
theorem dX4_separate_33 : decode cX4_separate 33 = .ok (.istore_n 3, 1) := by decide +kernel
theorem dX4_separate_34 : decode cX4_separate 34 = .ok (.iload_n 3, 1) := by decide +kernel
theorem dX4_separate_35 : decode cX4_separate 35 = .ok (.iload_n 1, 1) := by decide +kernel
theorem dX4_separate_36 : decode cX4_separate 36 = .ok (.if_icmp .ne 7, 3) := by decide +kernel
theorem dX4_separate_39 : decode cX4_separate 39 = .ok (.iload_n 2, 1) := by decide +kernel
theorem dX4_separate_40 : decode cX4_separate 40 = .ok (.goto 4, 3) := by decide +kernel
theorem dX4_separate_43 : decode cX4_separate 43 = .ok (.iload_n 1, 1) := by decide +kernel
theorem dX4_separate_44 : decode cX4_separate 44 = .ok (.istore 4, 2) := by decide +kernel
theorem dX4_separate_46 : decode cX4_separate 46 = .ok (.aload_n 0, 1) := by decide +kernel
theorem dX4_separate_47 : decode cX4_separate 47 = .ok (.getfield 21, 3) := by decide +kernel
theorem dX4_separate_50 : decode cX4_separate 50 = .ok (.iload_n 3, 1) := by decide +kernel
theorem dX4_separate_51 : decode cX4_separate 51 = .ok (.invokevirtual 103, 3) := by decide +kernel
theorem dX4_separate_54 : decode cX4_separate 54 = .ok (.istore 5, 2) := by decide +kernel
theorem dX4_separate_56 : decode cX4_separate 56 = .ok (.aload_n 0, 1) := by decide +kernel
theorem dX4_separate_57 : decode cX4_separate 57 = .ok (.getfield 21, 3) := by decide +kernel
theorem dX4_separate_60 : decode cX4_separate 60 = .ok (.iload_n 1, 1) := by decide +kernel
theorem dX4_separate_61 : decode cX4_separate 61 = .ok (.invokevirtual 106, 3) := by decide +kernel
theorem dX4_separate_64 : decode cX4_separate 64 = .ok (.aload_n 0, 1) := by decide +kernel
theorem dX4_separate_65 : decode cX4_separate 65 = .ok (.getfield 12, 3) := by decide +kernel
theorem dX4_separate_68 : decode cX4_separate 68 = .ok (.iload 5, 2) := by decide +kernel
theorem dX4_separate_70 : decode cX4_separate 70 = .ok (.invokevirtual 94, 3) := by decide +kernel
theorem dX4_separate_73 : decode cX4_separate 73 = .ok (.iload 4, 2) := by decide +kernel
theorem dX4_separate_75 : decode cX4_separate 75 = .ok (.if_icmp .eq 5, 3) := by decide +kernel
theorem dX4_separate_78 : decode cX4_separate 78 = .ok (.iconst (-1), 1) := by decide +kernel
theorem dX4_separate_79 : decode cX4_separate 79 = .ok (.ireturn, 1) := by decide +kernel
theorem dX4_separate_80 : decode cX4_separate 80 = .ok (.aload_n 0, 1) := by decide +kernel
theorem dX4_separate_81 : decode cX4_separate 81 = .ok (.getfield 12, 3) := by decide +kernel
theorem dX4_separate_84 : decode cX4_separate 84 = .ok (.iload 5, 2) := by decide +kernel
theorem dX4_separate_86 : decode cX4_separate 86 = .ok (.iload_n 3, 1) := by decide +kernel
theorem dX4_separate_87 : decode cX4_separate 87 = .ok (.invokevirtual 100, 3) := by decide +kernel
theorem dX4_separate_90 : decode cX4_separate 90 = .ok (.iload 5, 2) := by decide +kernel
theorem dX4_separate_92 : decode cX4_separate 92 = .ok (.ireturn, 1) := by decide +kernel
theorem dX4_bury_0 : decode cX4_bury 0 = .ok (.iconst 0, 1) := by decide +kernel
theorem dX4_bury_1 : decode cX4_bury 1 = .ok (.istore_n 2, 1) := by decide +kernel
theorem dX4_bury_2 : decode cX4_bury 2 = .ok (.aload_n 0, 1) := by decide +kernel
theorem dX4_bury_3 : decode cX4_bury 3 = .ok (.getfield 32, 3) := by decide +kernel
theorem dX4_bury_6 : decode cX4_bury 6 = .ok (.iload_n 1, 1) := by decide +kernel
theorem dX4_bury_7 : decode cX4_bury 7 = .ok (.aload_n 0, 1) := by decide +kernel
theorem dX4_bury_8 : decode cX4_bury 8 = .ok (.getfield 36, 3) := by decide +kernel
theorem dX4_bury_11 : decode cX4_bury 11 = .ok (.iastore, 1) := by decide +kernel
theorem dX4_bury_12 : decode cX4_bury 12 = .ok (.iconst 0, 1) := by decide +kernel
theorem dX4_bury_13 : decode cX4_bury 13 = .ok (.istore_n 3, 1) := by decide +kernel
theorem dX4_bury_14 : decode cX4_bury 14 = .ok (.iload_n 3, 1) := by decide +kernel
theorem dX4_bury_15 : decode cX4_bury 15 = .ok (.aload_n 0, 1) := by decide +kernel
theorem dX4_bury_16 : decode cX4_bury 16 = .ok (.getfield 12, 3) := by decide +kernel
theorem dX4_bury_19 : decode cX4_bury 19 = .ok (.getfield 110, 3) := by decide +kernel
theorem dX4_bury_22 : decode cX4_bury 22 = .ok (.if_icmp .ge 47, 3) := by decide +kernel
theorem dX4_bury_25 : decode cX4_bury 25 = .ok (.aload_n 0, 1) := by decide +kernel
theorem dX4_bury_26 : decode cX4_bury 26 = .ok (.getfield 12, 3) := by decide +kernel
theorem dX4_bury_29 : decode cX4_bury 29 = .ok (.getfield 113, 3) := by decide +kernel
theorem dX4_bury_32 : decode cX4_bury 32 = .ok (.iload_n 3, 1) := by decide +kernel
theorem dX4_bury_33 : decode cX4_bury 33 = .ok (.iaload, 1) := by decide +kernel
theorem dX4_bury_34 : decode cX4_bury 34 = .ok (.iload_n 1, 1) := by decide +kernel
theorem dX4_bury_35 : decode cX4_bury 35 = .ok (.if_icmp .ne 28, 3) := by decide +kernel
theorem dX4_bury_38 : decode cX4_bury 38 = .ok (.aload_n 0, 1) := by decide +kernel
theorem dX4_bury_39 : decode cX4_bury 39 = .ok (.getfield 12, 3) := by decide +kernel
theorem dX4_bury_42 : decode cX4_bury 42 = .ok (.iload_n 3, 1) := by decide +kernel
theorem dX4_bury_43 : decode cX4_bury 43 = .ok (.aload_n 0, 1) := by decide +kernel
theorem dX4_bury_44 : decode cX4_bury 44 = .ok (.iload_n 1, 1) := by decide +kernel
theorem dX4_bury_45 : decode cX4_bury 45 = .ok (.aload_n 0, 1) := by decide +kernel
theorem dX4_bury_46 : decode cX4_bury 46 = .ok (.getfield 12, 3) := by decide +kernel
theorem dX4_bury_49 : decode cX4_bury 49 = .ok (.getfield 116, 3) := by decide +kernel
theorem dX4_bury_52 : decode cX4_bury 52 = .ok (.iload_n 3, 1) := by decide +kernel
theorem dX4_bury_53 : decode cX4_bury 53 = .ok (.iaload, 1) := by decide +kernel
theorem dX4_bury_54 : decode cX4_bury 54 = .ok (.invokevirtual 119, 3) := by decide +kernel
theorem dX4_bury_57 : decode cX4_bury 57 = .ok (.invokevirtual 100, 3) := by decide +kernel
theorem dX4_bury_60 : decode cX4_bury 60 = .ok (.iinc 2 1, 3) := by decide +kernel
theorem dX4_bury_63 : decode cX4_bury 63 = .ok (.iinc 3 1, 3) := by decide +kernel
theorem dX4_bury_66 : decode cX4_bury 66 = .ok (.goto (-52), 3) := by decide +kernel
theorem dX4_bury_69 : decode cX4_bury 69 = .ok (.aload_n 0, 1) := by decide +kernel
theorem dX4_bury_70 : decode cX4_bury 70 = .ok (.getfield 21, 3) := by decide +kernel
theorem dX4_bury_73 : decode cX4_bury 73 = .ok (.iload_n 1, 1) := by decide +kernel
theorem dX4_bury_74 : decode cX4_bury 74 = .ok (.invokevirtual 106, 3) := by decide +kernel
theorem dX4_bury_77 : decode cX4_bury 77 = .ok (.iload_n 2, 1) := by decide +kernel
theorem dX4_bury_78 : decode cX4_bury 78 = .ok (.ireturn, 1) := by decide +kernel
theorem dX4_letPass_0 : decode cX4_letPass 0 = .ok (.iconst 0, 1) := by decide +kernel
theorem dX4_letPass_1 : decode cX4_letPass 1 = .ok (.istore_n 2, 1) := by decide +kernel
theorem dX4_letPass_2 : decode cX4_letPass 2 = .ok (.iconst 0, 1) := by decide +kernel
theorem dX4_letPass_3 : decode cX4_letPass 3 = .ok (.istore_n 3, 1) := by decide +kernel
theorem dX4_letPass_4 : decode cX4_letPass 4 = .ok (.iload_n 3, 1) := by decide +kernel
theorem dX4_letPass_5 : decode cX4_letPass 5 = .ok (.iload_n 1, 1) := by decide +kernel
theorem dX4_letPass_6 : decode cX4_letPass 6 = .ok (.if_icmp .ge 70, 3) := by decide +kernel
theorem dX4_letPass_9 : decode cX4_letPass 9 = .ok (.aload_n 0, 1) := by decide +kernel
theorem dX4_letPass_10 : decode cX4_letPass 10 = .ok (.dup, 1) := by decide +kernel
theorem dX4_letPass_11 : decode cX4_letPass 11 = .ok (.getfield 36, 3) := by decide +kernel
theorem dX4_letPass_14 : decode cX4_letPass 14 = .ok (.iconst 1, 1) := by decide +kernel
theorem dX4_letPass_15 : decode cX4_letPass 15 = .ok (.iadd, 1) := by decide +kernel
theorem dX4_letPass_16 : decode cX4_letPass 16 = .ok (.putfield 36, 3) := by decide +kernel
theorem dX4_letPass_19 : decode cX4_letPass 19 = .ok (.iconst 0, 1) := by decide +kernel
theorem dX4_letPass_20 : decode cX4_letPass 20 = .ok (.istore 4, 2) := by decide +kernel
theorem dX4_letPass_22 : decode cX4_letPass 22 = .ok (.iload 4, 2) := by decide +kernel
theorem dX4_letPass_24 : decode cX4_letPass 24 = .ok (.aload_n 0, 1) := by decide +kernel
theorem dX4_letPass_25 : decode cX4_letPass 25 = .ok (.getfield 40, 3) := by decide +kernel
theorem dX4_letPass_28 : decode cX4_letPass 28 = .ok (.getfield 122, 3) := by decide +kernel
theorem dX4_letPass_31 : decode cX4_letPass 31 = .ok (.if_icmp .ge 39, 3) := by decide +kernel
theorem dX4_letPass_34 : decode cX4_letPass 34 = .ok (.aload_n 0, 1) := by decide +kernel
theorem dX4_letPass_35 : decode cX4_letPass 35 = .ok (.iload 4, 2) := by decide +kernel
theorem dX4_letPass_37 : decode cX4_letPass 37 = .ok (.invokevirtual 69, 3) := by decide +kernel
theorem dX4_letPass_40 : decode cX4_letPass 40 = .ok (.ifCond .eq 24, 3) := by decide +kernel
theorem dX4_letPass_43 : decode cX4_letPass 43 = .ok (.aload_n 0, 1) := by decide +kernel
theorem dX4_letPass_44 : decode cX4_letPass 44 = .ok (.iload 4, 2) := by decide +kernel
theorem dX4_letPass_46 : decode cX4_letPass 46 = .ok (.invokevirtual 72, 3) := by decide +kernel
theorem dX4_letPass_49 : decode cX4_letPass 49 = .ok (.bipush 80, 2) := by decide +kernel
theorem dX4_letPass_51 : decode cX4_letPass 51 = .ok (.if_icmp .lt 13, 3) := by decide +kernel
theorem dX4_letPass_54 : decode cX4_letPass 54 = .ok (.aload_n 0, 1) := by decide +kernel
theorem dX4_letPass_55 : decode cX4_letPass 55 = .ok (.iload 4, 2) := by decide +kernel
theorem dX4_letPass_57 : decode cX4_letPass 57 = .ok (.invokevirtual 125, 3) := by decide +kernel
theorem dX4_letPass_60 : decode cX4_letPass 60 = .ok (.pop, 1) := by decide +kernel
theorem dX4_letPass_61 : decode cX4_letPass 61 = .ok (.iinc 2 1, 3) := by decide +kernel
theorem dX4_letPass_64 : decode cX4_letPass 64 = .ok (.iinc 4 1, 3) := by decide +kernel
theorem dX4_letPass_67 : decode cX4_letPass 67 = .ok (.goto (-45), 3) := by decide +kernel
theorem dX4_letPass_70 : decode cX4_letPass 70 = .ok (.iinc 3 1, 3) := by decide +kernel
theorem dX4_letPass_73 : decode cX4_letPass 73 = .ok (.goto (-69), 3) := by decide +kernel
theorem dX4_letPass_76 : decode cX4_letPass 76 = .ok (.iload_n 2, 1) := by decide +kernel
theorem dX4_letPass_77 : decode cX4_letPass 77 = .ok (.ireturn, 1) := by decide +kernel
theorem dX4_heirOf_0 : decode cX4_heirOf 0 = .ok (.aload_n 0, 1) := by decide +kernel
theorem dX4_heirOf_1 : decode cX4_heirOf 1 = .ok (.getfield 40, 3) := by decide +kernel
theorem dX4_heirOf_4 : decode cX4_heirOf 4 = .ok (.iload_n 1, 1) := by decide +kernel
theorem dX4_heirOf_5 : decode cX4_heirOf 5 = .ok (.invokevirtual 60, 3) := by decide +kernel
theorem dX4_heirOf_8 : decode cX4_heirOf 8 = .ok (.ifCond .ne 5, 3) := by decide +kernel
theorem dX4_heirOf_11 : decode cX4_heirOf 11 = .ok (.iconst (-1), 1) := by decide +kernel
theorem dX4_heirOf_12 : decode cX4_heirOf 12 = .ok (.ireturn, 1) := by decide +kernel
theorem dX4_heirOf_13 : decode cX4_heirOf 13 = .ok (.iload_n 2, 1) := by decide +kernel
theorem dX4_heirOf_14 : decode cX4_heirOf 14 = .ok (.iconst 3, 1) := by decide +kernel
theorem dX4_heirOf_15 : decode cX4_heirOf 15 = .ok (.if_icmp .ne 9, 3) := by decide +kernel
theorem dX4_heirOf_18 : decode cX4_heirOf 18 = .ok (.aload_n 0, 1) := by decide +kernel
theorem dX4_heirOf_19 : decode cX4_heirOf 19 = .ok (.iload_n 1, 1) := by decide +kernel
theorem dX4_heirOf_20 : decode cX4_heirOf 20 = .ok (.invokevirtual 128, 3) := by decide +kernel
theorem dX4_heirOf_23 : decode cX4_heirOf 23 = .ok (.ireturn, 1) := by decide +kernel
theorem dX4_heirOf_24 : decode cX4_heirOf 24 = .ok (.aload_n 0, 1) := by decide +kernel
theorem dX4_heirOf_25 : decode cX4_heirOf 25 = .ok (.getfield 28, 3) := by decide +kernel
theorem dX4_heirOf_28 : decode cX4_heirOf 28 = .ok (.invokevirtual 131, 3) := by decide +kernel
theorem dX4_heirOf_31 : decode cX4_heirOf 31 = .ok (.aload_n 0, 1) := by decide +kernel
theorem dX4_heirOf_32 : decode cX4_heirOf 32 = .ok (.getfield 40, 3) := by decide +kernel
theorem dX4_heirOf_35 : decode cX4_heirOf 35 = .ok (.getfield 122, 3) := by decide +kernel
theorem dX4_heirOf_38 : decode cX4_heirOf 38 = .ok (.iconst 1, 1) := by decide +kernel
theorem dX4_heirOf_39 : decode cX4_heirOf 39 = .ok (.isub, 1) := by decide +kernel
theorem dX4_heirOf_40 : decode cX4_heirOf 40 = .ok (.istore_n 3, 1) := by decide +kernel
theorem dX4_heirOf_41 : decode cX4_heirOf 41 = .ok (.iload_n 3, 1) := by decide +kernel
theorem dX4_heirOf_42 : decode cX4_heirOf 42 = .ok (.ifCond .lt 90, 3) := by decide +kernel
theorem dX4_heirOf_45 : decode cX4_heirOf 45 = .ok (.aload_n 0, 1) := by decide +kernel
theorem dX4_heirOf_46 : decode cX4_heirOf 46 = .ok (.iload_n 3, 1) := by decide +kernel
theorem dX4_heirOf_47 : decode cX4_heirOf 47 = .ok (.invokevirtual 69, 3) := by decide +kernel
theorem dX4_heirOf_50 : decode cX4_heirOf 50 = .ok (.ifCond .eq 12, 3) := by decide +kernel
theorem dX4_heirOf_53 : decode cX4_heirOf 53 = .ok (.iload_n 3, 1) := by decide +kernel
theorem dX4_heirOf_54 : decode cX4_heirOf 54 = .ok (.iload_n 1, 1) := by decide +kernel
theorem dX4_heirOf_55 : decode cX4_heirOf 55 = .ok (.if_icmp .eq 7, 3) := by decide +kernel
theorem dX4_heirOf_58 : decode cX4_heirOf 58 = .ok (.iload_n 3, 1) := by decide +kernel
theorem dX4_heirOf_59 : decode cX4_heirOf 59 = .ok (.goto 11, 3) := by decide +kernel
theorem dX4_heirOf_62 : decode cX4_heirOf 62 = .ok (.aload_n 0, 1) := by decide +kernel
theorem dX4_heirOf_63 : decode cX4_heirOf 63 = .ok (.getfield 28, 3) := by decide +kernel
theorem dX4_heirOf_66 : decode cX4_heirOf 66 = .ok (.iload_n 3, 1) := by decide +kernel
theorem dX4_heirOf_67 : decode cX4_heirOf 67 = .ok (.invokevirtual 134, 3) := by decide +kernel
theorem dX4_heirOf_70 : decode cX4_heirOf 70 = .ok (.istore 4, 2) := by decide +kernel
theorem dX4_heirOf_72 : decode cX4_heirOf 72 = .ok (.iload 4, 2) := by decide +kernel
theorem dX4_heirOf_74 : decode cX4_heirOf 74 = .ok (.iconst (-1), 1) := by decide +kernel
theorem dX4_heirOf_75 : decode cX4_heirOf 75 = .ok (.if_icmp .eq 51, 3) := by decide +kernel
theorem dX4_heirOf_78 : decode cX4_heirOf 78 = .ok (.aload_n 0, 1) := by decide +kernel
theorem dX4_heirOf_79 : decode cX4_heirOf 79 = .ok (.getfield 28, 3) := by decide +kernel
theorem dX4_heirOf_82 : decode cX4_heirOf 82 = .ok (.aload_n 0, 1) := by decide +kernel
theorem dX4_heirOf_83 : decode cX4_heirOf 83 = .ok (.getfield 40, 3) := by decide +kernel
theorem dX4_heirOf_86 : decode cX4_heirOf 86 = .ok (.iload_n 2, 1) := by decide +kernel
theorem dX4_heirOf_87 : decode cX4_heirOf 87 = .ok (.aload_n 0, 1) := by decide +kernel
theorem dX4_heirOf_88 : decode cX4_heirOf 88 = .ok (.getfield 40, 3) := by decide +kernel
theorem dX4_heirOf_91 : decode cX4_heirOf 91 = .ok (.getfield 137, 3) := by decide +kernel
theorem dX4_heirOf_94 : decode cX4_heirOf 94 = .ok (.iload_n 3, 1) := by decide +kernel
theorem dX4_heirOf_95 : decode cX4_heirOf 95 = .ok (.iaload, 1) := by decide +kernel
theorem dX4_heirOf_96 : decode cX4_heirOf 96 = .ok (.iload_n 3, 1) := by decide +kernel
theorem dX4_heirOf_97 : decode cX4_heirOf 97 = .ok (.iload 4, 2) := by decide +kernel
theorem dX4_heirOf_99 : decode cX4_heirOf 99 = .ok (.invokevirtual 140, 3) := by decide +kernel
theorem dX4_heirOf_102 : decode cX4_heirOf 102 = .ok (.aload_n 0, 1) := by decide +kernel
theorem dX4_heirOf_103 : decode cX4_heirOf 103 = .ok (.getfield 28, 3) := by decide +kernel
theorem dX4_heirOf_106 : decode cX4_heirOf 106 = .ok (.aload_n 0, 1) := by decide +kernel
theorem dX4_heirOf_107 : decode cX4_heirOf 107 = .ok (.getfield 40, 3) := by decide +kernel
theorem dX4_heirOf_110 : decode cX4_heirOf 110 = .ok (.iload_n 2, 1) := by decide +kernel
theorem dX4_heirOf_111 : decode cX4_heirOf 111 = .ok (.aload_n 0, 1) := by decide +kernel
theorem dX4_heirOf_112 : decode cX4_heirOf 112 = .ok (.getfield 40, 3) := by decide +kernel
theorem dX4_heirOf_115 : decode cX4_heirOf 115 = .ok (.getfield 144, 3) := by decide +kernel
theorem dX4_heirOf_118 : decode cX4_heirOf 118 = .ok (.iload_n 3, 1) := by decide +kernel
theorem dX4_heirOf_119 : decode cX4_heirOf 119 = .ok (.iaload, 1) := by decide +kernel
theorem dX4_heirOf_120 : decode cX4_heirOf 120 = .ok (.iload_n 3, 1) := by decide +kernel
theorem dX4_heirOf_121 : decode cX4_heirOf 121 = .ok (.iload 4, 2) := by decide +kernel
theorem dX4_heirOf_123 : decode cX4_heirOf 123 = .ok (.invokevirtual 140, 3) := by decide +kernel
theorem dX4_heirOf_126 : decode cX4_heirOf 126 = .ok (.iinc 3 (-1), 3) := by decide +kernel
theorem dX4_heirOf_129 : decode cX4_heirOf 129 = .ok (.goto (-88), 3) := by decide +kernel
theorem dX4_heirOf_132 : decode cX4_heirOf 132 = .ok (.aload_n 0, 1) := by decide +kernel
theorem dX4_heirOf_133 : decode cX4_heirOf 133 = .ok (.getfield 28, 3) := by decide +kernel
theorem dX4_heirOf_136 : decode cX4_heirOf 136 = .ok (.iload_n 1, 1) := by decide +kernel
theorem dX4_heirOf_137 : decode cX4_heirOf 137 = .ok (.invokevirtual 134, 3) := by decide +kernel
theorem dX4_heirOf_140 : decode cX4_heirOf 140 = .ok (.istore_n 3, 1) := by decide +kernel
theorem dX4_heirOf_141 : decode cX4_heirOf 141 = .ok (.iload_n 3, 1) := by decide +kernel
theorem dX4_heirOf_142 : decode cX4_heirOf 142 = .ok (.iconst (-1), 1) := by decide +kernel
theorem dX4_heirOf_143 : decode cX4_heirOf 143 = .ok (.if_icmp .ne 20, 3) := by decide +kernel
theorem dX4_heirOf_146 : decode cX4_heirOf 146 = .ok (.aload_n 0, 1) := by decide +kernel
theorem dX4_heirOf_147 : decode cX4_heirOf 147 = .ok (.getfield 28, 3) := by decide +kernel
theorem dX4_heirOf_150 : decode cX4_heirOf 150 = .ok (.aload_n 0, 1) := by decide +kernel
theorem dX4_heirOf_151 : decode cX4_heirOf 151 = .ok (.getfield 40, 3) := by decide +kernel
theorem dX4_heirOf_154 : decode cX4_heirOf 154 = .ok (.getfield 144, 3) := by decide +kernel
theorem dX4_heirOf_157 : decode cX4_heirOf 157 = .ok (.iload_n 1, 1) := by decide +kernel
theorem dX4_heirOf_158 : decode cX4_heirOf 158 = .ok (.iaload, 1) := by decide +kernel
theorem dX4_heirOf_159 : decode cX4_heirOf 159 = .ok (.invokevirtual 134, 3) := by decide +kernel
theorem dX4_heirOf_162 : decode cX4_heirOf 162 = .ok (.istore_n 3, 1) := by decide +kernel
theorem dX4_heirOf_163 : decode cX4_heirOf 163 = .ok (.iload_n 3, 1) := by decide +kernel
theorem dX4_heirOf_164 : decode cX4_heirOf 164 = .ok (.iconst (-1), 1) := by decide +kernel
theorem dX4_heirOf_165 : decode cX4_heirOf 165 = .ok (.if_icmp .ne 22, 3) := by decide +kernel
theorem dX4_heirOf_168 : decode cX4_heirOf 168 = .ok (.aload_n 0, 1) := by decide +kernel
theorem dX4_heirOf_169 : decode cX4_heirOf 169 = .ok (.getfield 28, 3) := by decide +kernel
theorem dX4_heirOf_172 : decode cX4_heirOf 172 = .ok (.aload_n 0, 1) := by decide +kernel
theorem dX4_heirOf_173 : decode cX4_heirOf 173 = .ok (.getfield 40, 3) := by decide +kernel
theorem dX4_heirOf_176 : decode cX4_heirOf 176 = .ok (.getfield 137, 3) := by decide +kernel
theorem dX4_heirOf_179 : decode cX4_heirOf 179 = .ok (.iload_n 1, 1) := by decide +kernel
theorem dX4_heirOf_180 : decode cX4_heirOf 180 = .ok (.iaload, 1) := by decide +kernel
theorem dX4_heirOf_181 : decode cX4_heirOf 181 = .ok (.invokevirtual 134, 3) := by decide +kernel
theorem dX4_heirOf_184 : decode cX4_heirOf 184 = .ok (.goto 4, 3) := by decide +kernel
theorem dX4_heirOf_187 : decode cX4_heirOf 187 = .ok (.iload_n 3, 1) := by decide +kernel
theorem dX4_heirOf_188 : decode cX4_heirOf 188 = .ok (.ireturn, 1) := by decide +kernel
theorem dX4_eldestOfKin_0 : decode cX4_eldestOfKin 0 = .ok (.iconst (-1), 1) := by decide +kernel
theorem dX4_eldestOfKin_1 : decode cX4_eldestOfKin 1 = .ok (.istore_n 2, 1) := by decide +kernel
theorem dX4_eldestOfKin_2 : decode cX4_eldestOfKin 2 = .ok (.iconst 0, 1) := by decide +kernel
theorem dX4_eldestOfKin_3 : decode cX4_eldestOfKin 3 = .ok (.istore_n 3, 1) := by decide +kernel
theorem dX4_eldestOfKin_4 : decode cX4_eldestOfKin 4 = .ok (.iload_n 3, 1) := by decide +kernel
theorem dX4_eldestOfKin_5 : decode cX4_eldestOfKin 5 = .ok (.aload_n 0, 1) := by decide +kernel
theorem dX4_eldestOfKin_6 : decode cX4_eldestOfKin 6 = .ok (.getfield 40, 3) := by decide +kernel
theorem dX4_eldestOfKin_9 : decode cX4_eldestOfKin 9 = .ok (.getfield 122, 3) := by decide +kernel
theorem dX4_eldestOfKin_12 : decode cX4_eldestOfKin 12 = .ok (.if_icmp .ge 54, 3) := by decide +kernel
theorem dX4_eldestOfKin_15 : decode cX4_eldestOfKin 15 = .ok (.iload_n 3, 1) := by decide +kernel
theorem dX4_eldestOfKin_16 : decode cX4_eldestOfKin 16 = .ok (.iload_n 1, 1) := by decide +kernel
theorem dX4_eldestOfKin_17 : decode cX4_eldestOfKin 17 = .ok (.if_icmp .eq 43, 3) := by decide +kernel
theorem dX4_eldestOfKin_20 : decode cX4_eldestOfKin 20 = .ok (.aload_n 0, 1) := by decide +kernel
theorem dX4_eldestOfKin_21 : decode cX4_eldestOfKin 21 = .ok (.iload_n 3, 1) := by decide +kernel
theorem dX4_eldestOfKin_22 : decode cX4_eldestOfKin 22 = .ok (.invokevirtual 69, 3) := by decide +kernel
theorem dX4_eldestOfKin_25 : decode cX4_eldestOfKin 25 = .ok (.ifCond .eq 35, 3) := by decide +kernel
theorem dX4_eldestOfKin_28 : decode cX4_eldestOfKin 28 = .ok (.aload_n 0, 1) := by decide +kernel
theorem dX4_eldestOfKin_29 : decode cX4_eldestOfKin 29 = .ok (.getfield 40, 3) := by decide +kernel
theorem dX4_eldestOfKin_32 : decode cX4_eldestOfKin 32 = .ok (.iload_n 3, 1) := by decide +kernel
theorem dX4_eldestOfKin_33 : decode cX4_eldestOfKin 33 = .ok (.iload_n 1, 1) := by decide +kernel
theorem dX4_eldestOfKin_34 : decode cX4_eldestOfKin 34 = .ok (.invokevirtual 86, 3) := by decide +kernel
theorem dX4_eldestOfKin_37 : decode cX4_eldestOfKin 37 = .ok (.iconst (-1), 1) := by decide +kernel
theorem dX4_eldestOfKin_38 : decode cX4_eldestOfKin 38 = .ok (.if_icmp .eq 22, 3) := by decide +kernel
theorem dX4_eldestOfKin_41 : decode cX4_eldestOfKin 41 = .ok (.iload_n 2, 1) := by decide +kernel
theorem dX4_eldestOfKin_42 : decode cX4_eldestOfKin 42 = .ok (.iconst (-1), 1) := by decide +kernel
theorem dX4_eldestOfKin_43 : decode cX4_eldestOfKin 43 = .ok (.if_icmp .eq 15, 3) := by decide +kernel
theorem dX4_eldestOfKin_46 : decode cX4_eldestOfKin 46 = .ok (.aload_n 0, 1) := by decide +kernel
theorem dX4_eldestOfKin_47 : decode cX4_eldestOfKin 47 = .ok (.getfield 40, 3) := by decide +kernel
theorem dX4_eldestOfKin_50 : decode cX4_eldestOfKin 50 = .ok (.iload_n 3, 1) := by decide +kernel
theorem dX4_eldestOfKin_51 : decode cX4_eldestOfKin 51 = .ok (.iload_n 2, 1) := by decide +kernel
theorem dX4_eldestOfKin_52 : decode cX4_eldestOfKin 52 = .ok (.invokevirtual 147, 3) := by decide +kernel
theorem dX4_eldestOfKin_55 : decode cX4_eldestOfKin 55 = .ok (.ifCond .eq 5, 3) := by decide +kernel
theorem dX4_eldestOfKin_58 : decode cX4_eldestOfKin 58 = .ok (.iload_n 3, 1) := by decide +kernel
theorem dX4_eldestOfKin_59 : decode cX4_eldestOfKin 59 = .ok (.istore_n 2, 1) := by decide +kernel
theorem dX4_eldestOfKin_60 : decode cX4_eldestOfKin 60 = .ok (.iinc 3 1, 3) := by decide +kernel
theorem dX4_eldestOfKin_63 : decode cX4_eldestOfKin 63 = .ok (.goto (-59), 3) := by decide +kernel
theorem dX4_eldestOfKin_66 : decode cX4_eldestOfKin 66 = .ok (.iload_n 2, 1) := by decide +kernel
theorem dX4_eldestOfKin_67 : decode cX4_eldestOfKin 67 = .ok (.ireturn, 1) := by decide +kernel
theorem dX4_regentOf_0 : decode cX4_regentOf 0 = .ok (.aload_n 0, 1) := by decide +kernel
theorem dX4_regentOf_1 : decode cX4_regentOf 1 = .ok (.iload_n 1, 1) := by decide +kernel
theorem dX4_regentOf_2 : decode cX4_regentOf 2 = .ok (.invokevirtual 69, 3) := by decide +kernel
theorem dX4_regentOf_5 : decode cX4_regentOf 5 = .ok (.ifCond .eq 13, 3) := by decide +kernel
theorem dX4_regentOf_8 : decode cX4_regentOf 8 = .ok (.aload_n 0, 1) := by decide +kernel
theorem dX4_regentOf_9 : decode cX4_regentOf 9 = .ok (.iload_n 1, 1) := by decide +kernel
theorem dX4_regentOf_10 : decode cX4_regentOf 10 = .ok (.invokevirtual 72, 3) := by decide +kernel
theorem dX4_regentOf_13 : decode cX4_regentOf 13 = .ok (.bipush 16, 2) := by decide +kernel
theorem dX4_regentOf_15 : decode cX4_regentOf 15 = .ok (.if_icmp .lt 5, 3) := by decide +kernel
theorem dX4_regentOf_18 : decode cX4_regentOf 18 = .ok (.iconst (-1), 1) := by decide +kernel
theorem dX4_regentOf_19 : decode cX4_regentOf 19 = .ok (.ireturn, 1) := by decide +kernel
theorem dX4_regentOf_20 : decode cX4_regentOf 20 = .ok (.aload_n 0, 1) := by decide +kernel
theorem dX4_regentOf_21 : decode cX4_regentOf 21 = .ok (.aload_n 0, 1) := by decide +kernel
theorem dX4_regentOf_22 : decode cX4_regentOf 22 = .ok (.getfield 40, 3) := by decide +kernel
theorem dX4_regentOf_25 : decode cX4_regentOf 25 = .ok (.getfield 137, 3) := by decide +kernel
theorem dX4_regentOf_28 : decode cX4_regentOf 28 = .ok (.iload_n 1, 1) := by decide +kernel
theorem dX4_regentOf_29 : decode cX4_regentOf 29 = .ok (.iaload, 1) := by decide +kernel
theorem dX4_regentOf_30 : decode cX4_regentOf 30 = .ok (.invokevirtual 69, 3) := by decide +kernel
theorem dX4_regentOf_33 : decode cX4_regentOf 33 = .ok (.ifCond .eq 13, 3) := by decide +kernel
theorem dX4_regentOf_36 : decode cX4_regentOf 36 = .ok (.aload_n 0, 1) := by decide +kernel
theorem dX4_regentOf_37 : decode cX4_regentOf 37 = .ok (.getfield 40, 3) := by decide +kernel
theorem dX4_regentOf_40 : decode cX4_regentOf 40 = .ok (.getfield 137, 3) := by decide +kernel
theorem dX4_regentOf_43 : decode cX4_regentOf 43 = .ok (.iload_n 1, 1) := by decide +kernel
theorem dX4_regentOf_44 : decode cX4_regentOf 44 = .ok (.iaload, 1) := by decide +kernel
theorem dX4_regentOf_45 : decode cX4_regentOf 45 = .ok (.ireturn, 1) := by decide +kernel
theorem dX4_regentOf_46 : decode cX4_regentOf 46 = .ok (.aload_n 0, 1) := by decide +kernel
theorem dX4_regentOf_47 : decode cX4_regentOf 47 = .ok (.aload_n 0, 1) := by decide +kernel
theorem dX4_regentOf_48 : decode cX4_regentOf 48 = .ok (.getfield 40, 3) := by decide +kernel
theorem dX4_regentOf_51 : decode cX4_regentOf 51 = .ok (.getfield 144, 3) := by decide +kernel
theorem dX4_regentOf_54 : decode cX4_regentOf 54 = .ok (.iload_n 1, 1) := by decide +kernel
theorem dX4_regentOf_55 : decode cX4_regentOf 55 = .ok (.iaload, 1) := by decide +kernel
theorem dX4_regentOf_56 : decode cX4_regentOf 56 = .ok (.invokevirtual 69, 3) := by decide +kernel
theorem dX4_regentOf_59 : decode cX4_regentOf 59 = .ok (.ifCond .eq 15, 3) := by decide +kernel
theorem dX4_regentOf_62 : decode cX4_regentOf 62 = .ok (.aload_n 0, 1) := by decide +kernel
theorem dX4_regentOf_63 : decode cX4_regentOf 63 = .ok (.getfield 40, 3) := by decide +kernel
theorem dX4_regentOf_66 : decode cX4_regentOf 66 = .ok (.getfield 144, 3) := by decide +kernel
theorem dX4_regentOf_69 : decode cX4_regentOf 69 = .ok (.iload_n 1, 1) := by decide +kernel
theorem dX4_regentOf_70 : decode cX4_regentOf 70 = .ok (.iaload, 1) := by decide +kernel
theorem dX4_regentOf_71 : decode cX4_regentOf 71 = .ok (.goto 8, 3) := by decide +kernel
theorem dX4_regentOf_74 : decode cX4_regentOf 74 = .ok (.aload_n 0, 1) := by decide +kernel
theorem dX4_regentOf_75 : decode cX4_regentOf 75 = .ok (.iload_n 1, 1) := by decide +kernel
theorem dX4_regentOf_76 : decode cX4_regentOf 76 = .ok (.invokevirtual 151, 3) := by decide +kernel
theorem dX4_regentOf_79 : decode cX4_regentOf 79 = .ok (.ireturn, 1) := by decide +kernel
theorem dX4_nearestGrown_0 : decode cX4_nearestGrown 0 = .ok (.iconst (-1), 1) := by decide +kernel
theorem dX4_nearestGrown_1 : decode cX4_nearestGrown 1 = .ok (.istore_n 2, 1) := by decide +kernel
theorem dX4_nearestGrown_2 : decode cX4_nearestGrown 2 = .ok (.iconst (-1), 1) := by decide +kernel
theorem dX4_nearestGrown_3 : decode cX4_nearestGrown 3 = .ok (.istore_n 3, 1) := by decide +kernel
theorem dX4_nearestGrown_4 : decode cX4_nearestGrown 4 = .ok (.iconst 0, 1) := by decide +kernel
theorem dX4_nearestGrown_5 : decode cX4_nearestGrown 5 = .ok (.istore 4, 2) := by decide +kernel
theorem dX4_nearestGrown_7 : decode cX4_nearestGrown 7 = .ok (.iload 4, 2) := by decide +kernel
theorem dX4_nearestGrown_9 : decode cX4_nearestGrown 9 = .ok (.aload_n 0, 1) := by decide +kernel
theorem dX4_nearestGrown_10 : decode cX4_nearestGrown 10 = .ok (.getfield 40, 3) := by decide +kernel
theorem dX4_nearestGrown_13 : decode cX4_nearestGrown 13 = .ok (.getfield 122, 3) := by decide +kernel
theorem dX4_nearestGrown_16 : decode cX4_nearestGrown 16 = .ok (.if_icmp .ge 83, 3) := by decide +kernel
theorem dX4_nearestGrown_19 : decode cX4_nearestGrown 19 = .ok (.aload_n 0, 1) := by decide +kernel
theorem dX4_nearestGrown_20 : decode cX4_nearestGrown 20 = .ok (.getfield 40, 3) := by decide +kernel
theorem dX4_nearestGrown_23 : decode cX4_nearestGrown 23 = .ok (.iload 4, 2) := by decide +kernel
theorem dX4_nearestGrown_25 : decode cX4_nearestGrown 25 = .ok (.iload_n 1, 1) := by decide +kernel
theorem dX4_nearestGrown_26 : decode cX4_nearestGrown 26 = .ok (.invokevirtual 86, 3) := by decide +kernel
theorem dX4_nearestGrown_29 : decode cX4_nearestGrown 29 = .ok (.istore 5, 2) := by decide +kernel
theorem dX4_nearestGrown_31 : decode cX4_nearestGrown 31 = .ok (.iload 5, 2) := by decide +kernel
theorem dX4_nearestGrown_33 : decode cX4_nearestGrown 33 = .ok (.iconst (-1), 1) := by decide +kernel
theorem dX4_nearestGrown_34 : decode cX4_nearestGrown 34 = .ok (.if_icmp .eq 59, 3) := by decide +kernel
theorem dX4_nearestGrown_37 : decode cX4_nearestGrown 37 = .ok (.aload_n 0, 1) := by decide +kernel
theorem dX4_nearestGrown_38 : decode cX4_nearestGrown 38 = .ok (.iload 4, 2) := by decide +kernel
theorem dX4_nearestGrown_40 : decode cX4_nearestGrown 40 = .ok (.invokevirtual 69, 3) := by decide +kernel
theorem dX4_nearestGrown_43 : decode cX4_nearestGrown 43 = .ok (.ifCond .eq 50, 3) := by decide +kernel
theorem dX4_nearestGrown_46 : decode cX4_nearestGrown 46 = .ok (.aload_n 0, 1) := by decide +kernel
theorem dX4_nearestGrown_47 : decode cX4_nearestGrown 47 = .ok (.iload 4, 2) := by decide +kernel
theorem dX4_nearestGrown_49 : decode cX4_nearestGrown 49 = .ok (.invokevirtual 72, 3) := by decide +kernel
theorem dX4_nearestGrown_52 : decode cX4_nearestGrown 52 = .ok (.bipush 16, 2) := by decide +kernel
theorem dX4_nearestGrown_54 : decode cX4_nearestGrown 54 = .ok (.if_icmp .lt 39, 3) := by decide +kernel
theorem dX4_nearestGrown_57 : decode cX4_nearestGrown 57 = .ok (.iload_n 2, 1) := by decide +kernel
theorem dX4_nearestGrown_58 : decode cX4_nearestGrown 58 = .ok (.iconst (-1), 1) := by decide +kernel
theorem dX4_nearestGrown_59 : decode cX4_nearestGrown 59 = .ok (.if_icmp .eq 28, 3) := by decide +kernel
theorem dX4_nearestGrown_62 : decode cX4_nearestGrown 62 = .ok (.iload 5, 2) := by decide +kernel
theorem dX4_nearestGrown_64 : decode cX4_nearestGrown 64 = .ok (.iload_n 3, 1) := by decide +kernel
theorem dX4_nearestGrown_65 : decode cX4_nearestGrown 65 = .ok (.if_icmp .lt 22, 3) := by decide +kernel
theorem dX4_nearestGrown_68 : decode cX4_nearestGrown 68 = .ok (.iload 5, 2) := by decide +kernel
theorem dX4_nearestGrown_70 : decode cX4_nearestGrown 70 = .ok (.iload_n 3, 1) := by decide +kernel
theorem dX4_nearestGrown_71 : decode cX4_nearestGrown 71 = .ok (.if_icmp .ne 22, 3) := by decide +kernel
theorem dX4_nearestGrown_74 : decode cX4_nearestGrown 74 = .ok (.aload_n 0, 1) := by decide +kernel
theorem dX4_nearestGrown_75 : decode cX4_nearestGrown 75 = .ok (.getfield 40, 3) := by decide +kernel
theorem dX4_nearestGrown_78 : decode cX4_nearestGrown 78 = .ok (.iload 4, 2) := by decide +kernel
theorem dX4_nearestGrown_80 : decode cX4_nearestGrown 80 = .ok (.iload_n 2, 1) := by decide +kernel
theorem dX4_nearestGrown_81 : decode cX4_nearestGrown 81 = .ok (.invokevirtual 147, 3) := by decide +kernel
theorem dX4_nearestGrown_84 : decode cX4_nearestGrown 84 = .ok (.ifCond .eq 9, 3) := by decide +kernel
theorem dX4_nearestGrown_87 : decode cX4_nearestGrown 87 = .ok (.iload 4, 2) := by decide +kernel
theorem dX4_nearestGrown_89 : decode cX4_nearestGrown 89 = .ok (.istore_n 2, 1) := by decide +kernel
theorem dX4_nearestGrown_90 : decode cX4_nearestGrown 90 = .ok (.iload 5, 2) := by decide +kernel
theorem dX4_nearestGrown_92 : decode cX4_nearestGrown 92 = .ok (.istore_n 3, 1) := by decide +kernel
theorem dX4_nearestGrown_93 : decode cX4_nearestGrown 93 = .ok (.iinc 4 1, 3) := by decide +kernel
theorem dX4_nearestGrown_96 : decode cX4_nearestGrown 96 = .ok (.goto (-89), 3) := by decide +kernel
theorem dX4_nearestGrown_99 : decode cX4_nearestGrown 99 = .ok (.iload_n 2, 1) := by decide +kernel
theorem dX4_nearestGrown_100 : decode cX4_nearestGrown 100 = .ok (.ireturn, 1) := by decide +kernel
theorem dX4_personFact_0 : decode cX4_personFact 0 = .ok (.iload_n 2, 1) := by decide +kernel
theorem dX4_personFact_1 : decode cX4_personFact 1 = .ok (.tableswitch 149 0 8 #[51, 69, 79, 93, 103, 113, 122, 131, 140], 51) := by decide +kernel
theorem dX4_personFact_52 : decode cX4_personFact 52 = .ok (.aload_n 0, 1) := by decide +kernel
theorem dX4_personFact_53 : decode cX4_personFact 53 = .ok (.getfield 40, 3) := by decide +kernel
theorem dX4_personFact_56 : decode cX4_personFact 56 = .ok (.getfield 82, 3) := by decide +kernel
theorem dX4_personFact_59 : decode cX4_personFact 59 = .ok (.iload_n 1, 1) := by decide +kernel
theorem dX4_personFact_60 : decode cX4_personFact 60 = .ok (.baload, 1) := by decide +kernel
theorem dX4_personFact_61 : decode cX4_personFact 61 = .ok (.ifCond .eq 7, 3) := by decide +kernel
theorem dX4_personFact_64 : decode cX4_personFact 64 = .ok (.iconst 1, 1) := by decide +kernel
theorem dX4_personFact_65 : decode cX4_personFact 65 = .ok (.goto 4, 3) := by decide +kernel
theorem dX4_personFact_68 : decode cX4_personFact 68 = .ok (.iconst 0, 1) := by decide +kernel
theorem dX4_personFact_69 : decode cX4_personFact 69 = .ok (.ireturn, 1) := by decide +kernel
theorem dX4_personFact_70 : decode cX4_personFact 70 = .ok (.aload_n 0, 1) := by decide +kernel
theorem dX4_personFact_71 : decode cX4_personFact 71 = .ok (.getfield 40, 3) := by decide +kernel
theorem dX4_personFact_74 : decode cX4_personFact 74 = .ok (.getfield 66, 3) := by decide +kernel
theorem dX4_personFact_77 : decode cX4_personFact 77 = .ok (.iload_n 1, 1) := by decide +kernel
theorem dX4_personFact_78 : decode cX4_personFact 78 = .ok (.iaload, 1) := by decide +kernel
theorem dX4_personFact_79 : decode cX4_personFact 79 = .ok (.ireturn, 1) := by decide +kernel
theorem dX4_personFact_80 : decode cX4_personFact 80 = .ok (.aload_n 0, 1) := by decide +kernel
theorem dX4_personFact_81 : decode cX4_personFact 81 = .ok (.iload_n 1, 1) := by decide +kernel
theorem dX4_personFact_82 : decode cX4_personFact 82 = .ok (.invokevirtual 69, 3) := by decide +kernel
theorem dX4_personFact_85 : decode cX4_personFact 85 = .ok (.ifCond .eq 7, 3) := by decide +kernel
theorem dX4_personFact_88 : decode cX4_personFact 88 = .ok (.iconst 1, 1) := by decide +kernel
theorem dX4_personFact_89 : decode cX4_personFact 89 = .ok (.goto 4, 3) := by decide +kernel
theorem dX4_personFact_92 : decode cX4_personFact 92 = .ok (.iconst 0, 1) := by decide +kernel
theorem dX4_personFact_93 : decode cX4_personFact 93 = .ok (.ireturn, 1) := by decide +kernel
theorem dX4_personFact_94 : decode cX4_personFact 94 = .ok (.aload_n 0, 1) := by decide +kernel
theorem dX4_personFact_95 : decode cX4_personFact 95 = .ok (.getfield 40, 3) := by decide +kernel
theorem dX4_personFact_98 : decode cX4_personFact 98 = .ok (.getfield 137, 3) := by decide +kernel
theorem dX4_personFact_101 : decode cX4_personFact 101 = .ok (.iload_n 1, 1) := by decide +kernel
theorem dX4_personFact_102 : decode cX4_personFact 102 = .ok (.iaload, 1) := by decide +kernel
theorem dX4_personFact_103 : decode cX4_personFact 103 = .ok (.ireturn, 1) := by decide +kernel
theorem dX4_personFact_104 : decode cX4_personFact 104 = .ok (.aload_n 0, 1) := by decide +kernel
theorem dX4_personFact_105 : decode cX4_personFact 105 = .ok (.getfield 40, 3) := by decide +kernel
theorem dX4_personFact_108 : decode cX4_personFact 108 = .ok (.getfield 144, 3) := by decide +kernel
theorem dX4_personFact_111 : decode cX4_personFact 111 = .ok (.iload_n 1, 1) := by decide +kernel
theorem dX4_personFact_112 : decode cX4_personFact 112 = .ok (.iaload, 1) := by decide +kernel
theorem dX4_personFact_113 : decode cX4_personFact 113 = .ok (.ireturn, 1) := by decide +kernel
theorem dX4_personFact_114 : decode cX4_personFact 114 = .ok (.aload_n 0, 1) := by decide +kernel
theorem dX4_personFact_115 : decode cX4_personFact 115 = .ok (.getfield 21, 3) := by decide +kernel
theorem dX4_personFact_118 : decode cX4_personFact 118 = .ok (.iload_n 1, 1) := by decide +kernel
theorem dX4_personFact_119 : decode cX4_personFact 119 = .ok (.invokevirtual 76, 3) := by decide +kernel
theorem dX4_personFact_122 : decode cX4_personFact 122 = .ok (.ireturn, 1) := by decide +kernel
theorem dX4_personFact_123 : decode cX4_personFact 123 = .ok (.aload_n 0, 1) := by decide +kernel
theorem dX4_personFact_124 : decode cX4_personFact 124 = .ok (.getfield 40, 3) := by decide +kernel
theorem dX4_personFact_127 : decode cX4_personFact 127 = .ok (.iload_n 1, 1) := by decide +kernel
theorem dX4_personFact_128 : decode cX4_personFact 128 = .ok (.invokevirtual 154, 3) := by decide +kernel
theorem dX4_personFact_131 : decode cX4_personFact 131 = .ok (.ireturn, 1) := by decide +kernel
theorem dX4_personFact_132 : decode cX4_personFact 132 = .ok (.aload_n 0, 1) := by decide +kernel
theorem dX4_personFact_133 : decode cX4_personFact 133 = .ok (.getfield 12, 3) := by decide +kernel
theorem dX4_personFact_136 : decode cX4_personFact 136 = .ok (.iload_n 1, 1) := by decide +kernel
theorem dX4_personFact_137 : decode cX4_personFact 137 = .ok (.invokevirtual 157, 3) := by decide +kernel
theorem dX4_personFact_140 : decode cX4_personFact 140 = .ok (.ireturn, 1) := by decide +kernel
theorem dX4_personFact_141 : decode cX4_personFact 141 = .ok (.aload_n 0, 1) := by decide +kernel
theorem dX4_personFact_142 : decode cX4_personFact 142 = .ok (.getfield 12, 3) := by decide +kernel
theorem dX4_personFact_145 : decode cX4_personFact 145 = .ok (.iload_n 1, 1) := by decide +kernel
theorem dX4_personFact_146 : decode cX4_personFact 146 = .ok (.invokevirtual 160, 3) := by decide +kernel
theorem dX4_personFact_149 : decode cX4_personFact 149 = .ok (.ireturn, 1) := by decide +kernel
theorem dX4_personFact_150 : decode cX4_personFact 150 = .ok (.aload_n 0, 1) := by decide +kernel
theorem dX4_personFact_151 : decode cX4_personFact 151 = .ok (.getfield 32, 3) := by decide +kernel
theorem dX4_personFact_154 : decode cX4_personFact 154 = .ok (.iload_n 1, 1) := by decide +kernel
theorem dX4_personFact_155 : decode cX4_personFact 155 = .ok (.iaload, 1) := by decide +kernel
theorem dX4_personFact_156 : decode cX4_personFact 156 = .ok (.ireturn, 1) := by decide +kernel
theorem dX4_landFact_0 : decode cX4_landFact 0 = .ok (.aload_n 0, 1) := by decide +kernel
theorem dX4_landFact_1 : decode cX4_landFact 1 = .ok (.getfield 12, 3) := by decide +kernel
theorem dX4_landFact_4 : decode cX4_landFact 4 = .ok (.getfield 113, 3) := by decide +kernel
theorem dX4_landFact_7 : decode cX4_landFact 7 = .ok (.iload_n 1, 1) := by decide +kernel
theorem dX4_landFact_8 : decode cX4_landFact 8 = .ok (.iaload, 1) := by decide +kernel
theorem dX4_landFact_9 : decode cX4_landFact 9 = .ok (.istore_n 3, 1) := by decide +kernel
theorem dX4_landFact_10 : decode cX4_landFact 10 = .ok (.iload_n 2, 1) := by decide +kernel
theorem dX4_landFact_11 : decode cX4_landFact 11 = .ok (.tableswitch 76 0 4 #[33, 43, 53, 55, 61], 33) := by decide +kernel
theorem dX4_landFact_44 : decode cX4_landFact 44 = .ok (.aload_n 0, 1) := by decide +kernel
theorem dX4_landFact_45 : decode cX4_landFact 45 = .ok (.getfield 12, 3) := by decide +kernel
theorem dX4_landFact_48 : decode cX4_landFact 48 = .ok (.getfield 163, 3) := by decide +kernel
theorem dX4_landFact_51 : decode cX4_landFact 51 = .ok (.iload_n 1, 1) := by decide +kernel
theorem dX4_landFact_52 : decode cX4_landFact 52 = .ok (.iaload, 1) := by decide +kernel
theorem dX4_landFact_53 : decode cX4_landFact 53 = .ok (.ireturn, 1) := by decide +kernel
theorem dX4_landFact_54 : decode cX4_landFact 54 = .ok (.aload_n 0, 1) := by decide +kernel
theorem dX4_landFact_55 : decode cX4_landFact 55 = .ok (.getfield 12, 3) := by decide +kernel
theorem dX4_landFact_58 : decode cX4_landFact 58 = .ok (.getfield 116, 3) := by decide +kernel
theorem dX4_landFact_61 : decode cX4_landFact 61 = .ok (.iload_n 1, 1) := by decide +kernel
theorem dX4_landFact_62 : decode cX4_landFact 62 = .ok (.iaload, 1) := by decide +kernel
theorem dX4_landFact_63 : decode cX4_landFact 63 = .ok (.ireturn, 1) := by decide +kernel
theorem dX4_landFact_64 : decode cX4_landFact 64 = .ok (.iload_n 3, 1) := by decide +kernel
theorem dX4_landFact_65 : decode cX4_landFact 65 = .ok (.ireturn, 1) := by decide +kernel
theorem dX4_landFact_66 : decode cX4_landFact 66 = .ok (.aload_n 0, 1) := by decide +kernel
theorem dX4_landFact_67 : decode cX4_landFact 67 = .ok (.iload_n 3, 1) := by decide +kernel
theorem dX4_landFact_68 : decode cX4_landFact 68 = .ok (.invokevirtual 166, 3) := by decide +kernel
theorem dX4_landFact_71 : decode cX4_landFact 71 = .ok (.ireturn, 1) := by decide +kernel
theorem dX4_landFact_72 : decode cX4_landFact 72 = .ok (.aload_n 0, 1) := by decide +kernel
theorem dX4_landFact_73 : decode cX4_landFact 73 = .ok (.iload_n 3, 1) := by decide +kernel
theorem dX4_landFact_74 : decode cX4_landFact 74 = .ok (.aload_n 0, 1) := by decide +kernel
theorem dX4_landFact_75 : decode cX4_landFact 75 = .ok (.getfield 12, 3) := by decide +kernel
theorem dX4_landFact_78 : decode cX4_landFact 78 = .ok (.getfield 116, 3) := by decide +kernel
theorem dX4_landFact_81 : decode cX4_landFact 81 = .ok (.iload_n 1, 1) := by decide +kernel
theorem dX4_landFact_82 : decode cX4_landFact 82 = .ok (.iaload, 1) := by decide +kernel
theorem dX4_landFact_83 : decode cX4_landFact 83 = .ok (.invokevirtual 119, 3) := by decide +kernel
theorem dX4_landFact_86 : decode cX4_landFact 86 = .ok (.ireturn, 1) := by decide +kernel
theorem dX4_landFact_87 : decode cX4_landFact 87 = .ok (.aload_n 0, 1) := by decide +kernel
theorem dX4_landFact_88 : decode cX4_landFact 88 = .ok (.getfield 12, 3) := by decide +kernel
theorem dX4_landFact_91 : decode cX4_landFact 91 = .ok (.getfield 169, 3) := by decide +kernel
theorem dX4_landFact_94 : decode cX4_landFact 94 = .ok (.iload_n 1, 1) := by decide +kernel
theorem dX4_landFact_95 : decode cX4_landFact 95 = .ok (.iaload, 1) := by decide +kernel
theorem dX4_landFact_96 : decode cX4_landFact 96 = .ok (.ireturn, 1) := by decide +kernel
theorem dX4_countFact_0 : decode cX4_countFact 0 = .ok (.iload_n 1, 1) := by decide +kernel
theorem dX4_countFact_1 : decode cX4_countFact 1 = .ok (.tableswitch 92 0 6 #[43, 48, 56, 61, 69, 77, 86], 43) := by decide +kernel
theorem dX4_countFact_44 : decode cX4_countFact 44 = .ok (.aload_n 0, 1) := by decide +kernel
theorem dX4_countFact_45 : decode cX4_countFact 45 = .ok (.getfield 36, 3) := by decide +kernel
theorem dX4_countFact_48 : decode cX4_countFact 48 = .ok (.ireturn, 1) := by decide +kernel
theorem dX4_countFact_49 : decode cX4_countFact 49 = .ok (.aload_n 0, 1) := by decide +kernel
theorem dX4_countFact_50 : decode cX4_countFact 50 = .ok (.getfield 40, 3) := by decide +kernel
theorem dX4_countFact_53 : decode cX4_countFact 53 = .ok (.getfield 122, 3) := by decide +kernel
theorem dX4_countFact_56 : decode cX4_countFact 56 = .ok (.ireturn, 1) := by decide +kernel
theorem dX4_countFact_57 : decode cX4_countFact 57 = .ok (.aload_n 0, 1) := by decide +kernel
theorem dX4_countFact_58 : decode cX4_countFact 58 = .ok (.invokevirtual 172, 3) := by decide +kernel
theorem dX4_countFact_61 : decode cX4_countFact 61 = .ok (.ireturn, 1) := by decide +kernel
theorem dX4_countFact_62 : decode cX4_countFact 62 = .ok (.aload_n 0, 1) := by decide +kernel
theorem dX4_countFact_63 : decode cX4_countFact 63 = .ok (.getfield 21, 3) := by decide +kernel
theorem dX4_countFact_66 : decode cX4_countFact 66 = .ok (.invokevirtual 176, 3) := by decide +kernel
theorem dX4_countFact_69 : decode cX4_countFact 69 = .ok (.ireturn, 1) := by decide +kernel
theorem dX4_countFact_70 : decode cX4_countFact 70 = .ok (.aload_n 0, 1) := by decide +kernel
theorem dX4_countFact_71 : decode cX4_countFact 71 = .ok (.getfield 12, 3) := by decide +kernel
theorem dX4_countFact_74 : decode cX4_countFact 74 = .ok (.getfield 110, 3) := by decide +kernel
theorem dX4_countFact_77 : decode cX4_countFact 77 = .ok (.ireturn, 1) := by decide +kernel
theorem dX4_countFact_78 : decode cX4_countFact 78 = .ok (.aload_n 0, 1) := by decide +kernel
theorem dX4_countFact_79 : decode cX4_countFact 79 = .ok (.getfield 12, 3) := by decide +kernel
theorem dX4_countFact_82 : decode cX4_countFact 82 = .ok (.iconst (-1), 1) := by decide +kernel
theorem dX4_countFact_83 : decode cX4_countFact 83 = .ok (.invokevirtual 157, 3) := by decide +kernel
theorem dX4_countFact_86 : decode cX4_countFact 86 = .ok (.ireturn, 1) := by decide +kernel
theorem dX4_countFact_87 : decode cX4_countFact 87 = .ok (.aload_n 0, 1) := by decide +kernel
theorem dX4_countFact_88 : decode cX4_countFact 88 = .ok (.iconst 0, 1) := by decide +kernel
theorem dX4_countFact_89 : decode cX4_countFact 89 = .ok (.invokevirtual 179, 3) := by decide +kernel
theorem dX4_countFact_92 : decode cX4_countFact 92 = .ok (.ireturn, 1) := by decide +kernel
theorem dX4_countFact_93 : decode cX4_countFact 93 = .ok (.aload_n 0, 1) := by decide +kernel
theorem dX4_countFact_94 : decode cX4_countFact 94 = .ok (.iconst 1, 1) := by decide +kernel
theorem dX4_countFact_95 : decode cX4_countFact 95 = .ok (.invokevirtual 179, 3) := by decide +kernel
theorem dX4_countFact_98 : decode cX4_countFact 98 = .ok (.ireturn, 1) := by decide +kernel
theorem dX4_living_0 : decode cX4_living 0 = .ok (.iconst 0, 1) := by decide +kernel
theorem dX4_living_1 : decode cX4_living 1 = .ok (.istore_n 1, 1) := by decide +kernel
theorem dX4_living_2 : decode cX4_living 2 = .ok (.iconst 0, 1) := by decide +kernel
theorem dX4_living_3 : decode cX4_living 3 = .ok (.istore_n 2, 1) := by decide +kernel
theorem dX4_living_4 : decode cX4_living 4 = .ok (.iload_n 2, 1) := by decide +kernel
theorem dX4_living_5 : decode cX4_living 5 = .ok (.aload_n 0, 1) := by decide +kernel
theorem dX4_living_6 : decode cX4_living 6 = .ok (.getfield 40, 3) := by decide +kernel
theorem dX4_living_9 : decode cX4_living 9 = .ok (.getfield 122, 3) := by decide +kernel
theorem dX4_living_12 : decode cX4_living 12 = .ok (.if_icmp .ge 20, 3) := by decide +kernel
theorem dX4_living_15 : decode cX4_living 15 = .ok (.aload_n 0, 1) := by decide +kernel
theorem dX4_living_16 : decode cX4_living 16 = .ok (.iload_n 2, 1) := by decide +kernel
theorem dX4_living_17 : decode cX4_living 17 = .ok (.invokevirtual 69, 3) := by decide +kernel
theorem dX4_living_20 : decode cX4_living 20 = .ok (.ifCond .eq 6, 3) := by decide +kernel
theorem dX4_living_23 : decode cX4_living 23 = .ok (.iinc 1 1, 3) := by decide +kernel
theorem dX4_living_26 : decode cX4_living 26 = .ok (.iinc 2 1, 3) := by decide +kernel
theorem dX4_living_29 : decode cX4_living 29 = .ok (.goto (-25), 3) := by decide +kernel
theorem dX4_living_32 : decode cX4_living 32 = .ok (.iload_n 1, 1) := by decide +kernel
theorem dX4_living_33 : decode cX4_living 33 = .ok (.ireturn, 1) := by decide +kernel
theorem dX4_rulers_0 : decode cX4_rulers 0 = .ok (.iconst 0, 1) := by decide +kernel
theorem dX4_rulers_1 : decode cX4_rulers 1 = .ok (.istore_n 2, 1) := by decide +kernel
theorem dX4_rulers_2 : decode cX4_rulers 2 = .ok (.iconst 0, 1) := by decide +kernel
theorem dX4_rulers_3 : decode cX4_rulers 3 = .ok (.istore_n 3, 1) := by decide +kernel
theorem dX4_rulers_4 : decode cX4_rulers 4 = .ok (.iload_n 3, 1) := by decide +kernel
theorem dX4_rulers_5 : decode cX4_rulers 5 = .ok (.aload_n 0, 1) := by decide +kernel
theorem dX4_rulers_6 : decode cX4_rulers 6 = .ok (.getfield 40, 3) := by decide +kernel
theorem dX4_rulers_9 : decode cX4_rulers 9 = .ok (.getfield 122, 3) := by decide +kernel
theorem dX4_rulers_12 : decode cX4_rulers 12 = .ok (.if_icmp .ge 37, 3) := by decide +kernel
theorem dX4_rulers_15 : decode cX4_rulers 15 = .ok (.aload_n 0, 1) := by decide +kernel
theorem dX4_rulers_16 : decode cX4_rulers 16 = .ok (.getfield 12, 3) := by decide +kernel
theorem dX4_rulers_19 : decode cX4_rulers 19 = .ok (.iload_n 3, 1) := by decide +kernel
theorem dX4_rulers_20 : decode cX4_rulers 20 = .ok (.invokevirtual 157, 3) := by decide +kernel
theorem dX4_rulers_23 : decode cX4_rulers 23 = .ok (.ifCond .le 20, 3) := by decide +kernel
theorem dX4_rulers_26 : decode cX4_rulers 26 = .ok (.iload_n 1, 1) := by decide +kernel
theorem dX4_rulers_27 : decode cX4_rulers 27 = .ok (.ifCond .eq 13, 3) := by decide +kernel
theorem dX4_rulers_30 : decode cX4_rulers 30 = .ok (.aload_n 0, 1) := by decide +kernel
theorem dX4_rulers_31 : decode cX4_rulers 31 = .ok (.iload_n 3, 1) := by decide +kernel
theorem dX4_rulers_32 : decode cX4_rulers 32 = .ok (.invokevirtual 72, 3) := by decide +kernel
theorem dX4_rulers_35 : decode cX4_rulers 35 = .ok (.bipush 16, 2) := by decide +kernel
theorem dX4_rulers_37 : decode cX4_rulers 37 = .ok (.if_icmp .ge 6, 3) := by decide +kernel
theorem dX4_rulers_40 : decode cX4_rulers 40 = .ok (.iinc 2 1, 3) := by decide +kernel
theorem dX4_rulers_43 : decode cX4_rulers 43 = .ok (.iinc 3 1, 3) := by decide +kernel
theorem dX4_rulers_46 : decode cX4_rulers 46 = .ok (.goto (-42), 3) := by decide +kernel
theorem dX4_rulers_49 : decode cX4_rulers 49 = .ok (.iload_n 2, 1) := by decide +kernel
theorem dX4_rulers_50 : decode cX4_rulers 50 = .ok (.ireturn, 1) := by decide +kernel
theorem dX5_init_0 : decode cX5_init 0 = .ok (.aload_n 0, 1) := by decide +kernel
theorem dX5_init_1 : decode cX5_init 1 = .ok (.invokespecial 1, 3) := by decide +kernel
theorem dX5_init_4 : decode cX5_init 4 = .ok (.aload_n 0, 1) := by decide +kernel
theorem dX5_init_5 : decode cX5_init 5 = .ok (.new 7, 3) := by decide +kernel
theorem dX5_init_8 : decode cX5_init 8 = .ok (.dup, 1) := by decide +kernel
theorem dX5_init_9 : decode cX5_init 9 = .ok (.invokespecial 9, 3) := by decide +kernel
theorem dX5_init_12 : decode cX5_init 12 = .ok (.putfield 10, 3) := by decide +kernel
theorem dX5_init_15 : decode cX5_init 15 = .ok (.aload_n 0, 1) := by decide +kernel
theorem dX5_init_16 : decode cX5_init 16 = .ok (.new 16, 3) := by decide +kernel
theorem dX5_init_19 : decode cX5_init 19 = .ok (.dup, 1) := by decide +kernel
theorem dX5_init_20 : decode cX5_init 20 = .ok (.aload_n 0, 1) := by decide +kernel
theorem dX5_init_21 : decode cX5_init 21 = .ok (.getfield 10, 3) := by decide +kernel
theorem dX5_init_24 : decode cX5_init 24 = .ok (.invokespecial 18, 3) := by decide +kernel
theorem dX5_init_27 : decode cX5_init 27 = .ok (.putfield 21, 3) := by decide +kernel
theorem dX5_init_30 : decode cX5_init 30 = .ok (.aload_n 0, 1) := by decide +kernel
theorem dX5_init_31 : decode cX5_init 31 = .ok (.new 16, 3) := by decide +kernel
theorem dX5_init_34 : decode cX5_init 34 = .ok (.dup, 1) := by decide +kernel
theorem dX5_init_35 : decode cX5_init 35 = .ok (.aload_n 0, 1) := by decide +kernel
theorem dX5_init_36 : decode cX5_init 36 = .ok (.getfield 10, 3) := by decide +kernel
theorem dX5_init_39 : decode cX5_init 39 = .ok (.invokespecial 18, 3) := by decide +kernel
theorem dX5_init_42 : decode cX5_init 42 = .ok (.putfield 25, 3) := by decide +kernel
theorem dX5_init_45 : decode cX5_init 45 = .ok (.return_, 1) := by decide +kernel
theorem dX5_come_0 : decode cX5_come 0 = .ok (.iload_n 2, 1) := by decide +kernel
theorem dX5_come_1 : decode cX5_come 1 = .ok (.ifCond .lt 9, 3) := by decide +kernel
theorem dX5_come_4 : decode cX5_come 4 = .ok (.iload_n 2, 1) := by decide +kernel
theorem dX5_come_5 : decode cX5_come 5 = .ok (.bipush 60, 2) := by decide +kernel
theorem dX5_come_7 : decode cX5_come 7 = .ok (.if_icmp .le 13, 3) := by decide +kernel
theorem dX5_come_10 : decode cX5_come 10 = .ok (.new 28, 3) := by decide +kernel
theorem dX5_come_13 : decode cX5_come 13 = .ok (.dup, 1) := by decide +kernel
theorem dX5_come_14 : decode cX5_come 14 = .ok (.ldc 30, 2) := by decide +kernel
theorem dX5_come_16 : decode cX5_come 16 = .ok (.invokespecial 32, 3) := by decide +kernel
theorem dX5_come_19 : decode cX5_come 19 = .ok (.athrow, 1) := by decide +kernel
theorem dX5_come_20 : decode cX5_come 20 = .ok (.aload_n 0, 1) := by decide +kernel
theorem dX5_come_21 : decode cX5_come 21 = .ok (.getfield 10, 3) := by decide +kernel
theorem dX5_come_24 : decode cX5_come 24 = .ok (.invokevirtual 35, 3) := by decide +kernel
theorem dX5_come_27 : decode cX5_come 27 = .ok (.ifCond .eq 13, 3) := by decide +kernel
theorem dX5_come_30 : decode cX5_come 30 = .ok (.new 39, 3) := by decide +kernel
theorem dX5_come_33 : decode cX5_come 33 = .ok (.dup, 1) := by decide +kernel
theorem dX5_come_34 : decode cX5_come 34 = .ok (.ldc 41, 2) := by decide +kernel
theorem dX5_come_36 : decode cX5_come 36 = .ok (.invokespecial 43, 3) := by decide +kernel
theorem dX5_come_39 : decode cX5_come 39 = .ok (.athrow, 1) := by decide +kernel
theorem dX5_come_40 : decode cX5_come 40 = .ok (.aload_n 0, 1) := by decide +kernel
theorem dX5_come_41 : decode cX5_come 41 = .ok (.getfield 10, 3) := by decide +kernel
theorem dX5_come_44 : decode cX5_come 44 = .ok (.iload_n 1, 1) := by decide +kernel
theorem dX5_come_45 : decode cX5_come 45 = .ok (.aload_n 0, 1) := by decide +kernel
theorem dX5_come_46 : decode cX5_come 46 = .ok (.getfield 21, 3) := by decide +kernel
theorem dX5_come_49 : decode cX5_come 49 = .ok (.getfield 44, 3) := by decide +kernel
theorem dX5_come_52 : decode cX5_come 52 = .ok (.iload_n 2, 1) := by decide +kernel
theorem dX5_come_53 : decode cX5_come 53 = .ok (.isub, 1) := by decide +kernel
theorem dX5_come_54 : decode cX5_come 54 = .ok (.iconst (-1), 1) := by decide +kernel
theorem dX5_come_55 : decode cX5_come 55 = .ok (.iconst (-1), 1) := by decide +kernel
theorem dX5_come_56 : decode cX5_come 56 = .ok (.invokevirtual 48, 3) := by decide +kernel
theorem dX5_come_59 : decode cX5_come 59 = .ok (.ireturn, 1) := by decide +kernel
theorem dX5_bear_0 : decode cX5_bear 0 = .ok (.aload_n 0, 1) := by decide +kernel
theorem dX5_bear_1 : decode cX5_bear 1 = .ok (.iload_n 1, 1) := by decide +kernel
theorem dX5_bear_2 : decode cX5_bear 2 = .ok (.invokevirtual 52, 3) := by decide +kernel
theorem dX5_bear_5 : decode cX5_bear 5 = .ok (.aload_n 0, 1) := by decide +kernel
theorem dX5_bear_6 : decode cX5_bear 6 = .ok (.getfield 21, 3) := by decide +kernel
theorem dX5_bear_9 : decode cX5_bear 9 = .ok (.getfield 56, 3) := by decide +kernel
theorem dX5_bear_12 : decode cX5_bear 12 = .ok (.iload_n 1, 1) := by decide +kernel
theorem dX5_bear_13 : decode cX5_bear 13 = .ok (.invokevirtual 60, 3) := by decide +kernel
theorem dX5_bear_16 : decode cX5_bear 16 = .ok (.istore_n 3, 1) := by decide +kernel
theorem dX5_bear_17 : decode cX5_bear 17 = .ok (.aload_n 0, 1) := by decide +kernel
theorem dX5_bear_18 : decode cX5_bear 18 = .ok (.getfield 10, 3) := by decide +kernel
theorem dX5_bear_21 : decode cX5_bear 21 = .ok (.getfield 66, 3) := by decide +kernel
theorem dX5_bear_24 : decode cX5_bear 24 = .ok (.iload_n 1, 1) := by decide +kernel
theorem dX5_bear_25 : decode cX5_bear 25 = .ok (.baload, 1) := by decide +kernel
theorem dX5_bear_26 : decode cX5_bear 26 = .ok (.ifCond .ne 19, 3) := by decide +kernel
theorem dX5_bear_29 : decode cX5_bear 29 = .ok (.iload_n 3, 1) := by decide +kernel
theorem dX5_bear_30 : decode cX5_bear 30 = .ok (.iconst (-1), 1) := by decide +kernel
theorem dX5_bear_31 : decode cX5_bear 31 = .ok (.if_icmp .eq 14, 3) := by decide +kernel
theorem dX5_bear_34 : decode cX5_bear 34 = .ok (.aload_n 0, 1) := by decide +kernel
theorem dX5_bear_35 : decode cX5_bear 35 = .ok (.getfield 21, 3) := by decide +kernel
theorem dX5_bear_38 : decode cX5_bear 38 = .ok (.iload_n 1, 1) := by decide +kernel
theorem dX5_bear_39 : decode cX5_bear 39 = .ok (.invokevirtual 70, 3) := by decide +kernel
theorem dX5_bear_42 : decode cX5_bear 42 = .ok (.ifCond .ne 13, 3) := by decide +kernel
theorem dX5_bear_45 : decode cX5_bear 45 = .ok (.new 39, 3) := by decide +kernel
theorem dX5_bear_48 : decode cX5_bear 48 = .ok (.dup, 1) := by decide +kernel
theorem dX5_bear_49 : decode cX5_bear 49 = .ok (.ldc 74, 2) := by decide +kernel
theorem dX5_bear_51 : decode cX5_bear 51 = .ok (.invokespecial 43, 3) := by decide +kernel
theorem dX5_bear_54 : decode cX5_bear 54 = .ok (.athrow, 1) := by decide +kernel
theorem dX5_bear_55 : decode cX5_bear 55 = .ok (.aload_n 0, 1) := by decide +kernel
theorem dX5_bear_56 : decode cX5_bear 56 = .ok (.getfield 10, 3) := by decide +kernel
theorem dX5_bear_59 : decode cX5_bear 59 = .ok (.invokevirtual 35, 3) := by decide +kernel
theorem dX5_bear_62 : decode cX5_bear 62 = .ok (.ifCond .eq 13, 3) := by decide +kernel
theorem dX5_bear_65 : decode cX5_bear 65 = .ok (.new 39, 3) := by decide +kernel
theorem dX5_bear_68 : decode cX5_bear 68 = .ok (.dup, 1) := by decide +kernel
theorem dX5_bear_69 : decode cX5_bear 69 = .ok (.ldc 41, 2) := by decide +kernel
theorem dX5_bear_71 : decode cX5_bear 71 = .ok (.invokespecial 43, 3) := by decide +kernel
theorem dX5_bear_74 : decode cX5_bear 74 = .ok (.athrow, 1) := by decide +kernel
theorem dX5_bear_75 : decode cX5_bear 75 = .ok (.aload_n 0, 1) := by decide +kernel
theorem dX5_bear_76 : decode cX5_bear 76 = .ok (.getfield 10, 3) := by decide +kernel
theorem dX5_bear_79 : decode cX5_bear 79 = .ok (.iload_n 2, 1) := by decide +kernel
theorem dX5_bear_80 : decode cX5_bear 80 = .ok (.aload_n 0, 1) := by decide +kernel
theorem dX5_bear_81 : decode cX5_bear 81 = .ok (.getfield 21, 3) := by decide +kernel
theorem dX5_bear_84 : decode cX5_bear 84 = .ok (.getfield 44, 3) := by decide +kernel
theorem dX5_bear_87 : decode cX5_bear 87 = .ok (.iload_n 1, 1) := by decide +kernel
theorem dX5_bear_88 : decode cX5_bear 88 = .ok (.iload_n 3, 1) := by decide +kernel
theorem dX5_bear_89 : decode cX5_bear 89 = .ok (.invokevirtual 48, 3) := by decide +kernel
theorem dX5_bear_92 : decode cX5_bear 92 = .ok (.ireturn, 1) := by decide +kernel
theorem dX5_found_0 : decode cX5_found 0 = .ok (.iload_n 1, 1) := by decide +kernel
theorem dX5_found_1 : decode cX5_found 1 = .ok (.iconst 1, 1) := by decide +kernel
theorem dX5_found_2 : decode cX5_found 2 = .ok (.if_icmp .lt 9, 3) := by decide +kernel
theorem dX5_found_5 : decode cX5_found 5 = .ok (.iload_n 1, 1) := by decide +kernel
theorem dX5_found_6 : decode cX5_found 6 = .ok (.bipush 50, 2) := by decide +kernel
theorem dX5_found_8 : decode cX5_found 8 = .ok (.if_icmp .le 13, 3) := by decide +kernel
theorem dX5_found_11 : decode cX5_found 11 = .ok (.new 28, 3) := by decide +kernel
theorem dX5_found_14 : decode cX5_found 14 = .ok (.dup, 1) := by decide +kernel
theorem dX5_found_15 : decode cX5_found 15 = .ok (.ldc 76, 2) := by decide +kernel
theorem dX5_found_17 : decode cX5_found 17 = .ok (.invokespecial 32, 3) := by decide +kernel
theorem dX5_found_20 : decode cX5_found 20 = .ok (.athrow, 1) := by decide +kernel
theorem dX5_found_21 : decode cX5_found 21 = .ok (.iload_n 2, 1) := by decide +kernel
theorem dX5_found_22 : decode cX5_found 22 = .ok (.invokestatic 78, 3) := by decide +kernel
theorem dX5_found_25 : decode cX5_found 25 = .ok (.iload_n 3, 1) := by decide +kernel
theorem dX5_found_26 : decode cX5_found 26 = .ok (.iconst (-1), 1) := by decide +kernel
theorem dX5_found_27 : decode cX5_found 27 = .ok (.if_icmp .eq 8, 3) := by decide +kernel
theorem dX5_found_30 : decode cX5_found 30 = .ok (.aload_n 0, 1) := by decide +kernel
theorem dX5_found_31 : decode cX5_found 31 = .ok (.iload_n 3, 1) := by decide +kernel
theorem dX5_found_32 : decode cX5_found 32 = .ok (.invokevirtual 52, 3) := by decide +kernel
theorem dX5_found_35 : decode cX5_found 35 = .ok (.aload_n 0, 1) := by decide +kernel
theorem dX5_found_36 : decode cX5_found 36 = .ok (.getfield 21, 3) := by decide +kernel
theorem dX5_found_39 : decode cX5_found 39 = .ok (.getfield 81, 3) := by decide +kernel
theorem dX5_found_42 : decode cX5_found 42 = .ok (.invokevirtual 85, 3) := by decide +kernel
theorem dX5_found_45 : decode cX5_found 45 = .ok (.ifCond .eq 13, 3) := by decide +kernel
theorem dX5_found_48 : decode cX5_found 48 = .ok (.new 39, 3) := by decide +kernel
theorem dX5_found_51 : decode cX5_found 51 = .ok (.dup, 1) := by decide +kernel
theorem dX5_found_52 : decode cX5_found 52 = .ok (.ldc 88, 2) := by decide +kernel
theorem dX5_found_54 : decode cX5_found 54 = .ok (.invokespecial 43, 3) := by decide +kernel
theorem dX5_found_57 : decode cX5_found 57 = .ok (.athrow, 1) := by decide +kernel
theorem dX5_found_58 : decode cX5_found 58 = .ok (.iload_n 3, 1) := by decide +kernel
theorem dX5_found_59 : decode cX5_found 59 = .ok (.iconst (-1), 1) := by decide +kernel
theorem dX5_found_60 : decode cX5_found 60 = .ok (.if_icmp .eq 24, 3) := by decide +kernel
theorem dX5_found_63 : decode cX5_found 63 = .ok (.aload_n 0, 1) := by decide +kernel
theorem dX5_found_64 : decode cX5_found 64 = .ok (.getfield 21, 3) := by decide +kernel
theorem dX5_found_67 : decode cX5_found 67 = .ok (.iload_n 3, 1) := by decide +kernel
theorem dX5_found_68 : decode cX5_found 68 = .ok (.invokevirtual 70, 3) := by decide +kernel
theorem dX5_found_71 : decode cX5_found 71 = .ok (.ifCond .ne 13, 3) := by decide +kernel
theorem dX5_found_74 : decode cX5_found 74 = .ok (.new 39, 3) := by decide +kernel
theorem dX5_found_77 : decode cX5_found 77 = .ok (.dup, 1) := by decide +kernel
theorem dX5_found_78 : decode cX5_found 78 = .ok (.ldc 90, 2) := by decide +kernel
theorem dX5_found_80 : decode cX5_found 80 = .ok (.invokespecial 43, 3) := by decide +kernel
theorem dX5_found_83 : decode cX5_found 83 = .ok (.athrow, 1) := by decide +kernel
theorem dX5_found_84 : decode cX5_found 84 = .ok (.aload_n 0, 1) := by decide +kernel
theorem dX5_found_85 : decode cX5_found 85 = .ok (.getfield 21, 3) := by decide +kernel
theorem dX5_found_88 : decode cX5_found 88 = .ok (.getfield 81, 3) := by decide +kernel
theorem dX5_found_91 : decode cX5_found 91 = .ok (.iload_n 1, 1) := by decide +kernel
theorem dX5_found_92 : decode cX5_found 92 = .ok (.iload_n 2, 1) := by decide +kernel
theorem dX5_found_93 : decode cX5_found 93 = .ok (.iload_n 3, 1) := by decide +kernel
theorem dX5_found_94 : decode cX5_found 94 = .ok (.invokevirtual 92, 3) := by decide +kernel
theorem dX5_found_97 : decode cX5_found 97 = .ok (.ireturn, 1) := by decide +kernel
theorem dX5_setLaw_0 : decode cX5_setLaw 0 = .ok (.aload_n 0, 1) := by decide +kernel
theorem dX5_setLaw_1 : decode cX5_setLaw 1 = .ok (.iload_n 1, 1) := by decide +kernel
theorem dX5_setLaw_2 : decode cX5_setLaw 2 = .ok (.invokevirtual 95, 3) := by decide +kernel
theorem dX5_setLaw_5 : decode cX5_setLaw 5 = .ok (.iload_n 2, 1) := by decide +kernel
theorem dX5_setLaw_6 : decode cX5_setLaw 6 = .ok (.invokestatic 78, 3) := by decide +kernel
theorem dX5_setLaw_9 : decode cX5_setLaw 9 = .ok (.aload_n 0, 1) := by decide +kernel
theorem dX5_setLaw_10 : decode cX5_setLaw 10 = .ok (.getfield 21, 3) := by decide +kernel
theorem dX5_setLaw_13 : decode cX5_setLaw 13 = .ok (.getfield 81, 3) := by decide +kernel
theorem dX5_setLaw_16 : decode cX5_setLaw 16 = .ok (.getfield 98, 3) := by decide +kernel
theorem dX5_setLaw_19 : decode cX5_setLaw 19 = .ok (.iload_n 1, 1) := by decide +kernel
theorem dX5_setLaw_20 : decode cX5_setLaw 20 = .ok (.iaload, 1) := by decide +kernel
theorem dX5_setLaw_21 : decode cX5_setLaw 21 = .ok (.istore_n 3, 1) := by decide +kernel
theorem dX5_setLaw_22 : decode cX5_setLaw 22 = .ok (.aload_n 0, 1) := by decide +kernel
theorem dX5_setLaw_23 : decode cX5_setLaw 23 = .ok (.getfield 21, 3) := by decide +kernel
theorem dX5_setLaw_26 : decode cX5_setLaw 26 = .ok (.getfield 81, 3) := by decide +kernel
theorem dX5_setLaw_29 : decode cX5_setLaw 29 = .ok (.getfield 98, 3) := by decide +kernel
theorem dX5_setLaw_32 : decode cX5_setLaw 32 = .ok (.iload_n 1, 1) := by decide +kernel
theorem dX5_setLaw_33 : decode cX5_setLaw 33 = .ok (.iload_n 2, 1) := by decide +kernel
theorem dX5_setLaw_34 : decode cX5_setLaw 34 = .ok (.iastore, 1) := by decide +kernel
theorem dX5_setLaw_35 : decode cX5_setLaw 35 = .ok (.iload_n 3, 1) := by decide +kernel
theorem dX5_setLaw_36 : decode cX5_setLaw 36 = .ok (.ireturn, 1) := by decide +kernel
theorem dX5_marry_0 : decode cX5_marry 0 = .ok (.aload_n 0, 1) := by decide +kernel
theorem dX5_marry_1 : decode cX5_marry 1 = .ok (.iload_n 1, 1) := by decide +kernel
theorem dX5_marry_2 : decode cX5_marry 2 = .ok (.invokevirtual 52, 3) := by decide +kernel
theorem dX5_marry_5 : decode cX5_marry 5 = .ok (.aload_n 0, 1) := by decide +kernel
theorem dX5_marry_6 : decode cX5_marry 6 = .ok (.iload_n 2, 1) := by decide +kernel
theorem dX5_marry_7 : decode cX5_marry 7 = .ok (.invokevirtual 52, 3) := by decide +kernel
theorem dX5_marry_10 : decode cX5_marry 10 = .ok (.iload_n 3, 1) := by decide +kernel
theorem dX5_marry_11 : decode cX5_marry 11 = .ok (.iconst (-1), 1) := by decide +kernel
theorem dX5_marry_12 : decode cX5_marry 12 = .ok (.if_icmp .eq 8, 3) := by decide +kernel
theorem dX5_marry_15 : decode cX5_marry 15 = .ok (.aload_n 0, 1) := by decide +kernel
theorem dX5_marry_16 : decode cX5_marry 16 = .ok (.iload_n 3, 1) := by decide +kernel
theorem dX5_marry_17 : decode cX5_marry 17 = .ok (.invokevirtual 95, 3) := by decide +kernel
theorem dX5_marry_20 : decode cX5_marry 20 = .ok (.aload_n 0, 1) := by decide +kernel
theorem dX5_marry_21 : decode cX5_marry 21 = .ok (.getfield 21, 3) := by decide +kernel
theorem dX5_marry_24 : decode cX5_marry 24 = .ok (.iload_n 1, 1) := by decide +kernel
theorem dX5_marry_25 : decode cX5_marry 25 = .ok (.iload_n 2, 1) := by decide +kernel
theorem dX5_marry_26 : decode cX5_marry 26 = .ok (.invokevirtual 102, 3) := by decide +kernel
theorem dX5_marry_29 : decode cX5_marry 29 = .ok (.ifCond .ne 13, 3) := by decide +kernel
theorem dX5_marry_32 : decode cX5_marry 32 = .ok (.new 39, 3) := by decide +kernel
theorem dX5_marry_35 : decode cX5_marry 35 = .ok (.dup, 1) := by decide +kernel
theorem dX5_marry_36 : decode cX5_marry 36 = .ok (.ldc 106, 2) := by decide +kernel
theorem dX5_marry_38 : decode cX5_marry 38 = .ok (.invokespecial 43, 3) := by decide +kernel
theorem dX5_marry_41 : decode cX5_marry 41 = .ok (.athrow, 1) := by decide +kernel
theorem dX5_marry_42 : decode cX5_marry 42 = .ok (.aload_n 0, 1) := by decide +kernel
theorem dX5_marry_43 : decode cX5_marry 43 = .ok (.getfield 21, 3) := by decide +kernel
theorem dX5_marry_46 : decode cX5_marry 46 = .ok (.getfield 81, 3) := by decide +kernel
theorem dX5_marry_49 : decode cX5_marry 49 = .ok (.iload_n 3, 1) := by decide +kernel
theorem dX5_marry_50 : decode cX5_marry 50 = .ok (.invokevirtual 108, 3) := by decide +kernel
theorem dX5_marry_53 : decode cX5_marry 53 = .ok (.istore 4, 2) := by decide +kernel
theorem dX5_marry_55 : decode cX5_marry 55 = .ok (.iload_n 3, 1) := by decide +kernel
theorem dX5_marry_56 : decode cX5_marry 56 = .ok (.iconst (-1), 1) := by decide +kernel
theorem dX5_marry_57 : decode cX5_marry 57 = .ok (.if_icmp .eq 25, 3) := by decide +kernel
theorem dX5_marry_60 : decode cX5_marry 60 = .ok (.iload 4, 2) := by decide +kernel
theorem dX5_marry_62 : decode cX5_marry 62 = .ok (.iload_n 1, 1) := by decide +kernel
theorem dX5_marry_63 : decode cX5_marry 63 = .ok (.if_icmp .eq 19, 3) := by decide +kernel
theorem dX5_marry_66 : decode cX5_marry 66 = .ok (.iload 4, 2) := by decide +kernel
theorem dX5_marry_68 : decode cX5_marry 68 = .ok (.iload_n 2, 1) := by decide +kernel
theorem dX5_marry_69 : decode cX5_marry 69 = .ok (.if_icmp .eq 13, 3) := by decide +kernel
theorem dX5_marry_72 : decode cX5_marry 72 = .ok (.new 39, 3) := by decide +kernel
theorem dX5_marry_75 : decode cX5_marry 75 = .ok (.dup, 1) := by decide +kernel
theorem dX5_marry_76 : decode cX5_marry 76 = .ok (.ldc 111, 2) := by decide +kernel
theorem dX5_marry_78 : decode cX5_marry 78 = .ok (.invokespecial 43, 3) := by decide +kernel
theorem dX5_marry_81 : decode cX5_marry 81 = .ok (.athrow, 1) := by decide +kernel
theorem dX5_marry_82 : decode cX5_marry 82 = .ok (.aload_n 0, 1) := by decide +kernel
theorem dX5_marry_83 : decode cX5_marry 83 = .ok (.getfield 21, 3) := by decide +kernel
theorem dX5_marry_86 : decode cX5_marry 86 = .ok (.iload_n 1, 1) := by decide +kernel
theorem dX5_marry_87 : decode cX5_marry 87 = .ok (.iload_n 2, 1) := by decide +kernel
theorem dX5_marry_88 : decode cX5_marry 88 = .ok (.iload_n 3, 1) := by decide +kernel
theorem dX5_marry_89 : decode cX5_marry 89 = .ok (.invokevirtual 113, 3) := by decide +kernel
theorem dX5_marry_92 : decode cX5_marry 92 = .ok (.aload_n 0, 1) := by decide +kernel
theorem dX5_marry_93 : decode cX5_marry 93 = .ok (.getfield 21, 3) := by decide +kernel
theorem dX5_marry_96 : decode cX5_marry 96 = .ok (.getfield 81, 3) := by decide +kernel
theorem dX5_marry_99 : decode cX5_marry 99 = .ok (.iload_n 1, 1) := by decide +kernel
theorem dX5_marry_100 : decode cX5_marry 100 = .ok (.invokevirtual 117, 3) := by decide +kernel
theorem dX5_marry_103 : decode cX5_marry 103 = .ok (.aload_n 0, 1) := by decide +kernel
theorem dX5_marry_104 : decode cX5_marry 104 = .ok (.getfield 21, 3) := by decide +kernel
theorem dX5_marry_107 : decode cX5_marry 107 = .ok (.getfield 81, 3) := by decide +kernel
theorem dX5_marry_110 : decode cX5_marry 110 = .ok (.iload_n 2, 1) := by decide +kernel
theorem dX5_marry_111 : decode cX5_marry 111 = .ok (.invokevirtual 117, 3) := by decide +kernel
theorem dX5_marry_114 : decode cX5_marry 114 = .ok (.iadd, 1) := by decide +kernel
theorem dX5_marry_115 : decode cX5_marry 115 = .ok (.ireturn, 1) := by decide +kernel
theorem dX5_annul_0 : decode cX5_annul 0 = .ok (.aload_n 0, 1) := by decide +kernel
theorem dX5_annul_1 : decode cX5_annul 1 = .ok (.iload_n 1, 1) := by decide +kernel
theorem dX5_annul_2 : decode cX5_annul 2 = .ok (.invokevirtual 52, 3) := by decide +kernel
theorem dX5_annul_5 : decode cX5_annul 5 = .ok (.aload_n 0, 1) := by decide +kernel
theorem dX5_annul_6 : decode cX5_annul 6 = .ok (.getfield 21, 3) := by decide +kernel
theorem dX5_annul_9 : decode cX5_annul 9 = .ok (.getfield 56, 3) := by decide +kernel
theorem dX5_annul_12 : decode cX5_annul 12 = .ok (.iload_n 1, 1) := by decide +kernel
theorem dX5_annul_13 : decode cX5_annul 13 = .ok (.invokevirtual 60, 3) := by decide +kernel
theorem dX5_annul_16 : decode cX5_annul 16 = .ok (.iconst (-1), 1) := by decide +kernel
theorem dX5_annul_17 : decode cX5_annul 17 = .ok (.if_icmp .ne 13, 3) := by decide +kernel
theorem dX5_annul_20 : decode cX5_annul 20 = .ok (.new 39, 3) := by decide +kernel
theorem dX5_annul_23 : decode cX5_annul 23 = .ok (.dup, 1) := by decide +kernel
theorem dX5_annul_24 : decode cX5_annul 24 = .ok (.ldc 120, 2) := by decide +kernel
theorem dX5_annul_26 : decode cX5_annul 26 = .ok (.invokespecial 43, 3) := by decide +kernel
theorem dX5_annul_29 : decode cX5_annul 29 = .ok (.athrow, 1) := by decide +kernel
theorem dX5_annul_30 : decode cX5_annul 30 = .ok (.aload_n 0, 1) := by decide +kernel
theorem dX5_annul_31 : decode cX5_annul 31 = .ok (.getfield 21, 3) := by decide +kernel
theorem dX5_annul_34 : decode cX5_annul 34 = .ok (.iload_n 1, 1) := by decide +kernel
theorem dX5_annul_35 : decode cX5_annul 35 = .ok (.invokevirtual 122, 3) := by decide +kernel
theorem dX5_annul_38 : decode cX5_annul 38 = .ok (.ireturn, 1) := by decide +kernel
theorem dX5_die_0 : decode cX5_die 0 = .ok (.aload_n 0, 1) := by decide +kernel
theorem dX5_die_1 : decode cX5_die 1 = .ok (.iload_n 1, 1) := by decide +kernel
theorem dX5_die_2 : decode cX5_die 2 = .ok (.invokevirtual 52, 3) := by decide +kernel
theorem dX5_die_5 : decode cX5_die 5 = .ok (.aload_n 0, 1) := by decide +kernel
theorem dX5_die_6 : decode cX5_die 6 = .ok (.getfield 21, 3) := by decide +kernel
theorem dX5_die_9 : decode cX5_die 9 = .ok (.iload_n 1, 1) := by decide +kernel
theorem dX5_die_10 : decode cX5_die 10 = .ok (.invokevirtual 70, 3) := by decide +kernel
theorem dX5_die_13 : decode cX5_die 13 = .ok (.ifCond .ne 13, 3) := by decide +kernel
theorem dX5_die_16 : decode cX5_die 16 = .ok (.new 39, 3) := by decide +kernel
theorem dX5_die_19 : decode cX5_die 19 = .ok (.dup, 1) := by decide +kernel
theorem dX5_die_20 : decode cX5_die 20 = .ok (.ldc 125, 2) := by decide +kernel
theorem dX5_die_22 : decode cX5_die 22 = .ok (.invokespecial 43, 3) := by decide +kernel
theorem dX5_die_25 : decode cX5_die 25 = .ok (.athrow, 1) := by decide +kernel
theorem dX5_die_26 : decode cX5_die 26 = .ok (.aload_n 0, 1) := by decide +kernel
theorem dX5_die_27 : decode cX5_die 27 = .ok (.getfield 21, 3) := by decide +kernel
theorem dX5_die_30 : decode cX5_die 30 = .ok (.iload_n 1, 1) := by decide +kernel
theorem dX5_die_31 : decode cX5_die 31 = .ok (.invokevirtual 127, 3) := by decide +kernel
theorem dX5_die_34 : decode cX5_die 34 = .ok (.ireturn, 1) := by decide +kernel
theorem dX5_person_0 : decode cX5_person 0 = .ok (.aload_n 0, 1) := by decide +kernel
theorem dX5_person_1 : decode cX5_person 1 = .ok (.iload_n 1, 1) := by decide +kernel
theorem dX5_person_2 : decode cX5_person 2 = .ok (.invokevirtual 52, 3) := by decide +kernel
theorem dX5_person_5 : decode cX5_person 5 = .ok (.iload_n 2, 1) := by decide +kernel
theorem dX5_person_6 : decode cX5_person 6 = .ok (.bipush 10, 2) := by decide +kernel
theorem dX5_person_8 : decode cX5_person 8 = .ok (.invokestatic 130, 3) := by decide +kernel
theorem dX5_person_11 : decode cX5_person 11 = .ok (.aload_n 0, 1) := by decide +kernel
theorem dX5_person_12 : decode cX5_person 12 = .ok (.getfield 21, 3) := by decide +kernel
theorem dX5_person_15 : decode cX5_person 15 = .ok (.iload_n 1, 1) := by decide +kernel
theorem dX5_person_16 : decode cX5_person 16 = .ok (.iload_n 2, 1) := by decide +kernel
theorem dX5_person_17 : decode cX5_person 17 = .ok (.invokevirtual 134, 3) := by decide +kernel
theorem dX5_person_20 : decode cX5_person 20 = .ok (.ireturn, 1) := by decide +kernel
theorem dX5_land_0 : decode cX5_land 0 = .ok (.aload_n 0, 1) := by decide +kernel
theorem dX5_land_1 : decode cX5_land 1 = .ok (.iload_n 1, 1) := by decide +kernel
theorem dX5_land_2 : decode cX5_land 2 = .ok (.invokevirtual 95, 3) := by decide +kernel
theorem dX5_land_5 : decode cX5_land 5 = .ok (.iload_n 2, 1) := by decide +kernel
theorem dX5_land_6 : decode cX5_land 6 = .ok (.bipush 6, 2) := by decide +kernel
theorem dX5_land_8 : decode cX5_land 8 = .ok (.invokestatic 130, 3) := by decide +kernel
theorem dX5_land_11 : decode cX5_land 11 = .ok (.aload_n 0, 1) := by decide +kernel
theorem dX5_land_12 : decode cX5_land 12 = .ok (.getfield 21, 3) := by decide +kernel
theorem dX5_land_15 : decode cX5_land 15 = .ok (.iload_n 1, 1) := by decide +kernel
theorem dX5_land_16 : decode cX5_land 16 = .ok (.iload_n 2, 1) := by decide +kernel
theorem dX5_land_17 : decode cX5_land 17 = .ok (.invokevirtual 138, 3) := by decide +kernel
theorem dX5_land_20 : decode cX5_land 20 = .ok (.ireturn, 1) := by decide +kernel
theorem dX5_ruled_0 : decode cX5_ruled 0 = .ok (.aload_n 0, 1) := by decide +kernel
theorem dX5_ruled_1 : decode cX5_ruled 1 = .ok (.iload_n 1, 1) := by decide +kernel
theorem dX5_ruled_2 : decode cX5_ruled 2 = .ok (.invokevirtual 95, 3) := by decide +kernel
theorem dX5_ruled_5 : decode cX5_ruled 5 = .ok (.iload_n 2, 1) := by decide +kernel
theorem dX5_ruled_6 : decode cX5_ruled 6 = .ok (.aload_n 0, 1) := by decide +kernel
theorem dX5_ruled_7 : decode cX5_ruled 7 = .ok (.getfield 21, 3) := by decide +kernel
theorem dX5_ruled_10 : decode cX5_ruled 10 = .ok (.getfield 81, 3) := by decide +kernel
theorem dX5_ruled_13 : decode cX5_ruled 13 = .ok (.getfield 141, 3) := by decide +kernel
theorem dX5_ruled_16 : decode cX5_ruled 16 = .ok (.iload_n 1, 1) := by decide +kernel
theorem dX5_ruled_17 : decode cX5_ruled 17 = .ok (.iaload, 1) := by decide +kernel
theorem dX5_ruled_18 : decode cX5_ruled 18 = .ok (.invokestatic 130, 3) := by decide +kernel
theorem dX5_ruled_21 : decode cX5_ruled 21 = .ok (.aload_n 0, 1) := by decide +kernel
theorem dX5_ruled_22 : decode cX5_ruled 22 = .ok (.getfield 21, 3) := by decide +kernel
theorem dX5_ruled_25 : decode cX5_ruled 25 = .ok (.getfield 81, 3) := by decide +kernel
theorem dX5_ruled_28 : decode cX5_ruled 28 = .ok (.getfield 144, 3) := by decide +kernel
theorem dX5_ruled_31 : decode cX5_ruled 31 = .ok (.iload_n 1, 1) := by decide +kernel
theorem dX5_ruled_32 : decode cX5_ruled 32 = .ok (.aaload, 1) := by decide +kernel
theorem dX5_ruled_33 : decode cX5_ruled 33 = .ok (.iload_n 2, 1) := by decide +kernel
theorem dX5_ruled_34 : decode cX5_ruled 34 = .ok (.iaload, 1) := by decide +kernel
theorem dX5_ruled_35 : decode cX5_ruled 35 = .ok (.ireturn, 1) := by decide +kernel
theorem dX5_related_0 : decode cX5_related 0 = .ok (.aload_n 0, 1) := by decide +kernel
theorem dX5_related_1 : decode cX5_related 1 = .ok (.iload_n 1, 1) := by decide +kernel
theorem dX5_related_2 : decode cX5_related 2 = .ok (.invokevirtual 52, 3) := by decide +kernel
theorem dX5_related_5 : decode cX5_related 5 = .ok (.aload_n 0, 1) := by decide +kernel
theorem dX5_related_6 : decode cX5_related 6 = .ok (.iload_n 2, 1) := by decide +kernel
theorem dX5_related_7 : decode cX5_related 7 = .ok (.invokevirtual 52, 3) := by decide +kernel
theorem dX5_related_10 : decode cX5_related 10 = .ok (.aload_n 0, 1) := by decide +kernel
theorem dX5_related_11 : decode cX5_related 11 = .ok (.getfield 10, 3) := by decide +kernel
theorem dX5_related_14 : decode cX5_related 14 = .ok (.getfield 148, 3) := by decide +kernel
theorem dX5_related_17 : decode cX5_related 17 = .ok (.iload_n 1, 1) := by decide +kernel
theorem dX5_related_18 : decode cX5_related 18 = .ok (.aaload, 1) := by decide +kernel
theorem dX5_related_19 : decode cX5_related 19 = .ok (.iload_n 2, 1) := by decide +kernel
theorem dX5_related_20 : decode cX5_related 20 = .ok (.iaload, 1) := by decide +kernel
theorem dX5_related_21 : decode cX5_related 21 = .ok (.ireturn, 1) := by decide +kernel
theorem dX5_count_0 : decode cX5_count 0 = .ok (.iload_n 1, 1) := by decide +kernel
theorem dX5_count_1 : decode cX5_count 1 = .ok (.bipush 8, 2) := by decide +kernel
theorem dX5_count_3 : decode cX5_count 3 = .ok (.invokestatic 130, 3) := by decide +kernel
theorem dX5_count_6 : decode cX5_count 6 = .ok (.aload_n 0, 1) := by decide +kernel
theorem dX5_count_7 : decode cX5_count 7 = .ok (.getfield 21, 3) := by decide +kernel
theorem dX5_count_10 : decode cX5_count 10 = .ok (.iload_n 1, 1) := by decide +kernel
theorem dX5_count_11 : decode cX5_count 11 = .ok (.invokevirtual 151, 3) := by decide +kernel
theorem dX5_count_14 : decode cX5_count 14 = .ok (.ireturn, 1) := by decide +kernel
theorem dX5_pass_0 : decode cX5_pass 0 = .ok (.iload_n 1, 1) := by decide +kernel
theorem dX5_pass_1 : decode cX5_pass 1 = .ok (.invokestatic 154, 3) := by decide +kernel
theorem dX5_pass_4 : decode cX5_pass 4 = .ok (.aload_n 0, 1) := by decide +kernel
theorem dX5_pass_5 : decode cX5_pass 5 = .ok (.getfield 21, 3) := by decide +kernel
theorem dX5_pass_8 : decode cX5_pass 8 = .ok (.iload_n 1, 1) := by decide +kernel
theorem dX5_pass_9 : decode cX5_pass 9 = .ok (.invokevirtual 157, 3) := by decide +kernel
theorem dX5_pass_12 : decode cX5_pass 12 = .ok (.ireturn, 1) := by decide +kernel
theorem dX5_rules_0 : decode cX5_rules 0 = .ok (.aload_n 0, 1) := by decide +kernel
theorem dX5_rules_1 : decode cX5_rules 1 = .ok (.iload_n 1, 1) := by decide +kernel
theorem dX5_rules_2 : decode cX5_rules 2 = .ok (.invokevirtual 52, 3) := by decide +kernel
theorem dX5_rules_5 : decode cX5_rules 5 = .ok (.aload_n 0, 1) := by decide +kernel
theorem dX5_rules_6 : decode cX5_rules 6 = .ok (.getfield 25, 3) := by decide +kernel
theorem dX5_rules_9 : decode cX5_rules 9 = .ok (.aload_n 0, 1) := by decide +kernel
theorem dX5_rules_10 : decode cX5_rules 10 = .ok (.getfield 21, 3) := by decide +kernel
theorem dX5_rules_13 : decode cX5_rules 13 = .ok (.invokevirtual 160, 3) := by decide +kernel
theorem dX5_rules_16 : decode cX5_rules 16 = .ok (.iconst 0, 1) := by decide +kernel
theorem dX5_rules_17 : decode cX5_rules 17 = .ok (.istore_n 2, 1) := by decide +kernel
theorem dX5_rules_18 : decode cX5_rules 18 = .ok (.iload_n 2, 1) := by decide +kernel
theorem dX5_rules_19 : decode cX5_rules 19 = .ok (.bipush 100, 2) := by decide +kernel
theorem dX5_rules_21 : decode cX5_rules 21 = .ok (.if_icmp .gt 34, 3) := by decide +kernel
theorem dX5_rules_24 : decode cX5_rules 24 = .ok (.aload_n 0, 1) := by decide +kernel
theorem dX5_rules_25 : decode cX5_rules 25 = .ok (.getfield 25, 3) := by decide +kernel
theorem dX5_rules_28 : decode cX5_rules 28 = .ok (.getfield 81, 3) := by decide +kernel
theorem dX5_rules_31 : decode cX5_rules 31 = .ok (.iload_n 1, 1) := by decide +kernel
theorem dX5_rules_32 : decode cX5_rules 32 = .ok (.invokevirtual 164, 3) := by decide +kernel
theorem dX5_rules_35 : decode cX5_rules 35 = .ok (.ifCond .le 5, 3) := by decide +kernel
theorem dX5_rules_38 : decode cX5_rules 38 = .ok (.iload_n 2, 1) := by decide +kernel
theorem dX5_rules_39 : decode cX5_rules 39 = .ok (.ireturn, 1) := by decide +kernel
theorem dX5_rules_40 : decode cX5_rules 40 = .ok (.aload_n 0, 1) := by decide +kernel
theorem dX5_rules_41 : decode cX5_rules 41 = .ok (.getfield 25, 3) := by decide +kernel
theorem dX5_rules_44 : decode cX5_rules 44 = .ok (.iconst 1, 1) := by decide +kernel
theorem dX5_rules_45 : decode cX5_rules 45 = .ok (.invokevirtual 157, 3) := by decide +kernel
theorem dX5_rules_48 : decode cX5_rules 48 = .ok (.pop, 1) := by decide +kernel
theorem dX5_rules_49 : decode cX5_rules 49 = .ok (.iinc 2 1, 3) := by decide +kernel
theorem dX5_rules_52 : decode cX5_rules 52 = .ok (.goto (-34), 3) := by decide +kernel
theorem dX5_rules_55 : decode cX5_rules 55 = .ok (.iconst (-1), 1) := by decide +kernel
theorem dX5_rules_56 : decode cX5_rules 56 = .ok (.ireturn, 1) := by decide +kernel
theorem dX5_foresee_0 : decode cX5_foresee 0 = .ok (.iload_n 1, 1) := by decide +kernel
theorem dX5_foresee_1 : decode cX5_foresee 1 = .ok (.invokestatic 154, 3) := by decide +kernel
theorem dX5_foresee_4 : decode cX5_foresee 4 = .ok (.aload_n 0, 1) := by decide +kernel
theorem dX5_foresee_5 : decode cX5_foresee 5 = .ok (.iload_n 2, 1) := by decide +kernel
theorem dX5_foresee_6 : decode cX5_foresee 6 = .ok (.invokevirtual 95, 3) := by decide +kernel
theorem dX5_foresee_9 : decode cX5_foresee 9 = .ok (.aload_n 0, 1) := by decide +kernel
theorem dX5_foresee_10 : decode cX5_foresee 10 = .ok (.getfield 25, 3) := by decide +kernel
theorem dX5_foresee_13 : decode cX5_foresee 13 = .ok (.aload_n 0, 1) := by decide +kernel
theorem dX5_foresee_14 : decode cX5_foresee 14 = .ok (.getfield 21, 3) := by decide +kernel
theorem dX5_foresee_17 : decode cX5_foresee 17 = .ok (.invokevirtual 160, 3) := by decide +kernel
theorem dX5_foresee_20 : decode cX5_foresee 20 = .ok (.aload_n 0, 1) := by decide +kernel
theorem dX5_foresee_21 : decode cX5_foresee 21 = .ok (.getfield 25, 3) := by decide +kernel
theorem dX5_foresee_24 : decode cX5_foresee 24 = .ok (.iload_n 1, 1) := by decide +kernel
theorem dX5_foresee_25 : decode cX5_foresee 25 = .ok (.invokevirtual 157, 3) := by decide +kernel
theorem dX5_foresee_28 : decode cX5_foresee 28 = .ok (.pop, 1) := by decide +kernel
theorem dX5_foresee_29 : decode cX5_foresee 29 = .ok (.aload_n 0, 1) := by decide +kernel
theorem dX5_foresee_30 : decode cX5_foresee 30 = .ok (.getfield 25, 3) := by decide +kernel
theorem dX5_foresee_33 : decode cX5_foresee 33 = .ok (.getfield 81, 3) := by decide +kernel
theorem dX5_foresee_36 : decode cX5_foresee 36 = .ok (.iload_n 2, 1) := by decide +kernel
theorem dX5_foresee_37 : decode cX5_foresee 37 = .ok (.invokevirtual 108, 3) := by decide +kernel
theorem dX5_foresee_40 : decode cX5_foresee 40 = .ok (.ireturn, 1) := by decide +kernel
theorem dX5_best_0 : decode cX5_best 0 = .ok (.aload_n 0, 1) := by decide +kernel
theorem dX5_best_1 : decode cX5_best 1 = .ok (.iload_n 1, 1) := by decide +kernel
theorem dX5_best_2 : decode cX5_best 2 = .ok (.invokevirtual 52, 3) := by decide +kernel
theorem dX5_best_5 : decode cX5_best 5 = .ok (.iconst (-1), 1) := by decide +kernel
theorem dX5_best_6 : decode cX5_best 6 = .ok (.istore_n 2, 1) := by decide +kernel
theorem dX5_best_7 : decode cX5_best 7 = .ok (.iconst (-1), 1) := by decide +kernel
theorem dX5_best_8 : decode cX5_best 8 = .ok (.istore_n 3, 1) := by decide +kernel
theorem dX5_best_9 : decode cX5_best 9 = .ok (.iconst 0, 1) := by decide +kernel
theorem dX5_best_10 : decode cX5_best 10 = .ok (.istore 4, 2) := by decide +kernel
theorem dX5_best_12 : decode cX5_best 12 = .ok (.iload 4, 2) := by decide +kernel
theorem dX5_best_14 : decode cX5_best 14 = .ok (.aload_n 0, 1) := by decide +kernel
theorem dX5_best_15 : decode cX5_best 15 = .ok (.getfield 10, 3) := by decide +kernel
theorem dX5_best_18 : decode cX5_best 18 = .ok (.getfield 167, 3) := by decide +kernel
theorem dX5_best_21 : decode cX5_best 21 = .ok (.if_icmp .ge 48, 3) := by decide +kernel
theorem dX5_best_24 : decode cX5_best 24 = .ok (.aload_n 0, 1) := by decide +kernel
theorem dX5_best_25 : decode cX5_best 25 = .ok (.getfield 21, 3) := by decide +kernel
theorem dX5_best_28 : decode cX5_best 28 = .ok (.getfield 81, 3) := by decide +kernel
theorem dX5_best_31 : decode cX5_best 31 = .ok (.iload 4, 2) := by decide +kernel
theorem dX5_best_33 : decode cX5_best 33 = .ok (.invokevirtual 117, 3) := by decide +kernel
theorem dX5_best_36 : decode cX5_best 36 = .ok (.istore 5, 2) := by decide +kernel
theorem dX5_best_38 : decode cX5_best 38 = .ok (.iload 5, 2) := by decide +kernel
theorem dX5_best_40 : decode cX5_best 40 = .ok (.iload_n 3, 1) := by decide +kernel
theorem dX5_best_41 : decode cX5_best 41 = .ok (.if_icmp .le 22, 3) := by decide +kernel
theorem dX5_best_44 : decode cX5_best 44 = .ok (.aload_n 0, 1) := by decide +kernel
theorem dX5_best_45 : decode cX5_best 45 = .ok (.getfield 21, 3) := by decide +kernel
theorem dX5_best_48 : decode cX5_best 48 = .ok (.iload_n 1, 1) := by decide +kernel
theorem dX5_best_49 : decode cX5_best 49 = .ok (.iload 4, 2) := by decide +kernel
theorem dX5_best_51 : decode cX5_best 51 = .ok (.invokevirtual 102, 3) := by decide +kernel
theorem dX5_best_54 : decode cX5_best 54 = .ok (.ifCond .eq 9, 3) := by decide +kernel
theorem dX5_best_57 : decode cX5_best 57 = .ok (.iload 4, 2) := by decide +kernel
theorem dX5_best_59 : decode cX5_best 59 = .ok (.istore_n 2, 1) := by decide +kernel
theorem dX5_best_60 : decode cX5_best 60 = .ok (.iload 5, 2) := by decide +kernel
theorem dX5_best_62 : decode cX5_best 62 = .ok (.istore_n 3, 1) := by decide +kernel
theorem dX5_best_63 : decode cX5_best 63 = .ok (.iinc 4 1, 3) := by decide +kernel
theorem dX5_best_66 : decode cX5_best 66 = .ok (.goto (-54), 3) := by decide +kernel
theorem dX5_best_69 : decode cX5_best 69 = .ok (.iload_n 2, 1) := by decide +kernel
theorem dX5_best_70 : decode cX5_best 70 = .ok (.ireturn, 1) := by decide +kernel
theorem dX5_mean_0 : decode cX5_mean 0 = .ok (.iconst 0, 1) := by decide +kernel
theorem dX5_mean_1 : decode cX5_mean 1 = .ok (.istore_n 1, 1) := by decide +kernel
theorem dX5_mean_2 : decode cX5_mean 2 = .ok (.iconst 0, 1) := by decide +kernel
theorem dX5_mean_3 : decode cX5_mean 3 = .ok (.istore_n 2, 1) := by decide +kernel
theorem dX5_mean_4 : decode cX5_mean 4 = .ok (.iconst 0, 1) := by decide +kernel
theorem dX5_mean_5 : decode cX5_mean 5 = .ok (.istore_n 3, 1) := by decide +kernel
theorem dX5_mean_6 : decode cX5_mean 6 = .ok (.iload_n 3, 1) := by decide +kernel
theorem dX5_mean_7 : decode cX5_mean 7 = .ok (.aload_n 0, 1) := by decide +kernel
theorem dX5_mean_8 : decode cX5_mean 8 = .ok (.getfield 10, 3) := by decide +kernel
theorem dX5_mean_11 : decode cX5_mean 11 = .ok (.getfield 167, 3) := by decide +kernel
theorem dX5_mean_14 : decode cX5_mean 14 = .ok (.if_icmp .ge 34, 3) := by decide +kernel
theorem dX5_mean_17 : decode cX5_mean 17 = .ok (.aload_n 0, 1) := by decide +kernel
theorem dX5_mean_18 : decode cX5_mean 18 = .ok (.getfield 21, 3) := by decide +kernel
theorem dX5_mean_21 : decode cX5_mean 21 = .ok (.iload_n 3, 1) := by decide +kernel
theorem dX5_mean_22 : decode cX5_mean 22 = .ok (.invokevirtual 70, 3) := by decide +kernel
theorem dX5_mean_25 : decode cX5_mean 25 = .ok (.ifCond .eq 17, 3) := by decide +kernel
theorem dX5_mean_28 : decode cX5_mean 28 = .ok (.iinc 1 1, 3) := by decide +kernel
theorem dX5_mean_31 : decode cX5_mean 31 = .ok (.iload_n 2, 1) := by decide +kernel
theorem dX5_mean_32 : decode cX5_mean 32 = .ok (.aload_n 0, 1) := by decide +kernel
theorem dX5_mean_33 : decode cX5_mean 33 = .ok (.getfield 21, 3) := by decide +kernel
theorem dX5_mean_36 : decode cX5_mean 36 = .ok (.iload_n 3, 1) := by decide +kernel
theorem dX5_mean_37 : decode cX5_mean 37 = .ok (.invokevirtual 170, 3) := by decide +kernel
theorem dX5_mean_40 : decode cX5_mean 40 = .ok (.iadd, 1) := by decide +kernel
theorem dX5_mean_41 : decode cX5_mean 41 = .ok (.istore_n 2, 1) := by decide +kernel
theorem dX5_mean_42 : decode cX5_mean 42 = .ok (.iinc 3 1, 3) := by decide +kernel
theorem dX5_mean_45 : decode cX5_mean 45 = .ok (.goto (-39), 3) := by decide +kernel
theorem dX5_mean_48 : decode cX5_mean 48 = .ok (.iload_n 1, 1) := by decide +kernel
theorem dX5_mean_49 : decode cX5_mean 49 = .ok (.ifCond .ne 7, 3) := by decide +kernel
theorem dX5_mean_52 : decode cX5_mean 52 = .ok (.dconst 0, 1) := by decide +kernel
theorem dX5_mean_53 : decode cX5_mean 53 = .ok (.goto 8, 3) := by decide +kernel
theorem dX5_mean_56 : decode cX5_mean 56 = .ok (.iload_n 2, 1) := by decide +kernel
theorem dX5_mean_57 : decode cX5_mean 57 = .ok (.i2d, 1) := by decide +kernel
theorem dX5_mean_58 : decode cX5_mean 58 = .ok (.iload_n 1, 1) := by decide +kernel
theorem dX5_mean_59 : decode cX5_mean 59 = .ok (.i2d, 1) := by decide +kernel
theorem dX5_mean_60 : decode cX5_mean 60 = .ok (.ddiv, 1) := by decide +kernel
theorem dX5_mean_61 : decode cX5_mean 61 = .ok (.dreturn, 1) := by decide +kernel
theorem dX5_needPerson_0 : decode cX5_needPerson 0 = .ok (.aload_n 0, 1) := by decide +kernel
theorem dX5_needPerson_1 : decode cX5_needPerson 1 = .ok (.getfield 10, 3) := by decide +kernel
theorem dX5_needPerson_4 : decode cX5_needPerson 4 = .ok (.iload_n 1, 1) := by decide +kernel
theorem dX5_needPerson_5 : decode cX5_needPerson 5 = .ok (.invokevirtual 188, 3) := by decide +kernel
theorem dX5_needPerson_8 : decode cX5_needPerson 8 = .ok (.ifCond .ne 13, 3) := by decide +kernel
theorem dX5_needPerson_11 : decode cX5_needPerson 11 = .ok (.new 191, 3) := by decide +kernel
theorem dX5_needPerson_14 : decode cX5_needPerson 14 = .ok (.dup, 1) := by decide +kernel
theorem dX5_needPerson_15 : decode cX5_needPerson 15 = .ok (.ldc 193, 2) := by decide +kernel
theorem dX5_needPerson_17 : decode cX5_needPerson 17 = .ok (.invokespecial 195, 3) := by decide +kernel
theorem dX5_needPerson_20 : decode cX5_needPerson 20 = .ok (.athrow, 1) := by decide +kernel
theorem dX5_needPerson_21 : decode cX5_needPerson 21 = .ok (.return_, 1) := by decide +kernel
theorem dX5_needLand_0 : decode cX5_needLand 0 = .ok (.aload_n 0, 1) := by decide +kernel
theorem dX5_needLand_1 : decode cX5_needLand 1 = .ok (.getfield 21, 3) := by decide +kernel
theorem dX5_needLand_4 : decode cX5_needLand 4 = .ok (.getfield 81, 3) := by decide +kernel
theorem dX5_needLand_7 : decode cX5_needLand 7 = .ok (.iload_n 1, 1) := by decide +kernel
theorem dX5_needLand_8 : decode cX5_needLand 8 = .ok (.invokevirtual 196, 3) := by decide +kernel
theorem dX5_needLand_11 : decode cX5_needLand 11 = .ok (.ifCond .ne 13, 3) := by decide +kernel
theorem dX5_needLand_14 : decode cX5_needLand 14 = .ok (.new 191, 3) := by decide +kernel
theorem dX5_needLand_17 : decode cX5_needLand 17 = .ok (.dup, 1) := by decide +kernel
theorem dX5_needLand_18 : decode cX5_needLand 18 = .ok (.ldc 197, 2) := by decide +kernel
theorem dX5_needLand_20 : decode cX5_needLand 20 = .ok (.invokespecial 195, 3) := by decide +kernel
theorem dX5_needLand_23 : decode cX5_needLand 23 = .ok (.athrow, 1) := by decide +kernel
theorem dX5_needLand_24 : decode cX5_needLand 24 = .ok (.return_, 1) := by decide +kernel
theorem dX5_needBelow_0 : decode cX5_needBelow 0 = .ok (.iload_n 0, 1) := by decide +kernel
theorem dX5_needBelow_1 : decode cX5_needBelow 1 = .ok (.ifCond .lt 8, 3) := by decide +kernel
theorem dX5_needBelow_4 : decode cX5_needBelow 4 = .ok (.iload_n 0, 1) := by decide +kernel
theorem dX5_needBelow_5 : decode cX5_needBelow 5 = .ok (.iload_n 1, 1) := by decide +kernel
theorem dX5_needBelow_6 : decode cX5_needBelow 6 = .ok (.if_icmp .lt 13, 3) := by decide +kernel
theorem dX5_needBelow_9 : decode cX5_needBelow 9 = .ok (.new 191, 3) := by decide +kernel
theorem dX5_needBelow_12 : decode cX5_needBelow 12 = .ok (.dup, 1) := by decide +kernel
theorem dX5_needBelow_13 : decode cX5_needBelow 13 = .ok (.ldc 199, 2) := by decide +kernel
theorem dX5_needBelow_15 : decode cX5_needBelow 15 = .ok (.invokespecial 195, 3) := by decide +kernel
theorem dX5_needBelow_18 : decode cX5_needBelow 18 = .ok (.athrow, 1) := by decide +kernel
theorem dX5_needBelow_19 : decode cX5_needBelow 19 = .ok (.return_, 1) := by decide +kernel
theorem dX5_needLaw_0 : decode cX5_needLaw 0 = .ok (.iload_n 0, 1) := by decide +kernel
theorem dX5_needLaw_1 : decode cX5_needLaw 1 = .ok (.ifCond .lt 8, 3) := by decide +kernel
theorem dX5_needLaw_4 : decode cX5_needLaw 4 = .ok (.iload_n 0, 1) := by decide +kernel
theorem dX5_needLaw_5 : decode cX5_needLaw 5 = .ok (.iconst 3, 1) := by decide +kernel
theorem dX5_needLaw_6 : decode cX5_needLaw 6 = .ok (.if_icmp .le 13, 3) := by decide +kernel
theorem dX5_needLaw_9 : decode cX5_needLaw 9 = .ok (.new 28, 3) := by decide +kernel
theorem dX5_needLaw_12 : decode cX5_needLaw 12 = .ok (.dup, 1) := by decide +kernel
theorem dX5_needLaw_13 : decode cX5_needLaw 13 = .ok (.ldc 201, 2) := by decide +kernel
theorem dX5_needLaw_15 : decode cX5_needLaw 15 = .ok (.invokespecial 32, 3) := by decide +kernel
theorem dX5_needLaw_18 : decode cX5_needLaw 18 = .ok (.athrow, 1) := by decide +kernel
theorem dX5_needLaw_19 : decode cX5_needLaw 19 = .ok (.return_, 1) := by decide +kernel
theorem dX5_needYears_0 : decode cX5_needYears 0 = .ok (.iload_n 0, 1) := by decide +kernel
theorem dX5_needYears_1 : decode cX5_needYears 1 = .ok (.iconst 1, 1) := by decide +kernel
theorem dX5_needYears_2 : decode cX5_needYears 2 = .ok (.if_icmp .lt 9, 3) := by decide +kernel
theorem dX5_needYears_5 : decode cX5_needYears 5 = .ok (.iload_n 0, 1) := by decide +kernel
theorem dX5_needYears_6 : decode cX5_needYears 6 = .ok (.bipush 100, 2) := by decide +kernel
theorem dX5_needYears_8 : decode cX5_needYears 8 = .ok (.if_icmp .le 13, 3) := by decide +kernel
theorem dX5_needYears_11 : decode cX5_needYears 11 = .ok (.new 28, 3) := by decide +kernel
theorem dX5_needYears_14 : decode cX5_needYears 14 = .ok (.dup, 1) := by decide +kernel
theorem dX5_needYears_15 : decode cX5_needYears 15 = .ok (.ldc 203, 2) := by decide +kernel
theorem dX5_needYears_17 : decode cX5_needYears 17 = .ok (.invokespecial 32, 3) := by decide +kernel
theorem dX5_needYears_20 : decode cX5_needYears 20 = .ok (.athrow, 1) := by decide +kernel
theorem dX5_needYears_21 : decode cX5_needYears 21 = .ok (.return_, 1) := by decide +kernel
theorem dJ9_min_7cf53_0 : decode cJ9_min_7cf53 0 = .ok (.iload_n 0, 1) := by decide +kernel
theorem dJ9_min_7cf53_1 : decode cJ9_min_7cf53 1 = .ok (.iload_n 1, 1) := by decide +kernel
theorem dJ9_min_7cf53_2 : decode cJ9_min_7cf53 2 = .ok (.if_icmp .gt 7, 3) := by decide +kernel
theorem dJ9_min_7cf53_5 : decode cJ9_min_7cf53 5 = .ok (.iload_n 0, 1) := by decide +kernel
theorem dJ9_min_7cf53_6 : decode cJ9_min_7cf53 6 = .ok (.goto 4, 3) := by decide +kernel
theorem dJ9_min_7cf53_9 : decode cJ9_min_7cf53 9 = .ok (.iload_n 1, 1) := by decide +kernel
theorem dJ9_min_7cf53_10 : decode cJ9_min_7cf53 10 = .ok (.ireturn, 1) := by decide +kernel
theorem dJ7_fill_53178_0 : decode cJ7_fill_53178 0 = .ok (.iconst 0, 1) := by decide +kernel
theorem dJ7_fill_53178_1 : decode cJ7_fill_53178 1 = .ok (.istore_n 2, 1) := by decide +kernel
theorem dJ7_fill_53178_2 : decode cJ7_fill_53178 2 = .ok (.aload_n 0, 1) := by decide +kernel
theorem dJ7_fill_53178_3 : decode cJ7_fill_53178 3 = .ok (.arraylength, 1) := by decide +kernel
theorem dJ7_fill_53178_4 : decode cJ7_fill_53178 4 = .ok (.istore_n 3, 1) := by decide +kernel
theorem dJ7_fill_53178_5 : decode cJ7_fill_53178 5 = .ok (.iload_n 2, 1) := by decide +kernel
theorem dJ7_fill_53178_6 : decode cJ7_fill_53178 6 = .ok (.iload_n 3, 1) := by decide +kernel
theorem dJ7_fill_53178_7 : decode cJ7_fill_53178 7 = .ok (.if_icmp .ge 13, 3) := by decide +kernel
theorem dJ7_fill_53178_10 : decode cJ7_fill_53178 10 = .ok (.aload_n 0, 1) := by decide +kernel
theorem dJ7_fill_53178_11 : decode cJ7_fill_53178 11 = .ok (.iload_n 2, 1) := by decide +kernel
theorem dJ7_fill_53178_12 : decode cJ7_fill_53178 12 = .ok (.iload_n 1, 1) := by decide +kernel
theorem dJ7_fill_53178_13 : decode cJ7_fill_53178 13 = .ok (.iastore, 1) := by decide +kernel
theorem dJ7_fill_53178_14 : decode cJ7_fill_53178 14 = .ok (.iinc 2 1, 3) := by decide +kernel
theorem dJ7_fill_53178_17 : decode cJ7_fill_53178 17 = .ok (.goto (-12), 3) := by decide +kernel
theorem dJ7_fill_53178_20 : decode cJ7_fill_53178 20 = .ok (.return_, 1) := by decide +kernel
