theorem dX6_init_0 : decode cX6_init 0 = .ok (.aload_n 0, 1) := by decide +kernel
theorem dX6_init_1 : decode cX6_init 1 = .ok (.invokespecial 1, 3) := by decide +kernel
theorem dX6_init_4 : decode cX6_init 4 = .ok (.aload_n 0, 1) := by decide +kernel
theorem dX6_init_5 : decode cX6_init 5 = .ok (.iconst 0, 1) := by decide +kernel
theorem dX6_init_6 : decode cX6_init 6 = .ok (.anewarray 7, 3) := by decide +kernel
theorem dX6_init_9 : decode cX6_init 9 = .ok (.putfield 9, 3) := by decide +kernel
theorem dX6_init_12 : decode cX6_init 12 = .ok (.return_, 1) := by decide +kernel
theorem dX7_init_0 : decode cX7_init 0 = .ok (.aload_n 0, 1) := by decide +kernel
theorem dX7_init_1 : decode cX7_init 1 = .ok (.invokespecial 1, 3) := by decide +kernel
theorem dX7_init_4 : decode cX7_init 4 = .ok (.aload_n 0, 1) := by decide +kernel
theorem dX7_init_5 : decode cX7_init 5 = .ok (.iconst (-1), 1) := by decide +kernel
theorem dX7_init_6 : decode cX7_init 6 = .ok (.putfield 7, 3) := by decide +kernel
theorem dX7_init_9 : decode cX7_init 9 = .ok (.return_, 1) := by decide +kernel
theorem dX8_init_0 : decode cX8_init 0 = .ok (.aload_n 0, 1) := by decide +kernel
theorem dX8_init_1 : decode cX8_init 1 = .ok (.invokespecial 1, 3) := by decide +kernel
theorem dX8_init_4 : decode cX8_init 4 = .ok (.aload_n 0, 1) := by decide +kernel
theorem dX8_init_5 : decode cX8_init 5 = .ok (.iconst 0, 1) := by decide +kernel
theorem dX8_init_6 : decode cX8_init 6 = .ok (.anewarray 7, 3) := by decide +kernel
theorem dX8_init_9 : decode cX8_init 9 = .ok (.putfield 9, 3) := by decide +kernel
theorem dX8_init_12 : decode cX8_init 12 = .ok (.aload_n 0, 1) := by decide +kernel
theorem dX8_init_13 : decode cX8_init 13 = .ok (.iconst 0, 1) := by decide +kernel
theorem dX8_init_14 : decode cX8_init 14 = .ok (.anewarray 15, 3) := by decide +kernel
theorem dX8_init_17 : decode cX8_init 17 = .ok (.putfield 17, 3) := by decide +kernel
theorem dX8_init_20 : decode cX8_init 20 = .ok (.return_, 1) := by decide +kernel
theorem dX8_come_0 : decode cX8_come 0 = .ok (.aload_n 0, 1) := by decide +kernel
theorem dX8_come_1 : decode cX8_come 1 = .ok (.getfield 9, 3) := by decide +kernel
theorem dX8_come_4 : decode cX8_come 4 = .ok (.arraylength, 1) := by decide +kernel
theorem dX8_come_5 : decode cX8_come 5 = .ok (.iconst 1, 1) := by decide +kernel
theorem dX8_come_6 : decode cX8_come 6 = .ok (.iadd, 1) := by decide +kernel
theorem dX8_come_7 : decode cX8_come 7 = .ok (.anewarray 7, 3) := by decide +kernel
theorem dX8_come_10 : decode cX8_come 10 = .ok (.astore_n 3, 1) := by decide +kernel
theorem dX8_come_11 : decode cX8_come 11 = .ok (.iconst 0, 1) := by decide +kernel
theorem dX8_come_12 : decode cX8_come 12 = .ok (.istore 4, 2) := by decide +kernel
theorem dX8_come_14 : decode cX8_come 14 = .ok (.iload 4, 2) := by decide +kernel
theorem dX8_come_16 : decode cX8_come 16 = .ok (.aload_n 0, 1) := by decide +kernel
theorem dX8_come_17 : decode cX8_come 17 = .ok (.getfield 9, 3) := by decide +kernel
theorem dX8_come_20 : decode cX8_come 20 = .ok (.arraylength, 1) := by decide +kernel
theorem dX8_come_21 : decode cX8_come 21 = .ok (.if_icmp .ge 20, 3) := by decide +kernel
theorem dX8_come_24 : decode cX8_come 24 = .ok (.aload_n 3, 1) := by decide +kernel
theorem dX8_come_25 : decode cX8_come 25 = .ok (.iload 4, 2) := by decide +kernel
theorem dX8_come_27 : decode cX8_come 27 = .ok (.aload_n 0, 1) := by decide +kernel
theorem dX8_come_28 : decode cX8_come 28 = .ok (.getfield 9, 3) := by decide +kernel
theorem dX8_come_31 : decode cX8_come 31 = .ok (.iload 4, 2) := by decide +kernel
theorem dX8_come_33 : decode cX8_come 33 = .ok (.aaload, 1) := by decide +kernel
theorem dX8_come_34 : decode cX8_come 34 = .ok (.aastore, 1) := by decide +kernel
theorem dX8_come_35 : decode cX8_come 35 = .ok (.iinc 4 1, 3) := by decide +kernel
theorem dX8_come_38 : decode cX8_come 38 = .ok (.goto (-24), 3) := by decide +kernel
theorem dX8_come_41 : decode cX8_come 41 = .ok (.new 7, 3) := by decide +kernel
theorem dX8_come_44 : decode cX8_come 44 = .ok (.dup, 1) := by decide +kernel
theorem dX8_come_45 : decode cX8_come 45 = .ok (.invokespecial 21, 3) := by decide +kernel
theorem dX8_come_48 : decode cX8_come 48 = .ok (.astore 4, 2) := by decide +kernel
theorem dX8_come_50 : decode cX8_come 50 = .ok (.aload 4, 2) := by decide +kernel
theorem dX8_come_52 : decode cX8_come 52 = .ok (.aload_n 0, 1) := by decide +kernel
theorem dX8_come_53 : decode cX8_come 53 = .ok (.getfield 9, 3) := by decide +kernel
theorem dX8_come_56 : decode cX8_come 56 = .ok (.arraylength, 1) := by decide +kernel
theorem dX8_come_57 : decode cX8_come 57 = .ok (.putfield 22, 3) := by decide +kernel
theorem dX8_come_60 : decode cX8_come 60 = .ok (.aload 4, 2) := by decide +kernel
theorem dX8_come_62 : decode cX8_come 62 = .ok (.iload_n 1, 1) := by decide +kernel
theorem dX8_come_63 : decode cX8_come 63 = .ok (.putfield 26, 3) := by decide +kernel
theorem dX8_come_66 : decode cX8_come 66 = .ok (.aload 4, 2) := by decide +kernel
theorem dX8_come_68 : decode cX8_come 68 = .ok (.aload_n 0, 1) := by decide +kernel
theorem dX8_come_69 : decode cX8_come 69 = .ok (.getfield 30, 3) := by decide +kernel
theorem dX8_come_72 : decode cX8_come 72 = .ok (.iload_n 2, 1) := by decide +kernel
theorem dX8_come_73 : decode cX8_come 73 = .ok (.isub, 1) := by decide +kernel
theorem dX8_come_74 : decode cX8_come 74 = .ok (.putfield 33, 3) := by decide +kernel
theorem dX8_come_77 : decode cX8_come 77 = .ok (.aload_n 3, 1) := by decide +kernel
theorem dX8_come_78 : decode cX8_come 78 = .ok (.aload_n 0, 1) := by decide +kernel
theorem dX8_come_79 : decode cX8_come 79 = .ok (.getfield 9, 3) := by decide +kernel
theorem dX8_come_82 : decode cX8_come 82 = .ok (.arraylength, 1) := by decide +kernel
theorem dX8_come_83 : decode cX8_come 83 = .ok (.aload 4, 2) := by decide +kernel
theorem dX8_come_85 : decode cX8_come 85 = .ok (.aastore, 1) := by decide +kernel
theorem dX8_come_86 : decode cX8_come 86 = .ok (.aload_n 0, 1) := by decide +kernel
theorem dX8_come_87 : decode cX8_come 87 = .ok (.aload_n 3, 1) := by decide +kernel
theorem dX8_come_88 : decode cX8_come 88 = .ok (.putfield 9, 3) := by decide +kernel
theorem dX8_come_91 : decode cX8_come 91 = .ok (.aload 4, 2) := by decide +kernel
theorem dX8_come_93 : decode cX8_come 93 = .ok (.areturn, 1) := by decide +kernel
theorem dX8_bear_0 : decode cX8_bear 0 = .ok (.aload_n 0, 1) := by decide +kernel
theorem dX8_bear_1 : decode cX8_bear 1 = .ok (.iload_n 2, 1) := by decide +kernel
theorem dX8_bear_2 : decode cX8_bear 2 = .ok (.iconst 0, 1) := by decide +kernel
theorem dX8_bear_3 : decode cX8_bear 3 = .ok (.invokevirtual 36, 3) := by decide +kernel
theorem dX8_bear_6 : decode cX8_bear 6 = .ok (.astore_n 3, 1) := by decide +kernel
theorem dX8_bear_7 : decode cX8_bear 7 = .ok (.aload_n 3, 1) := by decide +kernel
theorem dX8_bear_8 : decode cX8_bear 8 = .ok (.aload_n 1, 1) := by decide +kernel
theorem dX8_bear_9 : decode cX8_bear 9 = .ok (.putfield 40, 3) := by decide +kernel
theorem dX8_bear_12 : decode cX8_bear 12 = .ok (.aload_n 3, 1) := by decide +kernel
theorem dX8_bear_13 : decode cX8_bear 13 = .ok (.aload_n 1, 1) := by decide +kernel
theorem dX8_bear_14 : decode cX8_bear 14 = .ok (.getfield 44, 3) := by decide +kernel
theorem dX8_bear_17 : decode cX8_bear 17 = .ok (.putfield 47, 3) := by decide +kernel
theorem dX8_bear_20 : decode cX8_bear 20 = .ok (.return_, 1) := by decide +kernel
theorem dX8_rule_0 : decode cX8_rule 0 = .ok (.aload_n 1, 1) := by decide +kernel
theorem dX8_rule_1 : decode cX8_rule 1 = .ok (.aload_n 2, 1) := by decide +kernel
theorem dX8_rule_2 : decode cX8_rule 2 = .ok (.putfield 50, 3) := by decide +kernel
theorem dX8_rule_5 : decode cX8_rule 5 = .ok (.aload_n 2, 1) := by decide +kernel
theorem dX8_rule_6 : decode cX8_rule 6 = .ok (.ifnonnull 4, 3) := by decide +kernel
theorem dX8_rule_9 : decode cX8_rule 9 = .ok (.return_, 1) := by decide +kernel
theorem dX8_rule_10 : decode cX8_rule 10 = .ok (.aload_n 1, 1) := by decide +kernel
theorem dX8_rule_11 : decode cX8_rule 11 = .ok (.getfield 53, 3) := by decide +kernel
theorem dX8_rule_14 : decode cX8_rule 14 = .ok (.arraylength, 1) := by decide +kernel
theorem dX8_rule_15 : decode cX8_rule 15 = .ok (.iconst 1, 1) := by decide +kernel
theorem dX8_rule_16 : decode cX8_rule 16 = .ok (.iadd, 1) := by decide +kernel
theorem dX8_rule_17 : decode cX8_rule 17 = .ok (.anewarray 7, 3) := by decide +kernel
theorem dX8_rule_20 : decode cX8_rule 20 = .ok (.astore_n 3, 1) := by decide +kernel
theorem dX8_rule_21 : decode cX8_rule 21 = .ok (.iconst 0, 1) := by decide +kernel
theorem dX8_rule_22 : decode cX8_rule 22 = .ok (.istore 4, 2) := by decide +kernel
theorem dX8_rule_24 : decode cX8_rule 24 = .ok (.iload 4, 2) := by decide +kernel
theorem dX8_rule_26 : decode cX8_rule 26 = .ok (.aload_n 1, 1) := by decide +kernel
theorem dX8_rule_27 : decode cX8_rule 27 = .ok (.getfield 53, 3) := by decide +kernel
theorem dX8_rule_30 : decode cX8_rule 30 = .ok (.arraylength, 1) := by decide +kernel
theorem dX8_rule_31 : decode cX8_rule 31 = .ok (.if_icmp .ge 22, 3) := by decide +kernel
theorem dX8_rule_34 : decode cX8_rule 34 = .ok (.aload_n 3, 1) := by decide +kernel
theorem dX8_rule_35 : decode cX8_rule 35 = .ok (.iload 4, 2) := by decide +kernel
theorem dX8_rule_37 : decode cX8_rule 37 = .ok (.iconst 1, 1) := by decide +kernel
theorem dX8_rule_38 : decode cX8_rule 38 = .ok (.iadd, 1) := by decide +kernel
theorem dX8_rule_39 : decode cX8_rule 39 = .ok (.aload_n 1, 1) := by decide +kernel
theorem dX8_rule_40 : decode cX8_rule 40 = .ok (.getfield 53, 3) := by decide +kernel
theorem dX8_rule_43 : decode cX8_rule 43 = .ok (.iload 4, 2) := by decide +kernel
theorem dX8_rule_45 : decode cX8_rule 45 = .ok (.aaload, 1) := by decide +kernel
theorem dX8_rule_46 : decode cX8_rule 46 = .ok (.aastore, 1) := by decide +kernel
theorem dX8_rule_47 : decode cX8_rule 47 = .ok (.iinc 4 1, 3) := by decide +kernel
theorem dX8_rule_50 : decode cX8_rule 50 = .ok (.goto (-26), 3) := by decide +kernel
theorem dX8_rule_53 : decode cX8_rule 53 = .ok (.aload_n 3, 1) := by decide +kernel
theorem dX8_rule_54 : decode cX8_rule 54 = .ok (.iconst 0, 1) := by decide +kernel
theorem dX8_rule_55 : decode cX8_rule 55 = .ok (.aload_n 2, 1) := by decide +kernel
theorem dX8_rule_56 : decode cX8_rule 56 = .ok (.aastore, 1) := by decide +kernel
theorem dX8_rule_57 : decode cX8_rule 57 = .ok (.aload_n 1, 1) := by decide +kernel
theorem dX8_rule_58 : decode cX8_rule 58 = .ok (.aload_n 3, 1) := by decide +kernel
theorem dX8_rule_59 : decode cX8_rule 59 = .ok (.putfield 53, 3) := by decide +kernel
theorem dX8_rule_62 : decode cX8_rule 62 = .ok (.return_, 1) := by decide +kernel
theorem dX8_found_0 : decode cX8_found 0 = .ok (.aload_n 0, 1) := by decide +kernel
theorem dX8_found_1 : decode cX8_found 1 = .ok (.getfield 17, 3) := by decide +kernel
theorem dX8_found_4 : decode cX8_found 4 = .ok (.arraylength, 1) := by decide +kernel
theorem dX8_found_5 : decode cX8_found 5 = .ok (.iconst 1, 1) := by decide +kernel
theorem dX8_found_6 : decode cX8_found 6 = .ok (.iadd, 1) := by decide +kernel
theorem dX8_found_7 : decode cX8_found 7 = .ok (.anewarray 15, 3) := by decide +kernel
theorem dX8_found_10 : decode cX8_found 10 = .ok (.astore 4, 2) := by decide +kernel
theorem dX8_found_12 : decode cX8_found 12 = .ok (.iconst 0, 1) := by decide +kernel
theorem dX8_found_13 : decode cX8_found 13 = .ok (.istore 5, 2) := by decide +kernel
theorem dX8_found_15 : decode cX8_found 15 = .ok (.iload 5, 2) := by decide +kernel
theorem dX8_found_17 : decode cX8_found 17 = .ok (.aload_n 0, 1) := by decide +kernel
theorem dX8_found_18 : decode cX8_found 18 = .ok (.getfield 17, 3) := by decide +kernel
theorem dX8_found_21 : decode cX8_found 21 = .ok (.arraylength, 1) := by decide +kernel
theorem dX8_found_22 : decode cX8_found 22 = .ok (.if_icmp .ge 21, 3) := by decide +kernel
theorem dX8_found_25 : decode cX8_found 25 = .ok (.aload 4, 2) := by decide +kernel
theorem dX8_found_27 : decode cX8_found 27 = .ok (.iload 5, 2) := by decide +kernel
theorem dX8_found_29 : decode cX8_found 29 = .ok (.aload_n 0, 1) := by decide +kernel
theorem dX8_found_30 : decode cX8_found 30 = .ok (.getfield 17, 3) := by decide +kernel
theorem dX8_found_33 : decode cX8_found 33 = .ok (.iload 5, 2) := by decide +kernel
theorem dX8_found_35 : decode cX8_found 35 = .ok (.aaload, 1) := by decide +kernel
theorem dX8_found_36 : decode cX8_found 36 = .ok (.aastore, 1) := by decide +kernel
theorem dX8_found_37 : decode cX8_found 37 = .ok (.iinc 5 1, 3) := by decide +kernel
theorem dX8_found_40 : decode cX8_found 40 = .ok (.goto (-25), 3) := by decide +kernel
theorem dX8_found_43 : decode cX8_found 43 = .ok (.new 15, 3) := by decide +kernel
theorem dX8_found_46 : decode cX8_found 46 = .ok (.dup, 1) := by decide +kernel
theorem dX8_found_47 : decode cX8_found 47 = .ok (.invokespecial 56, 3) := by decide +kernel
theorem dX8_found_50 : decode cX8_found 50 = .ok (.astore 5, 2) := by decide +kernel
theorem dX8_found_52 : decode cX8_found 52 = .ok (.aload 5, 2) := by decide +kernel
theorem dX8_found_54 : decode cX8_found 54 = .ok (.iload_n 1, 1) := by decide +kernel
theorem dX8_found_55 : decode cX8_found 55 = .ok (.putfield 57, 3) := by decide +kernel
theorem dX8_found_58 : decode cX8_found 58 = .ok (.aload 5, 2) := by decide +kernel
theorem dX8_found_60 : decode cX8_found 60 = .ok (.iload_n 2, 1) := by decide +kernel
theorem dX8_found_61 : decode cX8_found 61 = .ok (.putfield 60, 3) := by decide +kernel
theorem dX8_found_64 : decode cX8_found 64 = .ok (.aload 4, 2) := by decide +kernel
theorem dX8_found_66 : decode cX8_found 66 = .ok (.aload_n 0, 1) := by decide +kernel
theorem dX8_found_67 : decode cX8_found 67 = .ok (.getfield 17, 3) := by decide +kernel
theorem dX8_found_70 : decode cX8_found 70 = .ok (.arraylength, 1) := by decide +kernel
theorem dX8_found_71 : decode cX8_found 71 = .ok (.aload 5, 2) := by decide +kernel
theorem dX8_found_73 : decode cX8_found 73 = .ok (.aastore, 1) := by decide +kernel
theorem dX8_found_74 : decode cX8_found 74 = .ok (.aload_n 0, 1) := by decide +kernel
theorem dX8_found_75 : decode cX8_found 75 = .ok (.aload 4, 2) := by decide +kernel
theorem dX8_found_77 : decode cX8_found 77 = .ok (.putfield 17, 3) := by decide +kernel
theorem dX8_found_80 : decode cX8_found 80 = .ok (.aload_n 0, 1) := by decide +kernel
theorem dX8_found_81 : decode cX8_found 81 = .ok (.aload 5, 2) := by decide +kernel
theorem dX8_found_83 : decode cX8_found 83 = .ok (.aload_n 3, 1) := by decide +kernel
theorem dX8_found_84 : decode cX8_found 84 = .ok (.invokevirtual 63, 3) := by decide +kernel
theorem dX8_found_87 : decode cX8_found 87 = .ok (.return_, 1) := by decide +kernel
theorem dX8_isBefore_0 : decode cX8_isBefore 0 = .ok (.aload_n 0, 1) := by decide +kernel
theorem dX8_isBefore_1 : decode cX8_isBefore 1 = .ok (.getfield 33, 3) := by decide +kernel
theorem dX8_isBefore_4 : decode cX8_isBefore 4 = .ok (.aload_n 1, 1) := by decide +kernel
theorem dX8_isBefore_5 : decode cX8_isBefore 5 = .ok (.getfield 33, 3) := by decide +kernel
theorem dX8_isBefore_8 : decode cX8_isBefore 8 = .ok (.if_icmp .eq 22, 3) := by decide +kernel
theorem dX8_isBefore_11 : decode cX8_isBefore 11 = .ok (.aload_n 0, 1) := by decide +kernel
theorem dX8_isBefore_12 : decode cX8_isBefore 12 = .ok (.getfield 33, 3) := by decide +kernel
theorem dX8_isBefore_15 : decode cX8_isBefore 15 = .ok (.aload_n 1, 1) := by decide +kernel
theorem dX8_isBefore_16 : decode cX8_isBefore 16 = .ok (.getfield 33, 3) := by decide +kernel
theorem dX8_isBefore_19 : decode cX8_isBefore 19 = .ok (.if_icmp .ge 7, 3) := by decide +kernel
theorem dX8_isBefore_22 : decode cX8_isBefore 22 = .ok (.iconst 1, 1) := by decide +kernel
theorem dX8_isBefore_23 : decode cX8_isBefore 23 = .ok (.goto 23, 3) := by decide +kernel
theorem dX8_isBefore_26 : decode cX8_isBefore 26 = .ok (.iconst 0, 1) := by decide +kernel
theorem dX8_isBefore_27 : decode cX8_isBefore 27 = .ok (.goto 19, 3) := by decide +kernel
theorem dX8_isBefore_30 : decode cX8_isBefore 30 = .ok (.aload_n 0, 1) := by decide +kernel
theorem dX8_isBefore_31 : decode cX8_isBefore 31 = .ok (.getfield 22, 3) := by decide +kernel
theorem dX8_isBefore_34 : decode cX8_isBefore 34 = .ok (.aload_n 1, 1) := by decide +kernel
theorem dX8_isBefore_35 : decode cX8_isBefore 35 = .ok (.getfield 22, 3) := by decide +kernel
theorem dX8_isBefore_38 : decode cX8_isBefore 38 = .ok (.if_icmp .ge 7, 3) := by decide +kernel
theorem dX8_isBefore_41 : decode cX8_isBefore 41 = .ok (.iconst 1, 1) := by decide +kernel
theorem dX8_isBefore_42 : decode cX8_isBefore 42 = .ok (.goto 4, 3) := by decide +kernel
theorem dX8_isBefore_45 : decode cX8_isBefore 45 = .ok (.iconst 0, 1) := by decide +kernel
theorem dX8_isBefore_46 : decode cX8_isBefore 46 = .ok (.ireturn, 1) := by decide +kernel
theorem dX8_up_0 : decode cX8_up 0 = .ok (.aload_n 0, 1) := by decide +kernel
theorem dX8_up_1 : decode cX8_up 1 = .ok (.ifnonnull 7, 3) := by decide +kernel
theorem dX8_up_4 : decode cX8_up 4 = .ok (.sipush 1000, 3) := by decide +kernel
theorem dX8_up_7 : decode cX8_up 7 = .ok (.ireturn, 1) := by decide +kernel
theorem dX8_up_8 : decode cX8_up 8 = .ok (.aload_n 0, 1) := by decide +kernel
theorem dX8_up_9 : decode cX8_up 9 = .ok (.aload_n 1, 1) := by decide +kernel
theorem dX8_up_10 : decode cX8_up 10 = .ok (.if_acmp .ne 5, 3) := by decide +kernel
theorem dX8_up_13 : decode cX8_up 13 = .ok (.iconst 0, 1) := by decide +kernel
theorem dX8_up_14 : decode cX8_up 14 = .ok (.ireturn, 1) := by decide +kernel
theorem dX8_up_15 : decode cX8_up 15 = .ok (.sipush 1000, 3) := by decide +kernel
theorem dX8_up_18 : decode cX8_up 18 = .ok (.iconst 1, 1) := by decide +kernel
theorem dX8_up_19 : decode cX8_up 19 = .ok (.aload_n 0, 1) := by decide +kernel
theorem dX8_up_20 : decode cX8_up 20 = .ok (.getfield 40, 3) := by decide +kernel
theorem dX8_up_23 : decode cX8_up 23 = .ok (.aload_n 1, 1) := by decide +kernel
theorem dX8_up_24 : decode cX8_up 24 = .ok (.invokestatic 67, 3) := by decide +kernel
theorem dX8_up_27 : decode cX8_up 27 = .ok (.aload_n 0, 1) := by decide +kernel
theorem dX8_up_28 : decode cX8_up 28 = .ok (.getfield 47, 3) := by decide +kernel
theorem dX8_up_31 : decode cX8_up 31 = .ok (.aload_n 1, 1) := by decide +kernel
theorem dX8_up_32 : decode cX8_up 32 = .ok (.invokestatic 67, 3) := by decide +kernel
theorem dX8_up_35 : decode cX8_up 35 = .ok (.invokestatic 71, 3) := by decide +kernel
theorem dX8_up_38 : decode cX8_up 38 = .ok (.iadd, 1) := by decide +kernel
theorem dX8_up_39 : decode cX8_up 39 = .ok (.invokestatic 71, 3) := by decide +kernel
theorem dX8_up_42 : decode cX8_up 42 = .ok (.ireturn, 1) := by decide +kernel
theorem dX8_related_0 : decode cX8_related 0 = .ok (.sipush 1000, 3) := by decide +kernel
theorem dX8_related_3 : decode cX8_related 3 = .ok (.istore_n 3, 1) := by decide +kernel
theorem dX8_related_4 : decode cX8_related 4 = .ok (.aload_n 0, 1) := by decide +kernel
theorem dX8_related_5 : decode cX8_related 5 = .ok (.getfield 9, 3) := by decide +kernel
theorem dX8_related_8 : decode cX8_related 8 = .ok (.astore 4, 2) := by decide +kernel
theorem dX8_related_10 : decode cX8_related 10 = .ok (.aload 4, 2) := by decide +kernel
theorem dX8_related_12 : decode cX8_related 12 = .ok (.arraylength, 1) := by decide +kernel
theorem dX8_related_13 : decode cX8_related 13 = .ok (.istore 5, 2) := by decide +kernel
theorem dX8_related_15 : decode cX8_related 15 = .ok (.iconst 0, 1) := by decide +kernel
theorem dX8_related_16 : decode cX8_related 16 = .ok (.istore 6, 2) := by decide +kernel
theorem dX8_related_18 : decode cX8_related 18 = .ok (.iload 6, 2) := by decide +kernel
theorem dX8_related_20 : decode cX8_related 20 = .ok (.iload 5, 2) := by decide +kernel
theorem dX8_related_22 : decode cX8_related 22 = .ok (.if_icmp .ge 34, 3) := by decide +kernel
theorem dX8_related_25 : decode cX8_related 25 = .ok (.aload 4, 2) := by decide +kernel
theorem dX8_related_27 : decode cX8_related 27 = .ok (.iload 6, 2) := by decide +kernel
theorem dX8_related_29 : decode cX8_related 29 = .ok (.aaload, 1) := by decide +kernel
theorem dX8_related_30 : decode cX8_related 30 = .ok (.astore 7, 2) := by decide +kernel
theorem dX8_related_32 : decode cX8_related 32 = .ok (.iload_n 3, 1) := by decide +kernel
theorem dX8_related_33 : decode cX8_related 33 = .ok (.aload_n 1, 1) := by decide +kernel
theorem dX8_related_34 : decode cX8_related 34 = .ok (.aload 7, 2) := by decide +kernel
theorem dX8_related_36 : decode cX8_related 36 = .ok (.invokestatic 67, 3) := by decide +kernel
theorem dX8_related_39 : decode cX8_related 39 = .ok (.aload_n 2, 1) := by decide +kernel
theorem dX8_related_40 : decode cX8_related 40 = .ok (.aload 7, 2) := by decide +kernel
theorem dX8_related_42 : decode cX8_related 42 = .ok (.invokestatic 67, 3) := by decide +kernel
theorem dX8_related_45 : decode cX8_related 45 = .ok (.iadd, 1) := by decide +kernel
theorem dX8_related_46 : decode cX8_related 46 = .ok (.invokestatic 71, 3) := by decide +kernel
theorem dX8_related_49 : decode cX8_related 49 = .ok (.istore_n 3, 1) := by decide +kernel
theorem dX8_related_50 : decode cX8_related 50 = .ok (.iinc 6 1, 3) := by decide +kernel
theorem dX8_related_53 : decode cX8_related 53 = .ok (.goto (-35), 3) := by decide +kernel
theorem dX8_related_56 : decode cX8_related 56 = .ok (.iload_n 3, 1) := by decide +kernel
theorem dX8_related_57 : decode cX8_related 57 = .ok (.ireturn, 1) := by decide +kernel
theorem dX8_children_0 : decode cX8_children 0 = .ok (.iconst 0, 1) := by decide +kernel
theorem dX8_children_1 : decode cX8_children 1 = .ok (.istore_n 2, 1) := by decide +kernel
theorem dX8_children_2 : decode cX8_children 2 = .ok (.aload_n 0, 1) := by decide +kernel
theorem dX8_children_3 : decode cX8_children 3 = .ok (.getfield 9, 3) := by decide +kernel
theorem dX8_children_6 : decode cX8_children 6 = .ok (.astore_n 3, 1) := by decide +kernel
theorem dX8_children_7 : decode cX8_children 7 = .ok (.aload_n 3, 1) := by decide +kernel
theorem dX8_children_8 : decode cX8_children 8 = .ok (.arraylength, 1) := by decide +kernel
theorem dX8_children_9 : decode cX8_children 9 = .ok (.istore 4, 2) := by decide +kernel
theorem dX8_children_11 : decode cX8_children 11 = .ok (.iconst 0, 1) := by decide +kernel
theorem dX8_children_12 : decode cX8_children 12 = .ok (.istore 5, 2) := by decide +kernel
theorem dX8_children_14 : decode cX8_children 14 = .ok (.iload 5, 2) := by decide +kernel
theorem dX8_children_16 : decode cX8_children 16 = .ok (.iload 4, 2) := by decide +kernel
theorem dX8_children_18 : decode cX8_children 18 = .ok (.if_icmp .ge 41, 3) := by decide +kernel
theorem dX8_children_21 : decode cX8_children 21 = .ok (.aload_n 3, 1) := by decide +kernel
theorem dX8_children_22 : decode cX8_children 22 = .ok (.iload 5, 2) := by decide +kernel
theorem dX8_children_24 : decode cX8_children 24 = .ok (.aaload, 1) := by decide +kernel
theorem dX8_children_25 : decode cX8_children 25 = .ok (.astore 6, 2) := by decide +kernel
theorem dX8_children_27 : decode cX8_children 27 = .ok (.iload_n 2, 1) := by decide +kernel
theorem dX8_children_28 : decode cX8_children 28 = .ok (.aload 6, 2) := by decide +kernel
theorem dX8_children_30 : decode cX8_children 30 = .ok (.getfield 40, 3) := by decide +kernel
theorem dX8_children_33 : decode cX8_children 33 = .ok (.aload_n 1, 1) := by decide +kernel
theorem dX8_children_34 : decode cX8_children 34 = .ok (.if_acmp .eq 12, 3) := by decide +kernel
theorem dX8_children_37 : decode cX8_children 37 = .ok (.aload 6, 2) := by decide +kernel
theorem dX8_children_39 : decode cX8_children 39 = .ok (.getfield 47, 3) := by decide +kernel
theorem dX8_children_42 : decode cX8_children 42 = .ok (.aload_n 1, 1) := by decide +kernel
theorem dX8_children_43 : decode cX8_children 43 = .ok (.if_acmp .ne 7, 3) := by decide +kernel
theorem dX8_children_46 : decode cX8_children 46 = .ok (.iconst 1, 1) := by decide +kernel
theorem dX8_children_47 : decode cX8_children 47 = .ok (.goto 4, 3) := by decide +kernel
theorem dX8_children_50 : decode cX8_children 50 = .ok (.iconst 0, 1) := by decide +kernel
theorem dX8_children_51 : decode cX8_children 51 = .ok (.iadd, 1) := by decide +kernel
theorem dX8_children_52 : decode cX8_children 52 = .ok (.istore_n 2, 1) := by decide +kernel
theorem dX8_children_53 : decode cX8_children 53 = .ok (.iinc 5 1, 3) := by decide +kernel
theorem dX8_children_56 : decode cX8_children 56 = .ok (.goto (-42), 3) := by decide +kernel
theorem dX8_children_59 : decode cX8_children 59 = .ok (.iload_n 2, 1) := by decide +kernel
theorem dX8_children_60 : decode cX8_children 60 = .ok (.ireturn, 1) := by decide +kernel
theorem dX8_row_0 : decode cX8_row 0 = .ok (.aload_n 0, 1) := by decide +kernel
theorem dX8_row_1 : decode cX8_row 1 = .ok (.aload_n 1, 1) := by decide +kernel
theorem dX8_row_2 : decode cX8_row 2 = .ok (.invokevirtual 77, 3) := by decide +kernel
theorem dX8_row_5 : decode cX8_row 5 = .ok (.anewarray 7, 3) := by decide +kernel
theorem dX8_row_8 : decode cX8_row 8 = .ok (.astore_n 3, 1) := by decide +kernel
theorem dX8_row_9 : decode cX8_row 9 = .ok (.iconst 0, 1) := by decide +kernel
theorem dX8_row_10 : decode cX8_row 10 = .ok (.istore 4, 2) := by decide +kernel
theorem dX8_row_12 : decode cX8_row 12 = .ok (.aload_n 0, 1) := by decide +kernel
theorem dX8_row_13 : decode cX8_row 13 = .ok (.getfield 9, 3) := by decide +kernel
theorem dX8_row_16 : decode cX8_row 16 = .ok (.astore 5, 2) := by decide +kernel
theorem dX8_row_18 : decode cX8_row 18 = .ok (.aload 5, 2) := by decide +kernel
theorem dX8_row_20 : decode cX8_row 20 = .ok (.arraylength, 1) := by decide +kernel
theorem dX8_row_21 : decode cX8_row 21 = .ok (.istore 6, 2) := by decide +kernel
theorem dX8_row_23 : decode cX8_row 23 = .ok (.iconst 0, 1) := by decide +kernel
theorem dX8_row_24 : decode cX8_row 24 = .ok (.istore 7, 2) := by decide +kernel
theorem dX8_row_26 : decode cX8_row 26 = .ok (.iload 7, 2) := by decide +kernel
theorem dX8_row_28 : decode cX8_row 28 = .ok (.iload 6, 2) := by decide +kernel
theorem dX8_row_30 : decode cX8_row 30 = .ok (.if_icmp .ge 86, 3) := by decide +kernel
theorem dX8_row_33 : decode cX8_row 33 = .ok (.aload 5, 2) := by decide +kernel
theorem dX8_row_35 : decode cX8_row 35 = .ok (.iload 7, 2) := by decide +kernel
theorem dX8_row_37 : decode cX8_row 37 = .ok (.aaload, 1) := by decide +kernel
theorem dX8_row_38 : decode cX8_row 38 = .ok (.astore 8, 2) := by decide +kernel
theorem dX8_row_40 : decode cX8_row 40 = .ok (.aload 8, 2) := by decide +kernel
theorem dX8_row_42 : decode cX8_row 42 = .ok (.getfield 40, 3) := by decide +kernel
theorem dX8_row_45 : decode cX8_row 45 = .ok (.aload_n 1, 1) := by decide +kernel
theorem dX8_row_46 : decode cX8_row 46 = .ok (.if_acmp .eq 15, 3) := by decide +kernel
theorem dX8_row_49 : decode cX8_row 49 = .ok (.aload 8, 2) := by decide +kernel
theorem dX8_row_51 : decode cX8_row 51 = .ok (.getfield 47, 3) := by decide +kernel
theorem dX8_row_54 : decode cX8_row 54 = .ok (.aload_n 1, 1) := by decide +kernel
theorem dX8_row_55 : decode cX8_row 55 = .ok (.if_acmp .eq 6, 3) := by decide +kernel
theorem dX8_row_58 : decode cX8_row 58 = .ok (.goto 52, 3) := by decide +kernel
theorem dX8_row_61 : decode cX8_row 61 = .ok (.iload 4, 2) := by decide +kernel
theorem dX8_row_63 : decode cX8_row 63 = .ok (.istore 9, 2) := by decide +kernel
theorem dX8_row_65 : decode cX8_row 65 = .ok (.iload 9, 2) := by decide +kernel
theorem dX8_row_67 : decode cX8_row 67 = .ok (.ifCond .le 34, 3) := by decide +kernel
theorem dX8_row_70 : decode cX8_row 70 = .ok (.aload 8, 2) := by decide +kernel
theorem dX8_row_72 : decode cX8_row 72 = .ok (.aload_n 3, 1) := by decide +kernel
theorem dX8_row_73 : decode cX8_row 73 = .ok (.iload 9, 2) := by decide +kernel
theorem dX8_row_75 : decode cX8_row 75 = .ok (.iconst 1, 1) := by decide +kernel
theorem dX8_row_76 : decode cX8_row 76 = .ok (.isub, 1) := by decide +kernel
theorem dX8_row_77 : decode cX8_row 77 = .ok (.aaload, 1) := by decide +kernel
theorem dX8_row_78 : decode cX8_row 78 = .ok (.iload_n 2, 1) := by decide +kernel
theorem dX8_row_79 : decode cX8_row 79 = .ok (.invokestatic 81, 3) := by decide +kernel
theorem dX8_row_82 : decode cX8_row 82 = .ok (.ifCond .eq 19, 3) := by decide +kernel
theorem dX8_row_85 : decode cX8_row 85 = .ok (.aload_n 3, 1) := by decide +kernel
theorem dX8_row_86 : decode cX8_row 86 = .ok (.iload 9, 2) := by decide +kernel
theorem dX8_row_88 : decode cX8_row 88 = .ok (.aload_n 3, 1) := by decide +kernel
theorem dX8_row_89 : decode cX8_row 89 = .ok (.iload 9, 2) := by decide +kernel
theorem dX8_row_91 : decode cX8_row 91 = .ok (.iconst 1, 1) := by decide +kernel
theorem dX8_row_92 : decode cX8_row 92 = .ok (.isub, 1) := by decide +kernel
theorem dX8_row_93 : decode cX8_row 93 = .ok (.aaload, 1) := by decide +kernel
theorem dX8_row_94 : decode cX8_row 94 = .ok (.aastore, 1) := by decide +kernel
theorem dX8_row_95 : decode cX8_row 95 = .ok (.iinc 9 (-1), 3) := by decide +kernel
theorem dX8_row_98 : decode cX8_row 98 = .ok (.goto (-33), 3) := by decide +kernel
theorem dX8_row_101 : decode cX8_row 101 = .ok (.aload_n 3, 1) := by decide +kernel
theorem dX8_row_102 : decode cX8_row 102 = .ok (.iload 9, 2) := by decide +kernel
theorem dX8_row_104 : decode cX8_row 104 = .ok (.aload 8, 2) := by decide +kernel
theorem dX8_row_106 : decode cX8_row 106 = .ok (.aastore, 1) := by decide +kernel
theorem dX8_row_107 : decode cX8_row 107 = .ok (.iinc 4 1, 3) := by decide +kernel
theorem dX8_row_110 : decode cX8_row 110 = .ok (.iinc 7 1, 3) := by decide +kernel
theorem dX8_row_113 : decode cX8_row 113 = .ok (.goto (-87), 3) := by decide +kernel
theorem dX8_row_116 : decode cX8_row 116 = .ok (.aload_n 3, 1) := by decide +kernel
theorem dX8_row_117 : decode cX8_row 117 = .ok (.areturn, 1) := by decide +kernel
theorem dX8_isAhead_0 : decode cX8_isAhead 0 = .ok (.iload_n 2, 1) := by decide +kernel
theorem dX8_isAhead_1 : decode cX8_isAhead 1 = .ok (.ifCond .ne 19, 3) := by decide +kernel
theorem dX8_isAhead_4 : decode cX8_isAhead 4 = .ok (.aload_n 0, 1) := by decide +kernel
theorem dX8_isAhead_5 : decode cX8_isAhead 5 = .ok (.getfield 26, 3) := by decide +kernel
theorem dX8_isAhead_8 : decode cX8_isAhead 8 = .ok (.ifCond .eq 12, 3) := by decide +kernel
theorem dX8_isAhead_11 : decode cX8_isAhead 11 = .ok (.aload_n 1, 1) := by decide +kernel
theorem dX8_isAhead_12 : decode cX8_isAhead 12 = .ok (.getfield 26, 3) := by decide +kernel
theorem dX8_isAhead_15 : decode cX8_isAhead 15 = .ok (.ifCond .ne 5, 3) := by decide +kernel
theorem dX8_isAhead_18 : decode cX8_isAhead 18 = .ok (.iconst 1, 1) := by decide +kernel
theorem dX8_isAhead_19 : decode cX8_isAhead 19 = .ok (.ireturn, 1) := by decide +kernel
theorem dX8_isAhead_20 : decode cX8_isAhead 20 = .ok (.iload_n 2, 1) := by decide +kernel
theorem dX8_isAhead_21 : decode cX8_isAhead 21 = .ok (.ifCond .ne 19, 3) := by decide +kernel
theorem dX8_isAhead_24 : decode cX8_isAhead 24 = .ok (.aload_n 1, 1) := by decide +kernel
theorem dX8_isAhead_25 : decode cX8_isAhead 25 = .ok (.getfield 26, 3) := by decide +kernel
theorem dX8_isAhead_28 : decode cX8_isAhead 28 = .ok (.ifCond .eq 12, 3) := by decide +kernel
theorem dX8_isAhead_31 : decode cX8_isAhead 31 = .ok (.aload_n 0, 1) := by decide +kernel
theorem dX8_isAhead_32 : decode cX8_isAhead 32 = .ok (.getfield 26, 3) := by decide +kernel
theorem dX8_isAhead_35 : decode cX8_isAhead 35 = .ok (.ifCond .ne 5, 3) := by decide +kernel
theorem dX8_isAhead_38 : decode cX8_isAhead 38 = .ok (.iconst 0, 1) := by decide +kernel
theorem dX8_isAhead_39 : decode cX8_isAhead 39 = .ok (.ireturn, 1) := by decide +kernel
theorem dX8_isAhead_40 : decode cX8_isAhead 40 = .ok (.aload_n 0, 1) := by decide +kernel
theorem dX8_isAhead_41 : decode cX8_isAhead 41 = .ok (.aload_n 1, 1) := by decide +kernel
theorem dX8_isAhead_42 : decode cX8_isAhead 42 = .ok (.invokestatic 85, 3) := by decide +kernel
theorem dX8_isAhead_45 : decode cX8_isAhead 45 = .ok (.iload_n 2, 1) := by decide +kernel
theorem dX8_isAhead_46 : decode cX8_isAhead 46 = .ok (.iconst 2, 1) := by decide +kernel
theorem dX8_isAhead_47 : decode cX8_isAhead 47 = .ok (.if_icmp .eq 7, 3) := by decide +kernel
theorem dX8_isAhead_50 : decode cX8_isAhead 50 = .ok (.iconst 1, 1) := by decide +kernel
theorem dX8_isAhead_51 : decode cX8_isAhead 51 = .ok (.goto 4, 3) := by decide +kernel
theorem dX8_isAhead_54 : decode cX8_isAhead 54 = .ok (.iconst 0, 1) := by decide +kernel
theorem dX8_isAhead_55 : decode cX8_isAhead 55 = .ok (.if_icmp .ne 7, 3) := by decide +kernel
theorem dX8_isAhead_58 : decode cX8_isAhead 58 = .ok (.iconst 1, 1) := by decide +kernel
theorem dX8_isAhead_59 : decode cX8_isAhead 59 = .ok (.goto 4, 3) := by decide +kernel
theorem dX8_isAhead_62 : decode cX8_isAhead 62 = .ok (.iconst 0, 1) := by decide +kernel
theorem dX8_isAhead_63 : decode cX8_isAhead 63 = .ok (.ireturn, 1) := by decide +kernel
theorem dX8_first_0 : decode cX8_first 0 = .ok (.aload_n 1, 1) := by decide +kernel
theorem dX8_first_1 : decode cX8_first 1 = .ok (.ifnonnull 5, 3) := by decide +kernel
theorem dX8_first_4 : decode cX8_first 4 = .ok (.aconst_null, 1) := by decide +kernel
theorem dX8_first_5 : decode cX8_first 5 = .ok (.areturn, 1) := by decide +kernel
theorem dX8_first_6 : decode cX8_first 6 = .ok (.aload_n 0, 1) := by decide +kernel
theorem dX8_first_7 : decode cX8_first 7 = .ok (.aload_n 1, 1) := by decide +kernel
theorem dX8_first_8 : decode cX8_first 8 = .ok (.iload_n 2, 1) := by decide +kernel
theorem dX8_first_9 : decode cX8_first 9 = .ok (.invokevirtual 89, 3) := by decide +kernel
theorem dX8_first_12 : decode cX8_first 12 = .ok (.astore 4, 2) := by decide +kernel
theorem dX8_first_14 : decode cX8_first 14 = .ok (.aload 4, 2) := by decide +kernel
theorem dX8_first_16 : decode cX8_first 16 = .ok (.arraylength, 1) := by decide +kernel
theorem dX8_first_17 : decode cX8_first 17 = .ok (.istore 5, 2) := by decide +kernel
theorem dX8_first_19 : decode cX8_first 19 = .ok (.iconst 0, 1) := by decide +kernel
theorem dX8_first_20 : decode cX8_first 20 = .ok (.istore 6, 2) := by decide +kernel
theorem dX8_first_22 : decode cX8_first 22 = .ok (.iload 6, 2) := by decide +kernel
theorem dX8_first_24 : decode cX8_first 24 = .ok (.iload 5, 2) := by decide +kernel
theorem dX8_first_26 : decode cX8_first 26 = .ok (.if_icmp .ge 53, 3) := by decide +kernel
theorem dX8_first_29 : decode cX8_first 29 = .ok (.aload 4, 2) := by decide +kernel
theorem dX8_first_31 : decode cX8_first 31 = .ok (.iload 6, 2) := by decide +kernel
theorem dX8_first_33 : decode cX8_first 33 = .ok (.aaload, 1) := by decide +kernel
theorem dX8_first_34 : decode cX8_first 34 = .ok (.astore 7, 2) := by decide +kernel
theorem dX8_first_36 : decode cX8_first 36 = .ok (.aload 7, 2) := by decide +kernel
theorem dX8_first_38 : decode cX8_first 38 = .ok (.getfield 93, 3) := by decide +kernel
theorem dX8_first_41 : decode cX8_first 41 = .ok (.ifCond .ge 14, 3) := by decide +kernel
theorem dX8_first_44 : decode cX8_first 44 = .ok (.aload 7, 2) := by decide +kernel
theorem dX8_first_46 : decode cX8_first 46 = .ok (.aload_n 3, 1) := by decide +kernel
theorem dX8_first_47 : decode cX8_first 47 = .ok (.if_acmp .eq 8, 3) := by decide +kernel
theorem dX8_first_50 : decode cX8_first 50 = .ok (.aload 7, 2) := by decide +kernel
theorem dX8_first_52 : decode cX8_first 52 = .ok (.goto 11, 3) := by decide +kernel
theorem dX8_first_55 : decode cX8_first 55 = .ok (.aload_n 0, 1) := by decide +kernel
theorem dX8_first_56 : decode cX8_first 56 = .ok (.aload 7, 2) := by decide +kernel
theorem dX8_first_58 : decode cX8_first 58 = .ok (.iload_n 2, 1) := by decide +kernel
theorem dX8_first_59 : decode cX8_first 59 = .ok (.aload_n 3, 1) := by decide +kernel
theorem dX8_first_60 : decode cX8_first 60 = .ok (.invokevirtual 96, 3) := by decide +kernel
theorem dX8_first_63 : decode cX8_first 63 = .ok (.astore 8, 2) := by decide +kernel
theorem dX8_first_65 : decode cX8_first 65 = .ok (.aload 8, 2) := by decide +kernel
theorem dX8_first_67 : decode cX8_first 67 = .ok (.ifnull 6, 3) := by decide +kernel
theorem dX8_first_70 : decode cX8_first 70 = .ok (.aload 8, 2) := by decide +kernel
theorem dX8_first_72 : decode cX8_first 72 = .ok (.areturn, 1) := by decide +kernel
theorem dX8_first_73 : decode cX8_first 73 = .ok (.iinc 6 1, 3) := by decide +kernel
theorem dX8_first_76 : decode cX8_first 76 = .ok (.goto (-54), 3) := by decide +kernel
theorem dX8_first_79 : decode cX8_first 79 = .ok (.aconst_null, 1) := by decide +kernel
theorem dX8_first_80 : decode cX8_first 80 = .ok (.areturn, 1) := by decide +kernel
theorem dX8_heir_0 : decode cX8_heir 0 = .ok (.aconst_null, 1) := by decide +kernel
theorem dX8_heir_1 : decode cX8_heir 1 = .ok (.astore_n 3, 1) := by decide +kernel
theorem dX8_heir_2 : decode cX8_heir 2 = .ok (.iload_n 2, 1) := by decide +kernel
theorem dX8_heir_3 : decode cX8_heir 3 = .ok (.iconst 3, 1) := by decide +kernel
theorem dX8_heir_4 : decode cX8_heir 4 = .ok (.if_icmp .ne 82, 3) := by decide +kernel
theorem dX8_heir_7 : decode cX8_heir 7 = .ok (.aload_n 0, 1) := by decide +kernel
theorem dX8_heir_8 : decode cX8_heir 8 = .ok (.getfield 9, 3) := by decide +kernel
theorem dX8_heir_11 : decode cX8_heir 11 = .ok (.astore 4, 2) := by decide +kernel
theorem dX8_heir_13 : decode cX8_heir 13 = .ok (.aload 4, 2) := by decide +kernel
theorem dX8_heir_15 : decode cX8_heir 15 = .ok (.arraylength, 1) := by decide +kernel
theorem dX8_heir_16 : decode cX8_heir 16 = .ok (.istore 5, 2) := by decide +kernel
theorem dX8_heir_18 : decode cX8_heir 18 = .ok (.iconst 0, 1) := by decide +kernel
theorem dX8_heir_19 : decode cX8_heir 19 = .ok (.istore 6, 2) := by decide +kernel
theorem dX8_heir_21 : decode cX8_heir 21 = .ok (.iload 6, 2) := by decide +kernel
theorem dX8_heir_23 : decode cX8_heir 23 = .ok (.iload 5, 2) := by decide +kernel
theorem dX8_heir_25 : decode cX8_heir 25 = .ok (.if_icmp .ge 59, 3) := by decide +kernel
theorem dX8_heir_28 : decode cX8_heir 28 = .ok (.aload 4, 2) := by decide +kernel
theorem dX8_heir_30 : decode cX8_heir 30 = .ok (.iload 6, 2) := by decide +kernel
theorem dX8_heir_32 : decode cX8_heir 32 = .ok (.aaload, 1) := by decide +kernel
theorem dX8_heir_33 : decode cX8_heir 33 = .ok (.astore 7, 2) := by decide +kernel
theorem dX8_heir_35 : decode cX8_heir 35 = .ok (.aload 7, 2) := by decide +kernel
theorem dX8_heir_37 : decode cX8_heir 37 = .ok (.aload_n 1, 1) := by decide +kernel
theorem dX8_heir_38 : decode cX8_heir 38 = .ok (.if_acmp .eq 40, 3) := by decide +kernel
theorem dX8_heir_41 : decode cX8_heir 41 = .ok (.aload 7, 2) := by decide +kernel
theorem dX8_heir_43 : decode cX8_heir 43 = .ok (.getfield 93, 3) := by decide +kernel
theorem dX8_heir_46 : decode cX8_heir 46 = .ok (.ifCond .ge 32, 3) := by decide +kernel
theorem dX8_heir_49 : decode cX8_heir 49 = .ok (.aload_n 0, 1) := by decide +kernel
theorem dX8_heir_50 : decode cX8_heir 50 = .ok (.aload 7, 2) := by decide +kernel
theorem dX8_heir_52 : decode cX8_heir 52 = .ok (.aload_n 1, 1) := by decide +kernel
theorem dX8_heir_53 : decode cX8_heir 53 = .ok (.invokevirtual 100, 3) := by decide +kernel
theorem dX8_heir_56 : decode cX8_heir 56 = .ok (.sipush 1000, 3) := by decide +kernel
theorem dX8_heir_59 : decode cX8_heir 59 = .ok (.if_icmp .ge 19, 3) := by decide +kernel
theorem dX8_heir_62 : decode cX8_heir 62 = .ok (.aload_n 3, 1) := by decide +kernel
theorem dX8_heir_63 : decode cX8_heir 63 = .ok (.ifnull 12, 3) := by decide +kernel
theorem dX8_heir_66 : decode cX8_heir 66 = .ok (.aload 7, 2) := by decide +kernel
theorem dX8_heir_68 : decode cX8_heir 68 = .ok (.aload_n 3, 1) := by decide +kernel
theorem dX8_heir_69 : decode cX8_heir 69 = .ok (.invokestatic 85, 3) := by decide +kernel
theorem dX8_heir_72 : decode cX8_heir 72 = .ok (.ifCond .eq 6, 3) := by decide +kernel
theorem dX8_heir_75 : decode cX8_heir 75 = .ok (.aload 7, 2) := by decide +kernel
theorem dX8_heir_77 : decode cX8_heir 77 = .ok (.astore_n 3, 1) := by decide +kernel
theorem dX8_heir_78 : decode cX8_heir 78 = .ok (.iinc 6 1, 3) := by decide +kernel
theorem dX8_heir_81 : decode cX8_heir 81 = .ok (.goto (-60), 3) := by decide +kernel
theorem dX8_heir_84 : decode cX8_heir 84 = .ok (.aload_n 3, 1) := by decide +kernel
theorem dX8_heir_85 : decode cX8_heir 85 = .ok (.areturn, 1) := by decide +kernel
theorem dX8_heir_86 : decode cX8_heir 86 = .ok (.aload_n 0, 1) := by decide +kernel
theorem dX8_heir_87 : decode cX8_heir 87 = .ok (.aload_n 1, 1) := by decide +kernel
theorem dX8_heir_88 : decode cX8_heir 88 = .ok (.iload_n 2, 1) := by decide +kernel
theorem dX8_heir_89 : decode cX8_heir 89 = .ok (.aload_n 1, 1) := by decide +kernel
theorem dX8_heir_90 : decode cX8_heir 90 = .ok (.invokevirtual 96, 3) := by decide +kernel
theorem dX8_heir_93 : decode cX8_heir 93 = .ok (.astore_n 3, 1) := by decide +kernel
theorem dX8_heir_94 : decode cX8_heir 94 = .ok (.aload_n 3, 1) := by decide +kernel
theorem dX8_heir_95 : decode cX8_heir 95 = .ok (.ifnonnull 14, 3) := by decide +kernel
theorem dX8_heir_98 : decode cX8_heir 98 = .ok (.aload_n 0, 1) := by decide +kernel
theorem dX8_heir_99 : decode cX8_heir 99 = .ok (.aload_n 1, 1) := by decide +kernel
theorem dX8_heir_100 : decode cX8_heir 100 = .ok (.getfield 47, 3) := by decide +kernel
theorem dX8_heir_103 : decode cX8_heir 103 = .ok (.iload_n 2, 1) := by decide +kernel
theorem dX8_heir_104 : decode cX8_heir 104 = .ok (.aload_n 1, 1) := by decide +kernel
theorem dX8_heir_105 : decode cX8_heir 105 = .ok (.invokevirtual 96, 3) := by decide +kernel
theorem dX8_heir_108 : decode cX8_heir 108 = .ok (.astore_n 3, 1) := by decide +kernel
theorem dX8_heir_109 : decode cX8_heir 109 = .ok (.aload_n 3, 1) := by decide +kernel
theorem dX8_heir_110 : decode cX8_heir 110 = .ok (.ifnonnull 16, 3) := by decide +kernel
theorem dX8_heir_113 : decode cX8_heir 113 = .ok (.aload_n 0, 1) := by decide +kernel
theorem dX8_heir_114 : decode cX8_heir 114 = .ok (.aload_n 1, 1) := by decide +kernel
theorem dX8_heir_115 : decode cX8_heir 115 = .ok (.getfield 40, 3) := by decide +kernel
theorem dX8_heir_118 : decode cX8_heir 118 = .ok (.iload_n 2, 1) := by decide +kernel
theorem dX8_heir_119 : decode cX8_heir 119 = .ok (.aload_n 1, 1) := by decide +kernel
theorem dX8_heir_120 : decode cX8_heir 120 = .ok (.invokevirtual 96, 3) := by decide +kernel
theorem dX8_heir_123 : decode cX8_heir 123 = .ok (.goto 4, 3) := by decide +kernel
theorem dX8_heir_126 : decode cX8_heir 126 = .ok (.aload_n 3, 1) := by decide +kernel
theorem dX8_heir_127 : decode cX8_heir 127 = .ok (.areturn, 1) := by decide +kernel
theorem dX8_regent_0 : decode cX8_regent 0 = .ok (.aload_n 1, 1) := by decide +kernel
theorem dX8_regent_1 : decode cX8_regent 1 = .ok (.ifnull 17, 3) := by decide +kernel
theorem dX8_regent_4 : decode cX8_regent 4 = .ok (.aload_n 0, 1) := by decide +kernel
theorem dX8_regent_5 : decode cX8_regent 5 = .ok (.getfield 30, 3) := by decide +kernel
theorem dX8_regent_8 : decode cX8_regent 8 = .ok (.aload_n 1, 1) := by decide +kernel
theorem dX8_regent_9 : decode cX8_regent 9 = .ok (.getfield 33, 3) := by decide +kernel
theorem dX8_regent_12 : decode cX8_regent 12 = .ok (.isub, 1) := by decide +kernel
theorem dX8_regent_13 : decode cX8_regent 13 = .ok (.bipush 15, 2) := by decide +kernel
theorem dX8_regent_15 : decode cX8_regent 15 = .ok (.if_icmp .le 5, 3) := by decide +kernel
theorem dX8_regent_18 : decode cX8_regent 18 = .ok (.aconst_null, 1) := by decide +kernel
theorem dX8_regent_19 : decode cX8_regent 19 = .ok (.areturn, 1) := by decide +kernel
theorem dX8_regent_20 : decode cX8_regent 20 = .ok (.aload_n 1, 1) := by decide +kernel
theorem dX8_regent_21 : decode cX8_regent 21 = .ok (.getfield 40, 3) := by decide +kernel
theorem dX8_regent_24 : decode cX8_regent 24 = .ok (.ifnull 18, 3) := by decide +kernel
theorem dX8_regent_27 : decode cX8_regent 27 = .ok (.aload_n 1, 1) := by decide +kernel
theorem dX8_regent_28 : decode cX8_regent 28 = .ok (.getfield 40, 3) := by decide +kernel
theorem dX8_regent_31 : decode cX8_regent 31 = .ok (.getfield 93, 3) := by decide +kernel
theorem dX8_regent_34 : decode cX8_regent 34 = .ok (.ifCond .ge 8, 3) := by decide +kernel
theorem dX8_regent_37 : decode cX8_regent 37 = .ok (.aload_n 1, 1) := by decide +kernel
theorem dX8_regent_38 : decode cX8_regent 38 = .ok (.getfield 40, 3) := by decide +kernel
theorem dX8_regent_41 : decode cX8_regent 41 = .ok (.areturn, 1) := by decide +kernel
theorem dX8_regent_42 : decode cX8_regent 42 = .ok (.aload_n 1, 1) := by decide +kernel
theorem dX8_regent_43 : decode cX8_regent 43 = .ok (.getfield 47, 3) := by decide +kernel
theorem dX8_regent_46 : decode cX8_regent 46 = .ok (.ifnull 18, 3) := by decide +kernel
theorem dX8_regent_49 : decode cX8_regent 49 = .ok (.aload_n 1, 1) := by decide +kernel
theorem dX8_regent_50 : decode cX8_regent 50 = .ok (.getfield 47, 3) := by decide +kernel
theorem dX8_regent_53 : decode cX8_regent 53 = .ok (.getfield 93, 3) := by decide +kernel
theorem dX8_regent_56 : decode cX8_regent 56 = .ok (.ifCond .ge 8, 3) := by decide +kernel
theorem dX8_regent_59 : decode cX8_regent 59 = .ok (.aload_n 1, 1) := by decide +kernel
theorem dX8_regent_60 : decode cX8_regent 60 = .ok (.getfield 47, 3) := by decide +kernel
theorem dX8_regent_63 : decode cX8_regent 63 = .ok (.areturn, 1) := by decide +kernel
theorem dX8_regent_64 : decode cX8_regent 64 = .ok (.aconst_null, 1) := by decide +kernel
theorem dX8_regent_65 : decode cX8_regent 65 = .ok (.astore_n 2, 1) := by decide +kernel
theorem dX8_regent_66 : decode cX8_regent 66 = .ok (.sipush 1000, 3) := by decide +kernel
theorem dX8_regent_69 : decode cX8_regent 69 = .ok (.istore_n 3, 1) := by decide +kernel
theorem dX8_regent_70 : decode cX8_regent 70 = .ok (.aload_n 0, 1) := by decide +kernel
theorem dX8_regent_71 : decode cX8_regent 71 = .ok (.getfield 9, 3) := by decide +kernel
theorem dX8_regent_74 : decode cX8_regent 74 = .ok (.arraylength, 1) := by decide +kernel
theorem dX8_regent_75 : decode cX8_regent 75 = .ok (.iconst 1, 1) := by decide +kernel
theorem dX8_regent_76 : decode cX8_regent 76 = .ok (.isub, 1) := by decide +kernel
theorem dX8_regent_77 : decode cX8_regent 77 = .ok (.istore 4, 2) := by decide +kernel
theorem dX8_regent_79 : decode cX8_regent 79 = .ok (.iload 4, 2) := by decide +kernel
theorem dX8_regent_81 : decode cX8_regent 81 = .ok (.ifCond .lt 91, 3) := by decide +kernel
theorem dX8_regent_84 : decode cX8_regent 84 = .ok (.aload_n 0, 1) := by decide +kernel
theorem dX8_regent_85 : decode cX8_regent 85 = .ok (.getfield 9, 3) := by decide +kernel
theorem dX8_regent_88 : decode cX8_regent 88 = .ok (.iload 4, 2) := by decide +kernel
theorem dX8_regent_90 : decode cX8_regent 90 = .ok (.aaload, 1) := by decide +kernel
theorem dX8_regent_91 : decode cX8_regent 91 = .ok (.astore 5, 2) := by decide +kernel
theorem dX8_regent_93 : decode cX8_regent 93 = .ok (.aload_n 0, 1) := by decide +kernel
theorem dX8_regent_94 : decode cX8_regent 94 = .ok (.aload 5, 2) := by decide +kernel
theorem dX8_regent_96 : decode cX8_regent 96 = .ok (.aload_n 1, 1) := by decide +kernel
theorem dX8_regent_97 : decode cX8_regent 97 = .ok (.invokevirtual 100, 3) := by decide +kernel
theorem dX8_regent_100 : decode cX8_regent 100 = .ok (.istore 6, 2) := by decide +kernel
theorem dX8_regent_102 : decode cX8_regent 102 = .ok (.aload 5, 2) := by decide +kernel
theorem dX8_regent_104 : decode cX8_regent 104 = .ok (.getfield 93, 3) := by decide +kernel
theorem dX8_regent_107 : decode cX8_regent 107 = .ok (.ifCond .ge 59, 3) := by decide +kernel
theorem dX8_regent_110 : decode cX8_regent 110 = .ok (.aload_n 0, 1) := by decide +kernel
theorem dX8_regent_111 : decode cX8_regent 111 = .ok (.getfield 30, 3) := by decide +kernel
theorem dX8_regent_114 : decode cX8_regent 114 = .ok (.aload 5, 2) := by decide +kernel
theorem dX8_regent_116 : decode cX8_regent 116 = .ok (.getfield 33, 3) := by decide +kernel
theorem dX8_regent_119 : decode cX8_regent 119 = .ok (.isub, 1) := by decide +kernel
theorem dX8_regent_120 : decode cX8_regent 120 = .ok (.bipush 16, 2) := by decide +kernel
theorem dX8_regent_122 : decode cX8_regent 122 = .ok (.if_icmp .lt 44, 3) := by decide +kernel
theorem dX8_regent_125 : decode cX8_regent 125 = .ok (.iload 6, 2) := by decide +kernel
theorem dX8_regent_127 : decode cX8_regent 127 = .ok (.iload_n 3, 1) := by decide +kernel
theorem dX8_regent_128 : decode cX8_regent 128 = .ok (.if_icmp .gt 38, 3) := by decide +kernel
theorem dX8_regent_131 : decode cX8_regent 131 = .ok (.iload 6, 2) := by decide +kernel
theorem dX8_regent_133 : decode cX8_regent 133 = .ok (.sipush 1000, 3) := by decide +kernel
theorem dX8_regent_136 : decode cX8_regent 136 = .ok (.if_icmp .ne 6, 3) := by decide +kernel
theorem dX8_regent_139 : decode cX8_regent 139 = .ok (.goto 27, 3) := by decide +kernel
theorem dX8_regent_142 : decode cX8_regent 142 = .ok (.iload 6, 2) := by decide +kernel
theorem dX8_regent_144 : decode cX8_regent 144 = .ok (.iload_n 3, 1) := by decide +kernel
theorem dX8_regent_145 : decode cX8_regent 145 = .ok (.if_icmp .ne 15, 3) := by decide +kernel
theorem dX8_regent_148 : decode cX8_regent 148 = .ok (.aload 5, 2) := by decide +kernel
theorem dX8_regent_150 : decode cX8_regent 150 = .ok (.aload_n 2, 1) := by decide +kernel
theorem dX8_regent_151 : decode cX8_regent 151 = .ok (.invokestatic 85, 3) := by decide +kernel
theorem dX8_regent_154 : decode cX8_regent 154 = .ok (.ifCond .ne 6, 3) := by decide +kernel
theorem dX8_regent_157 : decode cX8_regent 157 = .ok (.goto 9, 3) := by decide +kernel
theorem dX8_regent_160 : decode cX8_regent 160 = .ok (.aload 5, 2) := by decide +kernel
theorem dX8_regent_162 : decode cX8_regent 162 = .ok (.astore_n 2, 1) := by decide +kernel
theorem dX8_regent_163 : decode cX8_regent 163 = .ok (.iload 6, 2) := by decide +kernel
theorem dX8_regent_165 : decode cX8_regent 165 = .ok (.istore_n 3, 1) := by decide +kernel
theorem dX8_regent_166 : decode cX8_regent 166 = .ok (.iinc 4 (-1), 3) := by decide +kernel
theorem dX8_regent_169 : decode cX8_regent 169 = .ok (.goto (-90), 3) := by decide +kernel
theorem dX8_regent_172 : decode cX8_regent 172 = .ok (.aload_n 2, 1) := by decide +kernel
theorem dX8_regent_173 : decode cX8_regent 173 = .ok (.areturn, 1) := by decide +kernel
theorem dX8_worth_0 : decode cX8_worth 0 = .ok (.iconst 0, 1) := by decide +kernel
theorem dX8_worth_1 : decode cX8_worth 1 = .ok (.istore_n 2, 1) := by decide +kernel
theorem dX8_worth_2 : decode cX8_worth 2 = .ok (.aload_n 0, 1) := by decide +kernel
theorem dX8_worth_3 : decode cX8_worth 3 = .ok (.getfield 17, 3) := by decide +kernel
theorem dX8_worth_6 : decode cX8_worth 6 = .ok (.astore_n 3, 1) := by decide +kernel
theorem dX8_worth_7 : decode cX8_worth 7 = .ok (.aload_n 3, 1) := by decide +kernel
theorem dX8_worth_8 : decode cX8_worth 8 = .ok (.arraylength, 1) := by decide +kernel
theorem dX8_worth_9 : decode cX8_worth 9 = .ok (.istore 4, 2) := by decide +kernel
theorem dX8_worth_11 : decode cX8_worth 11 = .ok (.iconst 0, 1) := by decide +kernel
theorem dX8_worth_12 : decode cX8_worth 12 = .ok (.istore 5, 2) := by decide +kernel
theorem dX8_worth_14 : decode cX8_worth 14 = .ok (.iload 5, 2) := by decide +kernel
theorem dX8_worth_16 : decode cX8_worth 16 = .ok (.iload 4, 2) := by decide +kernel
theorem dX8_worth_18 : decode cX8_worth 18 = .ok (.if_icmp .ge 36, 3) := by decide +kernel
theorem dX8_worth_21 : decode cX8_worth 21 = .ok (.aload_n 3, 1) := by decide +kernel
theorem dX8_worth_22 : decode cX8_worth 22 = .ok (.iload 5, 2) := by decide +kernel
theorem dX8_worth_24 : decode cX8_worth 24 = .ok (.aaload, 1) := by decide +kernel
theorem dX8_worth_25 : decode cX8_worth 25 = .ok (.astore 6, 2) := by decide +kernel
theorem dX8_worth_27 : decode cX8_worth 27 = .ok (.iload_n 2, 1) := by decide +kernel
theorem dX8_worth_28 : decode cX8_worth 28 = .ok (.aload 6, 2) := by decide +kernel
theorem dX8_worth_30 : decode cX8_worth 30 = .ok (.getfield 50, 3) := by decide +kernel
theorem dX8_worth_33 : decode cX8_worth 33 = .ok (.aload_n 1, 1) := by decide +kernel
theorem dX8_worth_34 : decode cX8_worth 34 = .ok (.if_acmp .ne 11, 3) := by decide +kernel
theorem dX8_worth_37 : decode cX8_worth 37 = .ok (.aload 6, 2) := by decide +kernel
theorem dX8_worth_39 : decode cX8_worth 39 = .ok (.getfield 57, 3) := by decide +kernel
theorem dX8_worth_42 : decode cX8_worth 42 = .ok (.goto 4, 3) := by decide +kernel
theorem dX8_worth_45 : decode cX8_worth 45 = .ok (.iconst 0, 1) := by decide +kernel
theorem dX8_worth_46 : decode cX8_worth 46 = .ok (.iadd, 1) := by decide +kernel
theorem dX8_worth_47 : decode cX8_worth 47 = .ok (.istore_n 2, 1) := by decide +kernel
theorem dX8_worth_48 : decode cX8_worth 48 = .ok (.iinc 5 1, 3) := by decide +kernel
theorem dX8_worth_51 : decode cX8_worth 51 = .ok (.goto (-37), 3) := by decide +kernel
theorem dX8_worth_54 : decode cX8_worth 54 = .ok (.iload_n 2, 1) := by decide +kernel
theorem dX8_worth_55 : decode cX8_worth 55 = .ok (.ireturn, 1) := by decide +kernel
theorem dX8_rules_0 : decode cX8_rules 0 = .ok (.iconst 0, 1) := by decide +kernel
theorem dX8_rules_1 : decode cX8_rules 1 = .ok (.istore_n 2, 1) := by decide +kernel
theorem dX8_rules_2 : decode cX8_rules 2 = .ok (.aload_n 0, 1) := by decide +kernel
theorem dX8_rules_3 : decode cX8_rules 3 = .ok (.getfield 17, 3) := by decide +kernel
theorem dX8_rules_6 : decode cX8_rules 6 = .ok (.astore_n 3, 1) := by decide +kernel
theorem dX8_rules_7 : decode cX8_rules 7 = .ok (.aload_n 3, 1) := by decide +kernel
theorem dX8_rules_8 : decode cX8_rules 8 = .ok (.arraylength, 1) := by decide +kernel
theorem dX8_rules_9 : decode cX8_rules 9 = .ok (.istore 4, 2) := by decide +kernel
theorem dX8_rules_11 : decode cX8_rules 11 = .ok (.iconst 0, 1) := by decide +kernel
theorem dX8_rules_12 : decode cX8_rules 12 = .ok (.istore 5, 2) := by decide +kernel
theorem dX8_rules_14 : decode cX8_rules 14 = .ok (.iload 5, 2) := by decide +kernel
theorem dX8_rules_16 : decode cX8_rules 16 = .ok (.iload 4, 2) := by decide +kernel
theorem dX8_rules_18 : decode cX8_rules 18 = .ok (.if_icmp .ge 32, 3) := by decide +kernel
theorem dX8_rules_21 : decode cX8_rules 21 = .ok (.aload_n 3, 1) := by decide +kernel
theorem dX8_rules_22 : decode cX8_rules 22 = .ok (.iload 5, 2) := by decide +kernel
theorem dX8_rules_24 : decode cX8_rules 24 = .ok (.aaload, 1) := by decide +kernel
theorem dX8_rules_25 : decode cX8_rules 25 = .ok (.astore 6, 2) := by decide +kernel
theorem dX8_rules_27 : decode cX8_rules 27 = .ok (.iload_n 2, 1) := by decide +kernel
theorem dX8_rules_28 : decode cX8_rules 28 = .ok (.aload 6, 2) := by decide +kernel
theorem dX8_rules_30 : decode cX8_rules 30 = .ok (.getfield 50, 3) := by decide +kernel
theorem dX8_rules_33 : decode cX8_rules 33 = .ok (.aload_n 1, 1) := by decide +kernel
theorem dX8_rules_34 : decode cX8_rules 34 = .ok (.if_acmp .ne 7, 3) := by decide +kernel
theorem dX8_rules_37 : decode cX8_rules 37 = .ok (.iconst 1, 1) := by decide +kernel
theorem dX8_rules_38 : decode cX8_rules 38 = .ok (.goto 4, 3) := by decide +kernel
theorem dX8_rules_41 : decode cX8_rules 41 = .ok (.iconst 0, 1) := by decide +kernel
theorem dX8_rules_42 : decode cX8_rules 42 = .ok (.iadd, 1) := by decide +kernel
theorem dX8_rules_43 : decode cX8_rules 43 = .ok (.istore_n 2, 1) := by decide +kernel
theorem dX8_rules_44 : decode cX8_rules 44 = .ok (.iinc 5 1, 3) := by decide +kernel
theorem dX8_rules_47 : decode cX8_rules 47 = .ok (.goto (-33), 3) := by decide +kernel
theorem dX8_rules_50 : decode cX8_rules 50 = .ok (.iload_n 2, 1) := by decide +kernel
theorem dX8_rules_51 : decode cX8_rules 51 = .ok (.ireturn, 1) := by decide +kernel
theorem dX8_isFree_0 : decode cX8_isFree 0 = .ok (.aload_n 1, 1) := by decide +kernel
theorem dX8_isFree_1 : decode cX8_isFree 1 = .ok (.getfield 93, 3) := by decide +kernel
theorem dX8_isFree_4 : decode cX8_isFree 4 = .ok (.ifCond .ge 28, 3) := by decide +kernel
theorem dX8_isFree_7 : decode cX8_isFree 7 = .ok (.aload_n 1, 1) := by decide +kernel
theorem dX8_isFree_8 : decode cX8_isFree 8 = .ok (.getfield 44, 3) := by decide +kernel
theorem dX8_isFree_11 : decode cX8_isFree 11 = .ok (.ifnonnull 21, 3) := by decide +kernel
theorem dX8_isFree_14 : decode cX8_isFree 14 = .ok (.aload_n 0, 1) := by decide +kernel
theorem dX8_isFree_15 : decode cX8_isFree 15 = .ok (.getfield 30, 3) := by decide +kernel
theorem dX8_isFree_18 : decode cX8_isFree 18 = .ok (.aload_n 1, 1) := by decide +kernel
theorem dX8_isFree_19 : decode cX8_isFree 19 = .ok (.getfield 33, 3) := by decide +kernel
theorem dX8_isFree_22 : decode cX8_isFree 22 = .ok (.isub, 1) := by decide +kernel
theorem dX8_isFree_23 : decode cX8_isFree 23 = .ok (.bipush 15, 2) := by decide +kernel
theorem dX8_isFree_25 : decode cX8_isFree 25 = .ok (.if_icmp .le 7, 3) := by decide +kernel
theorem dX8_isFree_28 : decode cX8_isFree 28 = .ok (.iconst 1, 1) := by decide +kernel
theorem dX8_isFree_29 : decode cX8_isFree 29 = .ok (.goto 4, 3) := by decide +kernel
theorem dX8_isFree_32 : decode cX8_isFree 32 = .ok (.iconst 0, 1) := by decide +kernel
theorem dX8_isFree_33 : decode cX8_isFree 33 = .ok (.ireturn, 1) := by decide +kernel
theorem dX8_can_0 : decode cX8_can 0 = .ok (.aload_n 0, 1) := by decide +kernel
theorem dX8_can_1 : decode cX8_can 1 = .ok (.aload_n 1, 1) := by decide +kernel
theorem dX8_can_2 : decode cX8_can 2 = .ok (.invokevirtual 103, 3) := by decide +kernel
theorem dX8_can_5 : decode cX8_can 5 = .ok (.ifCond .eq 36, 3) := by decide +kernel
theorem dX8_can_8 : decode cX8_can 8 = .ok (.aload_n 0, 1) := by decide +kernel
theorem dX8_can_9 : decode cX8_can 9 = .ok (.aload_n 2, 1) := by decide +kernel
theorem dX8_can_10 : decode cX8_can 10 = .ok (.invokevirtual 103, 3) := by decide +kernel
theorem dX8_can_13 : decode cX8_can 13 = .ok (.ifCond .eq 28, 3) := by decide +kernel
theorem dX8_can_16 : decode cX8_can 16 = .ok (.aload_n 1, 1) := by decide +kernel
theorem dX8_can_17 : decode cX8_can 17 = .ok (.getfield 26, 3) := by decide +kernel
theorem dX8_can_20 : decode cX8_can 20 = .ok (.aload_n 2, 1) := by decide +kernel
theorem dX8_can_21 : decode cX8_can 21 = .ok (.getfield 26, 3) := by decide +kernel
theorem dX8_can_24 : decode cX8_can 24 = .ok (.if_icmp .eq 17, 3) := by decide +kernel
theorem dX8_can_27 : decode cX8_can 27 = .ok (.aload_n 0, 1) := by decide +kernel
theorem dX8_can_28 : decode cX8_can 28 = .ok (.aload_n 1, 1) := by decide +kernel
theorem dX8_can_29 : decode cX8_can 29 = .ok (.aload_n 2, 1) := by decide +kernel
theorem dX8_can_30 : decode cX8_can 30 = .ok (.invokevirtual 100, 3) := by decide +kernel
theorem dX8_can_33 : decode cX8_can 33 = .ok (.iconst 2, 1) := by decide +kernel
theorem dX8_can_34 : decode cX8_can 34 = .ok (.if_icmp .le 7, 3) := by decide +kernel
theorem dX8_can_37 : decode cX8_can 37 = .ok (.iconst 1, 1) := by decide +kernel
theorem dX8_can_38 : decode cX8_can 38 = .ok (.goto 4, 3) := by decide +kernel
theorem dX8_can_41 : decode cX8_can 41 = .ok (.iconst 0, 1) := by decide +kernel
theorem dX8_can_42 : decode cX8_can 42 = .ok (.ireturn, 1) := by decide +kernel
theorem dX8_marry_0 : decode cX8_marry 0 = .ok (.aload_n 1, 1) := by decide +kernel
theorem dX8_marry_1 : decode cX8_marry 1 = .ok (.aload_n 2, 1) := by decide +kernel
theorem dX8_marry_2 : decode cX8_marry 2 = .ok (.putfield 44, 3) := by decide +kernel
theorem dX8_marry_5 : decode cX8_marry 5 = .ok (.aload_n 2, 1) := by decide +kernel
theorem dX8_marry_6 : decode cX8_marry 6 = .ok (.aload_n 1, 1) := by decide +kernel
theorem dX8_marry_7 : decode cX8_marry 7 = .ok (.putfield 44, 3) := by decide +kernel
theorem dX8_marry_10 : decode cX8_marry 10 = .ok (.aload_n 3, 1) := by decide +kernel
theorem dX8_marry_11 : decode cX8_marry 11 = .ok (.ifnonnull 4, 3) := by decide +kernel
theorem dX8_marry_14 : decode cX8_marry 14 = .ok (.return_, 1) := by decide +kernel
theorem dX8_marry_15 : decode cX8_marry 15 = .ok (.aload_n 3, 1) := by decide +kernel
theorem dX8_marry_16 : decode cX8_marry 16 = .ok (.getfield 50, 3) := by decide +kernel
theorem dX8_marry_19 : decode cX8_marry 19 = .ok (.astore 4, 2) := by decide +kernel
theorem dX8_marry_21 : decode cX8_marry 21 = .ok (.aload_n 1, 1) := by decide +kernel
theorem dX8_marry_22 : decode cX8_marry 22 = .ok (.aload_n 3, 1) := by decide +kernel
theorem dX8_marry_23 : decode cX8_marry 23 = .ok (.putfield 107, 3) := by decide +kernel
theorem dX8_marry_26 : decode cX8_marry 26 = .ok (.aload_n 2, 1) := by decide +kernel
theorem dX8_marry_27 : decode cX8_marry 27 = .ok (.aload_n 3, 1) := by decide +kernel
theorem dX8_marry_28 : decode cX8_marry 28 = .ok (.putfield 107, 3) := by decide +kernel
theorem dX8_marry_31 : decode cX8_marry 31 = .ok (.aload_n 1, 1) := by decide +kernel
theorem dX8_marry_32 : decode cX8_marry 32 = .ok (.aload 4, 2) := by decide +kernel
theorem dX8_marry_34 : decode cX8_marry 34 = .ok (.putfield 111, 3) := by decide +kernel
theorem dX8_marry_37 : decode cX8_marry 37 = .ok (.aload_n 2, 1) := by decide +kernel
theorem dX8_marry_38 : decode cX8_marry 38 = .ok (.aload 4, 2) := by decide +kernel
theorem dX8_marry_40 : decode cX8_marry 40 = .ok (.putfield 111, 3) := by decide +kernel
theorem dX8_marry_43 : decode cX8_marry 43 = .ok (.aload_n 0, 1) := by decide +kernel
theorem dX8_marry_44 : decode cX8_marry 44 = .ok (.aload_n 3, 1) := by decide +kernel
theorem dX8_marry_45 : decode cX8_marry 45 = .ok (.aload 4, 2) := by decide +kernel
theorem dX8_marry_47 : decode cX8_marry 47 = .ok (.aload_n 1, 1) := by decide +kernel
theorem dX8_marry_48 : decode cX8_marry 48 = .ok (.if_acmp .ne 7, 3) := by decide +kernel
theorem dX8_marry_51 : decode cX8_marry 51 = .ok (.aload_n 2, 1) := by decide +kernel
theorem dX8_marry_52 : decode cX8_marry 52 = .ok (.goto 4, 3) := by decide +kernel
theorem dX8_marry_55 : decode cX8_marry 55 = .ok (.aload_n 1, 1) := by decide +kernel
theorem dX8_marry_56 : decode cX8_marry 56 = .ok (.invokevirtual 63, 3) := by decide +kernel
theorem dX8_marry_59 : decode cX8_marry 59 = .ok (.return_, 1) := by decide +kernel
theorem dX8_part_0 : decode cX8_part 0 = .ok (.aload_n 1, 1) := by decide +kernel
theorem dX8_part_1 : decode cX8_part 1 = .ok (.getfield 44, 3) := by decide +kernel
theorem dX8_part_4 : decode cX8_part 4 = .ok (.ifnonnull 4, 3) := by decide +kernel
theorem dX8_part_7 : decode cX8_part 7 = .ok (.return_, 1) := by decide +kernel
theorem dX8_part_8 : decode cX8_part 8 = .ok (.aload_n 1, 1) := by decide +kernel
theorem dX8_part_9 : decode cX8_part 9 = .ok (.getfield 44, 3) := by decide +kernel
theorem dX8_part_12 : decode cX8_part 12 = .ok (.aconst_null, 1) := by decide +kernel
theorem dX8_part_13 : decode cX8_part 13 = .ok (.putfield 44, 3) := by decide +kernel
theorem dX8_part_16 : decode cX8_part 16 = .ok (.aload_n 1, 1) := by decide +kernel
theorem dX8_part_17 : decode cX8_part 17 = .ok (.getfield 44, 3) := by decide +kernel
theorem dX8_part_20 : decode cX8_part 20 = .ok (.aconst_null, 1) := by decide +kernel
theorem dX8_part_21 : decode cX8_part 21 = .ok (.putfield 107, 3) := by decide +kernel
theorem dX8_part_24 : decode cX8_part 24 = .ok (.aload_n 1, 1) := by decide +kernel
theorem dX8_part_25 : decode cX8_part 25 = .ok (.aconst_null, 1) := by decide +kernel
theorem dX8_part_26 : decode cX8_part 26 = .ok (.putfield 44, 3) := by decide +kernel
theorem dX8_part_29 : decode cX8_part 29 = .ok (.aload_n 1, 1) := by decide +kernel
theorem dX8_part_30 : decode cX8_part 30 = .ok (.aconst_null, 1) := by decide +kernel
theorem dX8_part_31 : decode cX8_part 31 = .ok (.putfield 107, 3) := by decide +kernel
theorem dX8_part_34 : decode cX8_part 34 = .ok (.return_, 1) := by decide +kernel
theorem dX8_annul_0 : decode cX8_annul 0 = .ok (.aload_n 1, 1) := by decide +kernel
theorem dX8_annul_1 : decode cX8_annul 1 = .ok (.getfield 107, 3) := by decide +kernel
theorem dX8_annul_4 : decode cX8_annul 4 = .ok (.astore_n 2, 1) := by decide +kernel
theorem dX8_annul_5 : decode cX8_annul 5 = .ok (.aload_n 1, 1) := by decide +kernel
theorem dX8_annul_6 : decode cX8_annul 6 = .ok (.getfield 111, 3) := by decide +kernel
theorem dX8_annul_9 : decode cX8_annul 9 = .ok (.astore_n 3, 1) := by decide +kernel
theorem dX8_annul_10 : decode cX8_annul 10 = .ok (.aload_n 3, 1) := by decide +kernel
theorem dX8_annul_11 : decode cX8_annul 11 = .ok (.aload_n 1, 1) := by decide +kernel
theorem dX8_annul_12 : decode cX8_annul 12 = .ok (.if_acmp .ne 10, 3) := by decide +kernel
theorem dX8_annul_15 : decode cX8_annul 15 = .ok (.aload_n 1, 1) := by decide +kernel
theorem dX8_annul_16 : decode cX8_annul 16 = .ok (.getfield 44, 3) := by decide +kernel
theorem dX8_annul_19 : decode cX8_annul 19 = .ok (.goto 4, 3) := by decide +kernel
theorem dX8_annul_22 : decode cX8_annul 22 = .ok (.aload_n 1, 1) := by decide +kernel
theorem dX8_annul_23 : decode cX8_annul 23 = .ok (.astore 4, 2) := by decide +kernel
theorem dX8_annul_25 : decode cX8_annul 25 = .ok (.aload_n 0, 1) := by decide +kernel
theorem dX8_annul_26 : decode cX8_annul 26 = .ok (.aload_n 1, 1) := by decide +kernel
theorem dX8_annul_27 : decode cX8_annul 27 = .ok (.invokevirtual 114, 3) := by decide +kernel
theorem dX8_annul_30 : decode cX8_annul 30 = .ok (.aload_n 2, 1) := by decide +kernel
theorem dX8_annul_31 : decode cX8_annul 31 = .ok (.ifnull 12, 3) := by decide +kernel
theorem dX8_annul_34 : decode cX8_annul 34 = .ok (.aload_n 2, 1) := by decide +kernel
theorem dX8_annul_35 : decode cX8_annul 35 = .ok (.getfield 50, 3) := by decide +kernel
theorem dX8_annul_38 : decode cX8_annul 38 = .ok (.aload 4, 2) := by decide +kernel
theorem dX8_annul_40 : decode cX8_annul 40 = .ok (.if_acmp .eq 5, 3) := by decide +kernel
theorem dX8_annul_43 : decode cX8_annul 43 = .ok (.iconst (-1), 1) := by decide +kernel
theorem dX8_annul_44 : decode cX8_annul 44 = .ok (.ireturn, 1) := by decide +kernel
theorem dX8_annul_45 : decode cX8_annul 45 = .ok (.aload_n 0, 1) := by decide +kernel
theorem dX8_annul_46 : decode cX8_annul 46 = .ok (.aload_n 2, 1) := by decide +kernel
theorem dX8_annul_47 : decode cX8_annul 47 = .ok (.aload_n 3, 1) := by decide +kernel
theorem dX8_annul_48 : decode cX8_annul 48 = .ok (.invokevirtual 63, 3) := by decide +kernel
theorem dX8_annul_51 : decode cX8_annul 51 = .ok (.iconst 0, 1) := by decide +kernel
theorem dX8_annul_52 : decode cX8_annul 52 = .ok (.istore 5, 2) := by decide +kernel
theorem dX8_annul_54 : decode cX8_annul 54 = .ok (.aload_n 0, 1) := by decide +kernel
theorem dX8_annul_55 : decode cX8_annul 55 = .ok (.getfield 17, 3) := by decide +kernel
theorem dX8_annul_58 : decode cX8_annul 58 = .ok (.iload 5, 2) := by decide +kernel
theorem dX8_annul_60 : decode cX8_annul 60 = .ok (.aaload, 1) := by decide +kernel
theorem dX8_annul_61 : decode cX8_annul 61 = .ok (.aload_n 2, 1) := by decide +kernel
theorem dX8_annul_62 : decode cX8_annul 62 = .ok (.if_acmp .eq 9, 3) := by decide +kernel
theorem dX8_annul_65 : decode cX8_annul 65 = .ok (.iinc 5 1, 3) := by decide +kernel
theorem dX8_annul_68 : decode cX8_annul 68 = .ok (.goto (-14), 3) := by decide +kernel
theorem dX8_annul_71 : decode cX8_annul 71 = .ok (.iload 5, 2) := by decide +kernel
theorem dX8_annul_73 : decode cX8_annul 73 = .ok (.ireturn, 1) := by decide +kernel
theorem dX8_die_0 : decode cX8_die 0 = .ok (.aload_n 0, 1) := by decide +kernel
theorem dX8_die_1 : decode cX8_die 1 = .ok (.getfield 17, 3) := by decide +kernel
theorem dX8_die_4 : decode cX8_die 4 = .ok (.arraylength, 1) := by decide +kernel
theorem dX8_die_5 : decode cX8_die 5 = .ok (.anewarray 7, 3) := by decide +kernel
theorem dX8_die_8 : decode cX8_die 8 = .ok (.astore_n 2, 1) := by decide +kernel
theorem dX8_die_9 : decode cX8_die 9 = .ok (.iconst 0, 1) := by decide +kernel
theorem dX8_die_10 : decode cX8_die 10 = .ok (.istore_n 3, 1) := by decide +kernel
theorem dX8_die_11 : decode cX8_die 11 = .ok (.iconst 0, 1) := by decide +kernel
theorem dX8_die_12 : decode cX8_die 12 = .ok (.istore 4, 2) := by decide +kernel
theorem dX8_die_14 : decode cX8_die 14 = .ok (.iload 4, 2) := by decide +kernel
theorem dX8_die_16 : decode cX8_die 16 = .ok (.aload_n 0, 1) := by decide +kernel
theorem dX8_die_17 : decode cX8_die 17 = .ok (.getfield 17, 3) := by decide +kernel
theorem dX8_die_20 : decode cX8_die 20 = .ok (.arraylength, 1) := by decide +kernel
theorem dX8_die_21 : decode cX8_die 21 = .ok (.if_icmp .ge 42, 3) := by decide +kernel
theorem dX8_die_24 : decode cX8_die 24 = .ok (.aload_n 0, 1) := by decide +kernel
theorem dX8_die_25 : decode cX8_die 25 = .ok (.getfield 17, 3) := by decide +kernel
theorem dX8_die_28 : decode cX8_die 28 = .ok (.iload 4, 2) := by decide +kernel
theorem dX8_die_30 : decode cX8_die 30 = .ok (.aaload, 1) := by decide +kernel
theorem dX8_die_31 : decode cX8_die 31 = .ok (.getfield 50, 3) := by decide +kernel
theorem dX8_die_34 : decode cX8_die 34 = .ok (.aload_n 1, 1) := by decide +kernel
theorem dX8_die_35 : decode cX8_die 35 = .ok (.if_acmp .ne 22, 3) := by decide +kernel
theorem dX8_die_38 : decode cX8_die 38 = .ok (.aload_n 2, 1) := by decide +kernel
theorem dX8_die_39 : decode cX8_die 39 = .ok (.iload 4, 2) := by decide +kernel
theorem dX8_die_41 : decode cX8_die 41 = .ok (.aload_n 0, 1) := by decide +kernel
theorem dX8_die_42 : decode cX8_die 42 = .ok (.aload_n 1, 1) := by decide +kernel
theorem dX8_die_43 : decode cX8_die 43 = .ok (.aload_n 0, 1) := by decide +kernel
theorem dX8_die_44 : decode cX8_die 44 = .ok (.getfield 17, 3) := by decide +kernel
theorem dX8_die_47 : decode cX8_die 47 = .ok (.iload 4, 2) := by decide +kernel
theorem dX8_die_49 : decode cX8_die 49 = .ok (.aaload, 1) := by decide +kernel
theorem dX8_die_50 : decode cX8_die 50 = .ok (.getfield 60, 3) := by decide +kernel
theorem dX8_die_53 : decode cX8_die 53 = .ok (.invokevirtual 118, 3) := by decide +kernel
theorem dX8_die_56 : decode cX8_die 56 = .ok (.aastore, 1) := by decide +kernel
theorem dX8_die_57 : decode cX8_die 57 = .ok (.iinc 4 1, 3) := by decide +kernel
theorem dX8_die_60 : decode cX8_die 60 = .ok (.goto (-46), 3) := by decide +kernel
theorem dX8_die_63 : decode cX8_die 63 = .ok (.iconst 0, 1) := by decide +kernel
theorem dX8_die_64 : decode cX8_die 64 = .ok (.istore 4, 2) := by decide +kernel
theorem dX8_die_66 : decode cX8_die 66 = .ok (.iload 4, 2) := by decide +kernel
theorem dX8_die_68 : decode cX8_die 68 = .ok (.aload_n 0, 1) := by decide +kernel
theorem dX8_die_69 : decode cX8_die 69 = .ok (.getfield 17, 3) := by decide +kernel
theorem dX8_die_72 : decode cX8_die 72 = .ok (.arraylength, 1) := by decide +kernel
theorem dX8_die_73 : decode cX8_die 73 = .ok (.if_icmp .ge 44, 3) := by decide +kernel
theorem dX8_die_76 : decode cX8_die 76 = .ok (.aload_n 0, 1) := by decide +kernel
theorem dX8_die_77 : decode cX8_die 77 = .ok (.getfield 17, 3) := by decide +kernel
theorem dX8_die_80 : decode cX8_die 80 = .ok (.iload 4, 2) := by decide +kernel
theorem dX8_die_82 : decode cX8_die 82 = .ok (.aaload, 1) := by decide +kernel
theorem dX8_die_83 : decode cX8_die 83 = .ok (.getfield 50, 3) := by decide +kernel
theorem dX8_die_86 : decode cX8_die 86 = .ok (.aload_n 1, 1) := by decide +kernel
theorem dX8_die_87 : decode cX8_die 87 = .ok (.if_acmp .eq 6, 3) := by decide +kernel
theorem dX8_die_90 : decode cX8_die 90 = .ok (.goto 21, 3) := by decide +kernel
theorem dX8_die_93 : decode cX8_die 93 = .ok (.aload_n 0, 1) := by decide +kernel
theorem dX8_die_94 : decode cX8_die 94 = .ok (.aload_n 0, 1) := by decide +kernel
theorem dX8_die_95 : decode cX8_die 95 = .ok (.getfield 17, 3) := by decide +kernel
theorem dX8_die_98 : decode cX8_die 98 = .ok (.iload 4, 2) := by decide +kernel
theorem dX8_die_100 : decode cX8_die 100 = .ok (.aaload, 1) := by decide +kernel
theorem dX8_die_101 : decode cX8_die 101 = .ok (.aload_n 2, 1) := by decide +kernel
theorem dX8_die_102 : decode cX8_die 102 = .ok (.iload 4, 2) := by decide +kernel
theorem dX8_die_104 : decode cX8_die 104 = .ok (.aaload, 1) := by decide +kernel
theorem dX8_die_105 : decode cX8_die 105 = .ok (.invokevirtual 63, 3) := by decide +kernel
theorem dX8_die_108 : decode cX8_die 108 = .ok (.iinc 3 1, 3) := by decide +kernel
theorem dX8_die_111 : decode cX8_die 111 = .ok (.iinc 4 1, 3) := by decide +kernel
theorem dX8_die_114 : decode cX8_die 114 = .ok (.goto (-48), 3) := by decide +kernel
theorem dX8_die_117 : decode cX8_die 117 = .ok (.aload_n 1, 1) := by decide +kernel
theorem dX8_die_118 : decode cX8_die 118 = .ok (.aload_n 0, 1) := by decide +kernel
theorem dX8_die_119 : decode cX8_die 119 = .ok (.getfield 30, 3) := by decide +kernel
theorem dX8_die_122 : decode cX8_die 122 = .ok (.putfield 93, 3) := by decide +kernel
theorem dX8_die_125 : decode cX8_die 125 = .ok (.aload_n 0, 1) := by decide +kernel
theorem dX8_die_126 : decode cX8_die 126 = .ok (.aload_n 1, 1) := by decide +kernel
theorem dX8_die_127 : decode cX8_die 127 = .ok (.invokevirtual 114, 3) := by decide +kernel
theorem dX8_die_130 : decode cX8_die 130 = .ok (.iload_n 3, 1) := by decide +kernel
theorem dX8_die_131 : decode cX8_die 131 = .ok (.ireturn, 1) := by decide +kernel
theorem dX8_pass_0 : decode cX8_pass 0 = .ok (.iconst 0, 1) := by decide +kernel
theorem dX8_pass_1 : decode cX8_pass 1 = .ok (.istore_n 1, 1) := by decide +kernel
theorem dX8_pass_2 : decode cX8_pass 2 = .ok (.aload_n 0, 1) := by decide +kernel
theorem dX8_pass_3 : decode cX8_pass 3 = .ok (.dup, 1) := by decide +kernel
theorem dX8_pass_4 : decode cX8_pass 4 = .ok (.getfield 30, 3) := by decide +kernel
theorem dX8_pass_7 : decode cX8_pass 7 = .ok (.iconst 1, 1) := by decide +kernel
theorem dX8_pass_8 : decode cX8_pass 8 = .ok (.iadd, 1) := by decide +kernel
theorem dX8_pass_9 : decode cX8_pass 9 = .ok (.putfield 30, 3) := by decide +kernel
theorem dX8_pass_12 : decode cX8_pass 12 = .ok (.aload_n 0, 1) := by decide +kernel
theorem dX8_pass_13 : decode cX8_pass 13 = .ok (.getfield 9, 3) := by decide +kernel
theorem dX8_pass_16 : decode cX8_pass 16 = .ok (.astore_n 2, 1) := by decide +kernel
theorem dX8_pass_17 : decode cX8_pass 17 = .ok (.aload_n 2, 1) := by decide +kernel
theorem dX8_pass_18 : decode cX8_pass 18 = .ok (.arraylength, 1) := by decide +kernel
theorem dX8_pass_19 : decode cX8_pass 19 = .ok (.istore_n 3, 1) := by decide +kernel
theorem dX8_pass_20 : decode cX8_pass 20 = .ok (.iconst 0, 1) := by decide +kernel
theorem dX8_pass_21 : decode cX8_pass 21 = .ok (.istore 4, 2) := by decide +kernel
theorem dX8_pass_23 : decode cX8_pass 23 = .ok (.iload 4, 2) := by decide +kernel
theorem dX8_pass_25 : decode cX8_pass 25 = .ok (.iload_n 3, 1) := by decide +kernel
theorem dX8_pass_26 : decode cX8_pass 26 = .ok (.if_icmp .ge 51, 3) := by decide +kernel
theorem dX8_pass_29 : decode cX8_pass 29 = .ok (.aload_n 2, 1) := by decide +kernel
theorem dX8_pass_30 : decode cX8_pass 30 = .ok (.iload 4, 2) := by decide +kernel
theorem dX8_pass_32 : decode cX8_pass 32 = .ok (.aaload, 1) := by decide +kernel
theorem dX8_pass_33 : decode cX8_pass 33 = .ok (.astore 5, 2) := by decide +kernel
theorem dX8_pass_35 : decode cX8_pass 35 = .ok (.aload 5, 2) := by decide +kernel
theorem dX8_pass_37 : decode cX8_pass 37 = .ok (.getfield 93, 3) := by decide +kernel
theorem dX8_pass_40 : decode cX8_pass 40 = .ok (.ifCond .ge 31, 3) := by decide +kernel
theorem dX8_pass_43 : decode cX8_pass 43 = .ok (.aload_n 0, 1) := by decide +kernel
theorem dX8_pass_44 : decode cX8_pass 44 = .ok (.getfield 30, 3) := by decide +kernel
theorem dX8_pass_47 : decode cX8_pass 47 = .ok (.aload 5, 2) := by decide +kernel
theorem dX8_pass_49 : decode cX8_pass 49 = .ok (.getfield 33, 3) := by decide +kernel
theorem dX8_pass_52 : decode cX8_pass 52 = .ok (.isub, 1) := by decide +kernel
theorem dX8_pass_53 : decode cX8_pass 53 = .ok (.bipush 80, 2) := by decide +kernel
theorem dX8_pass_55 : decode cX8_pass 55 = .ok (.if_icmp .ge 6, 3) := by decide +kernel
theorem dX8_pass_58 : decode cX8_pass 58 = .ok (.goto 13, 3) := by decide +kernel
theorem dX8_pass_61 : decode cX8_pass 61 = .ok (.aload_n 0, 1) := by decide +kernel
theorem dX8_pass_62 : decode cX8_pass 62 = .ok (.aload 5, 2) := by decide +kernel
theorem dX8_pass_64 : decode cX8_pass 64 = .ok (.invokevirtual 122, 3) := by decide +kernel
theorem dX8_pass_67 : decode cX8_pass 67 = .ok (.pop, 1) := by decide +kernel
theorem dX8_pass_68 : decode cX8_pass 68 = .ok (.iinc 1 1, 3) := by decide +kernel
theorem dX8_pass_71 : decode cX8_pass 71 = .ok (.iinc 4 1, 3) := by decide +kernel
theorem dX8_pass_74 : decode cX8_pass 74 = .ok (.goto (-51), 3) := by decide +kernel
theorem dX8_pass_77 : decode cX8_pass 77 = .ok (.iload_n 1, 1) := by decide +kernel
theorem dX8_pass_78 : decode cX8_pass 78 = .ok (.ireturn, 1) := by decide +kernel
theorem dX8_number_0 : decode cX8_number 0 = .ok (.aload_n 0, 1) := by decide +kernel
theorem dX8_number_1 : decode cX8_number 1 = .ok (.ifnonnull 7, 3) := by decide +kernel
theorem dX8_number_4 : decode cX8_number 4 = .ok (.iconst (-1), 1) := by decide +kernel
theorem dX8_number_5 : decode cX8_number 5 = .ok (.goto 7, 3) := by decide +kernel
theorem dX8_number_8 : decode cX8_number 8 = .ok (.aload_n 0, 1) := by decide +kernel
theorem dX8_number_9 : decode cX8_number 9 = .ok (.getfield 22, 3) := by decide +kernel
theorem dX8_number_12 : decode cX8_number 12 = .ok (.ireturn, 1) := by decide +kernel
theorem dX8_isSame_0 : decode cX8_isSame 0 = .ok (.iconst 0, 1) := by decide +kernel
theorem dX8_isSame_1 : decode cX8_isSame 1 = .ok (.istore_n 2, 1) := by decide +kernel
theorem dX8_isSame_2 : decode cX8_isSame 2 = .ok (.iconst 0, 1) := by decide +kernel
theorem dX8_isSame_3 : decode cX8_isSame 3 = .ok (.istore_n 3, 1) := by decide +kernel
theorem dX8_isSame_4 : decode cX8_isSame 4 = .ok (.iconst 0, 1) := by decide +kernel
theorem dX8_isSame_5 : decode cX8_isSame 5 = .ok (.istore 4, 2) := by decide +kernel
theorem dX8_isSame_7 : decode cX8_isSame 7 = .ok (.iconst 0, 1) := by decide +kernel
theorem dX8_isSame_8 : decode cX8_isSame 8 = .ok (.istore 5, 2) := by decide +kernel
theorem dX8_isSame_10 : decode cX8_isSame 10 = .ok (.iconst 0, 1) := by decide +kernel
theorem dX8_isSame_11 : decode cX8_isSame 11 = .ok (.istore 6, 2) := by decide +kernel
theorem dX8_isSame_13 : decode cX8_isSame 13 = .ok (.iconst 0, 1) := by decide +kernel
theorem dX8_isSame_14 : decode cX8_isSame 14 = .ok (.istore 7, 2) := by decide +kernel
theorem dX8_isSame_16 : decode cX8_isSame 16 = .ok (.aload_n 0, 1) := by decide +kernel
theorem dX8_isSame_17 : decode cX8_isSame 17 = .ok (.getfield 9, 3) := by decide +kernel
theorem dX8_isSame_20 : decode cX8_isSame 20 = .ok (.astore 8, 2) := by decide +kernel
theorem dX8_isSame_22 : decode cX8_isSame 22 = .ok (.aload 8, 2) := by decide +kernel
theorem dX8_isSame_24 : decode cX8_isSame 24 = .ok (.arraylength, 1) := by decide +kernel
theorem dX8_isSame_25 : decode cX8_isSame 25 = .ok (.istore 9, 2) := by decide +kernel
theorem dX8_isSame_27 : decode cX8_isSame 27 = .ok (.iconst 0, 1) := by decide +kernel
theorem dX8_isSame_28 : decode cX8_isSame 28 = .ok (.istore 10, 2) := by decide +kernel
theorem dX8_isSame_30 : decode cX8_isSame 30 = .ok (.iload 10, 2) := by decide +kernel
theorem dX8_isSame_32 : decode cX8_isSame 32 = .ok (.iload 9, 2) := by decide +kernel
theorem dX8_isSame_34 : decode cX8_isSame 34 = .ok (.if_icmp .ge 283, 3) := by decide +kernel
theorem dX8_isSame_37 : decode cX8_isSame 37 = .ok (.aload 8, 2) := by decide +kernel
theorem dX8_isSame_39 : decode cX8_isSame 39 = .ok (.iload 10, 2) := by decide +kernel
theorem dX8_isSame_41 : decode cX8_isSame 41 = .ok (.aaload, 1) := by decide +kernel
theorem dX8_isSame_42 : decode cX8_isSame 42 = .ok (.astore 11, 2) := by decide +kernel
theorem dX8_isSame_44 : decode cX8_isSame 44 = .ok (.aload 11, 2) := by decide +kernel
theorem dX8_isSame_46 : decode cX8_isSame 46 = .ok (.getfield 93, 3) := by decide +kernel
theorem dX8_isSame_49 : decode cX8_isSame 49 = .ok (.ifCond .ge 7, 3) := by decide +kernel
theorem dX8_isSame_52 : decode cX8_isSame 52 = .ok (.iconst 1, 1) := by decide +kernel
theorem dX8_isSame_53 : decode cX8_isSame 53 = .ok (.goto 4, 3) := by decide +kernel
theorem dX8_isSame_56 : decode cX8_isSame 56 = .ok (.iconst 0, 1) := by decide +kernel
theorem dX8_isSame_57 : decode cX8_isSame 57 = .ok (.istore 12, 2) := by decide +kernel
theorem dX8_isSame_59 : decode cX8_isSame 59 = .ok (.bipush 10, 2) := by decide +kernel
theorem dX8_isSame_61 : decode cX8_isSame 61 = .ok (.newarray .int, 2) := by decide +kernel
theorem dX8_isSame_63 : decode cX8_isSame 63 = .ok (.dup, 1) := by decide +kernel
theorem dX8_isSame_64 : decode cX8_isSame 64 = .ok (.iconst 0, 1) := by decide +kernel
theorem dX8_isSame_65 : decode cX8_isSame 65 = .ok (.aload 11, 2) := by decide +kernel
theorem dX8_isSame_67 : decode cX8_isSame 67 = .ok (.getfield 26, 3) := by decide +kernel
theorem dX8_isSame_70 : decode cX8_isSame 70 = .ok (.ifCond .eq 7, 3) := by decide +kernel
theorem dX8_isSame_73 : decode cX8_isSame 73 = .ok (.iconst 1, 1) := by decide +kernel
theorem dX8_isSame_74 : decode cX8_isSame 74 = .ok (.goto 4, 3) := by decide +kernel
theorem dX8_isSame_77 : decode cX8_isSame 77 = .ok (.iconst 0, 1) := by decide +kernel
theorem dX8_isSame_78 : decode cX8_isSame 78 = .ok (.iastore, 1) := by decide +kernel
theorem dX8_isSame_79 : decode cX8_isSame 79 = .ok (.dup, 1) := by decide +kernel
theorem dX8_isSame_80 : decode cX8_isSame 80 = .ok (.iconst 1, 1) := by decide +kernel
theorem dX8_isSame_81 : decode cX8_isSame 81 = .ok (.aload 11, 2) := by decide +kernel
theorem dX8_isSame_83 : decode cX8_isSame 83 = .ok (.getfield 33, 3) := by decide +kernel
theorem dX8_isSame_86 : decode cX8_isSame 86 = .ok (.iastore, 1) := by decide +kernel
theorem dX8_isSame_87 : decode cX8_isSame 87 = .ok (.dup, 1) := by decide +kernel
theorem dX8_isSame_88 : decode cX8_isSame 88 = .ok (.iconst 2, 1) := by decide +kernel
theorem dX8_isSame_89 : decode cX8_isSame 89 = .ok (.iload 12, 2) := by decide +kernel
theorem dX8_isSame_91 : decode cX8_isSame 91 = .ok (.ifCond .eq 7, 3) := by decide +kernel
theorem dX8_isSame_94 : decode cX8_isSame 94 = .ok (.iconst 1, 1) := by decide +kernel
theorem dX8_isSame_95 : decode cX8_isSame 95 = .ok (.goto 4, 3) := by decide +kernel
theorem dX8_isSame_98 : decode cX8_isSame 98 = .ok (.iconst 0, 1) := by decide +kernel
theorem dX8_isSame_99 : decode cX8_isSame 99 = .ok (.iastore, 1) := by decide +kernel
theorem dX8_isSame_100 : decode cX8_isSame 100 = .ok (.dup, 1) := by decide +kernel
theorem dX8_isSame_101 : decode cX8_isSame 101 = .ok (.iconst 3, 1) := by decide +kernel
theorem dX8_isSame_102 : decode cX8_isSame 102 = .ok (.aload 11, 2) := by decide +kernel
theorem dX8_isSame_104 : decode cX8_isSame 104 = .ok (.getfield 40, 3) := by decide +kernel
theorem dX8_isSame_107 : decode cX8_isSame 107 = .ok (.invokestatic 125, 3) := by decide +kernel
theorem dX8_isSame_110 : decode cX8_isSame 110 = .ok (.iastore, 1) := by decide +kernel
theorem dX8_isSame_111 : decode cX8_isSame 111 = .ok (.dup, 1) := by decide +kernel
theorem dX8_isSame_112 : decode cX8_isSame 112 = .ok (.iconst 4, 1) := by decide +kernel
theorem dX8_isSame_113 : decode cX8_isSame 113 = .ok (.aload 11, 2) := by decide +kernel
theorem dX8_isSame_115 : decode cX8_isSame 115 = .ok (.getfield 47, 3) := by decide +kernel
theorem dX8_isSame_118 : decode cX8_isSame 118 = .ok (.invokestatic 125, 3) := by decide +kernel
theorem dX8_isSame_121 : decode cX8_isSame 121 = .ok (.iastore, 1) := by decide +kernel
theorem dX8_isSame_122 : decode cX8_isSame 122 = .ok (.dup, 1) := by decide +kernel
theorem dX8_isSame_123 : decode cX8_isSame 123 = .ok (.iconst 5, 1) := by decide +kernel
theorem dX8_isSame_124 : decode cX8_isSame 124 = .ok (.aload 11, 2) := by decide +kernel
theorem dX8_isSame_126 : decode cX8_isSame 126 = .ok (.getfield 44, 3) := by decide +kernel
theorem dX8_isSame_129 : decode cX8_isSame 129 = .ok (.invokestatic 125, 3) := by decide +kernel
theorem dX8_isSame_132 : decode cX8_isSame 132 = .ok (.iastore, 1) := by decide +kernel
theorem dX8_isSame_133 : decode cX8_isSame 133 = .ok (.dup, 1) := by decide +kernel
theorem dX8_isSame_134 : decode cX8_isSame 134 = .ok (.bipush 6, 2) := by decide +kernel
theorem dX8_isSame_136 : decode cX8_isSame 136 = .ok (.aload_n 0, 1) := by decide +kernel
theorem dX8_isSame_137 : decode cX8_isSame 137 = .ok (.aload 11, 2) := by decide +kernel
theorem dX8_isSame_139 : decode cX8_isSame 139 = .ok (.invokevirtual 77, 3) := by decide +kernel
theorem dX8_isSame_142 : decode cX8_isSame 142 = .ok (.iastore, 1) := by decide +kernel
theorem dX8_isSame_143 : decode cX8_isSame 143 = .ok (.dup, 1) := by decide +kernel
theorem dX8_isSame_144 : decode cX8_isSame 144 = .ok (.bipush 7, 2) := by decide +kernel
theorem dX8_isSame_146 : decode cX8_isSame 146 = .ok (.aload_n 0, 1) := by decide +kernel
theorem dX8_isSame_147 : decode cX8_isSame 147 = .ok (.aload 11, 2) := by decide +kernel
theorem dX8_isSame_149 : decode cX8_isSame 149 = .ok (.invokevirtual 127, 3) := by decide +kernel
theorem dX8_isSame_152 : decode cX8_isSame 152 = .ok (.iastore, 1) := by decide +kernel
theorem dX8_isSame_153 : decode cX8_isSame 153 = .ok (.dup, 1) := by decide +kernel
theorem dX8_isSame_154 : decode cX8_isSame 154 = .ok (.bipush 8, 2) := by decide +kernel
theorem dX8_isSame_156 : decode cX8_isSame 156 = .ok (.aload_n 0, 1) := by decide +kernel
theorem dX8_isSame_157 : decode cX8_isSame 157 = .ok (.aload 11, 2) := by decide +kernel
theorem dX8_isSame_159 : decode cX8_isSame 159 = .ok (.invokevirtual 130, 3) := by decide +kernel
theorem dX8_isSame_162 : decode cX8_isSame 162 = .ok (.iastore, 1) := by decide +kernel
theorem dX8_isSame_163 : decode cX8_isSame 163 = .ok (.dup, 1) := by decide +kernel
theorem dX8_isSame_164 : decode cX8_isSame 164 = .ok (.bipush 9, 2) := by decide +kernel
theorem dX8_isSame_166 : decode cX8_isSame 166 = .ok (.aload 11, 2) := by decide +kernel
theorem dX8_isSame_168 : decode cX8_isSame 168 = .ok (.getfield 93, 3) := by decide +kernel
theorem dX8_isSame_171 : decode cX8_isSame 171 = .ok (.iastore, 1) := by decide +kernel
theorem dX8_isSame_172 : decode cX8_isSame 172 = .ok (.astore 13, 2) := by decide +kernel
theorem dX8_isSame_174 : decode cX8_isSame 174 = .ok (.iconst 0, 1) := by decide +kernel
theorem dX8_isSame_175 : decode cX8_isSame 175 = .ok (.istore 14, 2) := by decide +kernel
theorem dX8_isSame_177 : decode cX8_isSame 177 = .ok (.iload 14, 2) := by decide +kernel
theorem dX8_isSame_179 : decode cX8_isSame 179 = .ok (.bipush 10, 2) := by decide +kernel
theorem dX8_isSame_181 : decode cX8_isSame 181 = .ok (.if_icmp .ge 30, 3) := by decide +kernel
theorem dX8_isSame_184 : decode cX8_isSame 184 = .ok (.aload_n 1, 1) := by decide +kernel
theorem dX8_isSame_185 : decode cX8_isSame 185 = .ok (.aload 11, 2) := by decide +kernel
theorem dX8_isSame_187 : decode cX8_isSame 187 = .ok (.getfield 22, 3) := by decide +kernel
theorem dX8_isSame_190 : decode cX8_isSame 190 = .ok (.iload 14, 2) := by decide +kernel
theorem dX8_isSame_192 : decode cX8_isSame 192 = .ok (.invokevirtual 132, 3) := by decide +kernel
theorem dX8_isSame_195 : decode cX8_isSame 195 = .ok (.aload 13, 2) := by decide +kernel
theorem dX8_isSame_197 : decode cX8_isSame 197 = .ok (.iload 14, 2) := by decide +kernel
theorem dX8_isSame_199 : decode cX8_isSame 199 = .ok (.iaload, 1) := by decide +kernel
theorem dX8_isSame_200 : decode cX8_isSame 200 = .ok (.if_icmp .eq 5, 3) := by decide +kernel
theorem dX8_isSame_203 : decode cX8_isSame 203 = .ok (.iconst 0, 1) := by decide +kernel
theorem dX8_isSame_204 : decode cX8_isSame 204 = .ok (.ireturn, 1) := by decide +kernel
theorem dX8_isSame_205 : decode cX8_isSame 205 = .ok (.iinc 14 1, 3) := by decide +kernel
theorem dX8_isSame_208 : decode cX8_isSame 208 = .ok (.goto (-31), 3) := by decide +kernel
theorem dX8_isSame_211 : decode cX8_isSame 211 = .ok (.iload_n 2, 1) := by decide +kernel
theorem dX8_isSame_212 : decode cX8_isSame 212 = .ok (.aload 13, 2) := by decide +kernel
theorem dX8_isSame_214 : decode cX8_isSame 214 = .ok (.iconst 2, 1) := by decide +kernel
theorem dX8_isSame_215 : decode cX8_isSame 215 = .ok (.iaload, 1) := by decide +kernel
theorem dX8_isSame_216 : decode cX8_isSame 216 = .ok (.iadd, 1) := by decide +kernel
theorem dX8_isSame_217 : decode cX8_isSame 217 = .ok (.istore_n 2, 1) := by decide +kernel
theorem dX8_isSame_218 : decode cX8_isSame 218 = .ok (.iload_n 3, 1) := by decide +kernel
theorem dX8_isSame_219 : decode cX8_isSame 219 = .ok (.aload 11, 2) := by decide +kernel
theorem dX8_isSame_221 : decode cX8_isSame 221 = .ok (.getfield 44, 3) := by decide +kernel
theorem dX8_isSame_224 : decode cX8_isSame 224 = .ok (.ifnonnull 7, 3) := by decide +kernel
theorem dX8_isSame_227 : decode cX8_isSame 227 = .ok (.iconst 0, 1) := by decide +kernel
theorem dX8_isSame_228 : decode cX8_isSame 228 = .ok (.goto 4, 3) := by decide +kernel
theorem dX8_isSame_231 : decode cX8_isSame 231 = .ok (.iconst 1, 1) := by decide +kernel
theorem dX8_isSame_232 : decode cX8_isSame 232 = .ok (.iadd, 1) := by decide +kernel
theorem dX8_isSame_233 : decode cX8_isSame 233 = .ok (.istore_n 3, 1) := by decide +kernel
theorem dX8_isSame_234 : decode cX8_isSame 234 = .ok (.iload 5, 2) := by decide +kernel
theorem dX8_isSame_236 : decode cX8_isSame 236 = .ok (.aload_n 0, 1) := by decide +kernel
theorem dX8_isSame_237 : decode cX8_isSame 237 = .ok (.aload 11, 2) := by decide +kernel
theorem dX8_isSame_239 : decode cX8_isSame 239 = .ok (.invokevirtual 127, 3) := by decide +kernel
theorem dX8_isSame_242 : decode cX8_isSame 242 = .ok (.ifCond .le 7, 3) := by decide +kernel
theorem dX8_isSame_245 : decode cX8_isSame 245 = .ok (.iconst 1, 1) := by decide +kernel
theorem dX8_isSame_246 : decode cX8_isSame 246 = .ok (.goto 4, 3) := by decide +kernel
theorem dX8_isSame_249 : decode cX8_isSame 249 = .ok (.iconst 0, 1) := by decide +kernel
theorem dX8_isSame_250 : decode cX8_isSame 250 = .ok (.iadd, 1) := by decide +kernel
theorem dX8_isSame_251 : decode cX8_isSame 251 = .ok (.istore 5, 2) := by decide +kernel
theorem dX8_isSame_253 : decode cX8_isSame 253 = .ok (.iload 6, 2) := by decide +kernel
theorem dX8_isSame_255 : decode cX8_isSame 255 = .ok (.aload_n 0, 1) := by decide +kernel
theorem dX8_isSame_256 : decode cX8_isSame 256 = .ok (.aload 11, 2) := by decide +kernel
theorem dX8_isSame_258 : decode cX8_isSame 258 = .ok (.invokevirtual 127, 3) := by decide +kernel
theorem dX8_isSame_261 : decode cX8_isSame 261 = .ok (.ifCond .le 22, 3) := by decide +kernel
theorem dX8_isSame_264 : decode cX8_isSame 264 = .ok (.aload_n 0, 1) := by decide +kernel
theorem dX8_isSame_265 : decode cX8_isSame 265 = .ok (.getfield 30, 3) := by decide +kernel
theorem dX8_isSame_268 : decode cX8_isSame 268 = .ok (.aload 11, 2) := by decide +kernel
theorem dX8_isSame_270 : decode cX8_isSame 270 = .ok (.getfield 33, 3) := by decide +kernel
theorem dX8_isSame_273 : decode cX8_isSame 273 = .ok (.isub, 1) := by decide +kernel
theorem dX8_isSame_274 : decode cX8_isSame 274 = .ok (.bipush 16, 2) := by decide +kernel
theorem dX8_isSame_276 : decode cX8_isSame 276 = .ok (.if_icmp .ge 7, 3) := by decide +kernel
theorem dX8_isSame_279 : decode cX8_isSame 279 = .ok (.iconst 1, 1) := by decide +kernel
theorem dX8_isSame_280 : decode cX8_isSame 280 = .ok (.goto 4, 3) := by decide +kernel
theorem dX8_isSame_283 : decode cX8_isSame 283 = .ok (.iconst 0, 1) := by decide +kernel
theorem dX8_isSame_284 : decode cX8_isSame 284 = .ok (.iadd, 1) := by decide +kernel
theorem dX8_isSame_285 : decode cX8_isSame 285 = .ok (.istore 6, 2) := by decide +kernel
theorem dX8_isSame_287 : decode cX8_isSame 287 = .ok (.iload 7, 2) := by decide +kernel
theorem dX8_isSame_289 : decode cX8_isSame 289 = .ok (.iload 12, 2) := by decide +kernel
theorem dX8_isSame_291 : decode cX8_isSame 291 = .ok (.ifCond .eq 16, 3) := by decide +kernel
theorem dX8_isSame_294 : decode cX8_isSame 294 = .ok (.aload_n 0, 1) := by decide +kernel
theorem dX8_isSame_295 : decode cX8_isSame 295 = .ok (.getfield 30, 3) := by decide +kernel
theorem dX8_isSame_298 : decode cX8_isSame 298 = .ok (.aload 11, 2) := by decide +kernel
theorem dX8_isSame_300 : decode cX8_isSame 300 = .ok (.getfield 33, 3) := by decide +kernel
theorem dX8_isSame_303 : decode cX8_isSame 303 = .ok (.isub, 1) := by decide +kernel
theorem dX8_isSame_304 : decode cX8_isSame 304 = .ok (.goto 4, 3) := by decide +kernel
theorem dX8_isSame_307 : decode cX8_isSame 307 = .ok (.iconst 0, 1) := by decide +kernel
theorem dX8_isSame_308 : decode cX8_isSame 308 = .ok (.iadd, 1) := by decide +kernel
theorem dX8_isSame_309 : decode cX8_isSame 309 = .ok (.istore 7, 2) := by decide +kernel
theorem dX8_isSame_311 : decode cX8_isSame 311 = .ok (.iinc 10 1, 3) := by decide +kernel
theorem dX8_isSame_314 : decode cX8_isSame 314 = .ok (.goto (-284), 3) := by decide +kernel
theorem dX8_isSame_317 : decode cX8_isSame 317 = .ok (.iconst 0, 1) := by decide +kernel
theorem dX8_isSame_318 : decode cX8_isSame 318 = .ok (.istore 8, 2) := by decide +kernel
theorem dX8_isSame_320 : decode cX8_isSame 320 = .ok (.iload 8, 2) := by decide +kernel
theorem dX8_isSame_322 : decode cX8_isSame 322 = .ok (.aload_n 0, 1) := by decide +kernel
theorem dX8_isSame_323 : decode cX8_isSame 323 = .ok (.getfield 17, 3) := by decide +kernel
theorem dX8_isSame_326 : decode cX8_isSame 326 = .ok (.arraylength, 1) := by decide +kernel
theorem dX8_isSame_327 : decode cX8_isSame 327 = .ok (.if_icmp .ge 210, 3) := by decide +kernel
theorem dX8_isSame_330 : decode cX8_isSame 330 = .ok (.aload_n 0, 1) := by decide +kernel
theorem dX8_isSame_331 : decode cX8_isSame 331 = .ok (.getfield 17, 3) := by decide +kernel
theorem dX8_isSame_334 : decode cX8_isSame 334 = .ok (.iload 8, 2) := by decide +kernel
theorem dX8_isSame_336 : decode cX8_isSame 336 = .ok (.aaload, 1) := by decide +kernel
theorem dX8_isSame_337 : decode cX8_isSame 337 = .ok (.astore 9, 2) := by decide +kernel
theorem dX8_isSame_339 : decode cX8_isSame 339 = .ok (.iload 4, 2) := by decide +kernel
theorem dX8_isSame_341 : decode cX8_isSame 341 = .ok (.aload 9, 2) := by decide +kernel
theorem dX8_isSame_343 : decode cX8_isSame 343 = .ok (.getfield 50, 3) := by decide +kernel
theorem dX8_isSame_346 : decode cX8_isSame 346 = .ok (.ifnonnull 7, 3) := by decide +kernel
theorem dX8_isSame_349 : decode cX8_isSame 349 = .ok (.iconst 1, 1) := by decide +kernel
theorem dX8_isSame_350 : decode cX8_isSame 350 = .ok (.goto 4, 3) := by decide +kernel
theorem dX8_isSame_353 : decode cX8_isSame 353 = .ok (.iconst 0, 1) := by decide +kernel
theorem dX8_isSame_354 : decode cX8_isSame 354 = .ok (.iadd, 1) := by decide +kernel
theorem dX8_isSame_355 : decode cX8_isSame 355 = .ok (.istore 4, 2) := by decide +kernel
theorem dX8_isSame_357 : decode cX8_isSame 357 = .ok (.bipush 6, 2) := by decide +kernel
theorem dX8_isSame_359 : decode cX8_isSame 359 = .ok (.newarray .int, 2) := by decide +kernel
theorem dX8_isSame_361 : decode cX8_isSame 361 = .ok (.dup, 1) := by decide +kernel
theorem dX8_isSame_362 : decode cX8_isSame 362 = .ok (.iconst 0, 1) := by decide +kernel
theorem dX8_isSame_363 : decode cX8_isSame 363 = .ok (.aload 9, 2) := by decide +kernel
theorem dX8_isSame_365 : decode cX8_isSame 365 = .ok (.getfield 57, 3) := by decide +kernel
theorem dX8_isSame_368 : decode cX8_isSame 368 = .ok (.iastore, 1) := by decide +kernel
theorem dX8_isSame_369 : decode cX8_isSame 369 = .ok (.dup, 1) := by decide +kernel
theorem dX8_isSame_370 : decode cX8_isSame 370 = .ok (.iconst 1, 1) := by decide +kernel
theorem dX8_isSame_371 : decode cX8_isSame 371 = .ok (.aload 9, 2) := by decide +kernel
theorem dX8_isSame_373 : decode cX8_isSame 373 = .ok (.getfield 60, 3) := by decide +kernel
theorem dX8_isSame_376 : decode cX8_isSame 376 = .ok (.iastore, 1) := by decide +kernel
theorem dX8_isSame_377 : decode cX8_isSame 377 = .ok (.dup, 1) := by decide +kernel
theorem dX8_isSame_378 : decode cX8_isSame 378 = .ok (.iconst 2, 1) := by decide +kernel
theorem dX8_isSame_379 : decode cX8_isSame 379 = .ok (.aload 9, 2) := by decide +kernel
theorem dX8_isSame_381 : decode cX8_isSame 381 = .ok (.getfield 50, 3) := by decide +kernel
theorem dX8_isSame_384 : decode cX8_isSame 384 = .ok (.invokestatic 125, 3) := by decide +kernel
theorem dX8_isSame_387 : decode cX8_isSame 387 = .ok (.iastore, 1) := by decide +kernel
theorem dX8_isSame_388 : decode cX8_isSame 388 = .ok (.dup, 1) := by decide +kernel
theorem dX8_isSame_389 : decode cX8_isSame 389 = .ok (.iconst 3, 1) := by decide +kernel
theorem dX8_isSame_390 : decode cX8_isSame 390 = .ok (.aload_n 0, 1) := by decide +kernel
theorem dX8_isSame_391 : decode cX8_isSame 391 = .ok (.aload 9, 2) := by decide +kernel
theorem dX8_isSame_393 : decode cX8_isSame 393 = .ok (.getfield 50, 3) := by decide +kernel
theorem dX8_isSame_396 : decode cX8_isSame 396 = .ok (.invokevirtual 137, 3) := by decide +kernel
theorem dX8_isSame_399 : decode cX8_isSame 399 = .ok (.invokestatic 125, 3) := by decide +kernel
theorem dX8_isSame_402 : decode cX8_isSame 402 = .ok (.iastore, 1) := by decide +kernel
theorem dX8_isSame_403 : decode cX8_isSame 403 = .ok (.dup, 1) := by decide +kernel
theorem dX8_isSame_404 : decode cX8_isSame 404 = .ok (.iconst 4, 1) := by decide +kernel
theorem dX8_isSame_405 : decode cX8_isSame 405 = .ok (.aload 9, 2) := by decide +kernel
theorem dX8_isSame_407 : decode cX8_isSame 407 = .ok (.getfield 50, 3) := by decide +kernel
theorem dX8_isSame_410 : decode cX8_isSame 410 = .ok (.ifnonnull 7, 3) := by decide +kernel
theorem dX8_isSame_413 : decode cX8_isSame 413 = .ok (.iconst (-1), 1) := by decide +kernel
theorem dX8_isSame_414 : decode cX8_isSame 414 = .ok (.goto 20, 3) := by decide +kernel
theorem dX8_isSame_417 : decode cX8_isSame 417 = .ok (.aload_n 0, 1) := by decide +kernel
theorem dX8_isSame_418 : decode cX8_isSame 418 = .ok (.aload 9, 2) := by decide +kernel
theorem dX8_isSame_420 : decode cX8_isSame 420 = .ok (.getfield 50, 3) := by decide +kernel
theorem dX8_isSame_423 : decode cX8_isSame 423 = .ok (.aload 9, 2) := by decide +kernel
theorem dX8_isSame_425 : decode cX8_isSame 425 = .ok (.getfield 60, 3) := by decide +kernel
theorem dX8_isSame_428 : decode cX8_isSame 428 = .ok (.invokevirtual 118, 3) := by decide +kernel
theorem dX8_isSame_431 : decode cX8_isSame 431 = .ok (.invokestatic 125, 3) := by decide +kernel
theorem dX8_isSame_434 : decode cX8_isSame 434 = .ok (.iastore, 1) := by decide +kernel
theorem dX8_isSame_435 : decode cX8_isSame 435 = .ok (.dup, 1) := by decide +kernel
theorem dX8_isSame_436 : decode cX8_isSame 436 = .ok (.iconst 5, 1) := by decide +kernel
theorem dX8_isSame_437 : decode cX8_isSame 437 = .ok (.aload 9, 2) := by decide +kernel
theorem dX8_isSame_439 : decode cX8_isSame 439 = .ok (.getfield 53, 3) := by decide +kernel
theorem dX8_isSame_442 : decode cX8_isSame 442 = .ok (.arraylength, 1) := by decide +kernel
theorem dX8_isSame_443 : decode cX8_isSame 443 = .ok (.iastore, 1) := by decide +kernel
theorem dX8_isSame_444 : decode cX8_isSame 444 = .ok (.astore 10, 2) := by decide +kernel
theorem dX8_isSame_446 : decode cX8_isSame 446 = .ok (.iconst 0, 1) := by decide +kernel
theorem dX8_isSame_447 : decode cX8_isSame 447 = .ok (.istore 11, 2) := by decide +kernel
theorem dX8_isSame_449 : decode cX8_isSame 449 = .ok (.iload 11, 2) := by decide +kernel
theorem dX8_isSame_451 : decode cX8_isSame 451 = .ok (.bipush 6, 2) := by decide +kernel
theorem dX8_isSame_453 : decode cX8_isSame 453 = .ok (.if_icmp .ge 27, 3) := by decide +kernel
theorem dX8_isSame_456 : decode cX8_isSame 456 = .ok (.aload_n 1, 1) := by decide +kernel
theorem dX8_isSame_457 : decode cX8_isSame 457 = .ok (.iload 8, 2) := by decide +kernel
theorem dX8_isSame_459 : decode cX8_isSame 459 = .ok (.iload 11, 2) := by decide +kernel
theorem dX8_isSame_461 : decode cX8_isSame 461 = .ok (.invokevirtual 141, 3) := by decide +kernel
theorem dX8_isSame_464 : decode cX8_isSame 464 = .ok (.aload 10, 2) := by decide +kernel
theorem dX8_isSame_466 : decode cX8_isSame 466 = .ok (.iload 11, 2) := by decide +kernel
theorem dX8_isSame_468 : decode cX8_isSame 468 = .ok (.iaload, 1) := by decide +kernel
theorem dX8_isSame_469 : decode cX8_isSame 469 = .ok (.if_icmp .eq 5, 3) := by decide +kernel
theorem dX8_isSame_472 : decode cX8_isSame 472 = .ok (.iconst 0, 1) := by decide +kernel
theorem dX8_isSame_473 : decode cX8_isSame 473 = .ok (.ireturn, 1) := by decide +kernel
theorem dX8_isSame_474 : decode cX8_isSame 474 = .ok (.iinc 11 1, 3) := by decide +kernel
theorem dX8_isSame_477 : decode cX8_isSame 477 = .ok (.goto (-28), 3) := by decide +kernel
theorem dX8_isSame_480 : decode cX8_isSame 480 = .ok (.iconst 0, 1) := by decide +kernel
theorem dX8_isSame_481 : decode cX8_isSame 481 = .ok (.istore 11, 2) := by decide +kernel
theorem dX8_isSame_483 : decode cX8_isSame 483 = .ok (.iload 11, 2) := by decide +kernel
theorem dX8_isSame_485 : decode cX8_isSame 485 = .ok (.aload 9, 2) := by decide +kernel
theorem dX8_isSame_487 : decode cX8_isSame 487 = .ok (.getfield 53, 3) := by decide +kernel
theorem dX8_isSame_490 : decode cX8_isSame 490 = .ok (.arraylength, 1) := by decide +kernel
theorem dX8_isSame_491 : decode cX8_isSame 491 = .ok (.if_icmp .ge 40, 3) := by decide +kernel
theorem dX8_isSame_494 : decode cX8_isSame 494 = .ok (.iload 11, 2) := by decide +kernel
theorem dX8_isSame_496 : decode cX8_isSame 496 = .ok (.bipush 15, 2) := by decide +kernel
theorem dX8_isSame_498 : decode cX8_isSame 498 = .ok (.if_icmp .ge 33, 3) := by decide +kernel
theorem dX8_isSame_501 : decode cX8_isSame 501 = .ok (.aload_n 1, 1) := by decide +kernel
theorem dX8_isSame_502 : decode cX8_isSame 502 = .ok (.iload 8, 2) := by decide +kernel
theorem dX8_isSame_504 : decode cX8_isSame 504 = .ok (.iload 11, 2) := by decide +kernel
theorem dX8_isSame_506 : decode cX8_isSame 506 = .ok (.invokevirtual 144, 3) := by decide +kernel
theorem dX8_isSame_509 : decode cX8_isSame 509 = .ok (.aload 9, 2) := by decide +kernel
theorem dX8_isSame_511 : decode cX8_isSame 511 = .ok (.getfield 53, 3) := by decide +kernel
theorem dX8_isSame_514 : decode cX8_isSame 514 = .ok (.iload 11, 2) := by decide +kernel
theorem dX8_isSame_516 : decode cX8_isSame 516 = .ok (.aaload, 1) := by decide +kernel
theorem dX8_isSame_517 : decode cX8_isSame 517 = .ok (.getfield 22, 3) := by decide +kernel
theorem dX8_isSame_520 : decode cX8_isSame 520 = .ok (.if_icmp .eq 5, 3) := by decide +kernel
theorem dX8_isSame_523 : decode cX8_isSame 523 = .ok (.iconst 0, 1) := by decide +kernel
theorem dX8_isSame_524 : decode cX8_isSame 524 = .ok (.ireturn, 1) := by decide +kernel
theorem dX8_isSame_525 : decode cX8_isSame 525 = .ok (.iinc 11 1, 3) := by decide +kernel
theorem dX8_isSame_528 : decode cX8_isSame 528 = .ok (.goto (-45), 3) := by decide +kernel
theorem dX8_isSame_531 : decode cX8_isSame 531 = .ok (.iinc 8 1, 3) := by decide +kernel
theorem dX8_isSame_534 : decode cX8_isSame 534 = .ok (.goto (-214), 3) := by decide +kernel
theorem dX8_isSame_537 : decode cX8_isSame 537 = .ok (.bipush 8, 2) := by decide +kernel
theorem dX8_isSame_539 : decode cX8_isSame 539 = .ok (.newarray .int, 2) := by decide +kernel
theorem dX8_isSame_541 : decode cX8_isSame 541 = .ok (.dup, 1) := by decide +kernel
theorem dX8_isSame_542 : decode cX8_isSame 542 = .ok (.iconst 0, 1) := by decide +kernel
theorem dX8_isSame_543 : decode cX8_isSame 543 = .ok (.aload_n 0, 1) := by decide +kernel
theorem dX8_isSame_544 : decode cX8_isSame 544 = .ok (.getfield 30, 3) := by decide +kernel
theorem dX8_isSame_547 : decode cX8_isSame 547 = .ok (.iastore, 1) := by decide +kernel
theorem dX8_isSame_548 : decode cX8_isSame 548 = .ok (.dup, 1) := by decide +kernel
theorem dX8_isSame_549 : decode cX8_isSame 549 = .ok (.iconst 1, 1) := by decide +kernel
theorem dX8_isSame_550 : decode cX8_isSame 550 = .ok (.aload_n 0, 1) := by decide +kernel
theorem dX8_isSame_551 : decode cX8_isSame 551 = .ok (.getfield 9, 3) := by decide +kernel
theorem dX8_isSame_554 : decode cX8_isSame 554 = .ok (.arraylength, 1) := by decide +kernel
theorem dX8_isSame_555 : decode cX8_isSame 555 = .ok (.iastore, 1) := by decide +kernel
theorem dX8_isSame_556 : decode cX8_isSame 556 = .ok (.dup, 1) := by decide +kernel
theorem dX8_isSame_557 : decode cX8_isSame 557 = .ok (.iconst 2, 1) := by decide +kernel
theorem dX8_isSame_558 : decode cX8_isSame 558 = .ok (.iload_n 2, 1) := by decide +kernel
theorem dX8_isSame_559 : decode cX8_isSame 559 = .ok (.iastore, 1) := by decide +kernel
theorem dX8_isSame_560 : decode cX8_isSame 560 = .ok (.dup, 1) := by decide +kernel
theorem dX8_isSame_561 : decode cX8_isSame 561 = .ok (.iconst 3, 1) := by decide +kernel
theorem dX8_isSame_562 : decode cX8_isSame 562 = .ok (.iload_n 3, 1) := by decide +kernel
theorem dX8_isSame_563 : decode cX8_isSame 563 = .ok (.iconst 2, 1) := by decide +kernel
theorem dX8_isSame_564 : decode cX8_isSame 564 = .ok (.idiv, 1) := by decide +kernel
theorem dX8_isSame_565 : decode cX8_isSame 565 = .ok (.iastore, 1) := by decide +kernel
theorem dX8_isSame_566 : decode cX8_isSame 566 = .ok (.dup, 1) := by decide +kernel
theorem dX8_isSame_567 : decode cX8_isSame 567 = .ok (.iconst 4, 1) := by decide +kernel
theorem dX8_isSame_568 : decode cX8_isSame 568 = .ok (.aload_n 0, 1) := by decide +kernel
theorem dX8_isSame_569 : decode cX8_isSame 569 = .ok (.getfield 17, 3) := by decide +kernel
theorem dX8_isSame_572 : decode cX8_isSame 572 = .ok (.arraylength, 1) := by decide +kernel
theorem dX8_isSame_573 : decode cX8_isSame 573 = .ok (.iastore, 1) := by decide +kernel
theorem dX8_isSame_574 : decode cX8_isSame 574 = .ok (.dup, 1) := by decide +kernel
theorem dX8_isSame_575 : decode cX8_isSame 575 = .ok (.iconst 5, 1) := by decide +kernel
theorem dX8_isSame_576 : decode cX8_isSame 576 = .ok (.iload 4, 2) := by decide +kernel
theorem dX8_isSame_578 : decode cX8_isSame 578 = .ok (.iastore, 1) := by decide +kernel
theorem dX8_isSame_579 : decode cX8_isSame 579 = .ok (.dup, 1) := by decide +kernel
theorem dX8_isSame_580 : decode cX8_isSame 580 = .ok (.bipush 6, 2) := by decide +kernel
theorem dX8_isSame_582 : decode cX8_isSame 582 = .ok (.iload 5, 2) := by decide +kernel
theorem dX8_isSame_584 : decode cX8_isSame 584 = .ok (.iastore, 1) := by decide +kernel
theorem dX8_isSame_585 : decode cX8_isSame 585 = .ok (.dup, 1) := by decide +kernel
theorem dX8_isSame_586 : decode cX8_isSame 586 = .ok (.bipush 7, 2) := by decide +kernel
theorem dX8_isSame_588 : decode cX8_isSame 588 = .ok (.iload 6, 2) := by decide +kernel
theorem dX8_isSame_590 : decode cX8_isSame 590 = .ok (.iastore, 1) := by decide +kernel
theorem dX8_isSame_591 : decode cX8_isSame 591 = .ok (.astore 8, 2) := by decide +kernel
theorem dX8_isSame_593 : decode cX8_isSame 593 = .ok (.iconst 0, 1) := by decide +kernel
theorem dX8_isSame_594 : decode cX8_isSame 594 = .ok (.istore 9, 2) := by decide +kernel
theorem dX8_isSame_596 : decode cX8_isSame 596 = .ok (.iload 9, 2) := by decide +kernel
theorem dX8_isSame_598 : decode cX8_isSame 598 = .ok (.bipush 8, 2) := by decide +kernel
theorem dX8_isSame_600 : decode cX8_isSame 600 = .ok (.if_icmp .ge 25, 3) := by decide +kernel
theorem dX8_isSame_603 : decode cX8_isSame 603 = .ok (.aload_n 1, 1) := by decide +kernel
theorem dX8_isSame_604 : decode cX8_isSame 604 = .ok (.iload 9, 2) := by decide +kernel
theorem dX8_isSame_606 : decode cX8_isSame 606 = .ok (.invokevirtual 147, 3) := by decide +kernel
theorem dX8_isSame_609 : decode cX8_isSame 609 = .ok (.aload 8, 2) := by decide +kernel
theorem dX8_isSame_611 : decode cX8_isSame 611 = .ok (.iload 9, 2) := by decide +kernel
theorem dX8_isSame_613 : decode cX8_isSame 613 = .ok (.iaload, 1) := by decide +kernel
theorem dX8_isSame_614 : decode cX8_isSame 614 = .ok (.if_icmp .eq 5, 3) := by decide +kernel
theorem dX8_isSame_617 : decode cX8_isSame 617 = .ok (.iconst 0, 1) := by decide +kernel
theorem dX8_isSame_618 : decode cX8_isSame 618 = .ok (.ireturn, 1) := by decide +kernel
theorem dX8_isSame_619 : decode cX8_isSame 619 = .ok (.iinc 9 1, 3) := by decide +kernel
theorem dX8_isSame_622 : decode cX8_isSame 622 = .ok (.goto (-26), 3) := by decide +kernel
theorem dX8_isSame_625 : decode cX8_isSame 625 = .ok (.aload_n 1, 1) := by decide +kernel
theorem dX8_isSame_626 : decode cX8_isSame 626 = .ok (.invokevirtual 151, 3) := by decide +kernel
theorem dX8_isSame_629 : decode cX8_isSame 629 = .ok (.iload_n 2, 1) := by decide +kernel
theorem dX8_isSame_630 : decode cX8_isSame 630 = .ok (.ifCond .ne 7, 3) := by decide +kernel
theorem dX8_isSame_633 : decode cX8_isSame 633 = .ok (.dconst 0, 1) := by decide +kernel
theorem dX8_isSame_634 : decode cX8_isSame 634 = .ok (.goto 9, 3) := by decide +kernel
theorem dX8_isSame_637 : decode cX8_isSame 637 = .ok (.iload 7, 2) := by decide +kernel
theorem dX8_isSame_639 : decode cX8_isSame 639 = .ok (.i2d, 1) := by decide +kernel
theorem dX8_isSame_640 : decode cX8_isSame 640 = .ok (.iload_n 2, 1) := by decide +kernel
theorem dX8_isSame_641 : decode cX8_isSame 641 = .ok (.i2d, 1) := by decide +kernel
theorem dX8_isSame_642 : decode cX8_isSame 642 = .ok (.ddiv, 1) := by decide +kernel
theorem dX8_isSame_643 : decode cX8_isSame 643 = .ok (.dcmp .l, 1) := by decide +kernel
theorem dX8_isSame_644 : decode cX8_isSame 644 = .ok (.ifCond .ne 7, 3) := by decide +kernel
theorem dX8_isSame_647 : decode cX8_isSame 647 = .ok (.iconst 1, 1) := by decide +kernel
theorem dX8_isSame_648 : decode cX8_isSame 648 = .ok (.goto 4, 3) := by decide +kernel
theorem dX8_isSame_651 : decode cX8_isSame 651 = .ok (.iconst 0, 1) := by decide +kernel
theorem dX8_isSame_652 : decode cX8_isSame 652 = .ok (.ireturn, 1) := by decide +kernel
theorem dL_below_0 : decode cL_below 0 = .ok (.iload_n 0, 1) := by decide +kernel
theorem dL_below_1 : decode cL_below 1 = .ok (.ldc 7, 2) := by decide +kernel
theorem dL_below_3 : decode cL_below 3 = .ok (.iand, 1) := by decide +kernel
theorem dL_below_4 : decode cL_below 4 = .ok (.iload_n 1, 1) := by decide +kernel
theorem dL_below_5 : decode cL_below 5 = .ok (.irem, 1) := by decide +kernel
theorem dL_below_6 : decode cL_below 6 = .ok (.ireturn, 1) := by decide +kernel
theorem dL_cell_0 : decode cL_cell 0 = .ok (.iload_n 1, 1) := by decide +kernel
theorem dL_cell_1 : decode cL_cell 1 = .ok (.aload_n 0, 1) := by decide +kernel
theorem dL_cell_2 : decode cL_cell 2 = .ok (.arraylength, 1) := by decide +kernel
theorem dL_cell_3 : decode cL_cell 3 = .ok (.if_icmp .ge 9, 3) := by decide +kernel
theorem dL_cell_6 : decode cL_cell 6 = .ok (.aload_n 0, 1) := by decide +kernel
theorem dL_cell_7 : decode cL_cell 7 = .ok (.iload_n 1, 1) := by decide +kernel
theorem dL_cell_8 : decode cL_cell 8 = .ok (.iaload, 1) := by decide +kernel
theorem dL_cell_9 : decode cL_cell 9 = .ok (.goto 9, 3) := by decide +kernel
theorem dL_cell_12 : decode cL_cell 12 = .ok (.ldc 8, 2) := by decide +kernel
theorem dL_cell_14 : decode cL_cell 14 = .ok (.iload_n 1, 1) := by decide +kernel
theorem dL_cell_15 : decode cL_cell 15 = .ok (.iconst 3, 1) := by decide +kernel
theorem dL_cell_16 : decode cL_cell 16 = .ok (.iadd, 1) := by decide +kernel
theorem dL_cell_17 : decode cL_cell 17 = .ok (.imul, 1) := by decide +kernel
theorem dL_cell_18 : decode cL_cell 18 = .ok (.ireturn, 1) := by decide +kernel
theorem dL_act_0 : decode cL_act 0 = .ok (.aload_n 1, 1) := by decide +kernel
theorem dL_act_1 : decode cL_act 1 = .ok (.getfield 9, 3) := by decide +kernel
theorem dL_act_4 : decode cL_act 4 = .ok (.arraylength, 1) := by decide +kernel
theorem dL_act_5 : decode cL_act 5 = .ok (.istore_n 3, 1) := by decide +kernel
theorem dL_act_6 : decode cL_act 6 = .ok (.iload_n 3, 1) := by decide +kernel
theorem dL_act_7 : decode cL_act 7 = .ok (.iconst 4, 1) := by decide +kernel
theorem dL_act_8 : decode cL_act 8 = .ok (.if_icmp .ge 7, 3) := by decide +kernel
theorem dL_act_11 : decode cL_act 11 = .ok (.iconst 0, 1) := by decide +kernel
theorem dL_act_12 : decode cL_act 12 = .ok (.goto 12, 3) := by decide +kernel
theorem dL_act_15 : decode cL_act 15 = .ok (.iload_n 2, 1) := by decide +kernel
theorem dL_act_16 : decode cL_act 16 = .ok (.bipush 9, 2) := by decide +kernel
theorem dL_act_18 : decode cL_act 18 = .ok (.ishr, 1) := by decide +kernel
theorem dL_act_19 : decode cL_act 19 = .ok (.bipush 12, 2) := by decide +kernel
theorem dL_act_21 : decode cL_act 21 = .ok (.invokestatic 15, 3) := by decide +kernel
theorem dL_act_24 : decode cL_act 24 = .ok (.istore 4, 2) := by decide +kernel
theorem dL_act_26 : decode cL_act 26 = .ok (.iload_n 3, 1) := by decide +kernel
theorem dL_act_27 : decode cL_act 27 = .ok (.ifCond .ne 7, 3) := by decide +kernel
theorem dL_act_30 : decode cL_act 30 = .ok (.aconst_null, 1) := by decide +kernel
theorem dL_act_31 : decode cL_act 31 = .ok (.goto 13, 3) := by decide +kernel
theorem dL_act_34 : decode cL_act 34 = .ok (.aload_n 1, 1) := by decide +kernel
theorem dL_act_35 : decode cL_act 35 = .ok (.getfield 9, 3) := by decide +kernel
theorem dL_act_38 : decode cL_act 38 = .ok (.iload_n 2, 1) := by decide +kernel
theorem dL_act_39 : decode cL_act 39 = .ok (.iload_n 3, 1) := by decide +kernel
theorem dL_act_40 : decode cL_act 40 = .ok (.invokestatic 15, 3) := by decide +kernel
theorem dL_act_43 : decode cL_act 43 = .ok (.aaload, 1) := by decide +kernel
theorem dL_act_44 : decode cL_act 44 = .ok (.astore 5, 2) := by decide +kernel
theorem dL_act_46 : decode cL_act 46 = .ok (.iload_n 3, 1) := by decide +kernel
theorem dL_act_47 : decode cL_act 47 = .ok (.ifCond .ne 7, 3) := by decide +kernel
theorem dL_act_50 : decode cL_act 50 = .ok (.aconst_null, 1) := by decide +kernel
theorem dL_act_51 : decode cL_act 51 = .ok (.goto 15, 3) := by decide +kernel
theorem dL_act_54 : decode cL_act 54 = .ok (.aload_n 1, 1) := by decide +kernel
theorem dL_act_55 : decode cL_act 55 = .ok (.getfield 9, 3) := by decide +kernel
theorem dL_act_58 : decode cL_act 58 = .ok (.iload_n 2, 1) := by decide +kernel
theorem dL_act_59 : decode cL_act 59 = .ok (.iconst 3, 1) := by decide +kernel
theorem dL_act_60 : decode cL_act 60 = .ok (.ishr, 1) := by decide +kernel
theorem dL_act_61 : decode cL_act 61 = .ok (.iload_n 3, 1) := by decide +kernel
theorem dL_act_62 : decode cL_act 62 = .ok (.invokestatic 15, 3) := by decide +kernel
theorem dL_act_65 : decode cL_act 65 = .ok (.aaload, 1) := by decide +kernel
theorem dL_act_66 : decode cL_act 66 = .ok (.astore 6, 2) := by decide +kernel
theorem dL_act_68 : decode cL_act 68 = .ok (.aload_n 1, 1) := by decide +kernel
theorem dL_act_69 : decode cL_act 69 = .ok (.getfield 21, 3) := by decide +kernel
theorem dL_act_72 : decode cL_act 72 = .ok (.arraylength, 1) := by decide +kernel
theorem dL_act_73 : decode cL_act 73 = .ok (.ifCond .ne 7, 3) := by decide +kernel
theorem dL_act_76 : decode cL_act 76 = .ok (.aconst_null, 1) := by decide +kernel
theorem dL_act_77 : decode cL_act 77 = .ok (.goto 19, 3) := by decide +kernel
theorem dL_act_80 : decode cL_act 80 = .ok (.aload_n 1, 1) := by decide +kernel
theorem dL_act_81 : decode cL_act 81 = .ok (.getfield 21, 3) := by decide +kernel
theorem dL_act_84 : decode cL_act 84 = .ok (.iload_n 2, 1) := by decide +kernel
theorem dL_act_85 : decode cL_act 85 = .ok (.iconst 4, 1) := by decide +kernel
theorem dL_act_86 : decode cL_act 86 = .ok (.ishr, 1) := by decide +kernel
theorem dL_act_87 : decode cL_act 87 = .ok (.aload_n 1, 1) := by decide +kernel
theorem dL_act_88 : decode cL_act 88 = .ok (.getfield 21, 3) := by decide +kernel
theorem dL_act_91 : decode cL_act 91 = .ok (.arraylength, 1) := by decide +kernel
theorem dL_act_92 : decode cL_act 92 = .ok (.invokestatic 15, 3) := by decide +kernel
theorem dL_act_95 : decode cL_act 95 = .ok (.aaload, 1) := by decide +kernel
theorem dL_act_96 : decode cL_act 96 = .ok (.astore 7, 2) := by decide +kernel
theorem dL_act_98 : decode cL_act 98 = .ok (.iload 4, 2) := by decide +kernel
theorem dL_act_100 : decode cL_act 100 = .ok (.tableswitch 602 0 10 #[60, 128, 128, 128, 128, 242, 242, 242, 409, 514, 558], 60) := by decide +kernel
theorem dL_act_160 : decode cL_act 160 = .ok (.iload_n 3, 1) := by decide +kernel
theorem dL_act_161 : decode cL_act 161 = .ok (.bipush 40, 2) := by decide +kernel
theorem dL_act_163 : decode cL_act 163 = .ok (.if_icmp .ne 5, 3) := by decide +kernel
theorem dL_act_166 : decode cL_act 166 = .ok (.iconst 1, 1) := by decide +kernel
theorem dL_act_167 : decode cL_act 167 = .ok (.ireturn, 1) := by decide +kernel
theorem dL_act_168 : decode cL_act 168 = .ok (.iload_n 2, 1) := by decide +kernel
theorem dL_act_169 : decode cL_act 169 = .ok (.iconst 2, 1) := by decide +kernel
theorem dL_act_170 : decode cL_act 170 = .ok (.ishr, 1) := by decide +kernel
theorem dL_act_171 : decode cL_act 171 = .ok (.bipush 40, 2) := by decide +kernel
theorem dL_act_173 : decode cL_act 173 = .ok (.invokestatic 15, 3) := by decide +kernel
theorem dL_act_176 : decode cL_act 176 = .ok (.istore 8, 2) := by decide +kernel
theorem dL_act_178 : decode cL_act 178 = .ok (.aload_n 0, 1) := by decide +kernel
theorem dL_act_179 : decode cL_act 179 = .ok (.iload_n 2, 1) := by decide +kernel
theorem dL_act_180 : decode cL_act 180 = .ok (.iconst 2, 1) := by decide +kernel
theorem dL_act_181 : decode cL_act 181 = .ok (.invokestatic 15, 3) := by decide +kernel
theorem dL_act_184 : decode cL_act 184 = .ok (.ifCond .ne 7, 3) := by decide +kernel
theorem dL_act_187 : decode cL_act 187 = .ok (.iconst 1, 1) := by decide +kernel
theorem dL_act_188 : decode cL_act 188 = .ok (.goto 4, 3) := by decide +kernel
theorem dL_act_191 : decode cL_act 191 = .ok (.iconst 0, 1) := by decide +kernel
theorem dL_act_192 : decode cL_act 192 = .ok (.iload 8, 2) := by decide +kernel
theorem dL_act_194 : decode cL_act 194 = .ok (.invokevirtual 25, 3) := by decide +kernel
theorem dL_act_197 : decode cL_act 197 = .ok (.aload_n 1, 1) := by decide +kernel
theorem dL_act_198 : decode cL_act 198 = .ok (.iload_n 2, 1) := by decide +kernel
theorem dL_act_199 : decode cL_act 199 = .ok (.iconst 2, 1) := by decide +kernel
theorem dL_act_200 : decode cL_act 200 = .ok (.invokestatic 15, 3) := by decide +kernel
theorem dL_act_203 : decode cL_act 203 = .ok (.ifCond .ne 7, 3) := by decide +kernel
theorem dL_act_206 : decode cL_act 206 = .ok (.iconst 1, 1) := by decide +kernel
theorem dL_act_207 : decode cL_act 207 = .ok (.goto 4, 3) := by decide +kernel
theorem dL_act_210 : decode cL_act 210 = .ok (.iconst 0, 1) := by decide +kernel
theorem dL_act_211 : decode cL_act 211 = .ok (.iload 8, 2) := by decide +kernel
theorem dL_act_213 : decode cL_act 213 = .ok (.invokevirtual 31, 3) := by decide +kernel
theorem dL_act_216 : decode cL_act 216 = .ok (.getfield 34, 3) := by decide +kernel
theorem dL_act_219 : decode cL_act 219 = .ok (.if_icmp .ne 7, 3) := by decide +kernel
theorem dL_act_222 : decode cL_act 222 = .ok (.iconst 1, 1) := by decide +kernel
theorem dL_act_223 : decode cL_act 223 = .ok (.goto 4, 3) := by decide +kernel
theorem dL_act_226 : decode cL_act 226 = .ok (.iconst 0, 1) := by decide +kernel
theorem dL_act_227 : decode cL_act 227 = .ok (.ireturn, 1) := by decide +kernel
theorem dL_act_228 : decode cL_act 228 = .ok (.iconst 0, 1) := by decide +kernel
theorem dL_act_229 : decode cL_act 229 = .ok (.istore 9, 2) := by decide +kernel
theorem dL_act_231 : decode cL_act 231 = .ok (.iload 9, 2) := by decide +kernel
theorem dL_act_233 : decode cL_act 233 = .ok (.iload_n 3, 1) := by decide +kernel
theorem dL_act_234 : decode cL_act 234 = .ok (.if_icmp .ge 106, 3) := by decide +kernel
theorem dL_act_237 : decode cL_act 237 = .ok (.iload_n 3, 1) := by decide +kernel
theorem dL_act_238 : decode cL_act 238 = .ok (.bipush 40, 2) := by decide +kernel
theorem dL_act_240 : decode cL_act 240 = .ok (.if_icmp .ge 100, 3) := by decide +kernel
theorem dL_act_243 : decode cL_act 243 = .ok (.aload_n 1, 1) := by decide +kernel
theorem dL_act_244 : decode cL_act 244 = .ok (.getfield 9, 3) := by decide +kernel
theorem dL_act_247 : decode cL_act 247 = .ok (.aload 5, 2) := by decide +kernel
theorem dL_act_249 : decode cL_act 249 = .ok (.getfield 34, 3) := by decide +kernel
theorem dL_act_252 : decode cL_act 252 = .ok (.iload 9, 2) := by decide +kernel
theorem dL_act_254 : decode cL_act 254 = .ok (.iadd, 1) := by decide +kernel
theorem dL_act_255 : decode cL_act 255 = .ok (.iload_n 3, 1) := by decide +kernel
theorem dL_act_256 : decode cL_act 256 = .ok (.irem, 1) := by decide +kernel
theorem dL_act_257 : decode cL_act 257 = .ok (.aaload, 1) := by decide +kernel
theorem dL_act_258 : decode cL_act 258 = .ok (.astore 10, 2) := by decide +kernel
theorem dL_act_260 : decode cL_act 260 = .ok (.aload 10, 2) := by decide +kernel
theorem dL_act_262 : decode cL_act 262 = .ok (.getfield 40, 3) := by decide +kernel
theorem dL_act_265 : decode cL_act 265 = .ok (.ifCond .ne 69, 3) := by decide +kernel
theorem dL_act_268 : decode cL_act 268 = .ok (.aload 10, 2) := by decide +kernel
theorem dL_act_270 : decode cL_act 270 = .ok (.getfield 44, 3) := by decide +kernel
theorem dL_act_273 : decode cL_act 273 = .ok (.ifnonnull 6, 3) := by decide +kernel
theorem dL_act_276 : decode cL_act 276 = .ok (.goto 58, 3) := by decide +kernel
theorem dL_act_279 : decode cL_act 279 = .ok (.aload_n 1, 1) := by decide +kernel
theorem dL_act_280 : decode cL_act 280 = .ok (.aload 10, 2) := by decide +kernel
theorem dL_act_282 : decode cL_act 282 = .ok (.iload_n 2, 1) := by decide +kernel
theorem dL_act_283 : decode cL_act 283 = .ok (.iconst 2, 1) := by decide +kernel
theorem dL_act_284 : decode cL_act 284 = .ok (.ishr, 1) := by decide +kernel
theorem dL_act_285 : decode cL_act 285 = .ok (.iconst 2, 1) := by decide +kernel
theorem dL_act_286 : decode cL_act 286 = .ok (.invokestatic 15, 3) := by decide +kernel
theorem dL_act_289 : decode cL_act 289 = .ok (.ifCond .ne 7, 3) := by decide +kernel
theorem dL_act_292 : decode cL_act 292 = .ok (.iconst 1, 1) := by decide +kernel
theorem dL_act_293 : decode cL_act 293 = .ok (.goto 4, 3) := by decide +kernel
theorem dL_act_296 : decode cL_act 296 = .ok (.iconst 0, 1) := by decide +kernel
theorem dL_act_297 : decode cL_act 297 = .ok (.invokevirtual 48, 3) := by decide +kernel
theorem dL_act_300 : decode cL_act 300 = .ok (.aload_n 0, 1) := by decide +kernel
theorem dL_act_301 : decode cL_act 301 = .ok (.aload 10, 2) := by decide +kernel
theorem dL_act_303 : decode cL_act 303 = .ok (.getfield 34, 3) := by decide +kernel
theorem dL_act_306 : decode cL_act 306 = .ok (.iload_n 2, 1) := by decide +kernel
theorem dL_act_307 : decode cL_act 307 = .ok (.iconst 2, 1) := by decide +kernel
theorem dL_act_308 : decode cL_act 308 = .ok (.ishr, 1) := by decide +kernel
theorem dL_act_309 : decode cL_act 309 = .ok (.iconst 2, 1) := by decide +kernel
theorem dL_act_310 : decode cL_act 310 = .ok (.invokestatic 15, 3) := by decide +kernel
theorem dL_act_313 : decode cL_act 313 = .ok (.ifCond .ne 7, 3) := by decide +kernel
theorem dL_act_316 : decode cL_act 316 = .ok (.iconst 1, 1) := by decide +kernel
theorem dL_act_317 : decode cL_act 317 = .ok (.goto 4, 3) := by decide +kernel
theorem dL_act_320 : decode cL_act 320 = .ok (.iconst 0, 1) := by decide +kernel
theorem dL_act_321 : decode cL_act 321 = .ok (.invokevirtual 52, 3) := by decide +kernel
theorem dL_act_324 : decode cL_act 324 = .ok (.iload_n 3, 1) := by decide +kernel
theorem dL_act_325 : decode cL_act 325 = .ok (.if_icmp .ne 7, 3) := by decide +kernel
theorem dL_act_328 : decode cL_act 328 = .ok (.iconst 1, 1) := by decide +kernel
theorem dL_act_329 : decode cL_act 329 = .ok (.goto 4, 3) := by decide +kernel
theorem dL_act_332 : decode cL_act 332 = .ok (.iconst 0, 1) := by decide +kernel
theorem dL_act_333 : decode cL_act 333 = .ok (.ireturn, 1) := by decide +kernel
theorem dL_act_334 : decode cL_act 334 = .ok (.iinc 9 1, 3) := by decide +kernel
theorem dL_act_337 : decode cL_act 337 = .ok (.goto (-106), 3) := by decide +kernel
theorem dL_act_340 : decode cL_act 340 = .ok (.iconst 1, 1) := by decide +kernel
theorem dL_act_341 : decode cL_act 341 = .ok (.ireturn, 1) := by decide +kernel
theorem dL_act_342 : decode cL_act 342 = .ok (.iconst 0, 1) := by decide +kernel
theorem dL_act_343 : decode cL_act 343 = .ok (.istore 9, 2) := by decide +kernel
theorem dL_act_345 : decode cL_act 345 = .ok (.iload 9, 2) := by decide +kernel
theorem dL_act_347 : decode cL_act 347 = .ok (.iload_n 3, 1) := by decide +kernel
theorem dL_act_348 : decode cL_act 348 = .ok (.if_icmp .ge 159, 3) := by decide +kernel
theorem dL_act_351 : decode cL_act 351 = .ok (.aload_n 1, 1) := by decide +kernel
theorem dL_act_352 : decode cL_act 352 = .ok (.getfield 9, 3) := by decide +kernel
theorem dL_act_355 : decode cL_act 355 = .ok (.aload 6, 2) := by decide +kernel
theorem dL_act_357 : decode cL_act 357 = .ok (.getfield 34, 3) := by decide +kernel
theorem dL_act_360 : decode cL_act 360 = .ok (.iload 9, 2) := by decide +kernel
theorem dL_act_362 : decode cL_act 362 = .ok (.iadd, 1) := by decide +kernel
theorem dL_act_363 : decode cL_act 363 = .ok (.iload_n 3, 1) := by decide +kernel
theorem dL_act_364 : decode cL_act 364 = .ok (.irem, 1) := by decide +kernel
theorem dL_act_365 : decode cL_act 365 = .ok (.aaload, 1) := by decide +kernel
theorem dL_act_366 : decode cL_act 366 = .ok (.astore 10, 2) := by decide +kernel
theorem dL_act_368 : decode cL_act 368 = .ok (.aload_n 1, 1) := by decide +kernel
theorem dL_act_369 : decode cL_act 369 = .ok (.aload 5, 2) := by decide +kernel
theorem dL_act_371 : decode cL_act 371 = .ok (.aload 10, 2) := by decide +kernel
theorem dL_act_373 : decode cL_act 373 = .ok (.invokevirtual 55, 3) := by decide +kernel
theorem dL_act_376 : decode cL_act 376 = .ok (.ifCond .ne 6, 3) := by decide +kernel
theorem dL_act_379 : decode cL_act 379 = .ok (.goto 122, 3) := by decide +kernel
theorem dL_act_382 : decode cL_act 382 = .ok (.aload 7, 2) := by decide +kernel
theorem dL_act_384 : decode cL_act 384 = .ok (.ifnull 28, 3) := by decide +kernel
theorem dL_act_387 : decode cL_act 387 = .ok (.aload 7, 2) := by decide +kernel
theorem dL_act_389 : decode cL_act 389 = .ok (.getfield 59, 3) := by decide +kernel
theorem dL_act_392 : decode cL_act 392 = .ok (.aload 5, 2) := by decide +kernel
theorem dL_act_394 : decode cL_act 394 = .ok (.if_acmp .eq 13, 3) := by decide +kernel
theorem dL_act_397 : decode cL_act 397 = .ok (.aload 7, 2) := by decide +kernel
theorem dL_act_399 : decode cL_act 399 = .ok (.getfield 59, 3) := by decide +kernel
theorem dL_act_402 : decode cL_act 402 = .ok (.aload 10, 2) := by decide +kernel
theorem dL_act_404 : decode cL_act 404 = .ok (.if_acmp .ne 8, 3) := by decide +kernel
theorem dL_act_407 : decode cL_act 407 = .ok (.aload 7, 2) := by decide +kernel
theorem dL_act_409 : decode cL_act 409 = .ok (.goto 4, 3) := by decide +kernel
theorem dL_act_412 : decode cL_act 412 = .ok (.aconst_null, 1) := by decide +kernel
theorem dL_act_413 : decode cL_act 413 = .ok (.astore 11, 2) := by decide +kernel
theorem dL_act_415 : decode cL_act 415 = .ok (.iconst (-1), 1) := by decide +kernel
theorem dL_act_416 : decode cL_act 416 = .ok (.istore 12, 2) := by decide +kernel
theorem dL_act_418 : decode cL_act 418 = .ok (.iconst 0, 1) := by decide +kernel
theorem dL_act_419 : decode cL_act 419 = .ok (.istore 13, 2) := by decide +kernel
theorem dL_act_421 : decode cL_act 421 = .ok (.iload 13, 2) := by decide +kernel
theorem dL_act_423 : decode cL_act 423 = .ok (.aload_n 1, 1) := by decide +kernel
theorem dL_act_424 : decode cL_act 424 = .ok (.getfield 21, 3) := by decide +kernel
theorem dL_act_427 : decode cL_act 427 = .ok (.arraylength, 1) := by decide +kernel
theorem dL_act_428 : decode cL_act 428 = .ok (.if_icmp .ge 25, 3) := by decide +kernel
theorem dL_act_431 : decode cL_act 431 = .ok (.aload_n 1, 1) := by decide +kernel
theorem dL_act_432 : decode cL_act 432 = .ok (.getfield 21, 3) := by decide +kernel
theorem dL_act_435 : decode cL_act 435 = .ok (.iload 13, 2) := by decide +kernel
theorem dL_act_437 : decode cL_act 437 = .ok (.aaload, 1) := by decide +kernel
theorem dL_act_438 : decode cL_act 438 = .ok (.aload 11, 2) := by decide +kernel
theorem dL_act_440 : decode cL_act 440 = .ok (.if_acmp .ne 7, 3) := by decide +kernel
theorem dL_act_443 : decode cL_act 443 = .ok (.iload 13, 2) := by decide +kernel
theorem dL_act_445 : decode cL_act 445 = .ok (.istore 12, 2) := by decide +kernel
theorem dL_act_447 : decode cL_act 447 = .ok (.iinc 13 1, 3) := by decide +kernel
theorem dL_act_450 : decode cL_act 450 = .ok (.goto (-29), 3) := by decide +kernel
theorem dL_act_453 : decode cL_act 453 = .ok (.aload_n 1, 1) := by decide +kernel
theorem dL_act_454 : decode cL_act 454 = .ok (.aload 5, 2) := by decide +kernel
theorem dL_act_456 : decode cL_act 456 = .ok (.aload 10, 2) := by decide +kernel
theorem dL_act_458 : decode cL_act 458 = .ok (.aload 11, 2) := by decide +kernel
theorem dL_act_460 : decode cL_act 460 = .ok (.invokevirtual 64, 3) := by decide +kernel
theorem dL_act_463 : decode cL_act 463 = .ok (.aload_n 0, 1) := by decide +kernel
theorem dL_act_464 : decode cL_act 464 = .ok (.aload 5, 2) := by decide +kernel
theorem dL_act_466 : decode cL_act 466 = .ok (.getfield 34, 3) := by decide +kernel
theorem dL_act_469 : decode cL_act 469 = .ok (.aload 10, 2) := by decide +kernel
theorem dL_act_471 : decode cL_act 471 = .ok (.getfield 34, 3) := by decide +kernel
theorem dL_act_474 : decode cL_act 474 = .ok (.iload 12, 2) := by decide +kernel
theorem dL_act_476 : decode cL_act 476 = .ok (.invokevirtual 68, 3) := by decide +kernel
theorem dL_act_479 : decode cL_act 479 = .ok (.aload_n 1, 1) := by decide +kernel
theorem dL_act_480 : decode cL_act 480 = .ok (.aload 5, 2) := by decide +kernel
theorem dL_act_482 : decode cL_act 482 = .ok (.invokevirtual 71, 3) := by decide +kernel
theorem dL_act_485 : decode cL_act 485 = .ok (.aload_n 1, 1) := by decide +kernel
theorem dL_act_486 : decode cL_act 486 = .ok (.aload 10, 2) := by decide +kernel
theorem dL_act_488 : decode cL_act 488 = .ok (.invokevirtual 71, 3) := by decide +kernel
theorem dL_act_491 : decode cL_act 491 = .ok (.iadd, 1) := by decide +kernel
theorem dL_act_492 : decode cL_act 492 = .ok (.if_icmp .ne 7, 3) := by decide +kernel
theorem dL_act_495 : decode cL_act 495 = .ok (.iconst 1, 1) := by decide +kernel
theorem dL_act_496 : decode cL_act 496 = .ok (.goto 4, 3) := by decide +kernel
theorem dL_act_499 : decode cL_act 499 = .ok (.iconst 0, 1) := by decide +kernel
theorem dL_act_500 : decode cL_act 500 = .ok (.ireturn, 1) := by decide +kernel
theorem dL_act_501 : decode cL_act 501 = .ok (.iinc 9 1, 3) := by decide +kernel
theorem dL_act_504 : decode cL_act 504 = .ok (.goto (-159), 3) := by decide +kernel
theorem dL_act_507 : decode cL_act 507 = .ok (.iconst 1, 1) := by decide +kernel
theorem dL_act_508 : decode cL_act 508 = .ok (.ireturn, 1) := by decide +kernel
theorem dL_act_509 : decode cL_act 509 = .ok (.aload_n 1, 1) := by decide +kernel
theorem dL_act_510 : decode cL_act 510 = .ok (.getfield 21, 3) := by decide +kernel
theorem dL_act_513 : decode cL_act 513 = .ok (.arraylength, 1) := by decide +kernel
theorem dL_act_514 : decode cL_act 514 = .ok (.bipush 12, 2) := by decide +kernel
theorem dL_act_516 : decode cL_act 516 = .ok (.if_icmp .ne 5, 3) := by decide +kernel
theorem dL_act_519 : decode cL_act 519 = .ok (.iconst 1, 1) := by decide +kernel
theorem dL_act_520 : decode cL_act 520 = .ok (.ireturn, 1) := by decide +kernel
theorem dL_act_521 : decode cL_act 521 = .ok (.aload 5, 2) := by decide +kernel
theorem dL_act_523 : decode cL_act 523 = .ok (.getfield 75, 3) := by decide +kernel
theorem dL_act_526 : decode cL_act 526 = .ok (.ifCond .ge 13, 3) := by decide +kernel
theorem dL_act_529 : decode cL_act 529 = .ok (.iload_n 2, 1) := by decide +kernel
theorem dL_act_530 : decode cL_act 530 = .ok (.iconst 5, 1) := by decide +kernel
theorem dL_act_531 : decode cL_act 531 = .ok (.ishr, 1) := by decide +kernel
theorem dL_act_532 : decode cL_act 532 = .ok (.iconst 5, 1) := by decide +kernel
theorem dL_act_533 : decode cL_act 533 = .ok (.invokestatic 15, 3) := by decide +kernel
theorem dL_act_536 : decode cL_act 536 = .ok (.ifCond .ne 7, 3) := by decide +kernel
theorem dL_act_539 : decode cL_act 539 = .ok (.aconst_null, 1) := by decide +kernel
theorem dL_act_540 : decode cL_act 540 = .ok (.goto 5, 3) := by decide +kernel
theorem dL_act_543 : decode cL_act 543 = .ok (.aload 5, 2) := by decide +kernel
theorem dL_act_545 : decode cL_act 545 = .ok (.astore 9, 2) := by decide +kernel
theorem dL_act_547 : decode cL_act 547 = .ok (.aload_n 1, 1) := by decide +kernel
theorem dL_act_548 : decode cL_act 548 = .ok (.iconst 1, 1) := by decide +kernel
theorem dL_act_549 : decode cL_act 549 = .ok (.iload_n 2, 1) := by decide +kernel
theorem dL_act_550 : decode cL_act 550 = .ok (.iconst 2, 1) := by decide +kernel
theorem dL_act_551 : decode cL_act 551 = .ok (.ishr, 1) := by decide +kernel
theorem dL_act_552 : decode cL_act 552 = .ok (.bipush 50, 2) := by decide +kernel
theorem dL_act_554 : decode cL_act 554 = .ok (.invokestatic 15, 3) := by decide +kernel
theorem dL_act_557 : decode cL_act 557 = .ok (.iadd, 1) := by decide +kernel
theorem dL_act_558 : decode cL_act 558 = .ok (.iload_n 2, 1) := by decide +kernel
theorem dL_act_559 : decode cL_act 559 = .ok (.bipush 6, 2) := by decide +kernel
theorem dL_act_561 : decode cL_act 561 = .ok (.ishr, 1) := by decide +kernel
theorem dL_act_562 : decode cL_act 562 = .ok (.iconst 4, 1) := by decide +kernel
theorem dL_act_563 : decode cL_act 563 = .ok (.invokestatic 15, 3) := by decide +kernel
theorem dL_act_566 : decode cL_act 566 = .ok (.aload 9, 2) := by decide +kernel
theorem dL_act_568 : decode cL_act 568 = .ok (.invokevirtual 78, 3) := by decide +kernel
theorem dL_act_571 : decode cL_act 571 = .ok (.aload_n 0, 1) := by decide +kernel
theorem dL_act_572 : decode cL_act 572 = .ok (.iconst 1, 1) := by decide +kernel
theorem dL_act_573 : decode cL_act 573 = .ok (.iload_n 2, 1) := by decide +kernel
theorem dL_act_574 : decode cL_act 574 = .ok (.iconst 2, 1) := by decide +kernel
theorem dL_act_575 : decode cL_act 575 = .ok (.ishr, 1) := by decide +kernel
theorem dL_act_576 : decode cL_act 576 = .ok (.bipush 50, 2) := by decide +kernel
theorem dL_act_578 : decode cL_act 578 = .ok (.invokestatic 15, 3) := by decide +kernel
theorem dL_act_581 : decode cL_act 581 = .ok (.iadd, 1) := by decide +kernel
theorem dL_act_582 : decode cL_act 582 = .ok (.iload_n 2, 1) := by decide +kernel
theorem dL_act_583 : decode cL_act 583 = .ok (.bipush 6, 2) := by decide +kernel
theorem dL_act_585 : decode cL_act 585 = .ok (.ishr, 1) := by decide +kernel
theorem dL_act_586 : decode cL_act 586 = .ok (.iconst 4, 1) := by decide +kernel
theorem dL_act_587 : decode cL_act 587 = .ok (.invokestatic 15, 3) := by decide +kernel
theorem dL_act_590 : decode cL_act 590 = .ok (.aload 9, 2) := by decide +kernel
theorem dL_act_592 : decode cL_act 592 = .ok (.invokestatic 82, 3) := by decide +kernel
theorem dL_act_595 : decode cL_act 595 = .ok (.invokevirtual 84, 3) := by decide +kernel
theorem dL_act_598 : decode cL_act 598 = .ok (.aload_n 1, 1) := by decide +kernel
theorem dL_act_599 : decode cL_act 599 = .ok (.getfield 21, 3) := by decide +kernel
theorem dL_act_602 : decode cL_act 602 = .ok (.arraylength, 1) := by decide +kernel
theorem dL_act_603 : decode cL_act 603 = .ok (.iconst 1, 1) := by decide +kernel
theorem dL_act_604 : decode cL_act 604 = .ok (.isub, 1) := by decide +kernel
theorem dL_act_605 : decode cL_act 605 = .ok (.if_icmp .ne 7, 3) := by decide +kernel
theorem dL_act_608 : decode cL_act 608 = .ok (.iconst 1, 1) := by decide +kernel
theorem dL_act_609 : decode cL_act 609 = .ok (.goto 4, 3) := by decide +kernel
theorem dL_act_612 : decode cL_act 612 = .ok (.iconst 0, 1) := by decide +kernel
theorem dL_act_613 : decode cL_act 613 = .ok (.ireturn, 1) := by decide +kernel
theorem dL_act_614 : decode cL_act 614 = .ok (.aload 5, 2) := by decide +kernel
theorem dL_act_616 : decode cL_act 616 = .ok (.getfield 44, 3) := by decide +kernel
theorem dL_act_619 : decode cL_act 619 = .ok (.ifnull 13, 3) := by decide +kernel
theorem dL_act_622 : decode cL_act 622 = .ok (.iload_n 2, 1) := by decide +kernel
theorem dL_act_623 : decode cL_act 623 = .ok (.iconst 4, 1) := by decide +kernel
theorem dL_act_624 : decode cL_act 624 = .ok (.ishr, 1) := by decide +kernel
theorem dL_act_625 : decode cL_act 625 = .ok (.iconst 2, 1) := by decide +kernel
theorem dL_act_626 : decode cL_act 626 = .ok (.invokestatic 15, 3) := by decide +kernel
theorem dL_act_629 : decode cL_act 629 = .ok (.ifCond .ne 5, 3) := by decide +kernel
theorem dL_act_632 : decode cL_act 632 = .ok (.iconst 1, 1) := by decide +kernel
theorem dL_act_633 : decode cL_act 633 = .ok (.ireturn, 1) := by decide +kernel
theorem dL_act_634 : decode cL_act 634 = .ok (.aload_n 0, 1) := by decide +kernel
theorem dL_act_635 : decode cL_act 635 = .ok (.aload 5, 2) := by decide +kernel
theorem dL_act_637 : decode cL_act 637 = .ok (.getfield 34, 3) := by decide +kernel
theorem dL_act_640 : decode cL_act 640 = .ok (.invokevirtual 86, 3) := by decide +kernel
theorem dL_act_643 : decode cL_act 643 = .ok (.aload_n 1, 1) := by decide +kernel
theorem dL_act_644 : decode cL_act 644 = .ok (.aload 5, 2) := by decide +kernel
theorem dL_act_646 : decode cL_act 646 = .ok (.invokevirtual 90, 3) := by decide +kernel
theorem dL_act_649 : decode cL_act 649 = .ok (.if_icmp .ne 7, 3) := by decide +kernel
theorem dL_act_652 : decode cL_act 652 = .ok (.iconst 1, 1) := by decide +kernel
theorem dL_act_653 : decode cL_act 653 = .ok (.goto 4, 3) := by decide +kernel
theorem dL_act_656 : decode cL_act 656 = .ok (.iconst 0, 1) := by decide +kernel
theorem dL_act_657 : decode cL_act 657 = .ok (.ireturn, 1) := by decide +kernel
theorem dL_act_658 : decode cL_act 658 = .ok (.aload 5, 2) := by decide +kernel
theorem dL_act_660 : decode cL_act 660 = .ok (.getfield 75, 3) := by decide +kernel
theorem dL_act_663 : decode cL_act 663 = .ok (.ifCond .ge 13, 3) := by decide +kernel
theorem dL_act_666 : decode cL_act 666 = .ok (.iload_n 2, 1) := by decide +kernel
theorem dL_act_667 : decode cL_act 667 = .ok (.iconst 4, 1) := by decide +kernel
theorem dL_act_668 : decode cL_act 668 = .ok (.ishr, 1) := by decide +kernel
theorem dL_act_669 : decode cL_act 669 = .ok (.iconst 2, 1) := by decide +kernel
theorem dL_act_670 : decode cL_act 670 = .ok (.invokestatic 15, 3) := by decide +kernel
theorem dL_act_673 : decode cL_act 673 = .ok (.ifCond .ne 5, 3) := by decide +kernel
theorem dL_act_676 : decode cL_act 676 = .ok (.iconst 1, 1) := by decide +kernel
theorem dL_act_677 : decode cL_act 677 = .ok (.ireturn, 1) := by decide +kernel
theorem dL_act_678 : decode cL_act 678 = .ok (.aload_n 0, 1) := by decide +kernel
theorem dL_act_679 : decode cL_act 679 = .ok (.aload 5, 2) := by decide +kernel
theorem dL_act_681 : decode cL_act 681 = .ok (.getfield 34, 3) := by decide +kernel
theorem dL_act_684 : decode cL_act 684 = .ok (.invokevirtual 92, 3) := by decide +kernel
theorem dL_act_687 : decode cL_act 687 = .ok (.aload_n 1, 1) := by decide +kernel
theorem dL_act_688 : decode cL_act 688 = .ok (.aload 5, 2) := by decide +kernel
theorem dL_act_690 : decode cL_act 690 = .ok (.invokevirtual 95, 3) := by decide +kernel
theorem dL_act_693 : decode cL_act 693 = .ok (.if_icmp .ne 7, 3) := by decide +kernel
theorem dL_act_696 : decode cL_act 696 = .ok (.iconst 1, 1) := by decide +kernel
theorem dL_act_697 : decode cL_act 697 = .ok (.goto 4, 3) := by decide +kernel
theorem dL_act_700 : decode cL_act 700 = .ok (.iconst 0, 1) := by decide +kernel
theorem dL_act_701 : decode cL_act 701 = .ok (.ireturn, 1) := by decide +kernel
theorem dL_act_702 : decode cL_act 702 = .ok (.aload 7, 2) := by decide +kernel
theorem dL_act_704 : decode cL_act 704 = .ok (.ifnonnull 5, 3) := by decide +kernel
theorem dL_act_707 : decode cL_act 707 = .ok (.iconst 1, 1) := by decide +kernel
theorem dL_act_708 : decode cL_act 708 = .ok (.ireturn, 1) := by decide +kernel
theorem dL_act_709 : decode cL_act 709 = .ok (.aload 7, 2) := by decide +kernel
theorem dL_act_711 : decode cL_act 711 = .ok (.getfield 97, 3) := by decide +kernel
theorem dL_act_714 : decode cL_act 714 = .ok (.istore 10, 2) := by decide +kernel
theorem dL_act_716 : decode cL_act 716 = .ok (.aload 7, 2) := by decide +kernel
theorem dL_act_718 : decode cL_act 718 = .ok (.iload_n 2, 1) := by decide +kernel
theorem dL_act_719 : decode cL_act 719 = .ok (.iconst 2, 1) := by decide +kernel
theorem dL_act_720 : decode cL_act 720 = .ok (.ishr, 1) := by decide +kernel
theorem dL_act_721 : decode cL_act 721 = .ok (.iconst 4, 1) := by decide +kernel
theorem dL_act_722 : decode cL_act 722 = .ok (.invokestatic 15, 3) := by decide +kernel
theorem dL_act_725 : decode cL_act 725 = .ok (.putfield 97, 3) := by decide +kernel
theorem dL_act_728 : decode cL_act 728 = .ok (.iconst 0, 1) := by decide +kernel
theorem dL_act_729 : decode cL_act 729 = .ok (.istore 11, 2) := by decide +kernel
theorem dL_act_731 : decode cL_act 731 = .ok (.aload_n 1, 1) := by decide +kernel
theorem dL_act_732 : decode cL_act 732 = .ok (.getfield 21, 3) := by decide +kernel
theorem dL_act_735 : decode cL_act 735 = .ok (.iload 11, 2) := by decide +kernel
theorem dL_act_737 : decode cL_act 737 = .ok (.aaload, 1) := by decide +kernel
theorem dL_act_738 : decode cL_act 738 = .ok (.aload 7, 2) := by decide +kernel
theorem dL_act_740 : decode cL_act 740 = .ok (.if_acmp .eq 9, 3) := by decide +kernel
theorem dL_act_743 : decode cL_act 743 = .ok (.iinc 11 1, 3) := by decide +kernel
theorem dL_act_746 : decode cL_act 746 = .ok (.goto (-15), 3) := by decide +kernel
theorem dL_act_749 : decode cL_act 749 = .ok (.aload_n 0, 1) := by decide +kernel
theorem dL_act_750 : decode cL_act 750 = .ok (.iload 11, 2) := by decide +kernel
theorem dL_act_752 : decode cL_act 752 = .ok (.aload 7, 2) := by decide +kernel
theorem dL_act_754 : decode cL_act 754 = .ok (.getfield 97, 3) := by decide +kernel
theorem dL_act_757 : decode cL_act 757 = .ok (.invokevirtual 100, 3) := by decide +kernel
theorem dL_act_760 : decode cL_act 760 = .ok (.iload 10, 2) := by decide +kernel
theorem dL_act_762 : decode cL_act 762 = .ok (.if_icmp .ne 7, 3) := by decide +kernel
theorem dL_act_765 : decode cL_act 765 = .ok (.iconst 1, 1) := by decide +kernel
theorem dL_act_766 : decode cL_act 766 = .ok (.goto 4, 3) := by decide +kernel
theorem dL_act_769 : decode cL_act 769 = .ok (.iconst 0, 1) := by decide +kernel
theorem dL_act_770 : decode cL_act 770 = .ok (.ireturn, 1) := by decide +kernel
theorem dL_build_0 : decode cL_build 0 = .ok (.new 10, 3) := by decide +kernel
theorem dL_build_3 : decode cL_build 3 = .ok (.dup, 1) := by decide +kernel
theorem dL_build_4 : decode cL_build 4 = .ok (.invokespecial 103, 3) := by decide +kernel
theorem dL_build_7 : decode cL_build 7 = .ok (.astore_n 2, 1) := by decide +kernel
theorem dL_build_8 : decode cL_build 8 = .ok (.iconst 0, 1) := by decide +kernel
theorem dL_build_9 : decode cL_build 9 = .ok (.istore_n 3, 1) := by decide +kernel
theorem dL_build_10 : decode cL_build 10 = .ok (.iload_n 3, 1) := by decide +kernel
theorem dL_build_11 : decode cL_build 11 = .ok (.bipush 26, 2) := by decide +kernel
theorem dL_build_13 : decode cL_build 13 = .ok (.if_icmp .ge 102, 3) := by decide +kernel
theorem dL_build_16 : decode cL_build 16 = .ok (.aload_n 1, 1) := by decide +kernel
theorem dL_build_17 : decode cL_build 17 = .ok (.iload_n 3, 1) := by decide +kernel
theorem dL_build_18 : decode cL_build 18 = .ok (.bipush 13, 2) := by decide +kernel
theorem dL_build_20 : decode cL_build 20 = .ok (.irem, 1) := by decide +kernel
theorem dL_build_21 : decode cL_build 21 = .ok (.invokestatic 104, 3) := by decide +kernel
theorem dL_build_24 : decode cL_build 24 = .ok (.iload_n 3, 1) := by decide +kernel
theorem dL_build_25 : decode cL_build 25 = .ok (.bipush 13, 2) := by decide +kernel
theorem dL_build_27 : decode cL_build 27 = .ok (.idiv, 1) := by decide +kernel
theorem dL_build_28 : decode cL_build 28 = .ok (.iconst 5, 1) := by decide +kernel
theorem dL_build_29 : decode cL_build 29 = .ok (.imul, 1) := by decide +kernel
theorem dL_build_30 : decode cL_build 30 = .ok (.ishr, 1) := by decide +kernel
theorem dL_build_31 : decode cL_build 31 = .ok (.bipush 109, 2) := by decide +kernel
theorem dL_build_33 : decode cL_build 33 = .ok (.iload_n 3, 1) := by decide +kernel
theorem dL_build_34 : decode cL_build 34 = .ok (.imul, 1) := by decide +kernel
theorem dL_build_35 : decode cL_build 35 = .ok (.iadd, 1) := by decide +kernel
theorem dL_build_36 : decode cL_build 36 = .ok (.istore 4, 2) := by decide +kernel
theorem dL_build_38 : decode cL_build 38 = .ok (.aload_n 0, 1) := by decide +kernel
theorem dL_build_39 : decode cL_build 39 = .ok (.aload_n 2, 1) := by decide +kernel
theorem dL_build_40 : decode cL_build 40 = .ok (.iload 4, 2) := by decide +kernel
theorem dL_build_42 : decode cL_build 42 = .ok (.invokestatic 108, 3) := by decide +kernel
theorem dL_build_45 : decode cL_build 45 = .ok (.ifCond .ne 5, 3) := by decide +kernel
theorem dL_build_48 : decode cL_build 48 = .ok (.aconst_null, 1) := by decide +kernel
theorem dL_build_49 : decode cL_build 49 = .ok (.areturn, 1) := by decide +kernel
theorem dL_build_50 : decode cL_build 50 = .ok (.iload 4, 2) := by decide +kernel
theorem dL_build_52 : decode cL_build 52 = .ok (.iconst 5, 1) := by decide +kernel
theorem dL_build_53 : decode cL_build 53 = .ok (.ishr, 1) := by decide +kernel
theorem dL_build_54 : decode cL_build 54 = .ok (.iconst 4, 1) := by decide +kernel
theorem dL_build_55 : decode cL_build 55 = .ok (.invokestatic 15, 3) := by decide +kernel
theorem dL_build_58 : decode cL_build 58 = .ok (.istore 5, 2) := by decide +kernel
theorem dL_build_60 : decode cL_build 60 = .ok (.iload 5, 2) := by decide +kernel
theorem dL_build_62 : decode cL_build 62 = .ok (.ifCond .ne 6, 3) := by decide +kernel
theorem dL_build_65 : decode cL_build 65 = .ok (.goto 44, 3) := by decide +kernel
theorem dL_build_68 : decode cL_build 68 = .ok (.iconst 0, 1) := by decide +kernel
theorem dL_build_69 : decode cL_build 69 = .ok (.istore 6, 2) := by decide +kernel
theorem dL_build_71 : decode cL_build 71 = .ok (.iconst 0, 1) := by decide +kernel
theorem dL_build_72 : decode cL_build 72 = .ok (.istore 7, 2) := by decide +kernel
theorem dL_build_74 : decode cL_build 74 = .ok (.iload 7, 2) := by decide +kernel
theorem dL_build_76 : decode cL_build 76 = .ok (.iload 5, 2) := by decide +kernel
theorem dL_build_78 : decode cL_build 78 = .ok (.if_icmp .ge 18, 3) := by decide +kernel
theorem dL_build_81 : decode cL_build 81 = .ok (.iload 6, 2) := by decide +kernel
theorem dL_build_83 : decode cL_build 83 = .ok (.aload_n 2, 1) := by decide +kernel
theorem dL_build_84 : decode cL_build 84 = .ok (.invokevirtual 112, 3) := by decide +kernel
theorem dL_build_87 : decode cL_build 87 = .ok (.iadd, 1) := by decide +kernel
theorem dL_build_88 : decode cL_build 88 = .ok (.istore 6, 2) := by decide +kernel
theorem dL_build_90 : decode cL_build 90 = .ok (.iinc 7 1, 3) := by decide +kernel
theorem dL_build_93 : decode cL_build 93 = .ok (.goto (-19), 3) := by decide +kernel
theorem dL_build_96 : decode cL_build 96 = .ok (.aload_n 0, 1) := by decide +kernel
theorem dL_build_97 : decode cL_build 97 = .ok (.iload 5, 2) := by decide +kernel
theorem dL_build_99 : decode cL_build 99 = .ok (.invokevirtual 116, 3) := by decide +kernel
theorem dL_build_102 : decode cL_build 102 = .ok (.iload 6, 2) := by decide +kernel
theorem dL_build_104 : decode cL_build 104 = .ok (.if_icmp .eq 5, 3) := by decide +kernel
theorem dL_build_107 : decode cL_build 107 = .ok (.aconst_null, 1) := by decide +kernel
theorem dL_build_108 : decode cL_build 108 = .ok (.areturn, 1) := by decide +kernel
theorem dL_build_109 : decode cL_build 109 = .ok (.iinc 3 1, 3) := by decide +kernel
theorem dL_build_112 : decode cL_build 112 = .ok (.goto (-102), 3) := by decide +kernel
theorem dL_build_115 : decode cL_build 115 = .ok (.aload_n 2, 1) := by decide +kernel
theorem dL_build_116 : decode cL_build 116 = .ok (.areturn, 1) := by decide +kernel
theorem dL_law_0 : decode cL_law 0 = .ok (.new 26, 3) := by decide +kernel
theorem dL_law_3 : decode cL_law 3 = .ok (.dup, 1) := by decide +kernel
theorem dL_law_4 : decode cL_law 4 = .ok (.invokespecial 118, 3) := by decide +kernel
theorem dL_law_7 : decode cL_law 7 = .ok (.astore_n 1, 1) := by decide +kernel
theorem dL_law_8 : decode cL_law 8 = .ok (.aload_n 1, 1) := by decide +kernel
theorem dL_law_9 : decode cL_law 9 = .ok (.aload_n 0, 1) := by decide +kernel
theorem dL_law_10 : decode cL_law 10 = .ok (.invokestatic 119, 3) := by decide +kernel
theorem dL_law_13 : decode cL_law 13 = .ok (.astore_n 2, 1) := by decide +kernel
theorem dL_law_14 : decode cL_law 14 = .ok (.aload_n 2, 1) := by decide +kernel
theorem dL_law_15 : decode cL_law 15 = .ok (.ifnonnull 5, 3) := by decide +kernel
theorem dL_law_18 : decode cL_law 18 = .ok (.iconst 0, 1) := by decide +kernel
theorem dL_law_19 : decode cL_law 19 = .ok (.ireturn, 1) := by decide +kernel
theorem dL_law_20 : decode cL_law 20 = .ok (.iconst 0, 1) := by decide +kernel
theorem dL_law_21 : decode cL_law 21 = .ok (.istore_n 3, 1) := by decide +kernel
theorem dL_law_22 : decode cL_law 22 = .ok (.iload_n 3, 1) := by decide +kernel
theorem dL_law_23 : decode cL_law 23 = .ok (.bipush 14, 2) := by decide +kernel
theorem dL_law_25 : decode cL_law 25 = .ok (.if_icmp .ge 1192, 3) := by decide +kernel
theorem dL_law_28 : decode cL_law 28 = .ok (.aload_n 0, 1) := by decide +kernel
theorem dL_law_29 : decode cL_law 29 = .ok (.iload_n 3, 1) := by decide +kernel
theorem dL_law_30 : decode cL_law 30 = .ok (.invokestatic 104, 3) := by decide +kernel
theorem dL_law_33 : decode cL_law 33 = .ok (.bipush 83, 2) := by decide +kernel
theorem dL_law_35 : decode cL_law 35 = .ok (.iload_n 3, 1) := by decide +kernel
theorem dL_law_36 : decode cL_law 36 = .ok (.imul, 1) := by decide +kernel
theorem dL_law_37 : decode cL_law 37 = .ok (.iadd, 1) := by decide +kernel
theorem dL_law_38 : decode cL_law 38 = .ok (.istore 4, 2) := by decide +kernel
theorem dL_law_40 : decode cL_law 40 = .ok (.aload_n 1, 1) := by decide +kernel
theorem dL_law_41 : decode cL_law 41 = .ok (.iconst 4, 1) := by decide +kernel
theorem dL_law_42 : decode cL_law 42 = .ok (.invokevirtual 123, 3) := by decide +kernel
theorem dL_law_45 : decode cL_law 45 = .ok (.istore 5, 2) := by decide +kernel
theorem dL_law_47 : decode cL_law 47 = .ok (.iload 5, 2) := by decide +kernel
theorem dL_law_49 : decode cL_law 49 = .ok (.newarray .int, 2) := by decide +kernel
theorem dL_law_51 : decode cL_law 51 = .ok (.astore 6, 2) := by decide +kernel
theorem dL_law_53 : decode cL_law 53 = .ok (.iload 5, 2) := by decide +kernel
theorem dL_law_55 : decode cL_law 55 = .ok (.newarray .int, 2) := by decide +kernel
theorem dL_law_57 : decode cL_law 57 = .ok (.astore 7, 2) := by decide +kernel
theorem dL_law_59 : decode cL_law 59 = .ok (.iload 5, 2) := by decide +kernel
theorem dL_law_61 : decode cL_law 61 = .ok (.newarray .int, 2) := by decide +kernel
theorem dL_law_63 : decode cL_law 63 = .ok (.astore 8, 2) := by decide +kernel
theorem dL_law_65 : decode cL_law 65 = .ok (.iconst 0, 1) := by decide +kernel
theorem dL_law_66 : decode cL_law 66 = .ok (.istore 9, 2) := by decide +kernel
theorem dL_law_68 : decode cL_law 68 = .ok (.iload 9, 2) := by decide +kernel
theorem dL_law_70 : decode cL_law 70 = .ok (.iload 5, 2) := by decide +kernel
theorem dL_law_72 : decode cL_law 72 = .ok (.if_icmp .ge 45, 3) := by decide +kernel
theorem dL_law_75 : decode cL_law 75 = .ok (.aload 6, 2) := by decide +kernel
theorem dL_law_77 : decode cL_law 77 = .ok (.iload 9, 2) := by decide +kernel
theorem dL_law_79 : decode cL_law 79 = .ok (.aload_n 1, 1) := by decide +kernel
theorem dL_law_80 : decode cL_law 80 = .ok (.iload 9, 2) := by decide +kernel
theorem dL_law_82 : decode cL_law 82 = .ok (.iconst 2, 1) := by decide +kernel
theorem dL_law_83 : decode cL_law 83 = .ok (.invokevirtual 126, 3) := by decide +kernel
theorem dL_law_86 : decode cL_law 86 = .ok (.iastore, 1) := by decide +kernel
theorem dL_law_87 : decode cL_law 87 = .ok (.aload 7, 2) := by decide +kernel
theorem dL_law_89 : decode cL_law 89 = .ok (.iload 9, 2) := by decide +kernel
theorem dL_law_91 : decode cL_law 91 = .ok (.aload_n 1, 1) := by decide +kernel
theorem dL_law_92 : decode cL_law 92 = .ok (.iload 9, 2) := by decide +kernel
theorem dL_law_94 : decode cL_law 94 = .ok (.iconst 4, 1) := by decide +kernel
theorem dL_law_95 : decode cL_law 95 = .ok (.invokevirtual 126, 3) := by decide +kernel
theorem dL_law_98 : decode cL_law 98 = .ok (.iastore, 1) := by decide +kernel
theorem dL_law_99 : decode cL_law 99 = .ok (.aload 8, 2) := by decide +kernel
theorem dL_law_101 : decode cL_law 101 = .ok (.iload 9, 2) := by decide +kernel
theorem dL_law_103 : decode cL_law 103 = .ok (.aload_n 1, 1) := by decide +kernel
theorem dL_law_104 : decode cL_law 104 = .ok (.iload 9, 2) := by decide +kernel
theorem dL_law_106 : decode cL_law 106 = .ok (.iconst 5, 1) := by decide +kernel
theorem dL_law_107 : decode cL_law 107 = .ok (.invokevirtual 126, 3) := by decide +kernel
theorem dL_law_110 : decode cL_law 110 = .ok (.iastore, 1) := by decide +kernel
theorem dL_law_111 : decode cL_law 111 = .ok (.iinc 9 1, 3) := by decide +kernel
theorem dL_law_114 : decode cL_law 114 = .ok (.goto (-46), 3) := by decide +kernel
theorem dL_law_117 : decode cL_law 117 = .ok (.aload_n 1, 1) := by decide +kernel
theorem dL_law_118 : decode cL_law 118 = .ok (.iconst 1, 1) := by decide +kernel
theorem dL_law_119 : decode cL_law 119 = .ok (.invokevirtual 123, 3) := by decide +kernel
theorem dL_law_122 : decode cL_law 122 = .ok (.iconst 4, 1) := by decide +kernel
theorem dL_law_123 : decode cL_law 123 = .ok (.if_icmp .ge 7, 3) := by decide +kernel
theorem dL_law_126 : decode cL_law 126 = .ok (.iconst 0, 1) := by decide +kernel
theorem dL_law_127 : decode cL_law 127 = .ok (.goto 13, 3) := by decide +kernel
theorem dL_law_130 : decode cL_law 130 = .ok (.iload 4, 2) := by decide +kernel
theorem dL_law_132 : decode cL_law 132 = .ok (.bipush 9, 2) := by decide +kernel
theorem dL_law_134 : decode cL_law 134 = .ok (.ishr, 1) := by decide +kernel
theorem dL_law_135 : decode cL_law 135 = .ok (.bipush 12, 2) := by decide +kernel
theorem dL_law_137 : decode cL_law 137 = .ok (.invokestatic 15, 3) := by decide +kernel
theorem dL_law_140 : decode cL_law 140 = .ok (.istore 9, 2) := by decide +kernel
theorem dL_law_142 : decode cL_law 142 = .ok (.aload_n 1, 1) := by decide +kernel
theorem dL_law_143 : decode cL_law 143 = .ok (.aload_n 2, 1) := by decide +kernel
theorem dL_law_144 : decode cL_law 144 = .ok (.iload 4, 2) := by decide +kernel
theorem dL_law_146 : decode cL_law 146 = .ok (.invokestatic 108, 3) := by decide +kernel
theorem dL_law_149 : decode cL_law 149 = .ok (.ifCond .ne 5, 3) := by decide +kernel
theorem dL_law_152 : decode cL_law 152 = .ok (.iconst 0, 1) := by decide +kernel
theorem dL_law_153 : decode cL_law 153 = .ok (.ireturn, 1) := by decide +kernel
theorem dL_law_154 : decode cL_law 154 = .ok (.iconst 0, 1) := by decide +kernel
theorem dL_law_155 : decode cL_law 155 = .ok (.istore 10, 2) := by decide +kernel
theorem dL_law_157 : decode cL_law 157 = .ok (.iconst 0, 1) := by decide +kernel
theorem dL_law_158 : decode cL_law 158 = .ok (.istore 11, 2) := by decide +kernel
theorem dL_law_160 : decode cL_law 160 = .ok (.iload 11, 2) := by decide +kernel
theorem dL_law_162 : decode cL_law 162 = .ok (.iload 5, 2) := by decide +kernel
theorem dL_law_164 : decode cL_law 164 = .ok (.if_icmp .ge 173, 3) := by decide +kernel
theorem dL_law_167 : decode cL_law 167 = .ok (.aload_n 1, 1) := by decide +kernel
theorem dL_law_168 : decode cL_law 168 = .ok (.iload 11, 2) := by decide +kernel
theorem dL_law_170 : decode cL_law 170 = .ok (.iconst 2, 1) := by decide +kernel
theorem dL_law_171 : decode cL_law 171 = .ok (.invokevirtual 126, 3) := by decide +kernel
theorem dL_law_174 : decode cL_law 174 = .ok (.istore 12, 2) := by decide +kernel
theorem dL_law_176 : decode cL_law 176 = .ok (.iload 12, 2) := by decide +kernel
theorem dL_law_178 : decode cL_law 178 = .ok (.aload 6, 2) := by decide +kernel
theorem dL_law_180 : decode cL_law 180 = .ok (.iload 11, 2) := by decide +kernel
theorem dL_law_182 : decode cL_law 182 = .ok (.iaload, 1) := by decide +kernel
theorem dL_law_183 : decode cL_law 183 = .ok (.if_icmp .ne 6, 3) := by decide +kernel
theorem dL_law_186 : decode cL_law 186 = .ok (.goto 145, 3) := by decide +kernel
theorem dL_law_189 : decode cL_law 189 = .ok (.iinc 10 1, 3) := by decide +kernel
theorem dL_law_192 : decode cL_law 192 = .ok (.iload 9, 2) := by decide +kernel
theorem dL_law_194 : decode cL_law 194 = .ok (.bipush 10, 2) := by decide +kernel
theorem dL_law_196 : decode cL_law 196 = .ok (.if_icmp .ne 16, 3) := by decide +kernel
theorem dL_law_199 : decode cL_law 199 = .ok (.iload 12, 2) := by decide +kernel
theorem dL_law_201 : decode cL_law 201 = .ok (.aload 7, 2) := by decide +kernel
theorem dL_law_203 : decode cL_law 203 = .ok (.iload 11, 2) := by decide +kernel
theorem dL_law_205 : decode cL_law 205 = .ok (.iaload, 1) := by decide +kernel
theorem dL_law_206 : decode cL_law 206 = .ok (.if_icmp .eq 35, 3) := by decide +kernel
theorem dL_law_209 : decode cL_law 209 = .ok (.goto 30, 3) := by decide +kernel
theorem dL_law_212 : decode cL_law 212 = .ok (.iload 9, 2) := by decide +kernel
theorem dL_law_214 : decode cL_law 214 = .ok (.iconst 5, 1) := by decide +kernel
theorem dL_law_215 : decode cL_law 215 = .ok (.if_icmp .eq 26, 3) := by decide +kernel
theorem dL_law_218 : decode cL_law 218 = .ok (.iload 9, 2) := by decide +kernel
theorem dL_law_220 : decode cL_law 220 = .ok (.bipush 6, 2) := by decide +kernel
theorem dL_law_222 : decode cL_law 222 = .ok (.if_icmp .eq 19, 3) := by decide +kernel
theorem dL_law_225 : decode cL_law 225 = .ok (.iload 9, 2) := by decide +kernel
theorem dL_law_227 : decode cL_law 227 = .ok (.bipush 7, 2) := by decide +kernel
theorem dL_law_229 : decode cL_law 229 = .ok (.if_icmp .eq 12, 3) := by decide +kernel
theorem dL_law_232 : decode cL_law 232 = .ok (.iload 9, 2) := by decide +kernel
theorem dL_law_234 : decode cL_law 234 = .ok (.bipush 9, 2) := by decide +kernel
theorem dL_law_236 : decode cL_law 236 = .ok (.if_icmp .eq 5, 3) := by decide +kernel
theorem dL_law_239 : decode cL_law 239 = .ok (.iconst 0, 1) := by decide +kernel
theorem dL_law_240 : decode cL_law 240 = .ok (.ireturn, 1) := by decide +kernel
theorem dL_law_241 : decode cL_law 241 = .ok (.aload_n 1, 1) := by decide +kernel
theorem dL_law_242 : decode cL_law 242 = .ok (.iload 11, 2) := by decide +kernel
theorem dL_law_244 : decode cL_law 244 = .ok (.iconst 5, 1) := by decide +kernel
theorem dL_law_245 : decode cL_law 245 = .ok (.invokevirtual 126, 3) := by decide +kernel
theorem dL_law_248 : decode cL_law 248 = .ok (.aload 8, 2) := by decide +kernel
theorem dL_law_250 : decode cL_law 250 = .ok (.iload 11, 2) := by decide +kernel
theorem dL_law_252 : decode cL_law 252 = .ok (.iaload, 1) := by decide +kernel
theorem dL_law_253 : decode cL_law 253 = .ok (.iload 12, 2) := by decide +kernel
theorem dL_law_255 : decode cL_law 255 = .ok (.ifCond .ge 7, 3) := by decide +kernel
theorem dL_law_258 : decode cL_law 258 = .ok (.iconst 0, 1) := by decide +kernel
theorem dL_law_259 : decode cL_law 259 = .ok (.goto 4, 3) := by decide +kernel
theorem dL_law_262 : decode cL_law 262 = .ok (.iconst 1, 1) := by decide +kernel
theorem dL_law_263 : decode cL_law 263 = .ok (.iadd, 1) := by decide +kernel
theorem dL_law_264 : decode cL_law 264 = .ok (.if_icmp .ne 43, 3) := by decide +kernel
theorem dL_law_267 : decode cL_law 267 = .ok (.iload 12, 2) := by decide +kernel
theorem dL_law_269 : decode cL_law 269 = .ok (.ifCond .lt 40, 3) := by decide +kernel
theorem dL_law_272 : decode cL_law 272 = .ok (.aload_n 1, 1) := by decide +kernel
theorem dL_law_273 : decode cL_law 273 = .ok (.iload 11, 2) := by decide +kernel
theorem dL_law_275 : decode cL_law 275 = .ok (.iconst 0, 1) := by decide +kernel
theorem dL_law_276 : decode cL_law 276 = .ok (.invokevirtual 129, 3) := by decide +kernel
theorem dL_law_279 : decode cL_law 279 = .ok (.iload 12, 2) := by decide +kernel
theorem dL_law_281 : decode cL_law 281 = .ok (.if_icmp .ne 26, 3) := by decide +kernel
theorem dL_law_284 : decode cL_law 284 = .ok (.aload 6, 2) := by decide +kernel
theorem dL_law_286 : decode cL_law 286 = .ok (.iload 11, 2) := by decide +kernel
theorem dL_law_288 : decode cL_law 288 = .ok (.iaload, 1) := by decide +kernel
theorem dL_law_289 : decode cL_law 289 = .ok (.ifCond .lt 20, 3) := by decide +kernel
theorem dL_law_292 : decode cL_law 292 = .ok (.aload_n 1, 1) := by decide +kernel
theorem dL_law_293 : decode cL_law 293 = .ok (.iload 11, 2) := by decide +kernel
theorem dL_law_295 : decode cL_law 295 = .ok (.iconst 1, 1) := by decide +kernel
theorem dL_law_296 : decode cL_law 296 = .ok (.invokevirtual 129, 3) := by decide +kernel
theorem dL_law_299 : decode cL_law 299 = .ok (.aload 6, 2) := by decide +kernel
theorem dL_law_301 : decode cL_law 301 = .ok (.iload 11, 2) := by decide +kernel
theorem dL_law_303 : decode cL_law 303 = .ok (.iaload, 1) := by decide +kernel
theorem dL_law_304 : decode cL_law 304 = .ok (.if_icmp .eq 5, 3) := by decide +kernel
theorem dL_law_307 : decode cL_law 307 = .ok (.iconst 0, 1) := by decide +kernel
theorem dL_law_308 : decode cL_law 308 = .ok (.ireturn, 1) := by decide +kernel
theorem dL_law_309 : decode cL_law 309 = .ok (.iload 12, 2) := by decide +kernel
theorem dL_law_311 : decode cL_law 311 = .ok (.ifCond .ge 20, 3) := by decide +kernel
theorem dL_law_314 : decode cL_law 314 = .ok (.aload_n 1, 1) := by decide +kernel
theorem dL_law_315 : decode cL_law 315 = .ok (.iload 11, 2) := by decide +kernel
theorem dL_law_317 : decode cL_law 317 = .ok (.iconst 0, 1) := by decide +kernel
theorem dL_law_318 : decode cL_law 318 = .ok (.invokevirtual 129, 3) := by decide +kernel
theorem dL_law_321 : decode cL_law 321 = .ok (.aload 6, 2) := by decide +kernel
theorem dL_law_323 : decode cL_law 323 = .ok (.iload 11, 2) := by decide +kernel
theorem dL_law_325 : decode cL_law 325 = .ok (.iaload, 1) := by decide +kernel
theorem dL_law_326 : decode cL_law 326 = .ok (.if_icmp .eq 5, 3) := by decide +kernel
theorem dL_law_329 : decode cL_law 329 = .ok (.iconst 0, 1) := by decide +kernel
theorem dL_law_330 : decode cL_law 330 = .ok (.ireturn, 1) := by decide +kernel
theorem dL_law_331 : decode cL_law 331 = .ok (.iinc 11 1, 3) := by decide +kernel
theorem dL_law_334 : decode cL_law 334 = .ok (.goto (-174), 3) := by decide +kernel
theorem dL_law_337 : decode cL_law 337 = .ok (.iload 9, 2) := by decide +kernel
theorem dL_law_339 : decode cL_law 339 = .ok (.bipush 10, 2) := by decide +kernel
theorem dL_law_341 : decode cL_law 341 = .ok (.if_icmp .eq 11, 3) := by decide +kernel
theorem dL_law_344 : decode cL_law 344 = .ok (.iload 10, 2) := by decide +kernel
theorem dL_law_346 : decode cL_law 346 = .ok (.iconst 1, 1) := by decide +kernel
theorem dL_law_347 : decode cL_law 347 = .ok (.if_icmp .le 5, 3) := by decide +kernel
theorem dL_law_350 : decode cL_law 350 = .ok (.iconst 0, 1) := by decide +kernel
theorem dL_law_351 : decode cL_law 351 = .ok (.ireturn, 1) := by decide +kernel
theorem dL_law_352 : decode cL_law 352 = .ok (.aload_n 1, 1) := by decide +kernel
theorem dL_law_353 : decode cL_law 353 = .ok (.iconst 1, 1) := by decide +kernel
theorem dL_law_354 : decode cL_law 354 = .ok (.invokevirtual 123, 3) := by decide +kernel
theorem dL_law_357 : decode cL_law 357 = .ok (.istore 11, 2) := by decide +kernel
theorem dL_law_359 : decode cL_law 359 = .ok (.iconst 0, 1) := by decide +kernel
theorem dL_law_360 : decode cL_law 360 = .ok (.istore 12, 2) := by decide +kernel
theorem dL_law_362 : decode cL_law 362 = .ok (.iconst 0, 1) := by decide +kernel
theorem dL_law_363 : decode cL_law 363 = .ok (.istore 13, 2) := by decide +kernel
theorem dL_law_365 : decode cL_law 365 = .ok (.iconst 0, 1) := by decide +kernel
theorem dL_law_366 : decode cL_law 366 = .ok (.istore 14, 2) := by decide +kernel
theorem dL_law_368 : decode cL_law 368 = .ok (.iconst 0, 1) := by decide +kernel
theorem dL_law_369 : decode cL_law 369 = .ok (.istore 15, 2) := by decide +kernel
theorem dL_law_371 : decode cL_law 371 = .ok (.iconst 0, 1) := by decide +kernel
theorem dL_law_372 : decode cL_law 372 = .ok (.istore 16, 2) := by decide +kernel
theorem dL_law_374 : decode cL_law 374 = .ok (.iload 16, 2) := by decide +kernel
theorem dL_law_376 : decode cL_law 376 = .ok (.iload 11, 2) := by decide +kernel
theorem dL_law_378 : decode cL_law 378 = .ok (.if_icmp .ge 545, 3) := by decide +kernel
theorem dL_law_381 : decode cL_law 381 = .ok (.aload_n 1, 1) := by decide +kernel
theorem dL_law_382 : decode cL_law 382 = .ok (.iload 16, 2) := by decide +kernel
theorem dL_law_384 : decode cL_law 384 = .ok (.iconst 2, 1) := by decide +kernel
theorem dL_law_385 : decode cL_law 385 = .ok (.invokevirtual 132, 3) := by decide +kernel
theorem dL_law_388 : decode cL_law 388 = .ok (.iconst 1, 1) := by decide +kernel
theorem dL_law_389 : decode cL_law 389 = .ok (.if_icmp .ne 7, 3) := by decide +kernel
theorem dL_law_392 : decode cL_law 392 = .ok (.iconst 1, 1) := by decide +kernel
theorem dL_law_393 : decode cL_law 393 = .ok (.goto 4, 3) := by decide +kernel
theorem dL_law_396 : decode cL_law 396 = .ok (.iconst 0, 1) := by decide +kernel
theorem dL_law_397 : decode cL_law 397 = .ok (.istore 17, 2) := by decide +kernel
theorem dL_law_399 : decode cL_law 399 = .ok (.aload_n 1, 1) := by decide +kernel
theorem dL_law_400 : decode cL_law 400 = .ok (.iload 16, 2) := by decide +kernel
theorem dL_law_402 : decode cL_law 402 = .ok (.iconst 5, 1) := by decide +kernel
theorem dL_law_403 : decode cL_law 403 = .ok (.invokevirtual 132, 3) := by decide +kernel
theorem dL_law_406 : decode cL_law 406 = .ok (.istore 18, 2) := by decide +kernel
theorem dL_law_408 : decode cL_law 408 = .ok (.aload_n 1, 1) := by decide +kernel
theorem dL_law_409 : decode cL_law 409 = .ok (.iload 16, 2) := by decide +kernel
theorem dL_law_411 : decode cL_law 411 = .ok (.iconst 3, 1) := by decide +kernel
theorem dL_law_412 : decode cL_law 412 = .ok (.invokevirtual 132, 3) := by decide +kernel
theorem dL_law_415 : decode cL_law 415 = .ok (.istore 19, 2) := by decide +kernel
theorem dL_law_417 : decode cL_law 417 = .ok (.aload_n 1, 1) := by decide +kernel
theorem dL_law_418 : decode cL_law 418 = .ok (.iload 16, 2) := by decide +kernel
theorem dL_law_420 : decode cL_law 420 = .ok (.iconst 4, 1) := by decide +kernel
theorem dL_law_421 : decode cL_law 421 = .ok (.invokevirtual 132, 3) := by decide +kernel
theorem dL_law_424 : decode cL_law 424 = .ok (.istore 20, 2) := by decide +kernel
theorem dL_law_426 : decode cL_law 426 = .ok (.iload 12, 2) := by decide +kernel
theorem dL_law_428 : decode cL_law 428 = .ok (.iload 17, 2) := by decide +kernel
theorem dL_law_430 : decode cL_law 430 = .ok (.ifCond .eq 7, 3) := by decide +kernel
theorem dL_law_433 : decode cL_law 433 = .ok (.iconst 1, 1) := by decide +kernel
theorem dL_law_434 : decode cL_law 434 = .ok (.goto 4, 3) := by decide +kernel
theorem dL_law_437 : decode cL_law 437 = .ok (.iconst 0, 1) := by decide +kernel
theorem dL_law_438 : decode cL_law 438 = .ok (.iadd, 1) := by decide +kernel
theorem dL_law_439 : decode cL_law 439 = .ok (.istore 12, 2) := by decide +kernel
theorem dL_law_441 : decode cL_law 441 = .ok (.iload 13, 2) := by decide +kernel
theorem dL_law_443 : decode cL_law 443 = .ok (.iload 18, 2) := by decide +kernel
theorem dL_law_445 : decode cL_law 445 = .ok (.ifCond .lt 7, 3) := by decide +kernel
theorem dL_law_448 : decode cL_law 448 = .ok (.iconst 1, 1) := by decide +kernel
theorem dL_law_449 : decode cL_law 449 = .ok (.goto 4, 3) := by decide +kernel
theorem dL_law_452 : decode cL_law 452 = .ok (.iconst 0, 1) := by decide +kernel
theorem dL_law_453 : decode cL_law 453 = .ok (.iadd, 1) := by decide +kernel
theorem dL_law_454 : decode cL_law 454 = .ok (.istore 13, 2) := by decide +kernel
theorem dL_law_456 : decode cL_law 456 = .ok (.iload 14, 2) := by decide +kernel
theorem dL_law_458 : decode cL_law 458 = .ok (.aload_n 1, 1) := by decide +kernel
theorem dL_law_459 : decode cL_law 459 = .ok (.iload 16, 2) := by decide +kernel
theorem dL_law_461 : decode cL_law 461 = .ok (.bipush 8, 2) := by decide +kernel
theorem dL_law_463 : decode cL_law 463 = .ok (.invokevirtual 132, 3) := by decide +kernel
theorem dL_law_466 : decode cL_law 466 = .ok (.iadd, 1) := by decide +kernel
theorem dL_law_467 : decode cL_law 467 = .ok (.istore 14, 2) := by decide +kernel
theorem dL_law_469 : decode cL_law 469 = .ok (.iload 18, 2) := by decide +kernel
theorem dL_law_471 : decode cL_law 471 = .ok (.ifCond .lt 71, 3) := by decide +kernel
theorem dL_law_474 : decode cL_law 474 = .ok (.iload 17, 2) := by decide +kernel
theorem dL_law_476 : decode cL_law 476 = .ok (.ifCond .eq 150, 3) := by decide +kernel
theorem dL_law_479 : decode cL_law 479 = .ok (.aload_n 1, 1) := by decide +kernel
theorem dL_law_480 : decode cL_law 480 = .ok (.iload 18, 2) := by decide +kernel
theorem dL_law_482 : decode cL_law 482 = .ok (.iconst 5, 1) := by decide +kernel
theorem dL_law_483 : decode cL_law 483 = .ok (.invokevirtual 132, 3) := by decide +kernel
theorem dL_law_486 : decode cL_law 486 = .ok (.iload 16, 2) := by decide +kernel
theorem dL_law_488 : decode cL_law 488 = .ok (.if_icmp .ne 138, 3) := by decide +kernel
theorem dL_law_491 : decode cL_law 491 = .ok (.aload_n 1, 1) := by decide +kernel
theorem dL_law_492 : decode cL_law 492 = .ok (.iload 18, 2) := by decide +kernel
theorem dL_law_494 : decode cL_law 494 = .ok (.iconst 2, 1) := by decide +kernel
theorem dL_law_495 : decode cL_law 495 = .ok (.invokevirtual 132, 3) := by decide +kernel
theorem dL_law_498 : decode cL_law 498 = .ok (.iconst 1, 1) := by decide +kernel
theorem dL_law_499 : decode cL_law 499 = .ok (.if_icmp .ne 127, 3) := by decide +kernel
theorem dL_law_502 : decode cL_law 502 = .ok (.aload_n 1, 1) := by decide +kernel
theorem dL_law_503 : decode cL_law 503 = .ok (.iload 18, 2) := by decide +kernel
theorem dL_law_505 : decode cL_law 505 = .ok (.iconst 0, 1) := by decide +kernel
theorem dL_law_506 : decode cL_law 506 = .ok (.invokevirtual 132, 3) := by decide +kernel
theorem dL_law_509 : decode cL_law 509 = .ok (.aload_n 1, 1) := by decide +kernel
theorem dL_law_510 : decode cL_law 510 = .ok (.iload 16, 2) := by decide +kernel
theorem dL_law_512 : decode cL_law 512 = .ok (.iconst 0, 1) := by decide +kernel
theorem dL_law_513 : decode cL_law 513 = .ok (.invokevirtual 132, 3) := by decide +kernel
theorem dL_law_516 : decode cL_law 516 = .ok (.if_icmp .eq 110, 3) := by decide +kernel
theorem dL_law_519 : decode cL_law 519 = .ok (.aload_n 1, 1) := by decide +kernel
theorem dL_law_520 : decode cL_law 520 = .ok (.iload 16, 2) := by decide +kernel
theorem dL_law_522 : decode cL_law 522 = .ok (.iload 18, 2) := by decide +kernel
theorem dL_law_524 : decode cL_law 524 = .ok (.invokevirtual 135, 3) := by decide +kernel
theorem dL_law_527 : decode cL_law 527 = .ok (.ifCond .lt 15, 3) := by decide +kernel
theorem dL_law_530 : decode cL_law 530 = .ok (.aload_n 1, 1) := by decide +kernel
theorem dL_law_531 : decode cL_law 531 = .ok (.iload 16, 2) := by decide +kernel
theorem dL_law_533 : decode cL_law 533 = .ok (.iload 18, 2) := by decide +kernel
theorem dL_law_535 : decode cL_law 535 = .ok (.invokevirtual 135, 3) := by decide +kernel
theorem dL_law_538 : decode cL_law 538 = .ok (.iconst 3, 1) := by decide +kernel
theorem dL_law_539 : decode cL_law 539 = .ok (.if_icmp .lt 87, 3) := by decide +kernel
theorem dL_law_542 : decode cL_law 542 = .ok (.iload 17, 2) := by decide +kernel
theorem dL_law_544 : decode cL_law 544 = .ok (.ifCond .ne 32, 3) := by decide +kernel
theorem dL_law_547 : decode cL_law 547 = .ok (.aload_n 1, 1) := by decide +kernel
theorem dL_law_548 : decode cL_law 548 = .ok (.iload 16, 2) := by decide +kernel
theorem dL_law_550 : decode cL_law 550 = .ok (.bipush 7, 2) := by decide +kernel
theorem dL_law_552 : decode cL_law 552 = .ok (.invokevirtual 132, 3) := by decide +kernel
theorem dL_law_555 : decode cL_law 555 = .ok (.ifCond .ne 71, 3) := by decide +kernel
theorem dL_law_558 : decode cL_law 558 = .ok (.aload_n 1, 1) := by decide +kernel
theorem dL_law_559 : decode cL_law 559 = .ok (.iload 16, 2) := by decide +kernel
theorem dL_law_561 : decode cL_law 561 = .ok (.bipush 9, 2) := by decide +kernel
theorem dL_law_563 : decode cL_law 563 = .ok (.invokevirtual 132, 3) := by decide +kernel
theorem dL_law_566 : decode cL_law 566 = .ok (.aload_n 1, 1) := by decide +kernel
theorem dL_law_567 : decode cL_law 567 = .ok (.iload 16, 2) := by decide +kernel
theorem dL_law_569 : decode cL_law 569 = .ok (.iconst 1, 1) := by decide +kernel
theorem dL_law_570 : decode cL_law 570 = .ok (.invokevirtual 132, 3) := by decide +kernel
theorem dL_law_573 : decode cL_law 573 = .ok (.if_icmp .lt 53, 3) := by decide +kernel
theorem dL_law_576 : decode cL_law 576 = .ok (.iload 17, 2) := by decide +kernel
theorem dL_law_578 : decode cL_law 578 = .ok (.aload_n 1, 1) := by decide +kernel
theorem dL_law_579 : decode cL_law 579 = .ok (.iload 16, 2) := by decide +kernel
theorem dL_law_581 : decode cL_law 581 = .ok (.bipush 9, 2) := by decide +kernel
theorem dL_law_583 : decode cL_law 583 = .ok (.invokevirtual 132, 3) := by decide +kernel
theorem dL_law_586 : decode cL_law 586 = .ok (.iconst (-1), 1) := by decide +kernel
theorem dL_law_587 : decode cL_law 587 = .ok (.if_icmp .ne 12, 3) := by decide +kernel
theorem dL_law_590 : decode cL_law 590 = .ok (.iload 17, 2) := by decide +kernel
theorem dL_law_592 : decode cL_law 592 = .ok (.ifCond .eq 7, 3) := by decide +kernel
theorem dL_law_595 : decode cL_law 595 = .ok (.iconst 1, 1) := by decide +kernel
theorem dL_law_596 : decode cL_law 596 = .ok (.goto 4, 3) := by decide +kernel
theorem dL_law_599 : decode cL_law 599 = .ok (.iconst 0, 1) := by decide +kernel
theorem dL_law_600 : decode cL_law 600 = .ok (.if_icmp .ne 26, 3) := by decide +kernel
theorem dL_law_603 : decode cL_law 603 = .ok (.iload 19, 2) := by decide +kernel
theorem dL_law_605 : decode cL_law 605 = .ok (.ifCond .lt 7, 3) := by decide +kernel
theorem dL_law_608 : decode cL_law 608 = .ok (.iconst 1, 1) := by decide +kernel
theorem dL_law_609 : decode cL_law 609 = .ok (.goto 4, 3) := by decide +kernel
theorem dL_law_612 : decode cL_law 612 = .ok (.iconst 0, 1) := by decide +kernel
theorem dL_law_613 : decode cL_law 613 = .ok (.iload 20, 2) := by decide +kernel
theorem dL_law_615 : decode cL_law 615 = .ok (.ifCond .lt 7, 3) := by decide +kernel
theorem dL_law_618 : decode cL_law 618 = .ok (.iconst 1, 1) := by decide +kernel
theorem dL_law_619 : decode cL_law 619 = .ok (.goto 4, 3) := by decide +kernel
theorem dL_law_622 : decode cL_law 622 = .ok (.iconst 0, 1) := by decide +kernel
theorem dL_law_623 : decode cL_law 623 = .ok (.if_icmp .eq 5, 3) := by decide +kernel
theorem dL_law_626 : decode cL_law 626 = .ok (.iconst 0, 1) := by decide +kernel
theorem dL_law_627 : decode cL_law 627 = .ok (.ireturn, 1) := by decide +kernel
theorem dL_law_628 : decode cL_law 628 = .ok (.iload 19, 2) := by decide +kernel
theorem dL_law_630 : decode cL_law 630 = .ok (.ifCond .lt 64, 3) := by decide +kernel
theorem dL_law_633 : decode cL_law 633 = .ok (.iload 19, 2) := by decide +kernel
theorem dL_law_635 : decode cL_law 635 = .ok (.iload 16, 2) := by decide +kernel
theorem dL_law_637 : decode cL_law 637 = .ok (.if_icmp .ge 55, 3) := by decide +kernel
theorem dL_law_640 : decode cL_law 640 = .ok (.iload 20, 2) := by decide +kernel
theorem dL_law_642 : decode cL_law 642 = .ok (.iload 16, 2) := by decide +kernel
theorem dL_law_644 : decode cL_law 644 = .ok (.if_icmp .ge 48, 3) := by decide +kernel
theorem dL_law_647 : decode cL_law 647 = .ok (.aload_n 1, 1) := by decide +kernel
theorem dL_law_648 : decode cL_law 648 = .ok (.iload 19, 2) := by decide +kernel
theorem dL_law_650 : decode cL_law 650 = .ok (.iconst 0, 1) := by decide +kernel
theorem dL_law_651 : decode cL_law 651 = .ok (.invokevirtual 132, 3) := by decide +kernel
theorem dL_law_654 : decode cL_law 654 = .ok (.ifCond .ne 38, 3) := by decide +kernel
theorem dL_law_657 : decode cL_law 657 = .ok (.aload_n 1, 1) := by decide +kernel
theorem dL_law_658 : decode cL_law 658 = .ok (.iload 20, 2) := by decide +kernel
theorem dL_law_660 : decode cL_law 660 = .ok (.iconst 0, 1) := by decide +kernel
theorem dL_law_661 : decode cL_law 661 = .ok (.invokevirtual 132, 3) := by decide +kernel
theorem dL_law_664 : decode cL_law 664 = .ok (.iconst 1, 1) := by decide +kernel
theorem dL_law_665 : decode cL_law 665 = .ok (.if_icmp .ne 27, 3) := by decide +kernel
theorem dL_law_668 : decode cL_law 668 = .ok (.aload_n 1, 1) := by decide +kernel
theorem dL_law_669 : decode cL_law 669 = .ok (.iload 16, 2) := by decide +kernel
theorem dL_law_671 : decode cL_law 671 = .ok (.iload 19, 2) := by decide +kernel
theorem dL_law_673 : decode cL_law 673 = .ok (.invokevirtual 135, 3) := by decide +kernel
theorem dL_law_676 : decode cL_law 676 = .ok (.iconst 1, 1) := by decide +kernel
theorem dL_law_677 : decode cL_law 677 = .ok (.if_icmp .ne 15, 3) := by decide +kernel
theorem dL_law_680 : decode cL_law 680 = .ok (.aload_n 1, 1) := by decide +kernel
theorem dL_law_681 : decode cL_law 681 = .ok (.iload 20, 2) := by decide +kernel
theorem dL_law_683 : decode cL_law 683 = .ok (.iload 16, 2) := by decide +kernel
theorem dL_law_685 : decode cL_law 685 = .ok (.invokevirtual 135, 3) := by decide +kernel
theorem dL_law_688 : decode cL_law 688 = .ok (.iconst 1, 1) := by decide +kernel
theorem dL_law_689 : decode cL_law 689 = .ok (.if_icmp .eq 5, 3) := by decide +kernel
theorem dL_law_692 : decode cL_law 692 = .ok (.iconst 0, 1) := by decide +kernel
theorem dL_law_693 : decode cL_law 693 = .ok (.ireturn, 1) := by decide +kernel
theorem dL_law_694 : decode cL_law 694 = .ok (.iload 4, 2) := by decide +kernel
theorem dL_law_696 : decode cL_law 696 = .ok (.iconst 2, 1) := by decide +kernel
theorem dL_law_697 : decode cL_law 697 = .ok (.ishr, 1) := by decide +kernel
theorem dL_law_698 : decode cL_law 698 = .ok (.iconst 5, 1) := by decide +kernel
theorem dL_law_699 : decode cL_law 699 = .ok (.iload 16, 2) := by decide +kernel
theorem dL_law_701 : decode cL_law 701 = .ok (.imul, 1) := by decide +kernel
theorem dL_law_702 : decode cL_law 702 = .ok (.iadd, 1) := by decide +kernel
theorem dL_law_703 : decode cL_law 703 = .ok (.iload 11, 2) := by decide +kernel
theorem dL_law_705 : decode cL_law 705 = .ok (.invokestatic 15, 3) := by decide +kernel
theorem dL_law_708 : decode cL_law 708 = .ok (.istore 21, 2) := by decide +kernel
theorem dL_law_710 : decode cL_law 710 = .ok (.aload_n 1, 1) := by decide +kernel
theorem dL_law_711 : decode cL_law 711 = .ok (.iload 16, 2) := by decide +kernel
theorem dL_law_713 : decode cL_law 713 = .ok (.iload 21, 2) := by decide +kernel
theorem dL_law_715 : decode cL_law 715 = .ok (.invokevirtual 135, 3) := by decide +kernel
theorem dL_law_718 : decode cL_law 718 = .ok (.istore 22, 2) := by decide +kernel
theorem dL_law_720 : decode cL_law 720 = .ok (.iload 22, 2) := by decide +kernel
theorem dL_law_722 : decode cL_law 722 = .ok (.aload_n 1, 1) := by decide +kernel
theorem dL_law_723 : decode cL_law 723 = .ok (.iload 21, 2) := by decide +kernel
theorem dL_law_725 : decode cL_law 725 = .ok (.iload 16, 2) := by decide +kernel
theorem dL_law_727 : decode cL_law 727 = .ok (.invokevirtual 135, 3) := by decide +kernel
theorem dL_law_730 : decode cL_law 730 = .ok (.if_icmp .ne 28, 3) := by decide +kernel
theorem dL_law_733 : decode cL_law 733 = .ok (.iload 22, 2) := by decide +kernel
theorem dL_law_735 : decode cL_law 735 = .ok (.ifCond .ne 7, 3) := by decide +kernel
theorem dL_law_738 : decode cL_law 738 = .ok (.iconst 1, 1) := by decide +kernel
theorem dL_law_739 : decode cL_law 739 = .ok (.goto 4, 3) := by decide +kernel
theorem dL_law_742 : decode cL_law 742 = .ok (.iconst 0, 1) := by decide +kernel
theorem dL_law_743 : decode cL_law 743 = .ok (.iload 16, 2) := by decide +kernel
theorem dL_law_745 : decode cL_law 745 = .ok (.iload 21, 2) := by decide +kernel
theorem dL_law_747 : decode cL_law 747 = .ok (.if_icmp .ne 7, 3) := by decide +kernel
theorem dL_law_750 : decode cL_law 750 = .ok (.iconst 1, 1) := by decide +kernel
theorem dL_law_751 : decode cL_law 751 = .ok (.goto 4, 3) := by decide +kernel
theorem dL_law_754 : decode cL_law 754 = .ok (.iconst 0, 1) := by decide +kernel
theorem dL_law_755 : decode cL_law 755 = .ok (.if_icmp .eq 5, 3) := by decide +kernel
theorem dL_law_758 : decode cL_law 758 = .ok (.iconst 0, 1) := by decide +kernel
theorem dL_law_759 : decode cL_law 759 = .ok (.ireturn, 1) := by decide +kernel
theorem dL_law_760 : decode cL_law 760 = .ok (.iload 19, 2) := by decide +kernel
theorem dL_law_762 : decode cL_law 762 = .ok (.ifCond .lt 43, 3) := by decide +kernel
theorem dL_law_765 : decode cL_law 765 = .ok (.aload_n 1, 1) := by decide +kernel
theorem dL_law_766 : decode cL_law 766 = .ok (.iload 19, 2) := by decide +kernel
theorem dL_law_768 : decode cL_law 768 = .ok (.iload 21, 2) := by decide +kernel
theorem dL_law_770 : decode cL_law 770 = .ok (.invokevirtual 135, 3) := by decide +kernel
theorem dL_law_773 : decode cL_law 773 = .ok (.ifCond .lt 32, 3) := by decide +kernel
theorem dL_law_776 : decode cL_law 776 = .ok (.iload 21, 2) := by decide +kernel
theorem dL_law_778 : decode cL_law 778 = .ok (.iload 16, 2) := by decide +kernel
theorem dL_law_780 : decode cL_law 780 = .ok (.if_icmp .eq 25, 3) := by decide +kernel
theorem dL_law_783 : decode cL_law 783 = .ok (.iload 22, 2) := by decide +kernel
theorem dL_law_785 : decode cL_law 785 = .ok (.ifCond .lt 18, 3) := by decide +kernel
theorem dL_law_788 : decode cL_law 788 = .ok (.iload 22, 2) := by decide +kernel
theorem dL_law_790 : decode cL_law 790 = .ok (.aload_n 1, 1) := by decide +kernel
theorem dL_law_791 : decode cL_law 791 = .ok (.iload 19, 2) := by decide +kernel
theorem dL_law_793 : decode cL_law 793 = .ok (.iload 21, 2) := by decide +kernel
theorem dL_law_795 : decode cL_law 795 = .ok (.invokevirtual 135, 3) := by decide +kernel
theorem dL_law_798 : decode cL_law 798 = .ok (.iconst 1, 1) := by decide +kernel
theorem dL_law_799 : decode cL_law 799 = .ok (.iadd, 1) := by decide +kernel
theorem dL_law_800 : decode cL_law 800 = .ok (.if_icmp .le 5, 3) := by decide +kernel
theorem dL_law_803 : decode cL_law 803 = .ok (.iconst 0, 1) := by decide +kernel
theorem dL_law_804 : decode cL_law 804 = .ok (.ireturn, 1) := by decide +kernel
theorem dL_law_805 : decode cL_law 805 = .ok (.aload_n 1, 1) := by decide +kernel
theorem dL_law_806 : decode cL_law 806 = .ok (.iload 16, 2) := by decide +kernel
theorem dL_law_808 : decode cL_law 808 = .ok (.invokevirtual 138, 3) := by decide +kernel
theorem dL_law_811 : decode cL_law 811 = .ok (.istore 23, 2) := by decide +kernel
theorem dL_law_813 : decode cL_law 813 = .ok (.iload 23, 2) := by decide +kernel
theorem dL_law_815 : decode cL_law 815 = .ok (.ifCond .lt 53, 3) := by decide +kernel
theorem dL_law_818 : decode cL_law 818 = .ok (.iload 18, 2) := by decide +kernel
theorem dL_law_820 : decode cL_law 820 = .ok (.ifCond .ge 46, 3) := by decide +kernel
theorem dL_law_823 : decode cL_law 823 = .ok (.iload 17, 2) := by decide +kernel
theorem dL_law_825 : decode cL_law 825 = .ok (.ifCond .eq 41, 3) := by decide +kernel
theorem dL_law_828 : decode cL_law 828 = .ok (.aload_n 1, 1) := by decide +kernel
theorem dL_law_829 : decode cL_law 829 = .ok (.iload 23, 2) := by decide +kernel
theorem dL_law_831 : decode cL_law 831 = .ok (.iconst 5, 1) := by decide +kernel
theorem dL_law_832 : decode cL_law 832 = .ok (.invokevirtual 132, 3) := by decide +kernel
theorem dL_law_835 : decode cL_law 835 = .ok (.ifCond .ge 31, 3) := by decide +kernel
theorem dL_law_838 : decode cL_law 838 = .ok (.aload_n 1, 1) := by decide +kernel
theorem dL_law_839 : decode cL_law 839 = .ok (.iload 23, 2) := by decide +kernel
theorem dL_law_841 : decode cL_law 841 = .ok (.iconst 2, 1) := by decide +kernel
theorem dL_law_842 : decode cL_law 842 = .ok (.invokevirtual 132, 3) := by decide +kernel
theorem dL_law_845 : decode cL_law 845 = .ok (.iconst 1, 1) := by decide +kernel
theorem dL_law_846 : decode cL_law 846 = .ok (.if_icmp .ne 20, 3) := by decide +kernel
theorem dL_law_849 : decode cL_law 849 = .ok (.aload_n 1, 1) := by decide +kernel
theorem dL_law_850 : decode cL_law 850 = .ok (.iload 23, 2) := by decide +kernel
theorem dL_law_852 : decode cL_law 852 = .ok (.iconst 0, 1) := by decide +kernel
theorem dL_law_853 : decode cL_law 853 = .ok (.invokevirtual 132, 3) := by decide +kernel
theorem dL_law_856 : decode cL_law 856 = .ok (.aload_n 1, 1) := by decide +kernel
theorem dL_law_857 : decode cL_law 857 = .ok (.iload 16, 2) := by decide +kernel
theorem dL_law_859 : decode cL_law 859 = .ok (.iconst 0, 1) := by decide +kernel
theorem dL_law_860 : decode cL_law 860 = .ok (.invokevirtual 132, 3) := by decide +kernel
theorem dL_law_863 : decode cL_law 863 = .ok (.if_icmp .ne 5, 3) := by decide +kernel
theorem dL_law_866 : decode cL_law 866 = .ok (.iconst 0, 1) := by decide +kernel
theorem dL_law_867 : decode cL_law 867 = .ok (.ireturn, 1) := by decide +kernel
theorem dL_law_868 : decode cL_law 868 = .ok (.aload_n 1, 1) := by decide +kernel
theorem dL_law_869 : decode cL_law 869 = .ok (.iload 16, 2) := by decide +kernel
theorem dL_law_871 : decode cL_law 871 = .ok (.invokevirtual 141, 3) := by decide +kernel
theorem dL_law_874 : decode cL_law 874 = .ok (.ifCond .ne 7, 3) := by decide +kernel
theorem dL_law_877 : decode cL_law 877 = .ok (.iconst 1, 1) := by decide +kernel
theorem dL_law_878 : decode cL_law 878 = .ok (.goto 4, 3) := by decide +kernel
theorem dL_law_881 : decode cL_law 881 = .ok (.iconst 0, 1) := by decide +kernel
theorem dL_law_882 : decode cL_law 882 = .ok (.aload_n 1, 1) := by decide +kernel
theorem dL_law_883 : decode cL_law 883 = .ok (.iload 16, 2) := by decide +kernel
theorem dL_law_885 : decode cL_law 885 = .ok (.bipush 7, 2) := by decide +kernel
theorem dL_law_887 : decode cL_law 887 = .ok (.invokevirtual 132, 3) := by decide +kernel
theorem dL_law_890 : decode cL_law 890 = .ok (.ifCond .le 7, 3) := by decide +kernel
theorem dL_law_893 : decode cL_law 893 = .ok (.iconst 1, 1) := by decide +kernel
theorem dL_law_894 : decode cL_law 894 = .ok (.goto 4, 3) := by decide +kernel
theorem dL_law_897 : decode cL_law 897 = .ok (.iconst 0, 1) := by decide +kernel
theorem dL_law_898 : decode cL_law 898 = .ok (.if_icmp .ne 17, 3) := by decide +kernel
theorem dL_law_901 : decode cL_law 901 = .ok (.iload 17, 2) := by decide +kernel
theorem dL_law_903 : decode cL_law 903 = .ok (.ifCond .ne 14, 3) := by decide +kernel
theorem dL_law_906 : decode cL_law 906 = .ok (.aload_n 1, 1) := by decide +kernel
theorem dL_law_907 : decode cL_law 907 = .ok (.iload 16, 2) := by decide +kernel
theorem dL_law_909 : decode cL_law 909 = .ok (.invokevirtual 141, 3) := by decide +kernel
theorem dL_law_912 : decode cL_law 912 = .ok (.ifCond .lt 5, 3) := by decide +kernel
theorem dL_law_915 : decode cL_law 915 = .ok (.iconst 0, 1) := by decide +kernel
theorem dL_law_916 : decode cL_law 916 = .ok (.ireturn, 1) := by decide +kernel
theorem dL_law_917 : decode cL_law 917 = .ok (.iinc 16 1, 3) := by decide +kernel
theorem dL_law_920 : decode cL_law 920 = .ok (.goto (-546), 3) := by decide +kernel
theorem dL_law_923 : decode cL_law 923 = .ok (.aload_n 1, 1) := by decide +kernel
theorem dL_law_924 : decode cL_law 924 = .ok (.iconst 4, 1) := by decide +kernel
theorem dL_law_925 : decode cL_law 925 = .ok (.invokevirtual 123, 3) := by decide +kernel
theorem dL_law_928 : decode cL_law 928 = .ok (.istore 5, 2) := by decide +kernel
theorem dL_law_930 : decode cL_law 930 = .ok (.iconst 0, 1) := by decide +kernel
theorem dL_law_931 : decode cL_law 931 = .ok (.istore 16, 2) := by decide +kernel
theorem dL_law_933 : decode cL_law 933 = .ok (.iload 5, 2) := by decide +kernel
theorem dL_law_935 : decode cL_law 935 = .ok (.newarray .int, 2) := by decide +kernel
theorem dL_law_937 : decode cL_law 937 = .ok (.astore 17, 2) := by decide +kernel
theorem dL_law_939 : decode cL_law 939 = .ok (.iconst 0, 1) := by decide +kernel
theorem dL_law_940 : decode cL_law 940 = .ok (.istore 18, 2) := by decide +kernel
theorem dL_law_942 : decode cL_law 942 = .ok (.iload 18, 2) := by decide +kernel
theorem dL_law_944 : decode cL_law 944 = .ok (.iload 5, 2) := by decide +kernel
theorem dL_law_946 : decode cL_law 946 = .ok (.if_icmp .ge 175, 3) := by decide +kernel
theorem dL_law_949 : decode cL_law 949 = .ok (.aload_n 1, 1) := by decide +kernel
theorem dL_law_950 : decode cL_law 950 = .ok (.iload 18, 2) := by decide +kernel
theorem dL_law_952 : decode cL_law 952 = .ok (.iconst 2, 1) := by decide +kernel
theorem dL_law_953 : decode cL_law 953 = .ok (.invokevirtual 126, 3) := by decide +kernel
theorem dL_law_956 : decode cL_law 956 = .ok (.istore 19, 2) := by decide +kernel
theorem dL_law_958 : decode cL_law 958 = .ok (.aload_n 1, 1) := by decide +kernel
theorem dL_law_959 : decode cL_law 959 = .ok (.iload 18, 2) := by decide +kernel
theorem dL_law_961 : decode cL_law 961 = .ok (.iconst 4, 1) := by decide +kernel
theorem dL_law_962 : decode cL_law 962 = .ok (.invokevirtual 126, 3) := by decide +kernel
theorem dL_law_965 : decode cL_law 965 = .ok (.istore 20, 2) := by decide +kernel
theorem dL_law_967 : decode cL_law 967 = .ok (.aload_n 1, 1) := by decide +kernel
theorem dL_law_968 : decode cL_law 968 = .ok (.iload 18, 2) := by decide +kernel
theorem dL_law_970 : decode cL_law 970 = .ok (.iconst 3, 1) := by decide +kernel
theorem dL_law_971 : decode cL_law 971 = .ok (.invokevirtual 126, 3) := by decide +kernel
theorem dL_law_974 : decode cL_law 974 = .ok (.istore 21, 2) := by decide +kernel
theorem dL_law_976 : decode cL_law 976 = .ok (.iload 15, 2) := by decide +kernel
theorem dL_law_978 : decode cL_law 978 = .ok (.iload 19, 2) := by decide +kernel
theorem dL_law_980 : decode cL_law 980 = .ok (.ifCond .ge 7, 3) := by decide +kernel
theorem dL_law_983 : decode cL_law 983 = .ok (.iconst 0, 1) := by decide +kernel
theorem dL_law_984 : decode cL_law 984 = .ok (.goto 10, 3) := by decide +kernel
theorem dL_law_987 : decode cL_law 987 = .ok (.aload_n 1, 1) := by decide +kernel
theorem dL_law_988 : decode cL_law 988 = .ok (.iload 18, 2) := by decide +kernel
theorem dL_law_990 : decode cL_law 990 = .ok (.iconst 0, 1) := by decide +kernel
theorem dL_law_991 : decode cL_law 991 = .ok (.invokevirtual 126, 3) := by decide +kernel
theorem dL_law_994 : decode cL_law 994 = .ok (.iadd, 1) := by decide +kernel
theorem dL_law_995 : decode cL_law 995 = .ok (.istore 15, 2) := by decide +kernel
theorem dL_law_997 : decode cL_law 997 = .ok (.iload 16, 2) := by decide +kernel
theorem dL_law_999 : decode cL_law 999 = .ok (.iload 19, 2) := by decide +kernel
theorem dL_law_1001 : decode cL_law 1001 = .ok (.ifCond .ge 7, 3) := by decide +kernel
theorem dL_law_1004 : decode cL_law 1004 = .ok (.iconst 1, 1) := by decide +kernel
theorem dL_law_1005 : decode cL_law 1005 = .ok (.goto 4, 3) := by decide +kernel
theorem dL_law_1008 : decode cL_law 1008 = .ok (.iconst 0, 1) := by decide +kernel
theorem dL_law_1009 : decode cL_law 1009 = .ok (.iadd, 1) := by decide +kernel
theorem dL_law_1010 : decode cL_law 1010 = .ok (.istore 16, 2) := by decide +kernel
theorem dL_law_1012 : decode cL_law 1012 = .ok (.iload 19, 2) := by decide +kernel
theorem dL_law_1014 : decode cL_law 1014 = .ok (.ifCond .lt 14, 3) := by decide +kernel
theorem dL_law_1017 : decode cL_law 1017 = .ok (.aload_n 1, 1) := by decide +kernel
theorem dL_law_1018 : decode cL_law 1018 = .ok (.iload 19, 2) := by decide +kernel
theorem dL_law_1020 : decode cL_law 1020 = .ok (.iconst 2, 1) := by decide +kernel
theorem dL_law_1021 : decode cL_law 1021 = .ok (.invokevirtual 132, 3) := by decide +kernel
theorem dL_law_1024 : decode cL_law 1024 = .ok (.iconst 1, 1) := by decide +kernel
theorem dL_law_1025 : decode cL_law 1025 = .ok (.if_icmp .ne 76, 3) := by decide +kernel
theorem dL_law_1028 : decode cL_law 1028 = .ok (.iload 20, 2) := by decide +kernel
theorem dL_law_1030 : decode cL_law 1030 = .ok (.ifCond .lt 37, 3) := by decide +kernel
theorem dL_law_1033 : decode cL_law 1033 = .ok (.iload 19, 2) := by decide +kernel
theorem dL_law_1035 : decode cL_law 1035 = .ok (.ifCond .lt 66, 3) := by decide +kernel
theorem dL_law_1038 : decode cL_law 1038 = .ok (.iload 20, 2) := by decide +kernel
theorem dL_law_1040 : decode cL_law 1040 = .ok (.iload 19, 2) := by decide +kernel
theorem dL_law_1042 : decode cL_law 1042 = .ok (.if_icmp .eq 59, 3) := by decide +kernel
theorem dL_law_1045 : decode cL_law 1045 = .ok (.aload_n 1, 1) := by decide +kernel
theorem dL_law_1046 : decode cL_law 1046 = .ok (.iload 20, 2) := by decide +kernel
theorem dL_law_1048 : decode cL_law 1048 = .ok (.iconst 2, 1) := by decide +kernel
theorem dL_law_1049 : decode cL_law 1049 = .ok (.invokevirtual 132, 3) := by decide +kernel
theorem dL_law_1052 : decode cL_law 1052 = .ok (.iconst 1, 1) := by decide +kernel
theorem dL_law_1053 : decode cL_law 1053 = .ok (.if_icmp .ne 48, 3) := by decide +kernel
theorem dL_law_1056 : decode cL_law 1056 = .ok (.aload_n 1, 1) := by decide +kernel
theorem dL_law_1057 : decode cL_law 1057 = .ok (.iload 20, 2) := by decide +kernel
theorem dL_law_1059 : decode cL_law 1059 = .ok (.iload 19, 2) := by decide +kernel
theorem dL_law_1061 : decode cL_law 1061 = .ok (.invokevirtual 135, 3) := by decide +kernel
theorem dL_law_1064 : decode cL_law 1064 = .ok (.ifCond .lt 37, 3) := by decide +kernel
theorem dL_law_1067 : decode cL_law 1067 = .ok (.iload 21, 2) := by decide +kernel
theorem dL_law_1069 : decode cL_law 1069 = .ok (.ifCond .lt 34, 3) := by decide +kernel
theorem dL_law_1072 : decode cL_law 1072 = .ok (.aload_n 1, 1) := by decide +kernel
theorem dL_law_1073 : decode cL_law 1073 = .ok (.iconst 0, 1) := by decide +kernel
theorem dL_law_1074 : decode cL_law 1074 = .ok (.invokevirtual 123, 3) := by decide +kernel
theorem dL_law_1077 : decode cL_law 1077 = .ok (.aload_n 1, 1) := by decide +kernel
theorem dL_law_1078 : decode cL_law 1078 = .ok (.iload 19, 2) := by decide +kernel
theorem dL_law_1080 : decode cL_law 1080 = .ok (.iconst 1, 1) := by decide +kernel
theorem dL_law_1081 : decode cL_law 1081 = .ok (.invokevirtual 132, 3) := by decide +kernel
theorem dL_law_1084 : decode cL_law 1084 = .ok (.isub, 1) := by decide +kernel
theorem dL_law_1085 : decode cL_law 1085 = .ok (.bipush 15, 2) := by decide +kernel
theorem dL_law_1087 : decode cL_law 1087 = .ok (.if_icmp .gt 14, 3) := by decide +kernel
theorem dL_law_1090 : decode cL_law 1090 = .ok (.aload_n 1, 1) := by decide +kernel
theorem dL_law_1091 : decode cL_law 1091 = .ok (.iload 21, 2) := by decide +kernel
theorem dL_law_1093 : decode cL_law 1093 = .ok (.iconst 2, 1) := by decide +kernel
theorem dL_law_1094 : decode cL_law 1094 = .ok (.invokevirtual 132, 3) := by decide +kernel
theorem dL_law_1097 : decode cL_law 1097 = .ok (.iconst 1, 1) := by decide +kernel
theorem dL_law_1098 : decode cL_law 1098 = .ok (.if_icmp .eq 5, 3) := by decide +kernel
theorem dL_law_1101 : decode cL_law 1101 = .ok (.iconst 0, 1) := by decide +kernel
theorem dL_law_1102 : decode cL_law 1102 = .ok (.ireturn, 1) := by decide +kernel
theorem dL_law_1103 : decode cL_law 1103 = .ok (.aload 17, 2) := by decide +kernel
theorem dL_law_1105 : decode cL_law 1105 = .ok (.iload 18, 2) := by decide +kernel
theorem dL_law_1107 : decode cL_law 1107 = .ok (.aload_n 1, 1) := by decide +kernel
theorem dL_law_1108 : decode cL_law 1108 = .ok (.iconst 2, 1) := by decide +kernel
theorem dL_law_1109 : decode cL_law 1109 = .ok (.iload 18, 2) := by decide +kernel
theorem dL_law_1111 : decode cL_law 1111 = .ok (.invokevirtual 144, 3) := by decide +kernel
theorem dL_law_1114 : decode cL_law 1114 = .ok (.iastore, 1) := by decide +kernel
theorem dL_law_1115 : decode cL_law 1115 = .ok (.iinc 18 1, 3) := by decide +kernel
theorem dL_law_1118 : decode cL_law 1118 = .ok (.goto (-176), 3) := by decide +kernel
theorem dL_law_1121 : decode cL_law 1121 = .ok (.aload_n 1, 1) := by decide +kernel
theorem dL_law_1122 : decode cL_law 1122 = .ok (.iconst 2, 1) := by decide +kernel
theorem dL_law_1123 : decode cL_law 1123 = .ok (.invokevirtual 123, 3) := by decide +kernel
theorem dL_law_1126 : decode cL_law 1126 = .ok (.iload 12, 2) := by decide +kernel
theorem dL_law_1128 : decode cL_law 1128 = .ok (.if_icmp .ne 32, 3) := by decide +kernel
theorem dL_law_1131 : decode cL_law 1131 = .ok (.aload_n 1, 1) := by decide +kernel
theorem dL_law_1132 : decode cL_law 1132 = .ok (.iconst 3, 1) := by decide +kernel
theorem dL_law_1133 : decode cL_law 1133 = .ok (.invokevirtual 123, 3) := by decide +kernel
theorem dL_law_1136 : decode cL_law 1136 = .ok (.iload 13, 2) := by decide +kernel
theorem dL_law_1138 : decode cL_law 1138 = .ok (.iconst 2, 1) := by decide +kernel
theorem dL_law_1139 : decode cL_law 1139 = .ok (.idiv, 1) := by decide +kernel
theorem dL_law_1140 : decode cL_law 1140 = .ok (.if_icmp .ne 20, 3) := by decide +kernel
theorem dL_law_1143 : decode cL_law 1143 = .ok (.iload 14, 2) := by decide +kernel
theorem dL_law_1145 : decode cL_law 1145 = .ok (.iload 15, 2) := by decide +kernel
theorem dL_law_1147 : decode cL_law 1147 = .ok (.if_icmp .ne 13, 3) := by decide +kernel
theorem dL_law_1150 : decode cL_law 1150 = .ok (.aload_n 1, 1) := by decide +kernel
theorem dL_law_1151 : decode cL_law 1151 = .ok (.iconst 5, 1) := by decide +kernel
theorem dL_law_1152 : decode cL_law 1152 = .ok (.invokevirtual 123, 3) := by decide +kernel
theorem dL_law_1155 : decode cL_law 1155 = .ok (.iload 16, 2) := by decide +kernel
theorem dL_law_1157 : decode cL_law 1157 = .ok (.if_icmp .eq 5, 3) := by decide +kernel
theorem dL_law_1160 : decode cL_law 1160 = .ok (.iconst 0, 1) := by decide +kernel
theorem dL_law_1161 : decode cL_law 1161 = .ok (.ireturn, 1) := by decide +kernel
theorem dL_law_1162 : decode cL_law 1162 = .ok (.aload_n 1, 1) := by decide +kernel
theorem dL_law_1163 : decode cL_law 1163 = .ok (.iconst 2, 1) := by decide +kernel
theorem dL_law_1164 : decode cL_law 1164 = .ok (.invokevirtual 116, 3) := by decide +kernel
theorem dL_law_1167 : decode cL_law 1167 = .ok (.pop, 1) := by decide +kernel
theorem dL_law_1168 : decode cL_law 1168 = .ok (.aload_n 2, 1) := by decide +kernel
theorem dL_law_1169 : decode cL_law 1169 = .ok (.invokevirtual 112, 3) := by decide +kernel
theorem dL_law_1172 : decode cL_law 1172 = .ok (.pop, 1) := by decide +kernel
theorem dL_law_1173 : decode cL_law 1173 = .ok (.aload_n 2, 1) := by decide +kernel
theorem dL_law_1174 : decode cL_law 1174 = .ok (.invokevirtual 112, 3) := by decide +kernel
theorem dL_law_1177 : decode cL_law 1177 = .ok (.pop, 1) := by decide +kernel
theorem dL_law_1178 : decode cL_law 1178 = .ok (.iconst 0, 1) := by decide +kernel
theorem dL_law_1179 : decode cL_law 1179 = .ok (.istore 18, 2) := by decide +kernel
theorem dL_law_1181 : decode cL_law 1181 = .ok (.iload 18, 2) := by decide +kernel
theorem dL_law_1183 : decode cL_law 1183 = .ok (.iload 5, 2) := by decide +kernel
theorem dL_law_1185 : decode cL_law 1185 = .ok (.if_icmp .ge 26, 3) := by decide +kernel
theorem dL_law_1188 : decode cL_law 1188 = .ok (.aload_n 1, 1) := by decide +kernel
theorem dL_law_1189 : decode cL_law 1189 = .ok (.iload 18, 2) := by decide +kernel
theorem dL_law_1191 : decode cL_law 1191 = .ok (.iconst 2, 1) := by decide +kernel
theorem dL_law_1192 : decode cL_law 1192 = .ok (.invokevirtual 126, 3) := by decide +kernel
theorem dL_law_1195 : decode cL_law 1195 = .ok (.aload 17, 2) := by decide +kernel
theorem dL_law_1197 : decode cL_law 1197 = .ok (.iload 18, 2) := by decide +kernel
theorem dL_law_1199 : decode cL_law 1199 = .ok (.iaload, 1) := by decide +kernel
theorem dL_law_1200 : decode cL_law 1200 = .ok (.if_icmp .eq 5, 3) := by decide +kernel
theorem dL_law_1203 : decode cL_law 1203 = .ok (.iconst 0, 1) := by decide +kernel
theorem dL_law_1204 : decode cL_law 1204 = .ok (.ireturn, 1) := by decide +kernel
theorem dL_law_1205 : decode cL_law 1205 = .ok (.iinc 18 1, 3) := by decide +kernel
theorem dL_law_1208 : decode cL_law 1208 = .ok (.goto (-27), 3) := by decide +kernel
theorem dL_law_1211 : decode cL_law 1211 = .ok (.iinc 3 1, 3) := by decide +kernel
theorem dL_law_1214 : decode cL_law 1214 = .ok (.goto (-1192), 3) := by decide +kernel
theorem dL_law_1217 : decode cL_law 1217 = .ok (.aload_n 2, 1) := by decide +kernel
theorem dL_law_1218 : decode cL_law 1218 = .ok (.aload_n 1, 1) := by decide +kernel
theorem dL_law_1219 : decode cL_law 1219 = .ok (.invokevirtual 147, 3) := by decide +kernel
theorem dL_law_1222 : decode cL_law 1222 = .ok (.ireturn, 1) := by decide +kernel
