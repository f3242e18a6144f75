theorem dX6_init_0 : decode cX6_init 0 = .ok (.aload_n 0, 1) := by decide +kernel
theorem dX6_init_1 : decode cX6_init 1 = .ok (.invokespecial 1, 3) := by decide +kernel
theorem dX6_init_4 : decode cX6_init 4 = .ok (.aload_n 0, 1) := by decide +kernel
theorem dX6_init_5 : decode cX6_init 5 = .ok (.sipush 360, 3) := by decide +kernel
theorem dX6_init_8 : decode cX6_init 8 = .ok (.newarray .int, 2) := by decide +kernel
theorem dX6_init_10 : decode cX6_init 10 = .ok (.putfield 9, 3) := by decide +kernel
theorem dX6_init_13 : decode cX6_init 13 = .ok (.aload_n 0, 1) := by decide +kernel
theorem dX6_init_14 : decode cX6_init 14 = .ok (.bipush 48, 2) := by decide +kernel
theorem dX6_init_16 : decode cX6_init 16 = .ok (.newarray .int, 2) := by decide +kernel
theorem dX6_init_18 : decode cX6_init 18 = .ok (.putfield 13, 3) := by decide +kernel
theorem dX6_init_21 : decode cX6_init 21 = .ok (.aload_n 0, 1) := by decide +kernel
theorem dX6_init_22 : decode cX6_init 22 = .ok (.sipush 180, 3) := by decide +kernel
theorem dX6_init_25 : decode cX6_init 25 = .ok (.newarray .int, 2) := by decide +kernel
theorem dX6_init_27 : decode cX6_init 27 = .ok (.putfield 16, 3) := by decide +kernel
theorem dX6_init_30 : decode cX6_init 30 = .ok (.aload_n 0, 1) := by decide +kernel
theorem dX6_init_31 : decode cX6_init 31 = .ok (.iconst 1, 1) := by decide +kernel
theorem dX6_init_32 : decode cX6_init 32 = .ok (.newarray .int, 2) := by decide +kernel
theorem dX6_init_34 : decode cX6_init 34 = .ok (.dup, 1) := by decide +kernel
theorem dX6_init_35 : decode cX6_init 35 = .ok (.iconst 0, 1) := by decide +kernel
theorem dX6_init_36 : decode cX6_init 36 = .ok (.iconst 0, 1) := by decide +kernel
theorem dX6_init_37 : decode cX6_init 37 = .ok (.iastore, 1) := by decide +kernel
theorem dX6_init_38 : decode cX6_init 38 = .ok (.putfield 19, 3) := by decide +kernel
theorem dX6_init_41 : decode cX6_init 41 = .ok (.aload_n 0, 1) := by decide +kernel
theorem dX6_init_42 : decode cX6_init 42 = .ok (.bipush 40, 2) := by decide +kernel
theorem dX6_init_44 : decode cX6_init 44 = .ok (.newarray .int, 2) := by decide +kernel
theorem dX6_init_46 : decode cX6_init 46 = .ok (.putfield 22, 3) := by decide +kernel
theorem dX6_init_49 : decode cX6_init 49 = .ok (.aload_n 0, 1) := by decide +kernel
theorem dX6_init_50 : decode cX6_init 50 = .ok (.bipush 40, 2) := by decide +kernel
theorem dX6_init_52 : decode cX6_init 52 = .ok (.newarray .int, 2) := by decide +kernel
theorem dX6_init_54 : decode cX6_init 54 = .ok (.putfield 25, 3) := by decide +kernel
theorem dX6_init_57 : decode cX6_init 57 = .ok (.aload_n 0, 1) := by decide +kernel
theorem dX6_init_58 : decode cX6_init 58 = .ok (.bipush 12, 2) := by decide +kernel
theorem dX6_init_60 : decode cX6_init 60 = .ok (.newarray .int, 2) := by decide +kernel
theorem dX6_init_62 : decode cX6_init 62 = .ok (.putfield 28, 3) := by decide +kernel
theorem dX6_init_65 : decode cX6_init 65 = .ok (.return_, 1) := by decide +kernel
theorem dX6_thrown_0 : decode cX6_thrown 0 = .ok (.aload_n 0, 1) := by decide +kernel
theorem dX6_thrown_1 : decode cX6_thrown 1 = .ok (.getfield 31, 3) := by decide +kernel
theorem dX6_thrown_4 : decode cX6_thrown 4 = .ok (.ireturn, 1) := by decide +kernel
theorem dX6_fail_0 : decode cX6_fail 0 = .ok (.aload_n 0, 1) := by decide +kernel
theorem dX6_fail_1 : decode cX6_fail 1 = .ok (.iload_n 1, 1) := by decide +kernel
theorem dX6_fail_2 : decode cX6_fail 2 = .ok (.putfield 31, 3) := by decide +kernel
theorem dX6_fail_5 : decode cX6_fail 5 = .ok (.iconst 0, 1) := by decide +kernel
theorem dX6_fail_6 : decode cX6_fail 6 = .ok (.ireturn, 1) := by decide +kernel
theorem dX6_isIn_0 : decode cX6_isIn 0 = .ok (.iload_n 0, 1) := by decide +kernel
theorem dX6_isIn_1 : decode cX6_isIn 1 = .ok (.iload_n 1, 1) := by decide +kernel
theorem dX6_isIn_2 : decode cX6_isIn 2 = .ok (.if_icmp .lt 12, 3) := by decide +kernel
theorem dX6_isIn_5 : decode cX6_isIn 5 = .ok (.iload_n 0, 1) := by decide +kernel
theorem dX6_isIn_6 : decode cX6_isIn 6 = .ok (.iload_n 2, 1) := by decide +kernel
theorem dX6_isIn_7 : decode cX6_isIn 7 = .ok (.if_icmp .gt 7, 3) := by decide +kernel
theorem dX6_isIn_10 : decode cX6_isIn 10 = .ok (.iconst 1, 1) := by decide +kernel
theorem dX6_isIn_11 : decode cX6_isIn 11 = .ok (.goto 4, 3) := by decide +kernel
theorem dX6_isIn_14 : decode cX6_isIn 14 = .ok (.iconst 0, 1) := by decide +kernel
theorem dX6_isIn_15 : decode cX6_isIn 15 = .ok (.ireturn, 1) := by decide +kernel
theorem dX6_isPerson_0 : decode cX6_isPerson 0 = .ok (.iload_n 1, 1) := by decide +kernel
theorem dX6_isPerson_1 : decode cX6_isPerson 1 = .ok (.iconst 0, 1) := by decide +kernel
theorem dX6_isPerson_2 : decode cX6_isPerson 2 = .ok (.aload_n 0, 1) := by decide +kernel
theorem dX6_isPerson_3 : decode cX6_isPerson 3 = .ok (.getfield 35, 3) := by decide +kernel
theorem dX6_isPerson_6 : decode cX6_isPerson 6 = .ok (.iconst 1, 1) := by decide +kernel
theorem dX6_isPerson_7 : decode cX6_isPerson 7 = .ok (.isub, 1) := by decide +kernel
theorem dX6_isPerson_8 : decode cX6_isPerson 8 = .ok (.invokestatic 38, 3) := by decide +kernel
theorem dX6_isPerson_11 : decode cX6_isPerson 11 = .ok (.ireturn, 1) := by decide +kernel
theorem dX6_isLand_0 : decode cX6_isLand 0 = .ok (.iload_n 1, 1) := by decide +kernel
theorem dX6_isLand_1 : decode cX6_isLand 1 = .ok (.iconst 0, 1) := by decide +kernel
theorem dX6_isLand_2 : decode cX6_isLand 2 = .ok (.aload_n 0, 1) := by decide +kernel
theorem dX6_isLand_3 : decode cX6_isLand 3 = .ok (.getfield 42, 3) := by decide +kernel
theorem dX6_isLand_6 : decode cX6_isLand 6 = .ok (.iconst 1, 1) := by decide +kernel
theorem dX6_isLand_7 : decode cX6_isLand 7 = .ok (.isub, 1) := by decide +kernel
theorem dX6_isLand_8 : decode cX6_isLand 8 = .ok (.invokestatic 38, 3) := by decide +kernel
theorem dX6_isLand_11 : decode cX6_isLand 11 = .ok (.ireturn, 1) := by decide +kernel
theorem dX6_pe_0 : decode cX6_pe 0 = .ok (.aload_n 0, 1) := by decide +kernel
theorem dX6_pe_1 : decode cX6_pe 1 = .ok (.getfield 9, 3) := by decide +kernel
theorem dX6_pe_4 : decode cX6_pe 4 = .ok (.bipush 9, 2) := by decide +kernel
theorem dX6_pe_6 : decode cX6_pe 6 = .ok (.iload_n 1, 1) := by decide +kernel
theorem dX6_pe_7 : decode cX6_pe 7 = .ok (.imul, 1) := by decide +kernel
theorem dX6_pe_8 : decode cX6_pe 8 = .ok (.iload_n 2, 1) := by decide +kernel
theorem dX6_pe_9 : decode cX6_pe 9 = .ok (.iadd, 1) := by decide +kernel
theorem dX6_pe_10 : decode cX6_pe 10 = .ok (.iaload, 1) := by decide +kernel
theorem dX6_pe_11 : decode cX6_pe 11 = .ok (.ireturn, 1) := by decide +kernel
theorem dX6_set_0 : decode cX6_set 0 = .ok (.aload_n 0, 1) := by decide +kernel
theorem dX6_set_1 : decode cX6_set 1 = .ok (.getfield 9, 3) := by decide +kernel
theorem dX6_set_4 : decode cX6_set 4 = .ok (.bipush 9, 2) := by decide +kernel
theorem dX6_set_6 : decode cX6_set 6 = .ok (.iload_n 1, 1) := by decide +kernel
theorem dX6_set_7 : decode cX6_set 7 = .ok (.imul, 1) := by decide +kernel
theorem dX6_set_8 : decode cX6_set 8 = .ok (.iload_n 2, 1) := by decide +kernel
theorem dX6_set_9 : decode cX6_set 9 = .ok (.iadd, 1) := by decide +kernel
theorem dX6_set_10 : decode cX6_set 10 = .ok (.iload_n 3, 1) := by decide +kernel
theorem dX6_set_11 : decode cX6_set 11 = .ok (.iastore, 1) := by decide +kernel
theorem dX6_set_12 : decode cX6_set 12 = .ok (.return_, 1) := by decide +kernel
theorem dX6_la_0 : decode cX6_la 0 = .ok (.aload_n 0, 1) := by decide +kernel
theorem dX6_la_1 : decode cX6_la 1 = .ok (.getfield 13, 3) := by decide +kernel
theorem dX6_la_4 : decode cX6_la 4 = .ok (.iconst 4, 1) := by decide +kernel
theorem dX6_la_5 : decode cX6_la 5 = .ok (.iload_n 1, 1) := by decide +kernel
theorem dX6_la_6 : decode cX6_la 6 = .ok (.imul, 1) := by decide +kernel
theorem dX6_la_7 : decode cX6_la 7 = .ok (.iload_n 2, 1) := by decide +kernel
theorem dX6_la_8 : decode cX6_la 8 = .ok (.iadd, 1) := by decide +kernel
theorem dX6_la_9 : decode cX6_la 9 = .ok (.iaload, 1) := by decide +kernel
theorem dX6_la_10 : decode cX6_la 10 = .ok (.ireturn, 1) := by decide +kernel
theorem dX6_lives_0 : decode cX6_lives 0 = .ok (.aload_n 0, 1) := by decide +kernel
theorem dX6_lives_1 : decode cX6_lives 1 = .ok (.iload_n 1, 1) := by decide +kernel
theorem dX6_lives_2 : decode cX6_lives 2 = .ok (.iconst 2, 1) := by decide +kernel
theorem dX6_lives_3 : decode cX6_lives 3 = .ok (.invokevirtual 45, 3) := by decide +kernel
theorem dX6_lives_6 : decode cX6_lives 6 = .ok (.iconst 1, 1) := by decide +kernel
theorem dX6_lives_7 : decode cX6_lives 7 = .ok (.if_icmp .ne 7, 3) := by decide +kernel
theorem dX6_lives_10 : decode cX6_lives 10 = .ok (.iconst 1, 1) := by decide +kernel
theorem dX6_lives_11 : decode cX6_lives 11 = .ok (.goto 4, 3) := by decide +kernel
theorem dX6_lives_14 : decode cX6_lives 14 = .ok (.iconst 0, 1) := by decide +kernel
theorem dX6_lives_15 : decode cX6_lives 15 = .ok (.ireturn, 1) := by decide +kernel
theorem dX6_age_0 : decode cX6_age 0 = .ok (.aload_n 0, 1) := by decide +kernel
theorem dX6_age_1 : decode cX6_age 1 = .ok (.getfield 19, 3) := by decide +kernel
theorem dX6_age_4 : decode cX6_age 4 = .ok (.iconst 0, 1) := by decide +kernel
theorem dX6_age_5 : decode cX6_age 5 = .ok (.iaload, 1) := by decide +kernel
theorem dX6_age_6 : decode cX6_age 6 = .ok (.aload_n 0, 1) := by decide +kernel
theorem dX6_age_7 : decode cX6_age 7 = .ok (.iload_n 1, 1) := by decide +kernel
theorem dX6_age_8 : decode cX6_age 8 = .ok (.iconst 1, 1) := by decide +kernel
theorem dX6_age_9 : decode cX6_age 9 = .ok (.invokevirtual 45, 3) := by decide +kernel
theorem dX6_age_12 : decode cX6_age 12 = .ok (.isub, 1) := by decide +kernel
theorem dX6_age_13 : decode cX6_age 13 = .ok (.ireturn, 1) := by decide +kernel
theorem dX6_person_0 : decode cX6_person 0 = .ok (.bipush 9, 2) := by decide +kernel
theorem dX6_person_2 : decode cX6_person 2 = .ok (.newarray .int, 2) := by decide +kernel
theorem dX6_person_4 : decode cX6_person 4 = .ok (.dup, 1) := by decide +kernel
theorem dX6_person_5 : decode cX6_person 5 = .ok (.iconst 0, 1) := by decide +kernel
theorem dX6_person_6 : decode cX6_person 6 = .ok (.iload_n 1, 1) := by decide +kernel
theorem dX6_person_7 : decode cX6_person 7 = .ok (.iastore, 1) := by decide +kernel
theorem dX6_person_8 : decode cX6_person 8 = .ok (.dup, 1) := by decide +kernel
theorem dX6_person_9 : decode cX6_person 9 = .ok (.iconst 1, 1) := by decide +kernel
theorem dX6_person_10 : decode cX6_person 10 = .ok (.iload_n 2, 1) := by decide +kernel
theorem dX6_person_11 : decode cX6_person 11 = .ok (.iastore, 1) := by decide +kernel
theorem dX6_person_12 : decode cX6_person 12 = .ok (.dup, 1) := by decide +kernel
theorem dX6_person_13 : decode cX6_person 13 = .ok (.iconst 2, 1) := by decide +kernel
theorem dX6_person_14 : decode cX6_person 14 = .ok (.iconst 1, 1) := by decide +kernel
theorem dX6_person_15 : decode cX6_person 15 = .ok (.iastore, 1) := by decide +kernel
theorem dX6_person_16 : decode cX6_person 16 = .ok (.dup, 1) := by decide +kernel
theorem dX6_person_17 : decode cX6_person 17 = .ok (.iconst 3, 1) := by decide +kernel
theorem dX6_person_18 : decode cX6_person 18 = .ok (.iload_n 3, 1) := by decide +kernel
theorem dX6_person_19 : decode cX6_person 19 = .ok (.iastore, 1) := by decide +kernel
theorem dX6_person_20 : decode cX6_person 20 = .ok (.dup, 1) := by decide +kernel
theorem dX6_person_21 : decode cX6_person 21 = .ok (.iconst 4, 1) := by decide +kernel
theorem dX6_person_22 : decode cX6_person 22 = .ok (.iload 4, 2) := by decide +kernel
theorem dX6_person_24 : decode cX6_person 24 = .ok (.iastore, 1) := by decide +kernel
theorem dX6_person_25 : decode cX6_person 25 = .ok (.dup, 1) := by decide +kernel
theorem dX6_person_26 : decode cX6_person 26 = .ok (.iconst 5, 1) := by decide +kernel
theorem dX6_person_27 : decode cX6_person 27 = .ok (.iconst (-1), 1) := by decide +kernel
theorem dX6_person_28 : decode cX6_person 28 = .ok (.iastore, 1) := by decide +kernel
theorem dX6_person_29 : decode cX6_person 29 = .ok (.dup, 1) := by decide +kernel
theorem dX6_person_30 : decode cX6_person 30 = .ok (.bipush 6, 2) := by decide +kernel
theorem dX6_person_32 : decode cX6_person 32 = .ok (.iconst (-1), 1) := by decide +kernel
theorem dX6_person_33 : decode cX6_person 33 = .ok (.iastore, 1) := by decide +kernel
theorem dX6_person_34 : decode cX6_person 34 = .ok (.dup, 1) := by decide +kernel
theorem dX6_person_35 : decode cX6_person 35 = .ok (.bipush 7, 2) := by decide +kernel
theorem dX6_person_37 : decode cX6_person 37 = .ok (.iconst (-1), 1) := by decide +kernel
theorem dX6_person_38 : decode cX6_person 38 = .ok (.iastore, 1) := by decide +kernel
theorem dX6_person_39 : decode cX6_person 39 = .ok (.dup, 1) := by decide +kernel
theorem dX6_person_40 : decode cX6_person 40 = .ok (.bipush 8, 2) := by decide +kernel
theorem dX6_person_42 : decode cX6_person 42 = .ok (.iconst (-1), 1) := by decide +kernel
theorem dX6_person_43 : decode cX6_person 43 = .ok (.iastore, 1) := by decide +kernel
theorem dX6_person_44 : decode cX6_person 44 = .ok (.astore 5, 2) := by decide +kernel
theorem dX6_person_46 : decode cX6_person 46 = .ok (.aload 5, 2) := by decide +kernel
theorem dX6_person_48 : decode cX6_person 48 = .ok (.iconst 0, 1) := by decide +kernel
theorem dX6_person_49 : decode cX6_person 49 = .ok (.aload_n 0, 1) := by decide +kernel
theorem dX6_person_50 : decode cX6_person 50 = .ok (.getfield 9, 3) := by decide +kernel
theorem dX6_person_53 : decode cX6_person 53 = .ok (.bipush 9, 2) := by decide +kernel
theorem dX6_person_55 : decode cX6_person 55 = .ok (.aload_n 0, 1) := by decide +kernel
theorem dX6_person_56 : decode cX6_person 56 = .ok (.getfield 35, 3) := by decide +kernel
theorem dX6_person_59 : decode cX6_person 59 = .ok (.imul, 1) := by decide +kernel
theorem dX6_person_60 : decode cX6_person 60 = .ok (.bipush 9, 2) := by decide +kernel
theorem dX6_person_62 : decode cX6_person 62 = .ok (.invokestatic 49, 3) := by decide +kernel
theorem dX6_person_65 : decode cX6_person 65 = .ok (.aload_n 0, 1) := by decide +kernel
theorem dX6_person_66 : decode cX6_person 66 = .ok (.dup, 1) := by decide +kernel
theorem dX6_person_67 : decode cX6_person 67 = .ok (.getfield 35, 3) := by decide +kernel
theorem dX6_person_70 : decode cX6_person 70 = .ok (.iconst 1, 1) := by decide +kernel
theorem dX6_person_71 : decode cX6_person 71 = .ok (.iadd, 1) := by decide +kernel
theorem dX6_person_72 : decode cX6_person 72 = .ok (.putfield 35, 3) := by decide +kernel
theorem dX6_person_75 : decode cX6_person 75 = .ok (.aload_n 0, 1) := by decide +kernel
theorem dX6_person_76 : decode cX6_person 76 = .ok (.getfield 35, 3) := by decide +kernel
theorem dX6_person_79 : decode cX6_person 79 = .ok (.iconst 1, 1) := by decide +kernel
theorem dX6_person_80 : decode cX6_person 80 = .ok (.isub, 1) := by decide +kernel
theorem dX6_person_81 : decode cX6_person 81 = .ok (.ireturn, 1) := by decide +kernel
theorem dX6_come_0 : decode cX6_come 0 = .ok (.aload_n 0, 1) := by decide +kernel
theorem dX6_come_1 : decode cX6_come 1 = .ok (.iconst 0, 1) := by decide +kernel
theorem dX6_come_2 : decode cX6_come 2 = .ok (.putfield 31, 3) := by decide +kernel
theorem dX6_come_5 : decode cX6_come 5 = .ok (.iload_n 2, 1) := by decide +kernel
theorem dX6_come_6 : decode cX6_come 6 = .ok (.iconst 0, 1) := by decide +kernel
theorem dX6_come_7 : decode cX6_come 7 = .ok (.bipush 60, 2) := by decide +kernel
theorem dX6_come_9 : decode cX6_come 9 = .ok (.invokestatic 38, 3) := by decide +kernel
theorem dX6_come_12 : decode cX6_come 12 = .ok (.ifCond .ne 9, 3) := by decide +kernel
theorem dX6_come_15 : decode cX6_come 15 = .ok (.aload_n 0, 1) := by decide +kernel
theorem dX6_come_16 : decode cX6_come 16 = .ok (.iconst 1, 1) := by decide +kernel
theorem dX6_come_17 : decode cX6_come 17 = .ok (.invokevirtual 55, 3) := by decide +kernel
theorem dX6_come_20 : decode cX6_come 20 = .ok (.ireturn, 1) := by decide +kernel
theorem dX6_come_21 : decode cX6_come 21 = .ok (.aload_n 0, 1) := by decide +kernel
theorem dX6_come_22 : decode cX6_come 22 = .ok (.getfield 35, 3) := by decide +kernel
theorem dX6_come_25 : decode cX6_come 25 = .ok (.bipush 40, 2) := by decide +kernel
theorem dX6_come_27 : decode cX6_come 27 = .ok (.if_icmp .ne 11, 3) := by decide +kernel
theorem dX6_come_30 : decode cX6_come 30 = .ok (.aload_n 0, 1) := by decide +kernel
theorem dX6_come_31 : decode cX6_come 31 = .ok (.iconst 2, 1) := by decide +kernel
theorem dX6_come_32 : decode cX6_come 32 = .ok (.invokevirtual 55, 3) := by decide +kernel
theorem dX6_come_35 : decode cX6_come 35 = .ok (.goto 26, 3) := by decide +kernel
theorem dX6_come_38 : decode cX6_come 38 = .ok (.aload_n 0, 1) := by decide +kernel
theorem dX6_come_39 : decode cX6_come 39 = .ok (.iload_n 1, 1) := by decide +kernel
theorem dX6_come_40 : decode cX6_come 40 = .ok (.ifCond .eq 7, 3) := by decide +kernel
theorem dX6_come_43 : decode cX6_come 43 = .ok (.iconst 1, 1) := by decide +kernel
theorem dX6_come_44 : decode cX6_come 44 = .ok (.goto 4, 3) := by decide +kernel
theorem dX6_come_47 : decode cX6_come 47 = .ok (.iconst 0, 1) := by decide +kernel
theorem dX6_come_48 : decode cX6_come 48 = .ok (.aload_n 0, 1) := by decide +kernel
theorem dX6_come_49 : decode cX6_come 49 = .ok (.getfield 19, 3) := by decide +kernel
theorem dX6_come_52 : decode cX6_come 52 = .ok (.iconst 0, 1) := by decide +kernel
theorem dX6_come_53 : decode cX6_come 53 = .ok (.iaload, 1) := by decide +kernel
theorem dX6_come_54 : decode cX6_come 54 = .ok (.iload_n 2, 1) := by decide +kernel
theorem dX6_come_55 : decode cX6_come 55 = .ok (.isub, 1) := by decide +kernel
theorem dX6_come_56 : decode cX6_come 56 = .ok (.iconst (-1), 1) := by decide +kernel
theorem dX6_come_57 : decode cX6_come 57 = .ok (.iconst (-1), 1) := by decide +kernel
theorem dX6_come_58 : decode cX6_come 58 = .ok (.invokevirtual 59, 3) := by decide +kernel
theorem dX6_come_61 : decode cX6_come 61 = .ok (.ireturn, 1) := by decide +kernel
theorem dX6_bear_0 : decode cX6_bear 0 = .ok (.aload_n 0, 1) := by decide +kernel
theorem dX6_bear_1 : decode cX6_bear 1 = .ok (.iconst 0, 1) := by decide +kernel
theorem dX6_bear_2 : decode cX6_bear 2 = .ok (.putfield 31, 3) := by decide +kernel
theorem dX6_bear_5 : decode cX6_bear 5 = .ok (.aload_n 0, 1) := by decide +kernel
theorem dX6_bear_6 : decode cX6_bear 6 = .ok (.iload_n 1, 1) := by decide +kernel
theorem dX6_bear_7 : decode cX6_bear 7 = .ok (.invokevirtual 63, 3) := by decide +kernel
theorem dX6_bear_10 : decode cX6_bear 10 = .ok (.ifCond .ne 9, 3) := by decide +kernel
theorem dX6_bear_13 : decode cX6_bear 13 = .ok (.aload_n 0, 1) := by decide +kernel
theorem dX6_bear_14 : decode cX6_bear 14 = .ok (.iconst 1, 1) := by decide +kernel
theorem dX6_bear_15 : decode cX6_bear 15 = .ok (.invokevirtual 55, 3) := by decide +kernel
theorem dX6_bear_18 : decode cX6_bear 18 = .ok (.ireturn, 1) := by decide +kernel
theorem dX6_bear_19 : decode cX6_bear 19 = .ok (.aload_n 0, 1) := by decide +kernel
theorem dX6_bear_20 : decode cX6_bear 20 = .ok (.iload_n 1, 1) := by decide +kernel
theorem dX6_bear_21 : decode cX6_bear 21 = .ok (.iconst 0, 1) := by decide +kernel
theorem dX6_bear_22 : decode cX6_bear 22 = .ok (.invokevirtual 45, 3) := by decide +kernel
theorem dX6_bear_25 : decode cX6_bear 25 = .ok (.iconst 1, 1) := by decide +kernel
theorem dX6_bear_26 : decode cX6_bear 26 = .ok (.if_icmp .eq 30, 3) := by decide +kernel
theorem dX6_bear_29 : decode cX6_bear 29 = .ok (.aload_n 0, 1) := by decide +kernel
theorem dX6_bear_30 : decode cX6_bear 30 = .ok (.iload_n 1, 1) := by decide +kernel
theorem dX6_bear_31 : decode cX6_bear 31 = .ok (.iconst 5, 1) := by decide +kernel
theorem dX6_bear_32 : decode cX6_bear 32 = .ok (.invokevirtual 45, 3) := by decide +kernel
theorem dX6_bear_35 : decode cX6_bear 35 = .ok (.iconst (-1), 1) := by decide +kernel
theorem dX6_bear_36 : decode cX6_bear 36 = .ok (.if_icmp .eq 20, 3) := by decide +kernel
theorem dX6_bear_39 : decode cX6_bear 39 = .ok (.aload_n 0, 1) := by decide +kernel
theorem dX6_bear_40 : decode cX6_bear 40 = .ok (.iload_n 1, 1) := by decide +kernel
theorem dX6_bear_41 : decode cX6_bear 41 = .ok (.invokevirtual 67, 3) := by decide +kernel
theorem dX6_bear_44 : decode cX6_bear 44 = .ok (.ifCond .eq 12, 3) := by decide +kernel
theorem dX6_bear_47 : decode cX6_bear 47 = .ok (.aload_n 0, 1) := by decide +kernel
theorem dX6_bear_48 : decode cX6_bear 48 = .ok (.getfield 35, 3) := by decide +kernel
theorem dX6_bear_51 : decode cX6_bear 51 = .ok (.bipush 40, 2) := by decide +kernel
theorem dX6_bear_53 : decode cX6_bear 53 = .ok (.if_icmp .ne 9, 3) := by decide +kernel
theorem dX6_bear_56 : decode cX6_bear 56 = .ok (.aload_n 0, 1) := by decide +kernel
theorem dX6_bear_57 : decode cX6_bear 57 = .ok (.iconst 2, 1) := by decide +kernel
theorem dX6_bear_58 : decode cX6_bear 58 = .ok (.invokevirtual 55, 3) := by decide +kernel
theorem dX6_bear_61 : decode cX6_bear 61 = .ok (.ireturn, 1) := by decide +kernel
theorem dX6_bear_62 : decode cX6_bear 62 = .ok (.aload_n 0, 1) := by decide +kernel
theorem dX6_bear_63 : decode cX6_bear 63 = .ok (.iload_n 2, 1) := by decide +kernel
theorem dX6_bear_64 : decode cX6_bear 64 = .ok (.ifCond .eq 7, 3) := by decide +kernel
theorem dX6_bear_67 : decode cX6_bear 67 = .ok (.iconst 1, 1) := by decide +kernel
theorem dX6_bear_68 : decode cX6_bear 68 = .ok (.goto 4, 3) := by decide +kernel
theorem dX6_bear_71 : decode cX6_bear 71 = .ok (.iconst 0, 1) := by decide +kernel
theorem dX6_bear_72 : decode cX6_bear 72 = .ok (.aload_n 0, 1) := by decide +kernel
theorem dX6_bear_73 : decode cX6_bear 73 = .ok (.getfield 19, 3) := by decide +kernel
theorem dX6_bear_76 : decode cX6_bear 76 = .ok (.iconst 0, 1) := by decide +kernel
theorem dX6_bear_77 : decode cX6_bear 77 = .ok (.iaload, 1) := by decide +kernel
theorem dX6_bear_78 : decode cX6_bear 78 = .ok (.iload_n 1, 1) := by decide +kernel
theorem dX6_bear_79 : decode cX6_bear 79 = .ok (.aload_n 0, 1) := by decide +kernel
theorem dX6_bear_80 : decode cX6_bear 80 = .ok (.iload_n 1, 1) := by decide +kernel
theorem dX6_bear_81 : decode cX6_bear 81 = .ok (.iconst 5, 1) := by decide +kernel
theorem dX6_bear_82 : decode cX6_bear 82 = .ok (.invokevirtual 45, 3) := by decide +kernel
theorem dX6_bear_85 : decode cX6_bear 85 = .ok (.invokevirtual 59, 3) := by decide +kernel
theorem dX6_bear_88 : decode cX6_bear 88 = .ok (.ireturn, 1) := by decide +kernel
theorem dX6_rule_0 : decode cX6_rule 0 = .ok (.aload_n 0, 1) := by decide +kernel
theorem dX6_rule_1 : decode cX6_rule 1 = .ok (.getfield 13, 3) := by decide +kernel
theorem dX6_rule_4 : decode cX6_rule 4 = .ok (.iconst 4, 1) := by decide +kernel
theorem dX6_rule_5 : decode cX6_rule 5 = .ok (.iload_n 1, 1) := by decide +kernel
theorem dX6_rule_6 : decode cX6_rule 6 = .ok (.imul, 1) := by decide +kernel
theorem dX6_rule_7 : decode cX6_rule 7 = .ok (.iconst 2, 1) := by decide +kernel
theorem dX6_rule_8 : decode cX6_rule 8 = .ok (.iadd, 1) := by decide +kernel
theorem dX6_rule_9 : decode cX6_rule 9 = .ok (.iload_n 2, 1) := by decide +kernel
theorem dX6_rule_10 : decode cX6_rule 10 = .ok (.iastore, 1) := by decide +kernel
theorem dX6_rule_11 : decode cX6_rule 11 = .ok (.iload_n 2, 1) := by decide +kernel
theorem dX6_rule_12 : decode cX6_rule 12 = .ok (.iconst (-1), 1) := by decide +kernel
theorem dX6_rule_13 : decode cX6_rule 13 = .ok (.if_icmp .ne 4, 3) := by decide +kernel
theorem dX6_rule_16 : decode cX6_rule 16 = .ok (.return_, 1) := by decide +kernel
theorem dX6_rule_17 : decode cX6_rule 17 = .ok (.aload_n 0, 1) := by decide +kernel
theorem dX6_rule_18 : decode cX6_rule 18 = .ok (.getfield 16, 3) := by decide +kernel
theorem dX6_rule_21 : decode cX6_rule 21 = .ok (.bipush 15, 2) := by decide +kernel
theorem dX6_rule_23 : decode cX6_rule 23 = .ok (.iload_n 1, 1) := by decide +kernel
theorem dX6_rule_24 : decode cX6_rule 24 = .ok (.imul, 1) := by decide +kernel
theorem dX6_rule_25 : decode cX6_rule 25 = .ok (.aload_n 0, 1) := by decide +kernel
theorem dX6_rule_26 : decode cX6_rule 26 = .ok (.getfield 16, 3) := by decide +kernel
theorem dX6_rule_29 : decode cX6_rule 29 = .ok (.bipush 15, 2) := by decide +kernel
theorem dX6_rule_31 : decode cX6_rule 31 = .ok (.iload_n 1, 1) := by decide +kernel
theorem dX6_rule_32 : decode cX6_rule 32 = .ok (.imul, 1) := by decide +kernel
theorem dX6_rule_33 : decode cX6_rule 33 = .ok (.iconst 1, 1) := by decide +kernel
theorem dX6_rule_34 : decode cX6_rule 34 = .ok (.iadd, 1) := by decide +kernel
theorem dX6_rule_35 : decode cX6_rule 35 = .ok (.bipush 14, 2) := by decide +kernel
theorem dX6_rule_37 : decode cX6_rule 37 = .ok (.invokestatic 49, 3) := by decide +kernel
theorem dX6_rule_40 : decode cX6_rule 40 = .ok (.aload_n 0, 1) := by decide +kernel
theorem dX6_rule_41 : decode cX6_rule 41 = .ok (.getfield 16, 3) := by decide +kernel
theorem dX6_rule_44 : decode cX6_rule 44 = .ok (.bipush 15, 2) := by decide +kernel
theorem dX6_rule_46 : decode cX6_rule 46 = .ok (.iload_n 1, 1) := by decide +kernel
theorem dX6_rule_47 : decode cX6_rule 47 = .ok (.imul, 1) := by decide +kernel
theorem dX6_rule_48 : decode cX6_rule 48 = .ok (.iload_n 2, 1) := by decide +kernel
theorem dX6_rule_49 : decode cX6_rule 49 = .ok (.iastore, 1) := by decide +kernel
theorem dX6_rule_50 : decode cX6_rule 50 = .ok (.aload_n 0, 1) := by decide +kernel
theorem dX6_rule_51 : decode cX6_rule 51 = .ok (.getfield 13, 3) := by decide +kernel
theorem dX6_rule_54 : decode cX6_rule 54 = .ok (.iconst 4, 1) := by decide +kernel
theorem dX6_rule_55 : decode cX6_rule 55 = .ok (.iload_n 1, 1) := by decide +kernel
theorem dX6_rule_56 : decode cX6_rule 56 = .ok (.imul, 1) := by decide +kernel
theorem dX6_rule_57 : decode cX6_rule 57 = .ok (.iconst 3, 1) := by decide +kernel
theorem dX6_rule_58 : decode cX6_rule 58 = .ok (.iadd, 1) := by decide +kernel
theorem dX6_rule_59 : decode cX6_rule 59 = .ok (.dup2, 1) := by decide +kernel
theorem dX6_rule_60 : decode cX6_rule 60 = .ok (.iaload, 1) := by decide +kernel
theorem dX6_rule_61 : decode cX6_rule 61 = .ok (.iconst 1, 1) := by decide +kernel
theorem dX6_rule_62 : decode cX6_rule 62 = .ok (.iadd, 1) := by decide +kernel
theorem dX6_rule_63 : decode cX6_rule 63 = .ok (.iastore, 1) := by decide +kernel
theorem dX6_rule_64 : decode cX6_rule 64 = .ok (.return_, 1) := by decide +kernel
theorem dX6_found_0 : decode cX6_found 0 = .ok (.aload_n 0, 1) := by decide +kernel
theorem dX6_found_1 : decode cX6_found 1 = .ok (.iconst 0, 1) := by decide +kernel
theorem dX6_found_2 : decode cX6_found 2 = .ok (.putfield 31, 3) := by decide +kernel
theorem dX6_found_5 : decode cX6_found 5 = .ok (.iload_n 1, 1) := by decide +kernel
theorem dX6_found_6 : decode cX6_found 6 = .ok (.iconst 1, 1) := by decide +kernel
theorem dX6_found_7 : decode cX6_found 7 = .ok (.bipush 50, 2) := by decide +kernel
theorem dX6_found_9 : decode cX6_found 9 = .ok (.invokestatic 38, 3) := by decide +kernel
theorem dX6_found_12 : decode cX6_found 12 = .ok (.ifCond .eq 12, 3) := by decide +kernel
theorem dX6_found_15 : decode cX6_found 15 = .ok (.iload_n 2, 1) := by decide +kernel
theorem dX6_found_16 : decode cX6_found 16 = .ok (.iconst 0, 1) := by decide +kernel
theorem dX6_found_17 : decode cX6_found 17 = .ok (.iconst 3, 1) := by decide +kernel
theorem dX6_found_18 : decode cX6_found 18 = .ok (.invokestatic 38, 3) := by decide +kernel
theorem dX6_found_21 : decode cX6_found 21 = .ok (.ifCond .ne 9, 3) := by decide +kernel
theorem dX6_found_24 : decode cX6_found 24 = .ok (.aload_n 0, 1) := by decide +kernel
theorem dX6_found_25 : decode cX6_found 25 = .ok (.iconst 1, 1) := by decide +kernel
theorem dX6_found_26 : decode cX6_found 26 = .ok (.invokevirtual 55, 3) := by decide +kernel
theorem dX6_found_29 : decode cX6_found 29 = .ok (.ireturn, 1) := by decide +kernel
theorem dX6_found_30 : decode cX6_found 30 = .ok (.iload_n 3, 1) := by decide +kernel
theorem dX6_found_31 : decode cX6_found 31 = .ok (.iconst (-1), 1) := by decide +kernel
theorem dX6_found_32 : decode cX6_found 32 = .ok (.if_icmp .eq 17, 3) := by decide +kernel
theorem dX6_found_35 : decode cX6_found 35 = .ok (.aload_n 0, 1) := by decide +kernel
theorem dX6_found_36 : decode cX6_found 36 = .ok (.iload_n 3, 1) := by decide +kernel
theorem dX6_found_37 : decode cX6_found 37 = .ok (.invokevirtual 63, 3) := by decide +kernel
theorem dX6_found_40 : decode cX6_found 40 = .ok (.ifCond .ne 9, 3) := by decide +kernel
theorem dX6_found_43 : decode cX6_found 43 = .ok (.aload_n 0, 1) := by decide +kernel
theorem dX6_found_44 : decode cX6_found 44 = .ok (.iconst 2, 1) := by decide +kernel
theorem dX6_found_45 : decode cX6_found 45 = .ok (.invokevirtual 55, 3) := by decide +kernel
theorem dX6_found_48 : decode cX6_found 48 = .ok (.ireturn, 1) := by decide +kernel
theorem dX6_found_49 : decode cX6_found 49 = .ok (.aload_n 0, 1) := by decide +kernel
theorem dX6_found_50 : decode cX6_found 50 = .ok (.getfield 42, 3) := by decide +kernel
theorem dX6_found_53 : decode cX6_found 53 = .ok (.bipush 12, 2) := by decide +kernel
theorem dX6_found_55 : decode cX6_found 55 = .ok (.if_icmp .eq 16, 3) := by decide +kernel
theorem dX6_found_58 : decode cX6_found 58 = .ok (.iload_n 3, 1) := by decide +kernel
theorem dX6_found_59 : decode cX6_found 59 = .ok (.iconst (-1), 1) := by decide +kernel
theorem dX6_found_60 : decode cX6_found 60 = .ok (.if_icmp .eq 17, 3) := by decide +kernel
theorem dX6_found_63 : decode cX6_found 63 = .ok (.aload_n 0, 1) := by decide +kernel
theorem dX6_found_64 : decode cX6_found 64 = .ok (.iload_n 3, 1) := by decide +kernel
theorem dX6_found_65 : decode cX6_found 65 = .ok (.invokevirtual 67, 3) := by decide +kernel
theorem dX6_found_68 : decode cX6_found 68 = .ok (.ifCond .ne 9, 3) := by decide +kernel
theorem dX6_found_71 : decode cX6_found 71 = .ok (.aload_n 0, 1) := by decide +kernel
theorem dX6_found_72 : decode cX6_found 72 = .ok (.iconst 3, 1) := by decide +kernel
theorem dX6_found_73 : decode cX6_found 73 = .ok (.invokevirtual 55, 3) := by decide +kernel
theorem dX6_found_76 : decode cX6_found 76 = .ok (.ireturn, 1) := by decide +kernel
theorem dX6_found_77 : decode cX6_found 77 = .ok (.iconst 4, 1) := by decide +kernel
theorem dX6_found_78 : decode cX6_found 78 = .ok (.newarray .int, 2) := by decide +kernel
theorem dX6_found_80 : decode cX6_found 80 = .ok (.dup, 1) := by decide +kernel
theorem dX6_found_81 : decode cX6_found 81 = .ok (.iconst 0, 1) := by decide +kernel
theorem dX6_found_82 : decode cX6_found 82 = .ok (.iload_n 1, 1) := by decide +kernel
theorem dX6_found_83 : decode cX6_found 83 = .ok (.iastore, 1) := by decide +kernel
theorem dX6_found_84 : decode cX6_found 84 = .ok (.dup, 1) := by decide +kernel
theorem dX6_found_85 : decode cX6_found 85 = .ok (.iconst 1, 1) := by decide +kernel
theorem dX6_found_86 : decode cX6_found 86 = .ok (.iload_n 2, 1) := by decide +kernel
theorem dX6_found_87 : decode cX6_found 87 = .ok (.iastore, 1) := by decide +kernel
theorem dX6_found_88 : decode cX6_found 88 = .ok (.dup, 1) := by decide +kernel
theorem dX6_found_89 : decode cX6_found 89 = .ok (.iconst 2, 1) := by decide +kernel
theorem dX6_found_90 : decode cX6_found 90 = .ok (.iconst (-1), 1) := by decide +kernel
theorem dX6_found_91 : decode cX6_found 91 = .ok (.iastore, 1) := by decide +kernel
theorem dX6_found_92 : decode cX6_found 92 = .ok (.dup, 1) := by decide +kernel
theorem dX6_found_93 : decode cX6_found 93 = .ok (.iconst 3, 1) := by decide +kernel
theorem dX6_found_94 : decode cX6_found 94 = .ok (.iconst 0, 1) := by decide +kernel
theorem dX6_found_95 : decode cX6_found 95 = .ok (.iastore, 1) := by decide +kernel
theorem dX6_found_96 : decode cX6_found 96 = .ok (.astore 4, 2) := by decide +kernel
theorem dX6_found_98 : decode cX6_found 98 = .ok (.aload 4, 2) := by decide +kernel
theorem dX6_found_100 : decode cX6_found 100 = .ok (.iconst 0, 1) := by decide +kernel
theorem dX6_found_101 : decode cX6_found 101 = .ok (.aload_n 0, 1) := by decide +kernel
theorem dX6_found_102 : decode cX6_found 102 = .ok (.getfield 13, 3) := by decide +kernel
theorem dX6_found_105 : decode cX6_found 105 = .ok (.iconst 4, 1) := by decide +kernel
theorem dX6_found_106 : decode cX6_found 106 = .ok (.aload_n 0, 1) := by decide +kernel
theorem dX6_found_107 : decode cX6_found 107 = .ok (.getfield 42, 3) := by decide +kernel
theorem dX6_found_110 : decode cX6_found 110 = .ok (.imul, 1) := by decide +kernel
theorem dX6_found_111 : decode cX6_found 111 = .ok (.iconst 4, 1) := by decide +kernel
theorem dX6_found_112 : decode cX6_found 112 = .ok (.invokestatic 49, 3) := by decide +kernel
theorem dX6_found_115 : decode cX6_found 115 = .ok (.aload_n 0, 1) := by decide +kernel
theorem dX6_found_116 : decode cX6_found 116 = .ok (.aload_n 0, 1) := by decide +kernel
theorem dX6_found_117 : decode cX6_found 117 = .ok (.getfield 42, 3) := by decide +kernel
theorem dX6_found_120 : decode cX6_found 120 = .ok (.iload_n 3, 1) := by decide +kernel
theorem dX6_found_121 : decode cX6_found 121 = .ok (.invokevirtual 70, 3) := by decide +kernel
theorem dX6_found_124 : decode cX6_found 124 = .ok (.aload_n 0, 1) := by decide +kernel
theorem dX6_found_125 : decode cX6_found 125 = .ok (.dup, 1) := by decide +kernel
theorem dX6_found_126 : decode cX6_found 126 = .ok (.getfield 42, 3) := by decide +kernel
theorem dX6_found_129 : decode cX6_found 129 = .ok (.iconst 1, 1) := by decide +kernel
theorem dX6_found_130 : decode cX6_found 130 = .ok (.iadd, 1) := by decide +kernel
theorem dX6_found_131 : decode cX6_found 131 = .ok (.putfield 42, 3) := by decide +kernel
theorem dX6_found_134 : decode cX6_found 134 = .ok (.aload_n 0, 1) := by decide +kernel
theorem dX6_found_135 : decode cX6_found 135 = .ok (.getfield 42, 3) := by decide +kernel
theorem dX6_found_138 : decode cX6_found 138 = .ok (.iconst 1, 1) := by decide +kernel
theorem dX6_found_139 : decode cX6_found 139 = .ok (.isub, 1) := by decide +kernel
theorem dX6_found_140 : decode cX6_found 140 = .ok (.ireturn, 1) := by decide +kernel
theorem dX6_setLaw_0 : decode cX6_setLaw 0 = .ok (.aload_n 0, 1) := by decide +kernel
theorem dX6_setLaw_1 : decode cX6_setLaw 1 = .ok (.iconst 0, 1) := by decide +kernel
theorem dX6_setLaw_2 : decode cX6_setLaw 2 = .ok (.putfield 31, 3) := by decide +kernel
theorem dX6_setLaw_5 : decode cX6_setLaw 5 = .ok (.aload_n 0, 1) := by decide +kernel
theorem dX6_setLaw_6 : decode cX6_setLaw 6 = .ok (.iload_n 1, 1) := by decide +kernel
theorem dX6_setLaw_7 : decode cX6_setLaw 7 = .ok (.invokevirtual 74, 3) := by decide +kernel
theorem dX6_setLaw_10 : decode cX6_setLaw 10 = .ok (.ifCond .ne 9, 3) := by decide +kernel
theorem dX6_setLaw_13 : decode cX6_setLaw 13 = .ok (.aload_n 0, 1) := by decide +kernel
theorem dX6_setLaw_14 : decode cX6_setLaw 14 = .ok (.iconst 1, 1) := by decide +kernel
theorem dX6_setLaw_15 : decode cX6_setLaw 15 = .ok (.invokevirtual 55, 3) := by decide +kernel
theorem dX6_setLaw_18 : decode cX6_setLaw 18 = .ok (.ireturn, 1) := by decide +kernel
theorem dX6_setLaw_19 : decode cX6_setLaw 19 = .ok (.iload_n 2, 1) := by decide +kernel
theorem dX6_setLaw_20 : decode cX6_setLaw 20 = .ok (.iconst 0, 1) := by decide +kernel
theorem dX6_setLaw_21 : decode cX6_setLaw 21 = .ok (.iconst 3, 1) := by decide +kernel
theorem dX6_setLaw_22 : decode cX6_setLaw 22 = .ok (.invokestatic 38, 3) := by decide +kernel
theorem dX6_setLaw_25 : decode cX6_setLaw 25 = .ok (.ifCond .ne 9, 3) := by decide +kernel
theorem dX6_setLaw_28 : decode cX6_setLaw 28 = .ok (.aload_n 0, 1) := by decide +kernel
theorem dX6_setLaw_29 : decode cX6_setLaw 29 = .ok (.iconst 2, 1) := by decide +kernel
theorem dX6_setLaw_30 : decode cX6_setLaw 30 = .ok (.invokevirtual 55, 3) := by decide +kernel
theorem dX6_setLaw_33 : decode cX6_setLaw 33 = .ok (.ireturn, 1) := by decide +kernel
theorem dX6_setLaw_34 : decode cX6_setLaw 34 = .ok (.aload_n 0, 1) := by decide +kernel
theorem dX6_setLaw_35 : decode cX6_setLaw 35 = .ok (.iload_n 1, 1) := by decide +kernel
theorem dX6_setLaw_36 : decode cX6_setLaw 36 = .ok (.iconst 1, 1) := by decide +kernel
theorem dX6_setLaw_37 : decode cX6_setLaw 37 = .ok (.invokevirtual 77, 3) := by decide +kernel
theorem dX6_setLaw_40 : decode cX6_setLaw 40 = .ok (.istore_n 3, 1) := by decide +kernel
theorem dX6_setLaw_41 : decode cX6_setLaw 41 = .ok (.aload_n 0, 1) := by decide +kernel
theorem dX6_setLaw_42 : decode cX6_setLaw 42 = .ok (.getfield 13, 3) := by decide +kernel
theorem dX6_setLaw_45 : decode cX6_setLaw 45 = .ok (.iconst 4, 1) := by decide +kernel
theorem dX6_setLaw_46 : decode cX6_setLaw 46 = .ok (.iload_n 1, 1) := by decide +kernel
theorem dX6_setLaw_47 : decode cX6_setLaw 47 = .ok (.imul, 1) := by decide +kernel
theorem dX6_setLaw_48 : decode cX6_setLaw 48 = .ok (.iconst 1, 1) := by decide +kernel
theorem dX6_setLaw_49 : decode cX6_setLaw 49 = .ok (.iadd, 1) := by decide +kernel
theorem dX6_setLaw_50 : decode cX6_setLaw 50 = .ok (.iload_n 2, 1) := by decide +kernel
theorem dX6_setLaw_51 : decode cX6_setLaw 51 = .ok (.iastore, 1) := by decide +kernel
theorem dX6_setLaw_52 : decode cX6_setLaw 52 = .ok (.iload_n 3, 1) := by decide +kernel
theorem dX6_setLaw_53 : decode cX6_setLaw 53 = .ok (.ireturn, 1) := by decide +kernel
theorem dX6_climb_0 : decode cX6_climb 0 = .ok (.iconst 0, 1) := by decide +kernel
theorem dX6_climb_1 : decode cX6_climb 1 = .ok (.istore_n 3, 1) := by decide +kernel
theorem dX6_climb_2 : decode cX6_climb 2 = .ok (.iload_n 3, 1) := by decide +kernel
theorem dX6_climb_3 : decode cX6_climb 3 = .ok (.aload_n 0, 1) := by decide +kernel
theorem dX6_climb_4 : decode cX6_climb 4 = .ok (.getfield 35, 3) := by decide +kernel
theorem dX6_climb_7 : decode cX6_climb 7 = .ok (.if_icmp .ge 24, 3) := by decide +kernel
theorem dX6_climb_10 : decode cX6_climb 10 = .ok (.aload_n 2, 1) := by decide +kernel
theorem dX6_climb_11 : decode cX6_climb 11 = .ok (.iload_n 3, 1) := by decide +kernel
theorem dX6_climb_12 : decode cX6_climb 12 = .ok (.iload_n 3, 1) := by decide +kernel
theorem dX6_climb_13 : decode cX6_climb 13 = .ok (.iload_n 1, 1) := by decide +kernel
theorem dX6_climb_14 : decode cX6_climb 14 = .ok (.if_icmp .ne 7, 3) := by decide +kernel
theorem dX6_climb_17 : decode cX6_climb 17 = .ok (.iconst 0, 1) := by decide +kernel
theorem dX6_climb_18 : decode cX6_climb 18 = .ok (.goto 6, 3) := by decide +kernel
theorem dX6_climb_21 : decode cX6_climb 21 = .ok (.sipush 999, 3) := by decide +kernel
theorem dX6_climb_24 : decode cX6_climb 24 = .ok (.iastore, 1) := by decide +kernel
theorem dX6_climb_25 : decode cX6_climb 25 = .ok (.iinc 3 1, 3) := by decide +kernel
theorem dX6_climb_28 : decode cX6_climb 28 = .ok (.goto (-26), 3) := by decide +kernel
theorem dX6_climb_31 : decode cX6_climb 31 = .ok (.iload_n 1, 1) := by decide +kernel
theorem dX6_climb_32 : decode cX6_climb 32 = .ok (.istore_n 3, 1) := by decide +kernel
theorem dX6_climb_33 : decode cX6_climb 33 = .ok (.iload_n 3, 1) := by decide +kernel
theorem dX6_climb_34 : decode cX6_climb 34 = .ok (.ifCond .lt 79, 3) := by decide +kernel
theorem dX6_climb_37 : decode cX6_climb 37 = .ok (.aload_n 2, 1) := by decide +kernel
theorem dX6_climb_38 : decode cX6_climb 38 = .ok (.iload_n 3, 1) := by decide +kernel
theorem dX6_climb_39 : decode cX6_climb 39 = .ok (.iaload, 1) := by decide +kernel
theorem dX6_climb_40 : decode cX6_climb 40 = .ok (.sipush 999, 3) := by decide +kernel
theorem dX6_climb_43 : decode cX6_climb 43 = .ok (.if_icmp .eq 64, 3) := by decide +kernel
theorem dX6_climb_46 : decode cX6_climb 46 = .ok (.aload_n 0, 1) := by decide +kernel
theorem dX6_climb_47 : decode cX6_climb 47 = .ok (.iload_n 3, 1) := by decide +kernel
theorem dX6_climb_48 : decode cX6_climb 48 = .ok (.iconst 3, 1) := by decide +kernel
theorem dX6_climb_49 : decode cX6_climb 49 = .ok (.invokevirtual 45, 3) := by decide +kernel
theorem dX6_climb_52 : decode cX6_climb 52 = .ok (.iconst (-1), 1) := by decide +kernel
theorem dX6_climb_53 : decode cX6_climb 53 = .ok (.if_icmp .ne 6, 3) := by decide +kernel
theorem dX6_climb_56 : decode cX6_climb 56 = .ok (.goto 51, 3) := by decide +kernel
theorem dX6_climb_59 : decode cX6_climb 59 = .ok (.aload_n 2, 1) := by decide +kernel
theorem dX6_climb_60 : decode cX6_climb 60 = .ok (.aload_n 0, 1) := by decide +kernel
theorem dX6_climb_61 : decode cX6_climb 61 = .ok (.iload_n 3, 1) := by decide +kernel
theorem dX6_climb_62 : decode cX6_climb 62 = .ok (.iconst 3, 1) := by decide +kernel
theorem dX6_climb_63 : decode cX6_climb 63 = .ok (.invokevirtual 45, 3) := by decide +kernel
theorem dX6_climb_66 : decode cX6_climb 66 = .ok (.aload_n 2, 1) := by decide +kernel
theorem dX6_climb_67 : decode cX6_climb 67 = .ok (.aload_n 0, 1) := by decide +kernel
theorem dX6_climb_68 : decode cX6_climb 68 = .ok (.iload_n 3, 1) := by decide +kernel
theorem dX6_climb_69 : decode cX6_climb 69 = .ok (.iconst 3, 1) := by decide +kernel
theorem dX6_climb_70 : decode cX6_climb 70 = .ok (.invokevirtual 45, 3) := by decide +kernel
theorem dX6_climb_73 : decode cX6_climb 73 = .ok (.iaload, 1) := by decide +kernel
theorem dX6_climb_74 : decode cX6_climb 74 = .ok (.aload_n 2, 1) := by decide +kernel
theorem dX6_climb_75 : decode cX6_climb 75 = .ok (.iload_n 3, 1) := by decide +kernel
theorem dX6_climb_76 : decode cX6_climb 76 = .ok (.iaload, 1) := by decide +kernel
theorem dX6_climb_77 : decode cX6_climb 77 = .ok (.iconst 1, 1) := by decide +kernel
theorem dX6_climb_78 : decode cX6_climb 78 = .ok (.iadd, 1) := by decide +kernel
theorem dX6_climb_79 : decode cX6_climb 79 = .ok (.invokestatic 80, 3) := by decide +kernel
theorem dX6_climb_82 : decode cX6_climb 82 = .ok (.iastore, 1) := by decide +kernel
theorem dX6_climb_83 : decode cX6_climb 83 = .ok (.aload_n 2, 1) := by decide +kernel
theorem dX6_climb_84 : decode cX6_climb 84 = .ok (.aload_n 0, 1) := by decide +kernel
theorem dX6_climb_85 : decode cX6_climb 85 = .ok (.iload_n 3, 1) := by decide +kernel
theorem dX6_climb_86 : decode cX6_climb 86 = .ok (.iconst 4, 1) := by decide +kernel
theorem dX6_climb_87 : decode cX6_climb 87 = .ok (.invokevirtual 45, 3) := by decide +kernel
theorem dX6_climb_90 : decode cX6_climb 90 = .ok (.aload_n 2, 1) := by decide +kernel
theorem dX6_climb_91 : decode cX6_climb 91 = .ok (.aload_n 0, 1) := by decide +kernel
theorem dX6_climb_92 : decode cX6_climb 92 = .ok (.iload_n 3, 1) := by decide +kernel
theorem dX6_climb_93 : decode cX6_climb 93 = .ok (.iconst 4, 1) := by decide +kernel
theorem dX6_climb_94 : decode cX6_climb 94 = .ok (.invokevirtual 45, 3) := by decide +kernel
theorem dX6_climb_97 : decode cX6_climb 97 = .ok (.iaload, 1) := by decide +kernel
theorem dX6_climb_98 : decode cX6_climb 98 = .ok (.aload_n 2, 1) := by decide +kernel
theorem dX6_climb_99 : decode cX6_climb 99 = .ok (.iload_n 3, 1) := by decide +kernel
theorem dX6_climb_100 : decode cX6_climb 100 = .ok (.iaload, 1) := by decide +kernel
theorem dX6_climb_101 : decode cX6_climb 101 = .ok (.iconst 1, 1) := by decide +kernel
theorem dX6_climb_102 : decode cX6_climb 102 = .ok (.iadd, 1) := by decide +kernel
theorem dX6_climb_103 : decode cX6_climb 103 = .ok (.invokestatic 80, 3) := by decide +kernel
theorem dX6_climb_106 : decode cX6_climb 106 = .ok (.iastore, 1) := by decide +kernel
theorem dX6_climb_107 : decode cX6_climb 107 = .ok (.iinc 3 (-1), 3) := by decide +kernel
theorem dX6_climb_110 : decode cX6_climb 110 = .ok (.goto (-77), 3) := by decide +kernel
theorem dX6_climb_113 : decode cX6_climb 113 = .ok (.return_, 1) := by decide +kernel
theorem dX6_steps_0 : decode cX6_steps 0 = .ok (.aload_n 0, 1) := by decide +kernel
theorem dX6_steps_1 : decode cX6_steps 1 = .ok (.iload_n 1, 1) := by decide +kernel
theorem dX6_steps_2 : decode cX6_steps 2 = .ok (.aload_n 0, 1) := by decide +kernel
theorem dX6_steps_3 : decode cX6_steps 3 = .ok (.getfield 22, 3) := by decide +kernel
theorem dX6_steps_6 : decode cX6_steps 6 = .ok (.invokevirtual 85, 3) := by decide +kernel
theorem dX6_steps_9 : decode cX6_steps 9 = .ok (.aload_n 0, 1) := by decide +kernel
theorem dX6_steps_10 : decode cX6_steps 10 = .ok (.iload_n 2, 1) := by decide +kernel
theorem dX6_steps_11 : decode cX6_steps 11 = .ok (.aload_n 0, 1) := by decide +kernel
theorem dX6_steps_12 : decode cX6_steps 12 = .ok (.getfield 25, 3) := by decide +kernel
theorem dX6_steps_15 : decode cX6_steps 15 = .ok (.invokevirtual 85, 3) := by decide +kernel
theorem dX6_steps_18 : decode cX6_steps 18 = .ok (.sipush 999, 3) := by decide +kernel
theorem dX6_steps_21 : decode cX6_steps 21 = .ok (.istore_n 3, 1) := by decide +kernel
theorem dX6_steps_22 : decode cX6_steps 22 = .ok (.iconst 0, 1) := by decide +kernel
theorem dX6_steps_23 : decode cX6_steps 23 = .ok (.istore 4, 2) := by decide +kernel
theorem dX6_steps_25 : decode cX6_steps 25 = .ok (.iload 4, 2) := by decide +kernel
theorem dX6_steps_27 : decode cX6_steps 27 = .ok (.aload_n 0, 1) := by decide +kernel
theorem dX6_steps_28 : decode cX6_steps 28 = .ok (.getfield 35, 3) := by decide +kernel
theorem dX6_steps_31 : decode cX6_steps 31 = .ok (.if_icmp .ge 29, 3) := by decide +kernel
theorem dX6_steps_34 : decode cX6_steps 34 = .ok (.iload_n 3, 1) := by decide +kernel
theorem dX6_steps_35 : decode cX6_steps 35 = .ok (.aload_n 0, 1) := by decide +kernel
theorem dX6_steps_36 : decode cX6_steps 36 = .ok (.getfield 22, 3) := by decide +kernel
theorem dX6_steps_39 : decode cX6_steps 39 = .ok (.iload 4, 2) := by decide +kernel
theorem dX6_steps_41 : decode cX6_steps 41 = .ok (.iaload, 1) := by decide +kernel
theorem dX6_steps_42 : decode cX6_steps 42 = .ok (.aload_n 0, 1) := by decide +kernel
theorem dX6_steps_43 : decode cX6_steps 43 = .ok (.getfield 25, 3) := by decide +kernel
theorem dX6_steps_46 : decode cX6_steps 46 = .ok (.iload 4, 2) := by decide +kernel
theorem dX6_steps_48 : decode cX6_steps 48 = .ok (.iaload, 1) := by decide +kernel
theorem dX6_steps_49 : decode cX6_steps 49 = .ok (.iadd, 1) := by decide +kernel
theorem dX6_steps_50 : decode cX6_steps 50 = .ok (.invokestatic 80, 3) := by decide +kernel
theorem dX6_steps_53 : decode cX6_steps 53 = .ok (.istore_n 3, 1) := by decide +kernel
theorem dX6_steps_54 : decode cX6_steps 54 = .ok (.iinc 4 1, 3) := by decide +kernel
theorem dX6_steps_57 : decode cX6_steps 57 = .ok (.goto (-32), 3) := by decide +kernel
theorem dX6_steps_60 : decode cX6_steps 60 = .ok (.iload_n 3, 1) := by decide +kernel
theorem dX6_steps_61 : decode cX6_steps 61 = .ok (.ireturn, 1) := by decide +kernel
theorem dX6_isBefore_0 : decode cX6_isBefore 0 = .ok (.aload_n 0, 1) := by decide +kernel
theorem dX6_isBefore_1 : decode cX6_isBefore 1 = .ok (.iload_n 1, 1) := by decide +kernel
theorem dX6_isBefore_2 : decode cX6_isBefore 2 = .ok (.iconst 1, 1) := by decide +kernel
theorem dX6_isBefore_3 : decode cX6_isBefore 3 = .ok (.invokevirtual 45, 3) := by decide +kernel
theorem dX6_isBefore_6 : decode cX6_isBefore 6 = .ok (.aload_n 0, 1) := by decide +kernel
theorem dX6_isBefore_7 : decode cX6_isBefore 7 = .ok (.iload_n 2, 1) := by decide +kernel
theorem dX6_isBefore_8 : decode cX6_isBefore 8 = .ok (.iconst 1, 1) := by decide +kernel
theorem dX6_isBefore_9 : decode cX6_isBefore 9 = .ok (.invokevirtual 45, 3) := by decide +kernel
theorem dX6_isBefore_12 : decode cX6_isBefore 12 = .ok (.if_icmp .lt 23, 3) := by decide +kernel
theorem dX6_isBefore_15 : decode cX6_isBefore 15 = .ok (.aload_n 0, 1) := by decide +kernel
theorem dX6_isBefore_16 : decode cX6_isBefore 16 = .ok (.iload_n 1, 1) := by decide +kernel
theorem dX6_isBefore_17 : decode cX6_isBefore 17 = .ok (.iconst 1, 1) := by decide +kernel
theorem dX6_isBefore_18 : decode cX6_isBefore 18 = .ok (.invokevirtual 45, 3) := by decide +kernel
theorem dX6_isBefore_21 : decode cX6_isBefore 21 = .ok (.aload_n 0, 1) := by decide +kernel
theorem dX6_isBefore_22 : decode cX6_isBefore 22 = .ok (.iload_n 2, 1) := by decide +kernel
theorem dX6_isBefore_23 : decode cX6_isBefore 23 = .ok (.iconst 1, 1) := by decide +kernel
theorem dX6_isBefore_24 : decode cX6_isBefore 24 = .ok (.invokevirtual 45, 3) := by decide +kernel
theorem dX6_isBefore_27 : decode cX6_isBefore 27 = .ok (.if_icmp .ne 12, 3) := by decide +kernel
theorem dX6_isBefore_30 : decode cX6_isBefore 30 = .ok (.iload_n 1, 1) := by decide +kernel
theorem dX6_isBefore_31 : decode cX6_isBefore 31 = .ok (.iload_n 2, 1) := by decide +kernel
theorem dX6_isBefore_32 : decode cX6_isBefore 32 = .ok (.if_icmp .ge 7, 3) := by decide +kernel
theorem dX6_isBefore_35 : decode cX6_isBefore 35 = .ok (.iconst 1, 1) := by decide +kernel
theorem dX6_isBefore_36 : decode cX6_isBefore 36 = .ok (.goto 4, 3) := by decide +kernel
theorem dX6_isBefore_39 : decode cX6_isBefore 39 = .ok (.iconst 0, 1) := by decide +kernel
theorem dX6_isBefore_40 : decode cX6_isBefore 40 = .ok (.ireturn, 1) := by decide +kernel
theorem dX6_isAhead_0 : decode cX6_isAhead 0 = .ok (.iload_n 3, 1) := by decide +kernel
theorem dX6_isAhead_1 : decode cX6_isAhead 1 = .ok (.ifCond .ne 34, 3) := by decide +kernel
theorem dX6_isAhead_4 : decode cX6_isAhead 4 = .ok (.aload_n 0, 1) := by decide +kernel
theorem dX6_isAhead_5 : decode cX6_isAhead 5 = .ok (.iload_n 1, 1) := by decide +kernel
theorem dX6_isAhead_6 : decode cX6_isAhead 6 = .ok (.iconst 0, 1) := by decide +kernel
theorem dX6_isAhead_7 : decode cX6_isAhead 7 = .ok (.invokevirtual 45, 3) := by decide +kernel
theorem dX6_isAhead_10 : decode cX6_isAhead 10 = .ok (.aload_n 0, 1) := by decide +kernel
theorem dX6_isAhead_11 : decode cX6_isAhead 11 = .ok (.iload_n 2, 1) := by decide +kernel
theorem dX6_isAhead_12 : decode cX6_isAhead 12 = .ok (.iconst 0, 1) := by decide +kernel
theorem dX6_isAhead_13 : decode cX6_isAhead 13 = .ok (.invokevirtual 45, 3) := by decide +kernel
theorem dX6_isAhead_16 : decode cX6_isAhead 16 = .ok (.if_icmp .eq 19, 3) := by decide +kernel
theorem dX6_isAhead_19 : decode cX6_isAhead 19 = .ok (.aload_n 0, 1) := by decide +kernel
theorem dX6_isAhead_20 : decode cX6_isAhead 20 = .ok (.iload_n 1, 1) := by decide +kernel
theorem dX6_isAhead_21 : decode cX6_isAhead 21 = .ok (.iconst 0, 1) := by decide +kernel
theorem dX6_isAhead_22 : decode cX6_isAhead 22 = .ok (.invokevirtual 45, 3) := by decide +kernel
theorem dX6_isAhead_25 : decode cX6_isAhead 25 = .ok (.iconst 1, 1) := by decide +kernel
theorem dX6_isAhead_26 : decode cX6_isAhead 26 = .ok (.if_icmp .ne 7, 3) := by decide +kernel
theorem dX6_isAhead_29 : decode cX6_isAhead 29 = .ok (.iconst 1, 1) := by decide +kernel
theorem dX6_isAhead_30 : decode cX6_isAhead 30 = .ok (.goto 4, 3) := by decide +kernel
theorem dX6_isAhead_33 : decode cX6_isAhead 33 = .ok (.iconst 0, 1) := by decide +kernel
theorem dX6_isAhead_34 : decode cX6_isAhead 34 = .ok (.ireturn, 1) := by decide +kernel
theorem dX6_isAhead_35 : decode cX6_isAhead 35 = .ok (.iload_n 3, 1) := by decide +kernel
theorem dX6_isAhead_36 : decode cX6_isAhead 36 = .ok (.iconst 2, 1) := by decide +kernel
theorem dX6_isAhead_37 : decode cX6_isAhead 37 = .ok (.if_icmp .ne 12, 3) := by decide +kernel
theorem dX6_isAhead_40 : decode cX6_isAhead 40 = .ok (.aload_n 0, 1) := by decide +kernel
theorem dX6_isAhead_41 : decode cX6_isAhead 41 = .ok (.iload_n 2, 1) := by decide +kernel
theorem dX6_isAhead_42 : decode cX6_isAhead 42 = .ok (.iload_n 1, 1) := by decide +kernel
theorem dX6_isAhead_43 : decode cX6_isAhead 43 = .ok (.invokevirtual 89, 3) := by decide +kernel
theorem dX6_isAhead_46 : decode cX6_isAhead 46 = .ok (.goto 9, 3) := by decide +kernel
theorem dX6_isAhead_49 : decode cX6_isAhead 49 = .ok (.aload_n 0, 1) := by decide +kernel
theorem dX6_isAhead_50 : decode cX6_isAhead 50 = .ok (.iload_n 1, 1) := by decide +kernel
theorem dX6_isAhead_51 : decode cX6_isAhead 51 = .ok (.iload_n 2, 1) := by decide +kernel
theorem dX6_isAhead_52 : decode cX6_isAhead 52 = .ok (.invokevirtual 89, 3) := by decide +kernel
theorem dX6_isAhead_55 : decode cX6_isAhead 55 = .ok (.ireturn, 1) := by decide +kernel
theorem dX6_isChild_0 : decode cX6_isChild 0 = .ok (.aload_n 0, 1) := by decide +kernel
theorem dX6_isChild_1 : decode cX6_isChild 1 = .ok (.iload_n 1, 1) := by decide +kernel
theorem dX6_isChild_2 : decode cX6_isChild 2 = .ok (.iconst 3, 1) := by decide +kernel
theorem dX6_isChild_3 : decode cX6_isChild 3 = .ok (.invokevirtual 45, 3) := by decide +kernel
theorem dX6_isChild_6 : decode cX6_isChild 6 = .ok (.iload_n 2, 1) := by decide +kernel
theorem dX6_isChild_7 : decode cX6_isChild 7 = .ok (.if_icmp .eq 13, 3) := by decide +kernel
theorem dX6_isChild_10 : decode cX6_isChild 10 = .ok (.aload_n 0, 1) := by decide +kernel
theorem dX6_isChild_11 : decode cX6_isChild 11 = .ok (.iload_n 1, 1) := by decide +kernel
theorem dX6_isChild_12 : decode cX6_isChild 12 = .ok (.iconst 4, 1) := by decide +kernel
theorem dX6_isChild_13 : decode cX6_isChild 13 = .ok (.invokevirtual 45, 3) := by decide +kernel
theorem dX6_isChild_16 : decode cX6_isChild 16 = .ok (.iload_n 2, 1) := by decide +kernel
theorem dX6_isChild_17 : decode cX6_isChild 17 = .ok (.if_icmp .ne 7, 3) := by decide +kernel
theorem dX6_isChild_20 : decode cX6_isChild 20 = .ok (.iconst 1, 1) := by decide +kernel
theorem dX6_isChild_21 : decode cX6_isChild 21 = .ok (.goto 4, 3) := by decide +kernel
theorem dX6_isChild_24 : decode cX6_isChild 24 = .ok (.iconst 0, 1) := by decide +kernel
theorem dX6_isChild_25 : decode cX6_isChild 25 = .ok (.ireturn, 1) := by decide +kernel
theorem dX6_nextChild_0 : decode cX6_nextChild 0 = .ok (.iconst (-1), 1) := by decide +kernel
theorem dX6_nextChild_1 : decode cX6_nextChild 1 = .ok (.istore 4, 2) := by decide +kernel
theorem dX6_nextChild_3 : decode cX6_nextChild 3 = .ok (.iconst 0, 1) := by decide +kernel
theorem dX6_nextChild_4 : decode cX6_nextChild 4 = .ok (.istore 5, 2) := by decide +kernel
theorem dX6_nextChild_6 : decode cX6_nextChild 6 = .ok (.iload 5, 2) := by decide +kernel
theorem dX6_nextChild_8 : decode cX6_nextChild 8 = .ok (.aload_n 0, 1) := by decide +kernel
theorem dX6_nextChild_9 : decode cX6_nextChild 9 = .ok (.getfield 35, 3) := by decide +kernel
theorem dX6_nextChild_12 : decode cX6_nextChild 12 = .ok (.if_icmp .ge 60, 3) := by decide +kernel
theorem dX6_nextChild_15 : decode cX6_nextChild 15 = .ok (.aload_n 0, 1) := by decide +kernel
theorem dX6_nextChild_16 : decode cX6_nextChild 16 = .ok (.iload 5, 2) := by decide +kernel
theorem dX6_nextChild_18 : decode cX6_nextChild 18 = .ok (.iload_n 1, 1) := by decide +kernel
theorem dX6_nextChild_19 : decode cX6_nextChild 19 = .ok (.invokevirtual 93, 3) := by decide +kernel
theorem dX6_nextChild_22 : decode cX6_nextChild 22 = .ok (.ifCond .eq 44, 3) := by decide +kernel
theorem dX6_nextChild_25 : decode cX6_nextChild 25 = .ok (.iload_n 2, 1) := by decide +kernel
theorem dX6_nextChild_26 : decode cX6_nextChild 26 = .ok (.iconst (-1), 1) := by decide +kernel
theorem dX6_nextChild_27 : decode cX6_nextChild 27 = .ok (.if_icmp .eq 17, 3) := by decide +kernel
theorem dX6_nextChild_30 : decode cX6_nextChild 30 = .ok (.aload_n 0, 1) := by decide +kernel
theorem dX6_nextChild_31 : decode cX6_nextChild 31 = .ok (.iload_n 2, 1) := by decide +kernel
theorem dX6_nextChild_32 : decode cX6_nextChild 32 = .ok (.iload 5, 2) := by decide +kernel
theorem dX6_nextChild_34 : decode cX6_nextChild 34 = .ok (.iload_n 3, 1) := by decide +kernel
theorem dX6_nextChild_35 : decode cX6_nextChild 35 = .ok (.invokevirtual 96, 3) := by decide +kernel
theorem dX6_nextChild_38 : decode cX6_nextChild 38 = .ok (.ifCond .ne 6, 3) := by decide +kernel
theorem dX6_nextChild_41 : decode cX6_nextChild 41 = .ok (.goto 25, 3) := by decide +kernel
theorem dX6_nextChild_44 : decode cX6_nextChild 44 = .ok (.iload 4, 2) := by decide +kernel
theorem dX6_nextChild_46 : decode cX6_nextChild 46 = .ok (.iconst (-1), 1) := by decide +kernel
theorem dX6_nextChild_47 : decode cX6_nextChild 47 = .ok (.if_icmp .eq 15, 3) := by decide +kernel
theorem dX6_nextChild_50 : decode cX6_nextChild 50 = .ok (.aload_n 0, 1) := by decide +kernel
theorem dX6_nextChild_51 : decode cX6_nextChild 51 = .ok (.iload 5, 2) := by decide +kernel
theorem dX6_nextChild_53 : decode cX6_nextChild 53 = .ok (.iload 4, 2) := by decide +kernel
theorem dX6_nextChild_55 : decode cX6_nextChild 55 = .ok (.iload_n 3, 1) := by decide +kernel
theorem dX6_nextChild_56 : decode cX6_nextChild 56 = .ok (.invokevirtual 96, 3) := by decide +kernel
theorem dX6_nextChild_59 : decode cX6_nextChild 59 = .ok (.ifCond .eq 7, 3) := by decide +kernel
theorem dX6_nextChild_62 : decode cX6_nextChild 62 = .ok (.iload 5, 2) := by decide +kernel
theorem dX6_nextChild_64 : decode cX6_nextChild 64 = .ok (.istore 4, 2) := by decide +kernel
theorem dX6_nextChild_66 : decode cX6_nextChild 66 = .ok (.iinc 5 1, 3) := by decide +kernel
theorem dX6_nextChild_69 : decode cX6_nextChild 69 = .ok (.goto (-63), 3) := by decide +kernel
theorem dX6_nextChild_72 : decode cX6_nextChild 72 = .ok (.iload 4, 2) := by decide +kernel
theorem dX6_nextChild_74 : decode cX6_nextChild 74 = .ok (.ireturn, 1) := by decide +kernel
theorem dX6_first_0 : decode cX6_first 0 = .ok (.aload_n 0, 1) := by decide +kernel
theorem dX6_first_1 : decode cX6_first 1 = .ok (.iload_n 1, 1) := by decide +kernel
theorem dX6_first_2 : decode cX6_first 2 = .ok (.iconst (-1), 1) := by decide +kernel
theorem dX6_first_3 : decode cX6_first 3 = .ok (.iload_n 2, 1) := by decide +kernel
theorem dX6_first_4 : decode cX6_first 4 = .ok (.invokevirtual 99, 3) := by decide +kernel
theorem dX6_first_7 : decode cX6_first 7 = .ok (.istore 4, 2) := by decide +kernel
theorem dX6_first_9 : decode cX6_first 9 = .ok (.iload 4, 2) := by decide +kernel
theorem dX6_first_11 : decode cX6_first 11 = .ok (.iconst (-1), 1) := by decide +kernel
theorem dX6_first_12 : decode cX6_first 12 = .ok (.if_icmp .eq 53, 3) := by decide +kernel
theorem dX6_first_15 : decode cX6_first 15 = .ok (.aload_n 0, 1) := by decide +kernel
theorem dX6_first_16 : decode cX6_first 16 = .ok (.iload 4, 2) := by decide +kernel
theorem dX6_first_18 : decode cX6_first 18 = .ok (.invokevirtual 67, 3) := by decide +kernel
theorem dX6_first_21 : decode cX6_first 21 = .ok (.ifCond .eq 12, 3) := by decide +kernel
theorem dX6_first_24 : decode cX6_first 24 = .ok (.iload 4, 2) := by decide +kernel
theorem dX6_first_26 : decode cX6_first 26 = .ok (.iload_n 3, 1) := by decide +kernel
theorem dX6_first_27 : decode cX6_first 27 = .ok (.if_icmp .eq 6, 3) := by decide +kernel
theorem dX6_first_30 : decode cX6_first 30 = .ok (.iload 4, 2) := by decide +kernel
theorem dX6_first_32 : decode cX6_first 32 = .ok (.ireturn, 1) := by decide +kernel
theorem dX6_first_33 : decode cX6_first 33 = .ok (.aload_n 0, 1) := by decide +kernel
theorem dX6_first_34 : decode cX6_first 34 = .ok (.iload 4, 2) := by decide +kernel
theorem dX6_first_36 : decode cX6_first 36 = .ok (.iload_n 2, 1) := by decide +kernel
theorem dX6_first_37 : decode cX6_first 37 = .ok (.iload_n 3, 1) := by decide +kernel
theorem dX6_first_38 : decode cX6_first 38 = .ok (.invokevirtual 103, 3) := by decide +kernel
theorem dX6_first_41 : decode cX6_first 41 = .ok (.istore 5, 2) := by decide +kernel
theorem dX6_first_43 : decode cX6_first 43 = .ok (.iload 5, 2) := by decide +kernel
theorem dX6_first_45 : decode cX6_first 45 = .ok (.iconst (-1), 1) := by decide +kernel
theorem dX6_first_46 : decode cX6_first 46 = .ok (.if_icmp .eq 6, 3) := by decide +kernel
theorem dX6_first_49 : decode cX6_first 49 = .ok (.iload 5, 2) := by decide +kernel
theorem dX6_first_51 : decode cX6_first 51 = .ok (.ireturn, 1) := by decide +kernel
theorem dX6_first_52 : decode cX6_first 52 = .ok (.aload_n 0, 1) := by decide +kernel
theorem dX6_first_53 : decode cX6_first 53 = .ok (.iload_n 1, 1) := by decide +kernel
theorem dX6_first_54 : decode cX6_first 54 = .ok (.iload 4, 2) := by decide +kernel
theorem dX6_first_56 : decode cX6_first 56 = .ok (.iload_n 2, 1) := by decide +kernel
theorem dX6_first_57 : decode cX6_first 57 = .ok (.invokevirtual 99, 3) := by decide +kernel
theorem dX6_first_60 : decode cX6_first 60 = .ok (.istore 4, 2) := by decide +kernel
theorem dX6_first_62 : decode cX6_first 62 = .ok (.goto (-53), 3) := by decide +kernel
theorem dX6_first_65 : decode cX6_first 65 = .ok (.iconst (-1), 1) := by decide +kernel
theorem dX6_first_66 : decode cX6_first 66 = .ok (.ireturn, 1) := by decide +kernel
theorem dX6_oldest_0 : decode cX6_oldest 0 = .ok (.iconst (-1), 1) := by decide +kernel
theorem dX6_oldest_1 : decode cX6_oldest 1 = .ok (.istore_n 2, 1) := by decide +kernel
theorem dX6_oldest_2 : decode cX6_oldest 2 = .ok (.iconst 0, 1) := by decide +kernel
theorem dX6_oldest_3 : decode cX6_oldest 3 = .ok (.istore_n 3, 1) := by decide +kernel
theorem dX6_oldest_4 : decode cX6_oldest 4 = .ok (.iload_n 3, 1) := by decide +kernel
theorem dX6_oldest_5 : decode cX6_oldest 5 = .ok (.aload_n 0, 1) := by decide +kernel
theorem dX6_oldest_6 : decode cX6_oldest 6 = .ok (.getfield 35, 3) := by decide +kernel
theorem dX6_oldest_9 : decode cX6_oldest 9 = .ok (.if_icmp .ge 50, 3) := by decide +kernel
theorem dX6_oldest_12 : decode cX6_oldest 12 = .ok (.iload_n 3, 1) := by decide +kernel
theorem dX6_oldest_13 : decode cX6_oldest 13 = .ok (.iload_n 1, 1) := by decide +kernel
theorem dX6_oldest_14 : decode cX6_oldest 14 = .ok (.if_icmp .eq 39, 3) := by decide +kernel
theorem dX6_oldest_17 : decode cX6_oldest 17 = .ok (.aload_n 0, 1) := by decide +kernel
theorem dX6_oldest_18 : decode cX6_oldest 18 = .ok (.iload_n 3, 1) := by decide +kernel
theorem dX6_oldest_19 : decode cX6_oldest 19 = .ok (.invokevirtual 67, 3) := by decide +kernel
theorem dX6_oldest_22 : decode cX6_oldest 22 = .ok (.ifCond .eq 31, 3) := by decide +kernel
theorem dX6_oldest_25 : decode cX6_oldest 25 = .ok (.aload_n 0, 1) := by decide +kernel
theorem dX6_oldest_26 : decode cX6_oldest 26 = .ok (.iload_n 3, 1) := by decide +kernel
theorem dX6_oldest_27 : decode cX6_oldest 27 = .ok (.iload_n 1, 1) := by decide +kernel
theorem dX6_oldest_28 : decode cX6_oldest 28 = .ok (.invokevirtual 106, 3) := by decide +kernel
theorem dX6_oldest_31 : decode cX6_oldest 31 = .ok (.sipush 999, 3) := by decide +kernel
theorem dX6_oldest_34 : decode cX6_oldest 34 = .ok (.if_icmp .ge 19, 3) := by decide +kernel
theorem dX6_oldest_37 : decode cX6_oldest 37 = .ok (.iload_n 2, 1) := by decide +kernel
theorem dX6_oldest_38 : decode cX6_oldest 38 = .ok (.iconst (-1), 1) := by decide +kernel
theorem dX6_oldest_39 : decode cX6_oldest 39 = .ok (.if_icmp .eq 12, 3) := by decide +kernel
theorem dX6_oldest_42 : decode cX6_oldest 42 = .ok (.aload_n 0, 1) := by decide +kernel
theorem dX6_oldest_43 : decode cX6_oldest 43 = .ok (.iload_n 3, 1) := by decide +kernel
theorem dX6_oldest_44 : decode cX6_oldest 44 = .ok (.iload_n 2, 1) := by decide +kernel
theorem dX6_oldest_45 : decode cX6_oldest 45 = .ok (.invokevirtual 89, 3) := by decide +kernel
theorem dX6_oldest_48 : decode cX6_oldest 48 = .ok (.ifCond .eq 5, 3) := by decide +kernel
theorem dX6_oldest_51 : decode cX6_oldest 51 = .ok (.iload_n 3, 1) := by decide +kernel
theorem dX6_oldest_52 : decode cX6_oldest 52 = .ok (.istore_n 2, 1) := by decide +kernel
theorem dX6_oldest_53 : decode cX6_oldest 53 = .ok (.iinc 3 1, 3) := by decide +kernel
theorem dX6_oldest_56 : decode cX6_oldest 56 = .ok (.goto (-52), 3) := by decide +kernel
theorem dX6_oldest_59 : decode cX6_oldest 59 = .ok (.iload_n 2, 1) := by decide +kernel
theorem dX6_oldest_60 : decode cX6_oldest 60 = .ok (.ireturn, 1) := by decide +kernel
theorem dX6_heir_0 : decode cX6_heir 0 = .ok (.iload_n 2, 1) := by decide +kernel
theorem dX6_heir_1 : decode cX6_heir 1 = .ok (.iconst 3, 1) := by decide +kernel
theorem dX6_heir_2 : decode cX6_heir 2 = .ok (.if_icmp .ne 9, 3) := by decide +kernel
theorem dX6_heir_5 : decode cX6_heir 5 = .ok (.aload_n 0, 1) := by decide +kernel
theorem dX6_heir_6 : decode cX6_heir 6 = .ok (.iload_n 1, 1) := by decide +kernel
theorem dX6_heir_7 : decode cX6_heir 7 = .ok (.invokevirtual 109, 3) := by decide +kernel
theorem dX6_heir_10 : decode cX6_heir 10 = .ok (.ireturn, 1) := by decide +kernel
theorem dX6_heir_11 : decode cX6_heir 11 = .ok (.aload_n 0, 1) := by decide +kernel
theorem dX6_heir_12 : decode cX6_heir 12 = .ok (.iload_n 1, 1) := by decide +kernel
theorem dX6_heir_13 : decode cX6_heir 13 = .ok (.iload_n 2, 1) := by decide +kernel
theorem dX6_heir_14 : decode cX6_heir 14 = .ok (.iload_n 1, 1) := by decide +kernel
theorem dX6_heir_15 : decode cX6_heir 15 = .ok (.invokevirtual 103, 3) := by decide +kernel
theorem dX6_heir_18 : decode cX6_heir 18 = .ok (.istore_n 3, 1) := by decide +kernel
theorem dX6_heir_19 : decode cX6_heir 19 = .ok (.iload_n 3, 1) := by decide +kernel
theorem dX6_heir_20 : decode cX6_heir 20 = .ok (.iconst (-1), 1) := by decide +kernel
theorem dX6_heir_21 : decode cX6_heir 21 = .ok (.if_icmp .ne 26, 3) := by decide +kernel
theorem dX6_heir_24 : decode cX6_heir 24 = .ok (.aload_n 0, 1) := by decide +kernel
theorem dX6_heir_25 : decode cX6_heir 25 = .ok (.iload_n 1, 1) := by decide +kernel
theorem dX6_heir_26 : decode cX6_heir 26 = .ok (.iconst 4, 1) := by decide +kernel
theorem dX6_heir_27 : decode cX6_heir 27 = .ok (.invokevirtual 45, 3) := by decide +kernel
theorem dX6_heir_30 : decode cX6_heir 30 = .ok (.iconst (-1), 1) := by decide +kernel
theorem dX6_heir_31 : decode cX6_heir 31 = .ok (.if_icmp .eq 16, 3) := by decide +kernel
theorem dX6_heir_34 : decode cX6_heir 34 = .ok (.aload_n 0, 1) := by decide +kernel
theorem dX6_heir_35 : decode cX6_heir 35 = .ok (.aload_n 0, 1) := by decide +kernel
theorem dX6_heir_36 : decode cX6_heir 36 = .ok (.iload_n 1, 1) := by decide +kernel
theorem dX6_heir_37 : decode cX6_heir 37 = .ok (.iconst 4, 1) := by decide +kernel
theorem dX6_heir_38 : decode cX6_heir 38 = .ok (.invokevirtual 45, 3) := by decide +kernel
theorem dX6_heir_41 : decode cX6_heir 41 = .ok (.iload_n 2, 1) := by decide +kernel
theorem dX6_heir_42 : decode cX6_heir 42 = .ok (.iload_n 1, 1) := by decide +kernel
theorem dX6_heir_43 : decode cX6_heir 43 = .ok (.invokevirtual 103, 3) := by decide +kernel
theorem dX6_heir_46 : decode cX6_heir 46 = .ok (.istore_n 3, 1) := by decide +kernel
theorem dX6_heir_47 : decode cX6_heir 47 = .ok (.iload_n 3, 1) := by decide +kernel
theorem dX6_heir_48 : decode cX6_heir 48 = .ok (.iconst (-1), 1) := by decide +kernel
theorem dX6_heir_49 : decode cX6_heir 49 = .ok (.if_icmp .ne 26, 3) := by decide +kernel
theorem dX6_heir_52 : decode cX6_heir 52 = .ok (.aload_n 0, 1) := by decide +kernel
theorem dX6_heir_53 : decode cX6_heir 53 = .ok (.iload_n 1, 1) := by decide +kernel
theorem dX6_heir_54 : decode cX6_heir 54 = .ok (.iconst 3, 1) := by decide +kernel
theorem dX6_heir_55 : decode cX6_heir 55 = .ok (.invokevirtual 45, 3) := by decide +kernel
theorem dX6_heir_58 : decode cX6_heir 58 = .ok (.iconst (-1), 1) := by decide +kernel
theorem dX6_heir_59 : decode cX6_heir 59 = .ok (.if_icmp .eq 16, 3) := by decide +kernel
theorem dX6_heir_62 : decode cX6_heir 62 = .ok (.aload_n 0, 1) := by decide +kernel
theorem dX6_heir_63 : decode cX6_heir 63 = .ok (.aload_n 0, 1) := by decide +kernel
theorem dX6_heir_64 : decode cX6_heir 64 = .ok (.iload_n 1, 1) := by decide +kernel
theorem dX6_heir_65 : decode cX6_heir 65 = .ok (.iconst 3, 1) := by decide +kernel
theorem dX6_heir_66 : decode cX6_heir 66 = .ok (.invokevirtual 45, 3) := by decide +kernel
theorem dX6_heir_69 : decode cX6_heir 69 = .ok (.iload_n 2, 1) := by decide +kernel
theorem dX6_heir_70 : decode cX6_heir 70 = .ok (.iload_n 1, 1) := by decide +kernel
theorem dX6_heir_71 : decode cX6_heir 71 = .ok (.invokevirtual 103, 3) := by decide +kernel
theorem dX6_heir_74 : decode cX6_heir 74 = .ok (.istore_n 3, 1) := by decide +kernel
theorem dX6_heir_75 : decode cX6_heir 75 = .ok (.iload_n 3, 1) := by decide +kernel
theorem dX6_heir_76 : decode cX6_heir 76 = .ok (.ireturn, 1) := by decide +kernel
theorem dX6_regent_0 : decode cX6_regent 0 = .ok (.iload_n 1, 1) := by decide +kernel
theorem dX6_regent_1 : decode cX6_regent 1 = .ok (.iconst (-1), 1) := by decide +kernel
theorem dX6_regent_2 : decode cX6_regent 2 = .ok (.if_icmp .eq 13, 3) := by decide +kernel
theorem dX6_regent_5 : decode cX6_regent 5 = .ok (.aload_n 0, 1) := by decide +kernel
theorem dX6_regent_6 : decode cX6_regent 6 = .ok (.iload_n 1, 1) := by decide +kernel
theorem dX6_regent_7 : decode cX6_regent 7 = .ok (.invokevirtual 112, 3) := by decide +kernel
theorem dX6_regent_10 : decode cX6_regent 10 = .ok (.bipush 16, 2) := by decide +kernel
theorem dX6_regent_12 : decode cX6_regent 12 = .ok (.if_icmp .lt 5, 3) := by decide +kernel
theorem dX6_regent_15 : decode cX6_regent 15 = .ok (.iconst (-1), 1) := by decide +kernel
theorem dX6_regent_16 : decode cX6_regent 16 = .ok (.ireturn, 1) := by decide +kernel
theorem dX6_regent_17 : decode cX6_regent 17 = .ok (.aload_n 0, 1) := by decide +kernel
theorem dX6_regent_18 : decode cX6_regent 18 = .ok (.iload_n 1, 1) := by decide +kernel
theorem dX6_regent_19 : decode cX6_regent 19 = .ok (.iconst 3, 1) := by decide +kernel
theorem dX6_regent_20 : decode cX6_regent 20 = .ok (.invokevirtual 45, 3) := by decide +kernel
theorem dX6_regent_23 : decode cX6_regent 23 = .ok (.istore_n 2, 1) := by decide +kernel
theorem dX6_regent_24 : decode cX6_regent 24 = .ok (.aload_n 0, 1) := by decide +kernel
theorem dX6_regent_25 : decode cX6_regent 25 = .ok (.iload_n 1, 1) := by decide +kernel
theorem dX6_regent_26 : decode cX6_regent 26 = .ok (.iconst 4, 1) := by decide +kernel
theorem dX6_regent_27 : decode cX6_regent 27 = .ok (.invokevirtual 45, 3) := by decide +kernel
theorem dX6_regent_30 : decode cX6_regent 30 = .ok (.istore_n 3, 1) := by decide +kernel
theorem dX6_regent_31 : decode cX6_regent 31 = .ok (.iload_n 2, 1) := by decide +kernel
theorem dX6_regent_32 : decode cX6_regent 32 = .ok (.iconst (-1), 1) := by decide +kernel
theorem dX6_regent_33 : decode cX6_regent 33 = .ok (.if_icmp .eq 13, 3) := by decide +kernel
theorem dX6_regent_36 : decode cX6_regent 36 = .ok (.aload_n 0, 1) := by decide +kernel
theorem dX6_regent_37 : decode cX6_regent 37 = .ok (.iload_n 2, 1) := by decide +kernel
theorem dX6_regent_38 : decode cX6_regent 38 = .ok (.invokevirtual 67, 3) := by decide +kernel
theorem dX6_regent_41 : decode cX6_regent 41 = .ok (.ifCond .eq 5, 3) := by decide +kernel
theorem dX6_regent_44 : decode cX6_regent 44 = .ok (.iload_n 2, 1) := by decide +kernel
theorem dX6_regent_45 : decode cX6_regent 45 = .ok (.ireturn, 1) := by decide +kernel
theorem dX6_regent_46 : decode cX6_regent 46 = .ok (.iload_n 3, 1) := by decide +kernel
theorem dX6_regent_47 : decode cX6_regent 47 = .ok (.iconst (-1), 1) := by decide +kernel
theorem dX6_regent_48 : decode cX6_regent 48 = .ok (.if_icmp .eq 13, 3) := by decide +kernel
theorem dX6_regent_51 : decode cX6_regent 51 = .ok (.aload_n 0, 1) := by decide +kernel
theorem dX6_regent_52 : decode cX6_regent 52 = .ok (.iload_n 3, 1) := by decide +kernel
theorem dX6_regent_53 : decode cX6_regent 53 = .ok (.invokevirtual 67, 3) := by decide +kernel
theorem dX6_regent_56 : decode cX6_regent 56 = .ok (.ifCond .eq 5, 3) := by decide +kernel
theorem dX6_regent_59 : decode cX6_regent 59 = .ok (.iload_n 3, 1) := by decide +kernel
theorem dX6_regent_60 : decode cX6_regent 60 = .ok (.ireturn, 1) := by decide +kernel
theorem dX6_regent_61 : decode cX6_regent 61 = .ok (.iconst (-1), 1) := by decide +kernel
theorem dX6_regent_62 : decode cX6_regent 62 = .ok (.istore 4, 2) := by decide +kernel
theorem dX6_regent_64 : decode cX6_regent 64 = .ok (.iconst 0, 1) := by decide +kernel
theorem dX6_regent_65 : decode cX6_regent 65 = .ok (.istore 5, 2) := by decide +kernel
theorem dX6_regent_67 : decode cX6_regent 67 = .ok (.iload 5, 2) := by decide +kernel
theorem dX6_regent_69 : decode cX6_regent 69 = .ok (.aload_n 0, 1) := by decide +kernel
theorem dX6_regent_70 : decode cX6_regent 70 = .ok (.getfield 35, 3) := by decide +kernel
theorem dX6_regent_73 : decode cX6_regent 73 = .ok (.if_icmp .ge 97, 3) := by decide +kernel
theorem dX6_regent_76 : decode cX6_regent 76 = .ok (.aload_n 0, 1) := by decide +kernel
theorem dX6_regent_77 : decode cX6_regent 77 = .ok (.iload 5, 2) := by decide +kernel
theorem dX6_regent_79 : decode cX6_regent 79 = .ok (.invokevirtual 67, 3) := by decide +kernel
theorem dX6_regent_82 : decode cX6_regent 82 = .ok (.ifCond .eq 82, 3) := by decide +kernel
theorem dX6_regent_85 : decode cX6_regent 85 = .ok (.aload_n 0, 1) := by decide +kernel
theorem dX6_regent_86 : decode cX6_regent 86 = .ok (.iload 5, 2) := by decide +kernel
theorem dX6_regent_88 : decode cX6_regent 88 = .ok (.invokevirtual 112, 3) := by decide +kernel
theorem dX6_regent_91 : decode cX6_regent 91 = .ok (.bipush 16, 2) := by decide +kernel
theorem dX6_regent_93 : decode cX6_regent 93 = .ok (.if_icmp .lt 71, 3) := by decide +kernel
theorem dX6_regent_96 : decode cX6_regent 96 = .ok (.aload_n 0, 1) := by decide +kernel
theorem dX6_regent_97 : decode cX6_regent 97 = .ok (.iload 5, 2) := by decide +kernel
theorem dX6_regent_99 : decode cX6_regent 99 = .ok (.iload_n 1, 1) := by decide +kernel
theorem dX6_regent_100 : decode cX6_regent 100 = .ok (.invokevirtual 106, 3) := by decide +kernel
theorem dX6_regent_103 : decode cX6_regent 103 = .ok (.sipush 999, 3) := by decide +kernel
theorem dX6_regent_106 : decode cX6_regent 106 = .ok (.if_icmp .ne 6, 3) := by decide +kernel
theorem dX6_regent_109 : decode cX6_regent 109 = .ok (.goto 55, 3) := by decide +kernel
theorem dX6_regent_112 : decode cX6_regent 112 = .ok (.iload 4, 2) := by decide +kernel
theorem dX6_regent_114 : decode cX6_regent 114 = .ok (.iconst (-1), 1) := by decide +kernel
theorem dX6_regent_115 : decode cX6_regent 115 = .ok (.if_icmp .ne 7, 3) := by decide +kernel
theorem dX6_regent_118 : decode cX6_regent 118 = .ok (.iconst (-1), 1) := by decide +kernel
theorem dX6_regent_119 : decode cX6_regent 119 = .ok (.goto 18, 3) := by decide +kernel
theorem dX6_regent_122 : decode cX6_regent 122 = .ok (.aload_n 0, 1) := by decide +kernel
theorem dX6_regent_123 : decode cX6_regent 123 = .ok (.iload 5, 2) := by decide +kernel
theorem dX6_regent_125 : decode cX6_regent 125 = .ok (.iload_n 1, 1) := by decide +kernel
theorem dX6_regent_126 : decode cX6_regent 126 = .ok (.invokevirtual 106, 3) := by decide +kernel
theorem dX6_regent_129 : decode cX6_regent 129 = .ok (.aload_n 0, 1) := by decide +kernel
theorem dX6_regent_130 : decode cX6_regent 130 = .ok (.iload 4, 2) := by decide +kernel
theorem dX6_regent_132 : decode cX6_regent 132 = .ok (.iload_n 1, 1) := by decide +kernel
theorem dX6_regent_133 : decode cX6_regent 133 = .ok (.invokevirtual 106, 3) := by decide +kernel
theorem dX6_regent_136 : decode cX6_regent 136 = .ok (.isub, 1) := by decide +kernel
theorem dX6_regent_137 : decode cX6_regent 137 = .ok (.istore 6, 2) := by decide +kernel
theorem dX6_regent_139 : decode cX6_regent 139 = .ok (.iload 6, 2) := by decide +kernel
theorem dX6_regent_141 : decode cX6_regent 141 = .ok (.ifCond .lt 19, 3) := by decide +kernel
theorem dX6_regent_144 : decode cX6_regent 144 = .ok (.iload 6, 2) := by decide +kernel
theorem dX6_regent_146 : decode cX6_regent 146 = .ok (.ifCond .ne 18, 3) := by decide +kernel
theorem dX6_regent_149 : decode cX6_regent 149 = .ok (.aload_n 0, 1) := by decide +kernel
theorem dX6_regent_150 : decode cX6_regent 150 = .ok (.iload 5, 2) := by decide +kernel
theorem dX6_regent_152 : decode cX6_regent 152 = .ok (.iload 4, 2) := by decide +kernel
theorem dX6_regent_154 : decode cX6_regent 154 = .ok (.invokevirtual 89, 3) := by decide +kernel
theorem dX6_regent_157 : decode cX6_regent 157 = .ok (.ifCond .eq 7, 3) := by decide +kernel
theorem dX6_regent_160 : decode cX6_regent 160 = .ok (.iload 5, 2) := by decide +kernel
theorem dX6_regent_162 : decode cX6_regent 162 = .ok (.istore 4, 2) := by decide +kernel
theorem dX6_regent_164 : decode cX6_regent 164 = .ok (.iinc 5 1, 3) := by decide +kernel
theorem dX6_regent_167 : decode cX6_regent 167 = .ok (.goto (-100), 3) := by decide +kernel
theorem dX6_regent_170 : decode cX6_regent 170 = .ok (.iload 4, 2) := by decide +kernel
theorem dX6_regent_172 : decode cX6_regent 172 = .ok (.ireturn, 1) := by decide +kernel
theorem dX6_worthOf_0 : decode cX6_worthOf 0 = .ok (.iconst 0, 1) := by decide +kernel
theorem dX6_worthOf_1 : decode cX6_worthOf 1 = .ok (.istore_n 2, 1) := by decide +kernel
theorem dX6_worthOf_2 : decode cX6_worthOf 2 = .ok (.iconst 0, 1) := by decide +kernel
theorem dX6_worthOf_3 : decode cX6_worthOf 3 = .ok (.istore_n 3, 1) := by decide +kernel
theorem dX6_worthOf_4 : decode cX6_worthOf 4 = .ok (.iload_n 3, 1) := by decide +kernel
theorem dX6_worthOf_5 : decode cX6_worthOf 5 = .ok (.aload_n 0, 1) := by decide +kernel
theorem dX6_worthOf_6 : decode cX6_worthOf 6 = .ok (.getfield 42, 3) := by decide +kernel
theorem dX6_worthOf_9 : decode cX6_worthOf 9 = .ok (.if_icmp .ge 32, 3) := by decide +kernel
theorem dX6_worthOf_12 : decode cX6_worthOf 12 = .ok (.iload_n 2, 1) := by decide +kernel
theorem dX6_worthOf_13 : decode cX6_worthOf 13 = .ok (.aload_n 0, 1) := by decide +kernel
theorem dX6_worthOf_14 : decode cX6_worthOf 14 = .ok (.iload_n 3, 1) := by decide +kernel
theorem dX6_worthOf_15 : decode cX6_worthOf 15 = .ok (.iconst 2, 1) := by decide +kernel
theorem dX6_worthOf_16 : decode cX6_worthOf 16 = .ok (.invokevirtual 77, 3) := by decide +kernel
theorem dX6_worthOf_19 : decode cX6_worthOf 19 = .ok (.iload_n 1, 1) := by decide +kernel
theorem dX6_worthOf_20 : decode cX6_worthOf 20 = .ok (.if_icmp .ne 12, 3) := by decide +kernel
theorem dX6_worthOf_23 : decode cX6_worthOf 23 = .ok (.aload_n 0, 1) := by decide +kernel
theorem dX6_worthOf_24 : decode cX6_worthOf 24 = .ok (.iload_n 3, 1) := by decide +kernel
theorem dX6_worthOf_25 : decode cX6_worthOf 25 = .ok (.iconst 0, 1) := by decide +kernel
theorem dX6_worthOf_26 : decode cX6_worthOf 26 = .ok (.invokevirtual 77, 3) := by decide +kernel
theorem dX6_worthOf_29 : decode cX6_worthOf 29 = .ok (.goto 4, 3) := by decide +kernel
theorem dX6_worthOf_32 : decode cX6_worthOf 32 = .ok (.iconst 0, 1) := by decide +kernel
theorem dX6_worthOf_33 : decode cX6_worthOf 33 = .ok (.iadd, 1) := by decide +kernel
theorem dX6_worthOf_34 : decode cX6_worthOf 34 = .ok (.istore_n 2, 1) := by decide +kernel
theorem dX6_worthOf_35 : decode cX6_worthOf 35 = .ok (.iinc 3 1, 3) := by decide +kernel
theorem dX6_worthOf_38 : decode cX6_worthOf 38 = .ok (.goto (-34), 3) := by decide +kernel
theorem dX6_worthOf_41 : decode cX6_worthOf 41 = .ok (.iload_n 2, 1) := by decide +kernel
theorem dX6_worthOf_42 : decode cX6_worthOf 42 = .ok (.ireturn, 1) := by decide +kernel
theorem dX6_isFree_0 : decode cX6_isFree 0 = .ok (.aload_n 0, 1) := by decide +kernel
theorem dX6_isFree_1 : decode cX6_isFree 1 = .ok (.iload_n 1, 1) := by decide +kernel
theorem dX6_isFree_2 : decode cX6_isFree 2 = .ok (.invokevirtual 67, 3) := by decide +kernel
theorem dX6_isFree_5 : decode cX6_isFree 5 = .ok (.ifCond .eq 27, 3) := by decide +kernel
theorem dX6_isFree_8 : decode cX6_isFree 8 = .ok (.aload_n 0, 1) := by decide +kernel
theorem dX6_isFree_9 : decode cX6_isFree 9 = .ok (.iload_n 1, 1) := by decide +kernel
theorem dX6_isFree_10 : decode cX6_isFree 10 = .ok (.invokevirtual 112, 3) := by decide +kernel
theorem dX6_isFree_13 : decode cX6_isFree 13 = .ok (.bipush 16, 2) := by decide +kernel
theorem dX6_isFree_15 : decode cX6_isFree 15 = .ok (.if_icmp .lt 17, 3) := by decide +kernel
theorem dX6_isFree_18 : decode cX6_isFree 18 = .ok (.aload_n 0, 1) := by decide +kernel
theorem dX6_isFree_19 : decode cX6_isFree 19 = .ok (.iload_n 1, 1) := by decide +kernel
theorem dX6_isFree_20 : decode cX6_isFree 20 = .ok (.iconst 5, 1) := by decide +kernel
theorem dX6_isFree_21 : decode cX6_isFree 21 = .ok (.invokevirtual 45, 3) := by decide +kernel
theorem dX6_isFree_24 : decode cX6_isFree 24 = .ok (.iconst (-1), 1) := by decide +kernel
theorem dX6_isFree_25 : decode cX6_isFree 25 = .ok (.if_icmp .ne 7, 3) := by decide +kernel
theorem dX6_isFree_28 : decode cX6_isFree 28 = .ok (.iconst 1, 1) := by decide +kernel
theorem dX6_isFree_29 : decode cX6_isFree 29 = .ok (.goto 4, 3) := by decide +kernel
theorem dX6_isFree_32 : decode cX6_isFree 32 = .ok (.iconst 0, 1) := by decide +kernel
theorem dX6_isFree_33 : decode cX6_isFree 33 = .ok (.ireturn, 1) := by decide +kernel
theorem dX6_canMarry_0 : decode cX6_canMarry 0 = .ok (.aload_n 0, 1) := by decide +kernel
theorem dX6_canMarry_1 : decode cX6_canMarry 1 = .ok (.iload_n 1, 1) := by decide +kernel
theorem dX6_canMarry_2 : decode cX6_canMarry 2 = .ok (.invokevirtual 115, 3) := by decide +kernel
theorem dX6_canMarry_5 : decode cX6_canMarry 5 = .ok (.ifCond .eq 40, 3) := by decide +kernel
theorem dX6_canMarry_8 : decode cX6_canMarry 8 = .ok (.aload_n 0, 1) := by decide +kernel
theorem dX6_canMarry_9 : decode cX6_canMarry 9 = .ok (.iload_n 2, 1) := by decide +kernel
theorem dX6_canMarry_10 : decode cX6_canMarry 10 = .ok (.invokevirtual 115, 3) := by decide +kernel
theorem dX6_canMarry_13 : decode cX6_canMarry 13 = .ok (.ifCond .eq 32, 3) := by decide +kernel
theorem dX6_canMarry_16 : decode cX6_canMarry 16 = .ok (.aload_n 0, 1) := by decide +kernel
theorem dX6_canMarry_17 : decode cX6_canMarry 17 = .ok (.iload_n 1, 1) := by decide +kernel
theorem dX6_canMarry_18 : decode cX6_canMarry 18 = .ok (.iconst 0, 1) := by decide +kernel
theorem dX6_canMarry_19 : decode cX6_canMarry 19 = .ok (.invokevirtual 45, 3) := by decide +kernel
theorem dX6_canMarry_22 : decode cX6_canMarry 22 = .ok (.aload_n 0, 1) := by decide +kernel
theorem dX6_canMarry_23 : decode cX6_canMarry 23 = .ok (.iload_n 2, 1) := by decide +kernel
theorem dX6_canMarry_24 : decode cX6_canMarry 24 = .ok (.iconst 0, 1) := by decide +kernel
theorem dX6_canMarry_25 : decode cX6_canMarry 25 = .ok (.invokevirtual 45, 3) := by decide +kernel
theorem dX6_canMarry_28 : decode cX6_canMarry 28 = .ok (.if_icmp .eq 17, 3) := by decide +kernel
theorem dX6_canMarry_31 : decode cX6_canMarry 31 = .ok (.aload_n 0, 1) := by decide +kernel
theorem dX6_canMarry_32 : decode cX6_canMarry 32 = .ok (.iload_n 1, 1) := by decide +kernel
theorem dX6_canMarry_33 : decode cX6_canMarry 33 = .ok (.iload_n 2, 1) := by decide +kernel
theorem dX6_canMarry_34 : decode cX6_canMarry 34 = .ok (.invokevirtual 106, 3) := by decide +kernel
theorem dX6_canMarry_37 : decode cX6_canMarry 37 = .ok (.iconst 3, 1) := by decide +kernel
theorem dX6_canMarry_38 : decode cX6_canMarry 38 = .ok (.if_icmp .lt 7, 3) := by decide +kernel
theorem dX6_canMarry_41 : decode cX6_canMarry 41 = .ok (.iconst 1, 1) := by decide +kernel
theorem dX6_canMarry_42 : decode cX6_canMarry 42 = .ok (.goto 4, 3) := by decide +kernel
theorem dX6_canMarry_45 : decode cX6_canMarry 45 = .ok (.iconst 0, 1) := by decide +kernel
theorem dX6_canMarry_46 : decode cX6_canMarry 46 = .ok (.ireturn, 1) := by decide +kernel
theorem dX6_marry_0 : decode cX6_marry 0 = .ok (.aload_n 0, 1) := by decide +kernel
theorem dX6_marry_1 : decode cX6_marry 1 = .ok (.iconst 0, 1) := by decide +kernel
theorem dX6_marry_2 : decode cX6_marry 2 = .ok (.putfield 31, 3) := by decide +kernel
theorem dX6_marry_5 : decode cX6_marry 5 = .ok (.aload_n 0, 1) := by decide +kernel
theorem dX6_marry_6 : decode cX6_marry 6 = .ok (.iload_n 1, 1) := by decide +kernel
theorem dX6_marry_7 : decode cX6_marry 7 = .ok (.invokevirtual 63, 3) := by decide +kernel
theorem dX6_marry_10 : decode cX6_marry 10 = .ok (.ifCond .eq 24, 3) := by decide +kernel
theorem dX6_marry_13 : decode cX6_marry 13 = .ok (.aload_n 0, 1) := by decide +kernel
theorem dX6_marry_14 : decode cX6_marry 14 = .ok (.iload_n 2, 1) := by decide +kernel
theorem dX6_marry_15 : decode cX6_marry 15 = .ok (.invokevirtual 63, 3) := by decide +kernel
theorem dX6_marry_18 : decode cX6_marry 18 = .ok (.ifCond .eq 16, 3) := by decide +kernel
theorem dX6_marry_21 : decode cX6_marry 21 = .ok (.iload_n 3, 1) := by decide +kernel
theorem dX6_marry_22 : decode cX6_marry 22 = .ok (.iconst (-1), 1) := by decide +kernel
theorem dX6_marry_23 : decode cX6_marry 23 = .ok (.if_icmp .eq 17, 3) := by decide +kernel
theorem dX6_marry_26 : decode cX6_marry 26 = .ok (.aload_n 0, 1) := by decide +kernel
theorem dX6_marry_27 : decode cX6_marry 27 = .ok (.iload_n 3, 1) := by decide +kernel
theorem dX6_marry_28 : decode cX6_marry 28 = .ok (.invokevirtual 74, 3) := by decide +kernel
theorem dX6_marry_31 : decode cX6_marry 31 = .ok (.ifCond .ne 9, 3) := by decide +kernel
theorem dX6_marry_34 : decode cX6_marry 34 = .ok (.aload_n 0, 1) := by decide +kernel
theorem dX6_marry_35 : decode cX6_marry 35 = .ok (.iconst 1, 1) := by decide +kernel
theorem dX6_marry_36 : decode cX6_marry 36 = .ok (.invokevirtual 55, 3) := by decide +kernel
theorem dX6_marry_39 : decode cX6_marry 39 = .ok (.ireturn, 1) := by decide +kernel
theorem dX6_marry_40 : decode cX6_marry 40 = .ok (.aload_n 0, 1) := by decide +kernel
theorem dX6_marry_41 : decode cX6_marry 41 = .ok (.iload_n 1, 1) := by decide +kernel
theorem dX6_marry_42 : decode cX6_marry 42 = .ok (.iload_n 2, 1) := by decide +kernel
theorem dX6_marry_43 : decode cX6_marry 43 = .ok (.invokevirtual 118, 3) := by decide +kernel
theorem dX6_marry_46 : decode cX6_marry 46 = .ok (.ifCond .eq 28, 3) := by decide +kernel
theorem dX6_marry_49 : decode cX6_marry 49 = .ok (.iload_n 3, 1) := by decide +kernel
theorem dX6_marry_50 : decode cX6_marry 50 = .ok (.iconst (-1), 1) := by decide +kernel
theorem dX6_marry_51 : decode cX6_marry 51 = .ok (.if_icmp .eq 29, 3) := by decide +kernel
theorem dX6_marry_54 : decode cX6_marry 54 = .ok (.aload_n 0, 1) := by decide +kernel
theorem dX6_marry_55 : decode cX6_marry 55 = .ok (.iload_n 3, 1) := by decide +kernel
theorem dX6_marry_56 : decode cX6_marry 56 = .ok (.iconst 2, 1) := by decide +kernel
theorem dX6_marry_57 : decode cX6_marry 57 = .ok (.invokevirtual 77, 3) := by decide +kernel
theorem dX6_marry_60 : decode cX6_marry 60 = .ok (.iload_n 1, 1) := by decide +kernel
theorem dX6_marry_61 : decode cX6_marry 61 = .ok (.if_icmp .eq 19, 3) := by decide +kernel
theorem dX6_marry_64 : decode cX6_marry 64 = .ok (.aload_n 0, 1) := by decide +kernel
theorem dX6_marry_65 : decode cX6_marry 65 = .ok (.iload_n 3, 1) := by decide +kernel
theorem dX6_marry_66 : decode cX6_marry 66 = .ok (.iconst 2, 1) := by decide +kernel
theorem dX6_marry_67 : decode cX6_marry 67 = .ok (.invokevirtual 77, 3) := by decide +kernel
theorem dX6_marry_70 : decode cX6_marry 70 = .ok (.iload_n 2, 1) := by decide +kernel
theorem dX6_marry_71 : decode cX6_marry 71 = .ok (.if_icmp .eq 9, 3) := by decide +kernel
theorem dX6_marry_74 : decode cX6_marry 74 = .ok (.aload_n 0, 1) := by decide +kernel
theorem dX6_marry_75 : decode cX6_marry 75 = .ok (.iconst 2, 1) := by decide +kernel
theorem dX6_marry_76 : decode cX6_marry 76 = .ok (.invokevirtual 55, 3) := by decide +kernel
theorem dX6_marry_79 : decode cX6_marry 79 = .ok (.ireturn, 1) := by decide +kernel
theorem dX6_marry_80 : decode cX6_marry 80 = .ok (.aload_n 0, 1) := by decide +kernel
theorem dX6_marry_81 : decode cX6_marry 81 = .ok (.iload_n 1, 1) := by decide +kernel
theorem dX6_marry_82 : decode cX6_marry 82 = .ok (.iconst 5, 1) := by decide +kernel
theorem dX6_marry_83 : decode cX6_marry 83 = .ok (.iload_n 2, 1) := by decide +kernel
theorem dX6_marry_84 : decode cX6_marry 84 = .ok (.invokevirtual 121, 3) := by decide +kernel
theorem dX6_marry_87 : decode cX6_marry 87 = .ok (.aload_n 0, 1) := by decide +kernel
theorem dX6_marry_88 : decode cX6_marry 88 = .ok (.iload_n 2, 1) := by decide +kernel
theorem dX6_marry_89 : decode cX6_marry 89 = .ok (.iconst 5, 1) := by decide +kernel
theorem dX6_marry_90 : decode cX6_marry 90 = .ok (.iload_n 1, 1) := by decide +kernel
theorem dX6_marry_91 : decode cX6_marry 91 = .ok (.invokevirtual 121, 3) := by decide +kernel
theorem dX6_marry_94 : decode cX6_marry 94 = .ok (.iload_n 3, 1) := by decide +kernel
theorem dX6_marry_95 : decode cX6_marry 95 = .ok (.iconst (-1), 1) := by decide +kernel
theorem dX6_marry_96 : decode cX6_marry 96 = .ok (.if_icmp .ne 7, 3) := by decide +kernel
theorem dX6_marry_99 : decode cX6_marry 99 = .ok (.iconst (-1), 1) := by decide +kernel
theorem dX6_marry_100 : decode cX6_marry 100 = .ok (.goto 9, 3) := by decide +kernel
theorem dX6_marry_103 : decode cX6_marry 103 = .ok (.aload_n 0, 1) := by decide +kernel
theorem dX6_marry_104 : decode cX6_marry 104 = .ok (.iload_n 3, 1) := by decide +kernel
theorem dX6_marry_105 : decode cX6_marry 105 = .ok (.iconst 2, 1) := by decide +kernel
theorem dX6_marry_106 : decode cX6_marry 106 = .ok (.invokevirtual 77, 3) := by decide +kernel
theorem dX6_marry_109 : decode cX6_marry 109 = .ok (.istore 4, 2) := by decide +kernel
theorem dX6_marry_111 : decode cX6_marry 111 = .ok (.aload_n 0, 1) := by decide +kernel
theorem dX6_marry_112 : decode cX6_marry 112 = .ok (.iload_n 1, 1) := by decide +kernel
theorem dX6_marry_113 : decode cX6_marry 113 = .ok (.bipush 7, 2) := by decide +kernel
theorem dX6_marry_115 : decode cX6_marry 115 = .ok (.iload_n 3, 1) := by decide +kernel
theorem dX6_marry_116 : decode cX6_marry 116 = .ok (.invokevirtual 121, 3) := by decide +kernel
theorem dX6_marry_119 : decode cX6_marry 119 = .ok (.aload_n 0, 1) := by decide +kernel
theorem dX6_marry_120 : decode cX6_marry 120 = .ok (.iload_n 2, 1) := by decide +kernel
theorem dX6_marry_121 : decode cX6_marry 121 = .ok (.bipush 7, 2) := by decide +kernel
theorem dX6_marry_123 : decode cX6_marry 123 = .ok (.iload_n 3, 1) := by decide +kernel
theorem dX6_marry_124 : decode cX6_marry 124 = .ok (.invokevirtual 121, 3) := by decide +kernel
theorem dX6_marry_127 : decode cX6_marry 127 = .ok (.aload_n 0, 1) := by decide +kernel
theorem dX6_marry_128 : decode cX6_marry 128 = .ok (.iload_n 1, 1) := by decide +kernel
theorem dX6_marry_129 : decode cX6_marry 129 = .ok (.bipush 8, 2) := by decide +kernel
theorem dX6_marry_131 : decode cX6_marry 131 = .ok (.iload 4, 2) := by decide +kernel
theorem dX6_marry_133 : decode cX6_marry 133 = .ok (.invokevirtual 121, 3) := by decide +kernel
theorem dX6_marry_136 : decode cX6_marry 136 = .ok (.aload_n 0, 1) := by decide +kernel
theorem dX6_marry_137 : decode cX6_marry 137 = .ok (.iload_n 2, 1) := by decide +kernel
theorem dX6_marry_138 : decode cX6_marry 138 = .ok (.bipush 8, 2) := by decide +kernel
theorem dX6_marry_140 : decode cX6_marry 140 = .ok (.iload 4, 2) := by decide +kernel
theorem dX6_marry_142 : decode cX6_marry 142 = .ok (.invokevirtual 121, 3) := by decide +kernel
theorem dX6_marry_145 : decode cX6_marry 145 = .ok (.iload_n 3, 1) := by decide +kernel
theorem dX6_marry_146 : decode cX6_marry 146 = .ok (.iconst (-1), 1) := by decide +kernel
theorem dX6_marry_147 : decode cX6_marry 147 = .ok (.if_icmp .eq 14, 3) := by decide +kernel
theorem dX6_marry_150 : decode cX6_marry 150 = .ok (.aload_n 0, 1) := by decide +kernel
theorem dX6_marry_151 : decode cX6_marry 151 = .ok (.iload_n 3, 1) := by decide +kernel
theorem dX6_marry_152 : decode cX6_marry 152 = .ok (.iload_n 1, 1) := by decide +kernel
theorem dX6_marry_153 : decode cX6_marry 153 = .ok (.iload_n 2, 1) := by decide +kernel
theorem dX6_marry_154 : decode cX6_marry 154 = .ok (.iadd, 1) := by decide +kernel
theorem dX6_marry_155 : decode cX6_marry 155 = .ok (.iload 4, 2) := by decide +kernel
theorem dX6_marry_157 : decode cX6_marry 157 = .ok (.isub, 1) := by decide +kernel
theorem dX6_marry_158 : decode cX6_marry 158 = .ok (.invokevirtual 70, 3) := by decide +kernel
theorem dX6_marry_161 : decode cX6_marry 161 = .ok (.aload_n 0, 1) := by decide +kernel
theorem dX6_marry_162 : decode cX6_marry 162 = .ok (.iload_n 1, 1) := by decide +kernel
theorem dX6_marry_163 : decode cX6_marry 163 = .ok (.invokevirtual 125, 3) := by decide +kernel
theorem dX6_marry_166 : decode cX6_marry 166 = .ok (.aload_n 0, 1) := by decide +kernel
theorem dX6_marry_167 : decode cX6_marry 167 = .ok (.iload_n 2, 1) := by decide +kernel
theorem dX6_marry_168 : decode cX6_marry 168 = .ok (.invokevirtual 125, 3) := by decide +kernel
theorem dX6_marry_171 : decode cX6_marry 171 = .ok (.iadd, 1) := by decide +kernel
theorem dX6_marry_172 : decode cX6_marry 172 = .ok (.ireturn, 1) := by decide +kernel
theorem dX6_part_0 : decode cX6_part 0 = .ok (.aload_n 0, 1) := by decide +kernel
theorem dX6_part_1 : decode cX6_part 1 = .ok (.iload_n 1, 1) := by decide +kernel
theorem dX6_part_2 : decode cX6_part 2 = .ok (.iconst 5, 1) := by decide +kernel
theorem dX6_part_3 : decode cX6_part 3 = .ok (.invokevirtual 45, 3) := by decide +kernel
theorem dX6_part_6 : decode cX6_part 6 = .ok (.istore_n 2, 1) := by decide +kernel
theorem dX6_part_7 : decode cX6_part 7 = .ok (.iload_n 2, 1) := by decide +kernel
theorem dX6_part_8 : decode cX6_part 8 = .ok (.iconst (-1), 1) := by decide +kernel
theorem dX6_part_9 : decode cX6_part 9 = .ok (.if_icmp .ne 4, 3) := by decide +kernel
theorem dX6_part_12 : decode cX6_part 12 = .ok (.return_, 1) := by decide +kernel
theorem dX6_part_13 : decode cX6_part 13 = .ok (.iconst 3, 1) := by decide +kernel
theorem dX6_part_14 : decode cX6_part 14 = .ok (.newarray .int, 2) := by decide +kernel
theorem dX6_part_16 : decode cX6_part 16 = .ok (.dup, 1) := by decide +kernel
theorem dX6_part_17 : decode cX6_part 17 = .ok (.iconst 0, 1) := by decide +kernel
theorem dX6_part_18 : decode cX6_part 18 = .ok (.iconst 5, 1) := by decide +kernel
theorem dX6_part_19 : decode cX6_part 19 = .ok (.iastore, 1) := by decide +kernel
theorem dX6_part_20 : decode cX6_part 20 = .ok (.dup, 1) := by decide +kernel
theorem dX6_part_21 : decode cX6_part 21 = .ok (.iconst 1, 1) := by decide +kernel
theorem dX6_part_22 : decode cX6_part 22 = .ok (.bipush 7, 2) := by decide +kernel
theorem dX6_part_24 : decode cX6_part 24 = .ok (.iastore, 1) := by decide +kernel
theorem dX6_part_25 : decode cX6_part 25 = .ok (.dup, 1) := by decide +kernel
theorem dX6_part_26 : decode cX6_part 26 = .ok (.iconst 2, 1) := by decide +kernel
theorem dX6_part_27 : decode cX6_part 27 = .ok (.bipush 8, 2) := by decide +kernel
theorem dX6_part_29 : decode cX6_part 29 = .ok (.iastore, 1) := by decide +kernel
theorem dX6_part_30 : decode cX6_part 30 = .ok (.astore_n 3, 1) := by decide +kernel
theorem dX6_part_31 : decode cX6_part 31 = .ok (.aload_n 3, 1) := by decide +kernel
theorem dX6_part_32 : decode cX6_part 32 = .ok (.arraylength, 1) := by decide +kernel
theorem dX6_part_33 : decode cX6_part 33 = .ok (.istore 4, 2) := by decide +kernel
theorem dX6_part_35 : decode cX6_part 35 = .ok (.iconst 0, 1) := by decide +kernel
theorem dX6_part_36 : decode cX6_part 36 = .ok (.istore 5, 2) := by decide +kernel
theorem dX6_part_38 : decode cX6_part 38 = .ok (.iload 5, 2) := by decide +kernel
theorem dX6_part_40 : decode cX6_part 40 = .ok (.iload 4, 2) := by decide +kernel
theorem dX6_part_42 : decode cX6_part 42 = .ok (.if_icmp .ge 31, 3) := by decide +kernel
theorem dX6_part_45 : decode cX6_part 45 = .ok (.aload_n 3, 1) := by decide +kernel
theorem dX6_part_46 : decode cX6_part 46 = .ok (.iload 5, 2) := by decide +kernel
theorem dX6_part_48 : decode cX6_part 48 = .ok (.iaload, 1) := by decide +kernel
theorem dX6_part_49 : decode cX6_part 49 = .ok (.istore 6, 2) := by decide +kernel
theorem dX6_part_51 : decode cX6_part 51 = .ok (.aload_n 0, 1) := by decide +kernel
theorem dX6_part_52 : decode cX6_part 52 = .ok (.iload_n 1, 1) := by decide +kernel
theorem dX6_part_53 : decode cX6_part 53 = .ok (.iload 6, 2) := by decide +kernel
theorem dX6_part_55 : decode cX6_part 55 = .ok (.iconst (-1), 1) := by decide +kernel
theorem dX6_part_56 : decode cX6_part 56 = .ok (.invokevirtual 121, 3) := by decide +kernel
theorem dX6_part_59 : decode cX6_part 59 = .ok (.aload_n 0, 1) := by decide +kernel
theorem dX6_part_60 : decode cX6_part 60 = .ok (.iload_n 2, 1) := by decide +kernel
theorem dX6_part_61 : decode cX6_part 61 = .ok (.iload 6, 2) := by decide +kernel
theorem dX6_part_63 : decode cX6_part 63 = .ok (.iconst (-1), 1) := by decide +kernel
theorem dX6_part_64 : decode cX6_part 64 = .ok (.invokevirtual 121, 3) := by decide +kernel
theorem dX6_part_67 : decode cX6_part 67 = .ok (.iinc 5 1, 3) := by decide +kernel
theorem dX6_part_70 : decode cX6_part 70 = .ok (.goto (-32), 3) := by decide +kernel
theorem dX6_part_73 : decode cX6_part 73 = .ok (.return_, 1) := by decide +kernel
theorem dX6_annul_0 : decode cX6_annul 0 = .ok (.aload_n 0, 1) := by decide +kernel
theorem dX6_annul_1 : decode cX6_annul 1 = .ok (.iconst 0, 1) := by decide +kernel
theorem dX6_annul_2 : decode cX6_annul 2 = .ok (.putfield 31, 3) := by decide +kernel
theorem dX6_annul_5 : decode cX6_annul 5 = .ok (.aload_n 0, 1) := by decide +kernel
theorem dX6_annul_6 : decode cX6_annul 6 = .ok (.iload_n 1, 1) := by decide +kernel
theorem dX6_annul_7 : decode cX6_annul 7 = .ok (.invokevirtual 63, 3) := by decide +kernel
theorem dX6_annul_10 : decode cX6_annul 10 = .ok (.ifCond .ne 9, 3) := by decide +kernel
theorem dX6_annul_13 : decode cX6_annul 13 = .ok (.aload_n 0, 1) := by decide +kernel
theorem dX6_annul_14 : decode cX6_annul 14 = .ok (.iconst 1, 1) := by decide +kernel
theorem dX6_annul_15 : decode cX6_annul 15 = .ok (.invokevirtual 55, 3) := by decide +kernel
theorem dX6_annul_18 : decode cX6_annul 18 = .ok (.ireturn, 1) := by decide +kernel
theorem dX6_annul_19 : decode cX6_annul 19 = .ok (.aload_n 0, 1) := by decide +kernel
theorem dX6_annul_20 : decode cX6_annul 20 = .ok (.iload_n 1, 1) := by decide +kernel
theorem dX6_annul_21 : decode cX6_annul 21 = .ok (.iconst 5, 1) := by decide +kernel
theorem dX6_annul_22 : decode cX6_annul 22 = .ok (.invokevirtual 45, 3) := by decide +kernel
theorem dX6_annul_25 : decode cX6_annul 25 = .ok (.istore_n 2, 1) := by decide +kernel
theorem dX6_annul_26 : decode cX6_annul 26 = .ok (.iload_n 2, 1) := by decide +kernel
theorem dX6_annul_27 : decode cX6_annul 27 = .ok (.iconst (-1), 1) := by decide +kernel
theorem dX6_annul_28 : decode cX6_annul 28 = .ok (.if_icmp .ne 9, 3) := by decide +kernel
theorem dX6_annul_31 : decode cX6_annul 31 = .ok (.aload_n 0, 1) := by decide +kernel
theorem dX6_annul_32 : decode cX6_annul 32 = .ok (.iconst 2, 1) := by decide +kernel
theorem dX6_annul_33 : decode cX6_annul 33 = .ok (.invokevirtual 55, 3) := by decide +kernel
theorem dX6_annul_36 : decode cX6_annul 36 = .ok (.ireturn, 1) := by decide +kernel
theorem dX6_annul_37 : decode cX6_annul 37 = .ok (.aload_n 0, 1) := by decide +kernel
theorem dX6_annul_38 : decode cX6_annul 38 = .ok (.iload_n 1, 1) := by decide +kernel
theorem dX6_annul_39 : decode cX6_annul 39 = .ok (.bipush 7, 2) := by decide +kernel
theorem dX6_annul_41 : decode cX6_annul 41 = .ok (.invokevirtual 45, 3) := by decide +kernel
theorem dX6_annul_44 : decode cX6_annul 44 = .ok (.istore_n 3, 1) := by decide +kernel
theorem dX6_annul_45 : decode cX6_annul 45 = .ok (.aload_n 0, 1) := by decide +kernel
theorem dX6_annul_46 : decode cX6_annul 46 = .ok (.iload_n 1, 1) := by decide +kernel
theorem dX6_annul_47 : decode cX6_annul 47 = .ok (.bipush 8, 2) := by decide +kernel
theorem dX6_annul_49 : decode cX6_annul 49 = .ok (.invokevirtual 45, 3) := by decide +kernel
theorem dX6_annul_52 : decode cX6_annul 52 = .ok (.istore 4, 2) := by decide +kernel
theorem dX6_annul_54 : decode cX6_annul 54 = .ok (.aload_n 0, 1) := by decide +kernel
theorem dX6_annul_55 : decode cX6_annul 55 = .ok (.iload_n 1, 1) := by decide +kernel
theorem dX6_annul_56 : decode cX6_annul 56 = .ok (.invokevirtual 128, 3) := by decide +kernel
theorem dX6_annul_59 : decode cX6_annul 59 = .ok (.iload_n 3, 1) := by decide +kernel
theorem dX6_annul_60 : decode cX6_annul 60 = .ok (.iconst (-1), 1) := by decide +kernel
theorem dX6_annul_61 : decode cX6_annul 61 = .ok (.if_icmp .eq 18, 3) := by decide +kernel
theorem dX6_annul_64 : decode cX6_annul 64 = .ok (.aload_n 0, 1) := by decide +kernel
theorem dX6_annul_65 : decode cX6_annul 65 = .ok (.iload_n 3, 1) := by decide +kernel
theorem dX6_annul_66 : decode cX6_annul 66 = .ok (.iconst 2, 1) := by decide +kernel
theorem dX6_annul_67 : decode cX6_annul 67 = .ok (.invokevirtual 77, 3) := by decide +kernel
theorem dX6_annul_70 : decode cX6_annul 70 = .ok (.iload_n 1, 1) := by decide +kernel
theorem dX6_annul_71 : decode cX6_annul 71 = .ok (.iload_n 2, 1) := by decide +kernel
theorem dX6_annul_72 : decode cX6_annul 72 = .ok (.iadd, 1) := by decide +kernel
theorem dX6_annul_73 : decode cX6_annul 73 = .ok (.iload 4, 2) := by decide +kernel
theorem dX6_annul_75 : decode cX6_annul 75 = .ok (.isub, 1) := by decide +kernel
theorem dX6_annul_76 : decode cX6_annul 76 = .ok (.if_icmp .eq 5, 3) := by decide +kernel
theorem dX6_annul_79 : decode cX6_annul 79 = .ok (.iconst (-1), 1) := by decide +kernel
theorem dX6_annul_80 : decode cX6_annul 80 = .ok (.ireturn, 1) := by decide +kernel
theorem dX6_annul_81 : decode cX6_annul 81 = .ok (.aload_n 0, 1) := by decide +kernel
theorem dX6_annul_82 : decode cX6_annul 82 = .ok (.iload_n 3, 1) := by decide +kernel
theorem dX6_annul_83 : decode cX6_annul 83 = .ok (.iload 4, 2) := by decide +kernel
theorem dX6_annul_85 : decode cX6_annul 85 = .ok (.invokevirtual 70, 3) := by decide +kernel
theorem dX6_annul_88 : decode cX6_annul 88 = .ok (.iload_n 3, 1) := by decide +kernel
theorem dX6_annul_89 : decode cX6_annul 89 = .ok (.ireturn, 1) := by decide +kernel
theorem dX6_dies_0 : decode cX6_dies 0 = .ok (.iconst 0, 1) := by decide +kernel
theorem dX6_dies_1 : decode cX6_dies 1 = .ok (.istore_n 2, 1) := by decide +kernel
theorem dX6_dies_2 : decode cX6_dies 2 = .ok (.iconst 0, 1) := by decide +kernel
theorem dX6_dies_3 : decode cX6_dies 3 = .ok (.istore_n 3, 1) := by decide +kernel
theorem dX6_dies_4 : decode cX6_dies 4 = .ok (.iload_n 3, 1) := by decide +kernel
theorem dX6_dies_5 : decode cX6_dies 5 = .ok (.aload_n 0, 1) := by decide +kernel
theorem dX6_dies_6 : decode cX6_dies 6 = .ok (.getfield 42, 3) := by decide +kernel
theorem dX6_dies_9 : decode cX6_dies 9 = .ok (.if_icmp .ge 40, 3) := by decide +kernel
theorem dX6_dies_12 : decode cX6_dies 12 = .ok (.aload_n 0, 1) := by decide +kernel
theorem dX6_dies_13 : decode cX6_dies 13 = .ok (.getfield 28, 3) := by decide +kernel
theorem dX6_dies_16 : decode cX6_dies 16 = .ok (.iload_n 3, 1) := by decide +kernel
theorem dX6_dies_17 : decode cX6_dies 17 = .ok (.aload_n 0, 1) := by decide +kernel
theorem dX6_dies_18 : decode cX6_dies 18 = .ok (.iload_n 3, 1) := by decide +kernel
theorem dX6_dies_19 : decode cX6_dies 19 = .ok (.iconst 2, 1) := by decide +kernel
theorem dX6_dies_20 : decode cX6_dies 20 = .ok (.invokevirtual 77, 3) := by decide +kernel
theorem dX6_dies_23 : decode cX6_dies 23 = .ok (.iload_n 1, 1) := by decide +kernel
theorem dX6_dies_24 : decode cX6_dies 24 = .ok (.if_icmp .ne 17, 3) := by decide +kernel
theorem dX6_dies_27 : decode cX6_dies 27 = .ok (.aload_n 0, 1) := by decide +kernel
theorem dX6_dies_28 : decode cX6_dies 28 = .ok (.iload_n 1, 1) := by decide +kernel
theorem dX6_dies_29 : decode cX6_dies 29 = .ok (.aload_n 0, 1) := by decide +kernel
theorem dX6_dies_30 : decode cX6_dies 30 = .ok (.iload_n 3, 1) := by decide +kernel
theorem dX6_dies_31 : decode cX6_dies 31 = .ok (.iconst 1, 1) := by decide +kernel
theorem dX6_dies_32 : decode cX6_dies 32 = .ok (.invokevirtual 77, 3) := by decide +kernel
theorem dX6_dies_35 : decode cX6_dies 35 = .ok (.invokevirtual 132, 3) := by decide +kernel
theorem dX6_dies_38 : decode cX6_dies 38 = .ok (.goto 4, 3) := by decide +kernel
theorem dX6_dies_41 : decode cX6_dies 41 = .ok (.iconst (-1), 1) := by decide +kernel
theorem dX6_dies_42 : decode cX6_dies 42 = .ok (.iastore, 1) := by decide +kernel
theorem dX6_dies_43 : decode cX6_dies 43 = .ok (.iinc 3 1, 3) := by decide +kernel
theorem dX6_dies_46 : decode cX6_dies 46 = .ok (.goto (-42), 3) := by decide +kernel
theorem dX6_dies_49 : decode cX6_dies 49 = .ok (.aload_n 0, 1) := by decide +kernel
theorem dX6_dies_50 : decode cX6_dies 50 = .ok (.iload_n 1, 1) := by decide +kernel
theorem dX6_dies_51 : decode cX6_dies 51 = .ok (.iconst 2, 1) := by decide +kernel
theorem dX6_dies_52 : decode cX6_dies 52 = .ok (.iconst 0, 1) := by decide +kernel
theorem dX6_dies_53 : decode cX6_dies 53 = .ok (.invokevirtual 121, 3) := by decide +kernel
theorem dX6_dies_56 : decode cX6_dies 56 = .ok (.aload_n 0, 1) := by decide +kernel
theorem dX6_dies_57 : decode cX6_dies 57 = .ok (.iload_n 1, 1) := by decide +kernel
theorem dX6_dies_58 : decode cX6_dies 58 = .ok (.bipush 6, 2) := by decide +kernel
theorem dX6_dies_60 : decode cX6_dies 60 = .ok (.aload_n 0, 1) := by decide +kernel
theorem dX6_dies_61 : decode cX6_dies 61 = .ok (.getfield 19, 3) := by decide +kernel
theorem dX6_dies_64 : decode cX6_dies 64 = .ok (.iconst 0, 1) := by decide +kernel
theorem dX6_dies_65 : decode cX6_dies 65 = .ok (.iaload, 1) := by decide +kernel
theorem dX6_dies_66 : decode cX6_dies 66 = .ok (.invokevirtual 121, 3) := by decide +kernel
theorem dX6_dies_69 : decode cX6_dies 69 = .ok (.iconst 0, 1) := by decide +kernel
theorem dX6_dies_70 : decode cX6_dies 70 = .ok (.istore_n 3, 1) := by decide +kernel
theorem dX6_dies_71 : decode cX6_dies 71 = .ok (.iload_n 3, 1) := by decide +kernel
theorem dX6_dies_72 : decode cX6_dies 72 = .ok (.aload_n 0, 1) := by decide +kernel
theorem dX6_dies_73 : decode cX6_dies 73 = .ok (.getfield 42, 3) := by decide +kernel
theorem dX6_dies_76 : decode cX6_dies 76 = .ok (.if_icmp .ge 36, 3) := by decide +kernel
theorem dX6_dies_79 : decode cX6_dies 79 = .ok (.aload_n 0, 1) := by decide +kernel
theorem dX6_dies_80 : decode cX6_dies 80 = .ok (.iload_n 3, 1) := by decide +kernel
theorem dX6_dies_81 : decode cX6_dies 81 = .ok (.iconst 2, 1) := by decide +kernel
theorem dX6_dies_82 : decode cX6_dies 82 = .ok (.invokevirtual 77, 3) := by decide +kernel
theorem dX6_dies_85 : decode cX6_dies 85 = .ok (.iload_n 1, 1) := by decide +kernel
theorem dX6_dies_86 : decode cX6_dies 86 = .ok (.if_icmp .eq 6, 3) := by decide +kernel
theorem dX6_dies_89 : decode cX6_dies 89 = .ok (.goto 17, 3) := by decide +kernel
theorem dX6_dies_92 : decode cX6_dies 92 = .ok (.aload_n 0, 1) := by decide +kernel
theorem dX6_dies_93 : decode cX6_dies 93 = .ok (.iload_n 3, 1) := by decide +kernel
theorem dX6_dies_94 : decode cX6_dies 94 = .ok (.aload_n 0, 1) := by decide +kernel
theorem dX6_dies_95 : decode cX6_dies 95 = .ok (.getfield 28, 3) := by decide +kernel
theorem dX6_dies_98 : decode cX6_dies 98 = .ok (.iload_n 3, 1) := by decide +kernel
theorem dX6_dies_99 : decode cX6_dies 99 = .ok (.iaload, 1) := by decide +kernel
theorem dX6_dies_100 : decode cX6_dies 100 = .ok (.invokevirtual 70, 3) := by decide +kernel
theorem dX6_dies_103 : decode cX6_dies 103 = .ok (.iinc 2 1, 3) := by decide +kernel
theorem dX6_dies_106 : decode cX6_dies 106 = .ok (.iinc 3 1, 3) := by decide +kernel
theorem dX6_dies_109 : decode cX6_dies 109 = .ok (.goto (-38), 3) := by decide +kernel
theorem dX6_dies_112 : decode cX6_dies 112 = .ok (.aload_n 0, 1) := by decide +kernel
theorem dX6_dies_113 : decode cX6_dies 113 = .ok (.iload_n 1, 1) := by decide +kernel
theorem dX6_dies_114 : decode cX6_dies 114 = .ok (.invokevirtual 128, 3) := by decide +kernel
theorem dX6_dies_117 : decode cX6_dies 117 = .ok (.iload_n 2, 1) := by decide +kernel
theorem dX6_dies_118 : decode cX6_dies 118 = .ok (.ireturn, 1) := by decide +kernel
theorem dX6_die_0 : decode cX6_die 0 = .ok (.aload_n 0, 1) := by decide +kernel
theorem dX6_die_1 : decode cX6_die 1 = .ok (.iconst 0, 1) := by decide +kernel
theorem dX6_die_2 : decode cX6_die 2 = .ok (.putfield 31, 3) := by decide +kernel
theorem dX6_die_5 : decode cX6_die 5 = .ok (.aload_n 0, 1) := by decide +kernel
theorem dX6_die_6 : decode cX6_die 6 = .ok (.iload_n 1, 1) := by decide +kernel
theorem dX6_die_7 : decode cX6_die 7 = .ok (.invokevirtual 63, 3) := by decide +kernel
theorem dX6_die_10 : decode cX6_die 10 = .ok (.ifCond .ne 9, 3) := by decide +kernel
theorem dX6_die_13 : decode cX6_die 13 = .ok (.aload_n 0, 1) := by decide +kernel
theorem dX6_die_14 : decode cX6_die 14 = .ok (.iconst 1, 1) := by decide +kernel
theorem dX6_die_15 : decode cX6_die 15 = .ok (.invokevirtual 55, 3) := by decide +kernel
theorem dX6_die_18 : decode cX6_die 18 = .ok (.ireturn, 1) := by decide +kernel
theorem dX6_die_19 : decode cX6_die 19 = .ok (.aload_n 0, 1) := by decide +kernel
theorem dX6_die_20 : decode cX6_die 20 = .ok (.iload_n 1, 1) := by decide +kernel
theorem dX6_die_21 : decode cX6_die 21 = .ok (.invokevirtual 67, 3) := by decide +kernel
theorem dX6_die_24 : decode cX6_die 24 = .ok (.ifCond .eq 11, 3) := by decide +kernel
theorem dX6_die_27 : decode cX6_die 27 = .ok (.aload_n 0, 1) := by decide +kernel
theorem dX6_die_28 : decode cX6_die 28 = .ok (.iload_n 1, 1) := by decide +kernel
theorem dX6_die_29 : decode cX6_die 29 = .ok (.invokevirtual 135, 3) := by decide +kernel
theorem dX6_die_32 : decode cX6_die 32 = .ok (.goto 8, 3) := by decide +kernel
theorem dX6_die_35 : decode cX6_die 35 = .ok (.aload_n 0, 1) := by decide +kernel
theorem dX6_die_36 : decode cX6_die 36 = .ok (.iconst 2, 1) := by decide +kernel
theorem dX6_die_37 : decode cX6_die 37 = .ok (.invokevirtual 55, 3) := by decide +kernel
theorem dX6_die_40 : decode cX6_die 40 = .ok (.ireturn, 1) := by decide +kernel
theorem dX6_personTold_0 : decode cX6_personTold 0 = .ok (.iconst 0, 1) := by decide +kernel
theorem dX6_personTold_1 : decode cX6_personTold 1 = .ok (.istore_n 3, 1) := by decide +kernel
theorem dX6_personTold_2 : decode cX6_personTold 2 = .ok (.iload_n 2, 1) := by decide +kernel
theorem dX6_personTold_3 : decode cX6_personTold 3 = .ok (.tableswitch 151 0 9 #[53, 151, 151, 151, 151, 151, 60, 98, 137, 143], 53) := by decide +kernel
theorem dX6_personTold_56 : decode cX6_personTold 56 = .ok (.aload_n 0, 1) := by decide +kernel
theorem dX6_personTold_57 : decode cX6_personTold 57 = .ok (.iload_n 1, 1) := by decide +kernel
theorem dX6_personTold_58 : decode cX6_personTold 58 = .ok (.iconst 0, 1) := by decide +kernel
theorem dX6_personTold_59 : decode cX6_personTold 59 = .ok (.invokevirtual 45, 3) := by decide +kernel
theorem dX6_personTold_62 : decode cX6_personTold 62 = .ok (.ireturn, 1) := by decide +kernel
theorem dX6_personTold_63 : decode cX6_personTold 63 = .ok (.iconst 0, 1) := by decide +kernel
theorem dX6_personTold_64 : decode cX6_personTold 64 = .ok (.istore 4, 2) := by decide +kernel
theorem dX6_personTold_66 : decode cX6_personTold 66 = .ok (.iload 4, 2) := by decide +kernel
theorem dX6_personTold_68 : decode cX6_personTold 68 = .ok (.aload_n 0, 1) := by decide +kernel
theorem dX6_personTold_69 : decode cX6_personTold 69 = .ok (.getfield 35, 3) := by decide +kernel
theorem dX6_personTold_72 : decode cX6_personTold 72 = .ok (.if_icmp .ge 27, 3) := by decide +kernel
theorem dX6_personTold_75 : decode cX6_personTold 75 = .ok (.iload_n 3, 1) := by decide +kernel
theorem dX6_personTold_76 : decode cX6_personTold 76 = .ok (.aload_n 0, 1) := by decide +kernel
theorem dX6_personTold_77 : decode cX6_personTold 77 = .ok (.iload 4, 2) := by decide +kernel
theorem dX6_personTold_79 : decode cX6_personTold 79 = .ok (.iload_n 1, 1) := by decide +kernel
theorem dX6_personTold_80 : decode cX6_personTold 80 = .ok (.invokevirtual 93, 3) := by decide +kernel
theorem dX6_personTold_83 : decode cX6_personTold 83 = .ok (.ifCond .eq 7, 3) := by decide +kernel
theorem dX6_personTold_86 : decode cX6_personTold 86 = .ok (.iconst 1, 1) := by decide +kernel
theorem dX6_personTold_87 : decode cX6_personTold 87 = .ok (.goto 4, 3) := by decide +kernel
theorem dX6_personTold_90 : decode cX6_personTold 90 = .ok (.iconst 0, 1) := by decide +kernel
theorem dX6_personTold_91 : decode cX6_personTold 91 = .ok (.iadd, 1) := by decide +kernel
theorem dX6_personTold_92 : decode cX6_personTold 92 = .ok (.istore_n 3, 1) := by decide +kernel
theorem dX6_personTold_93 : decode cX6_personTold 93 = .ok (.iinc 4 1, 3) := by decide +kernel
theorem dX6_personTold_96 : decode cX6_personTold 96 = .ok (.goto (-30), 3) := by decide +kernel
theorem dX6_personTold_99 : decode cX6_personTold 99 = .ok (.iload_n 3, 1) := by decide +kernel
theorem dX6_personTold_100 : decode cX6_personTold 100 = .ok (.ireturn, 1) := by decide +kernel
theorem dX6_personTold_101 : decode cX6_personTold 101 = .ok (.iconst 0, 1) := by decide +kernel
theorem dX6_personTold_102 : decode cX6_personTold 102 = .ok (.istore 4, 2) := by decide +kernel
theorem dX6_personTold_104 : decode cX6_personTold 104 = .ok (.iload 4, 2) := by decide +kernel
theorem dX6_personTold_106 : decode cX6_personTold 106 = .ok (.aload_n 0, 1) := by decide +kernel
theorem dX6_personTold_107 : decode cX6_personTold 107 = .ok (.getfield 42, 3) := by decide +kernel
theorem dX6_personTold_110 : decode cX6_personTold 110 = .ok (.if_icmp .ge 28, 3) := by decide +kernel
theorem dX6_personTold_113 : decode cX6_personTold 113 = .ok (.iload_n 3, 1) := by decide +kernel
theorem dX6_personTold_114 : decode cX6_personTold 114 = .ok (.aload_n 0, 1) := by decide +kernel
theorem dX6_personTold_115 : decode cX6_personTold 115 = .ok (.iload 4, 2) := by decide +kernel
theorem dX6_personTold_117 : decode cX6_personTold 117 = .ok (.iconst 2, 1) := by decide +kernel
theorem dX6_personTold_118 : decode cX6_personTold 118 = .ok (.invokevirtual 77, 3) := by decide +kernel
theorem dX6_personTold_121 : decode cX6_personTold 121 = .ok (.iload_n 1, 1) := by decide +kernel
theorem dX6_personTold_122 : decode cX6_personTold 122 = .ok (.if_icmp .ne 7, 3) := by decide +kernel
theorem dX6_personTold_125 : decode cX6_personTold 125 = .ok (.iconst 1, 1) := by decide +kernel
theorem dX6_personTold_126 : decode cX6_personTold 126 = .ok (.goto 4, 3) := by decide +kernel
theorem dX6_personTold_129 : decode cX6_personTold 129 = .ok (.iconst 0, 1) := by decide +kernel
theorem dX6_personTold_130 : decode cX6_personTold 130 = .ok (.iadd, 1) := by decide +kernel
theorem dX6_personTold_131 : decode cX6_personTold 131 = .ok (.istore_n 3, 1) := by decide +kernel
theorem dX6_personTold_132 : decode cX6_personTold 132 = .ok (.iinc 4 1, 3) := by decide +kernel
theorem dX6_personTold_135 : decode cX6_personTold 135 = .ok (.goto (-31), 3) := by decide +kernel
theorem dX6_personTold_138 : decode cX6_personTold 138 = .ok (.iload_n 3, 1) := by decide +kernel
theorem dX6_personTold_139 : decode cX6_personTold 139 = .ok (.ireturn, 1) := by decide +kernel
theorem dX6_personTold_140 : decode cX6_personTold 140 = .ok (.aload_n 0, 1) := by decide +kernel
theorem dX6_personTold_141 : decode cX6_personTold 141 = .ok (.iload_n 1, 1) := by decide +kernel
theorem dX6_personTold_142 : decode cX6_personTold 142 = .ok (.invokevirtual 125, 3) := by decide +kernel
theorem dX6_personTold_145 : decode cX6_personTold 145 = .ok (.ireturn, 1) := by decide +kernel
theorem dX6_personTold_146 : decode cX6_personTold 146 = .ok (.aload_n 0, 1) := by decide +kernel
theorem dX6_personTold_147 : decode cX6_personTold 147 = .ok (.iload_n 1, 1) := by decide +kernel
theorem dX6_personTold_148 : decode cX6_personTold 148 = .ok (.bipush 6, 2) := by decide +kernel
theorem dX6_personTold_150 : decode cX6_personTold 150 = .ok (.invokevirtual 45, 3) := by decide +kernel
theorem dX6_personTold_153 : decode cX6_personTold 153 = .ok (.ireturn, 1) := by decide +kernel
theorem dX6_personTold_154 : decode cX6_personTold 154 = .ok (.aload_n 0, 1) := by decide +kernel
theorem dX6_personTold_155 : decode cX6_personTold 155 = .ok (.iload_n 1, 1) := by decide +kernel
theorem dX6_personTold_156 : decode cX6_personTold 156 = .ok (.iload_n 2, 1) := by decide +kernel
theorem dX6_personTold_157 : decode cX6_personTold 157 = .ok (.invokevirtual 45, 3) := by decide +kernel
theorem dX6_personTold_160 : decode cX6_personTold 160 = .ok (.ireturn, 1) := by decide +kernel
theorem dX6_person__0 : decode cX6_person_ 0 = .ok (.aload_n 0, 1) := by decide +kernel
theorem dX6_person__1 : decode cX6_person_ 1 = .ok (.iconst 0, 1) := by decide +kernel
theorem dX6_person__2 : decode cX6_person_ 2 = .ok (.putfield 31, 3) := by decide +kernel
theorem dX6_person__5 : decode cX6_person_ 5 = .ok (.aload_n 0, 1) := by decide +kernel
theorem dX6_person__6 : decode cX6_person_ 6 = .ok (.iload_n 1, 1) := by decide +kernel
theorem dX6_person__7 : decode cX6_person_ 7 = .ok (.invokevirtual 63, 3) := by decide +kernel
theorem dX6_person__10 : decode cX6_person_ 10 = .ok (.ifCond .eq 22, 3) := by decide +kernel
theorem dX6_person__13 : decode cX6_person_ 13 = .ok (.iload_n 2, 1) := by decide +kernel
theorem dX6_person__14 : decode cX6_person_ 14 = .ok (.iconst 0, 1) := by decide +kernel
theorem dX6_person__15 : decode cX6_person_ 15 = .ok (.bipush 9, 2) := by decide +kernel
theorem dX6_person__17 : decode cX6_person_ 17 = .ok (.invokestatic 38, 3) := by decide +kernel
theorem dX6_person__20 : decode cX6_person_ 20 = .ok (.ifCond .eq 12, 3) := by decide +kernel
theorem dX6_person__23 : decode cX6_person_ 23 = .ok (.aload_n 0, 1) := by decide +kernel
theorem dX6_person__24 : decode cX6_person_ 24 = .ok (.iload_n 1, 1) := by decide +kernel
theorem dX6_person__25 : decode cX6_person_ 25 = .ok (.iload_n 2, 1) := by decide +kernel
theorem dX6_person__26 : decode cX6_person_ 26 = .ok (.invokevirtual 138, 3) := by decide +kernel
theorem dX6_person__29 : decode cX6_person_ 29 = .ok (.goto 8, 3) := by decide +kernel
theorem dX6_person__32 : decode cX6_person_ 32 = .ok (.aload_n 0, 1) := by decide +kernel
theorem dX6_person__33 : decode cX6_person_ 33 = .ok (.iconst 1, 1) := by decide +kernel
theorem dX6_person__34 : decode cX6_person_ 34 = .ok (.invokevirtual 55, 3) := by decide +kernel
theorem dX6_person__37 : decode cX6_person_ 37 = .ok (.ireturn, 1) := by decide +kernel
theorem dX6_landTold_0 : decode cX6_landTold 0 = .ok (.aload_n 0, 1) := by decide +kernel
theorem dX6_landTold_1 : decode cX6_landTold 1 = .ok (.iload_n 1, 1) := by decide +kernel
theorem dX6_landTold_2 : decode cX6_landTold 2 = .ok (.iconst 2, 1) := by decide +kernel
theorem dX6_landTold_3 : decode cX6_landTold 3 = .ok (.invokevirtual 77, 3) := by decide +kernel
theorem dX6_landTold_6 : decode cX6_landTold 6 = .ok (.istore_n 3, 1) := by decide +kernel
theorem dX6_landTold_7 : decode cX6_landTold 7 = .ok (.iload_n 2, 1) := by decide +kernel
theorem dX6_landTold_8 : decode cX6_landTold 8 = .ok (.iconst 3, 1) := by decide +kernel
theorem dX6_landTold_9 : decode cX6_landTold 9 = .ok (.if_icmp .ge 10, 3) := by decide +kernel
theorem dX6_landTold_12 : decode cX6_landTold 12 = .ok (.aload_n 0, 1) := by decide +kernel
theorem dX6_landTold_13 : decode cX6_landTold 13 = .ok (.iload_n 1, 1) := by decide +kernel
theorem dX6_landTold_14 : decode cX6_landTold 14 = .ok (.iload_n 2, 1) := by decide +kernel
theorem dX6_landTold_15 : decode cX6_landTold 15 = .ok (.invokevirtual 77, 3) := by decide +kernel
theorem dX6_landTold_18 : decode cX6_landTold 18 = .ok (.ireturn, 1) := by decide +kernel
theorem dX6_landTold_19 : decode cX6_landTold 19 = .ok (.iload_n 2, 1) := by decide +kernel
theorem dX6_landTold_20 : decode cX6_landTold 20 = .ok (.iconst 3, 1) := by decide +kernel
theorem dX6_landTold_21 : decode cX6_landTold 21 = .ok (.if_icmp .ne 11, 3) := by decide +kernel
theorem dX6_landTold_24 : decode cX6_landTold 24 = .ok (.aload_n 0, 1) := by decide +kernel
theorem dX6_landTold_25 : decode cX6_landTold 25 = .ok (.iload_n 3, 1) := by decide +kernel
theorem dX6_landTold_26 : decode cX6_landTold 26 = .ok (.invokevirtual 141, 3) := by decide +kernel
theorem dX6_landTold_29 : decode cX6_landTold 29 = .ok (.goto 37, 3) := by decide +kernel
theorem dX6_landTold_32 : decode cX6_landTold 32 = .ok (.iload_n 2, 1) := by decide +kernel
theorem dX6_landTold_33 : decode cX6_landTold 33 = .ok (.iconst 5, 1) := by decide +kernel
theorem dX6_landTold_34 : decode cX6_landTold 34 = .ok (.if_icmp .ne 12, 3) := by decide +kernel
theorem dX6_landTold_37 : decode cX6_landTold 37 = .ok (.aload_n 0, 1) := by decide +kernel
theorem dX6_landTold_38 : decode cX6_landTold 38 = .ok (.iload_n 1, 1) := by decide +kernel
theorem dX6_landTold_39 : decode cX6_landTold 39 = .ok (.iconst 3, 1) := by decide +kernel
theorem dX6_landTold_40 : decode cX6_landTold 40 = .ok (.invokevirtual 77, 3) := by decide +kernel
theorem dX6_landTold_43 : decode cX6_landTold 43 = .ok (.goto 23, 3) := by decide +kernel
theorem dX6_landTold_46 : decode cX6_landTold 46 = .ok (.iload_n 3, 1) := by decide +kernel
theorem dX6_landTold_47 : decode cX6_landTold 47 = .ok (.iconst (-1), 1) := by decide +kernel
theorem dX6_landTold_48 : decode cX6_landTold 48 = .ok (.if_icmp .ne 7, 3) := by decide +kernel
theorem dX6_landTold_51 : decode cX6_landTold 51 = .ok (.iconst (-1), 1) := by decide +kernel
theorem dX6_landTold_52 : decode cX6_landTold 52 = .ok (.goto 14, 3) := by decide +kernel
theorem dX6_landTold_55 : decode cX6_landTold 55 = .ok (.aload_n 0, 1) := by decide +kernel
theorem dX6_landTold_56 : decode cX6_landTold 56 = .ok (.iload_n 3, 1) := by decide +kernel
theorem dX6_landTold_57 : decode cX6_landTold 57 = .ok (.aload_n 0, 1) := by decide +kernel
theorem dX6_landTold_58 : decode cX6_landTold 58 = .ok (.iload_n 1, 1) := by decide +kernel
theorem dX6_landTold_59 : decode cX6_landTold 59 = .ok (.iconst 1, 1) := by decide +kernel
theorem dX6_landTold_60 : decode cX6_landTold 60 = .ok (.invokevirtual 77, 3) := by decide +kernel
theorem dX6_landTold_63 : decode cX6_landTold 63 = .ok (.invokevirtual 132, 3) := by decide +kernel
theorem dX6_landTold_66 : decode cX6_landTold 66 = .ok (.ireturn, 1) := by decide +kernel
theorem dX6_land_0 : decode cX6_land 0 = .ok (.aload_n 0, 1) := by decide +kernel
theorem dX6_land_1 : decode cX6_land 1 = .ok (.iconst 0, 1) := by decide +kernel
theorem dX6_land_2 : decode cX6_land 2 = .ok (.putfield 31, 3) := by decide +kernel
theorem dX6_land_5 : decode cX6_land 5 = .ok (.aload_n 0, 1) := by decide +kernel
theorem dX6_land_6 : decode cX6_land 6 = .ok (.iload_n 1, 1) := by decide +kernel
theorem dX6_land_7 : decode cX6_land 7 = .ok (.invokevirtual 74, 3) := by decide +kernel
theorem dX6_land_10 : decode cX6_land 10 = .ok (.ifCond .eq 21, 3) := by decide +kernel
theorem dX6_land_13 : decode cX6_land 13 = .ok (.iload_n 2, 1) := by decide +kernel
theorem dX6_land_14 : decode cX6_land 14 = .ok (.iconst 0, 1) := by decide +kernel
theorem dX6_land_15 : decode cX6_land 15 = .ok (.iconst 5, 1) := by decide +kernel
theorem dX6_land_16 : decode cX6_land 16 = .ok (.invokestatic 38, 3) := by decide +kernel
theorem dX6_land_19 : decode cX6_land 19 = .ok (.ifCond .eq 12, 3) := by decide +kernel
theorem dX6_land_22 : decode cX6_land 22 = .ok (.aload_n 0, 1) := by decide +kernel
theorem dX6_land_23 : decode cX6_land 23 = .ok (.iload_n 1, 1) := by decide +kernel
theorem dX6_land_24 : decode cX6_land 24 = .ok (.iload_n 2, 1) := by decide +kernel
theorem dX6_land_25 : decode cX6_land 25 = .ok (.invokevirtual 144, 3) := by decide +kernel
theorem dX6_land_28 : decode cX6_land 28 = .ok (.goto 8, 3) := by decide +kernel
theorem dX6_land_31 : decode cX6_land 31 = .ok (.aload_n 0, 1) := by decide +kernel
theorem dX6_land_32 : decode cX6_land 32 = .ok (.iconst 1, 1) := by decide +kernel
theorem dX6_land_33 : decode cX6_land 33 = .ok (.invokevirtual 55, 3) := by decide +kernel
theorem dX6_land_36 : decode cX6_land 36 = .ok (.ireturn, 1) := by decide +kernel
theorem dX6_kept_0 : decode cX6_kept 0 = .ok (.bipush 15, 2) := by decide +kernel
theorem dX6_kept_2 : decode cX6_kept 2 = .ok (.aload_n 0, 1) := by decide +kernel
theorem dX6_kept_3 : decode cX6_kept 3 = .ok (.iload_n 1, 1) := by decide +kernel
theorem dX6_kept_4 : decode cX6_kept 4 = .ok (.iconst 3, 1) := by decide +kernel
theorem dX6_kept_5 : decode cX6_kept 5 = .ok (.invokevirtual 77, 3) := by decide +kernel
theorem dX6_kept_8 : decode cX6_kept 8 = .ok (.invokestatic 80, 3) := by decide +kernel
theorem dX6_kept_11 : decode cX6_kept 11 = .ok (.ireturn, 1) := by decide +kernel
theorem dX6_ruled_0 : decode cX6_ruled 0 = .ok (.aload_n 0, 1) := by decide +kernel
theorem dX6_ruled_1 : decode cX6_ruled 1 = .ok (.iconst 0, 1) := by decide +kernel
theorem dX6_ruled_2 : decode cX6_ruled 2 = .ok (.putfield 31, 3) := by decide +kernel
theorem dX6_ruled_5 : decode cX6_ruled 5 = .ok (.aload_n 0, 1) := by decide +kernel
theorem dX6_ruled_6 : decode cX6_ruled 6 = .ok (.iload_n 1, 1) := by decide +kernel
theorem dX6_ruled_7 : decode cX6_ruled 7 = .ok (.invokevirtual 74, 3) := by decide +kernel
theorem dX6_ruled_10 : decode cX6_ruled 10 = .ok (.ifCond .eq 32, 3) := by decide +kernel
theorem dX6_ruled_13 : decode cX6_ruled 13 = .ok (.iload_n 2, 1) := by decide +kernel
theorem dX6_ruled_14 : decode cX6_ruled 14 = .ok (.iconst 0, 1) := by decide +kernel
theorem dX6_ruled_15 : decode cX6_ruled 15 = .ok (.aload_n 0, 1) := by decide +kernel
theorem dX6_ruled_16 : decode cX6_ruled 16 = .ok (.iload_n 1, 1) := by decide +kernel
theorem dX6_ruled_17 : decode cX6_ruled 17 = .ok (.invokevirtual 147, 3) := by decide +kernel
theorem dX6_ruled_20 : decode cX6_ruled 20 = .ok (.iconst 1, 1) := by decide +kernel
theorem dX6_ruled_21 : decode cX6_ruled 21 = .ok (.isub, 1) := by decide +kernel
theorem dX6_ruled_22 : decode cX6_ruled 22 = .ok (.invokestatic 38, 3) := by decide +kernel
theorem dX6_ruled_25 : decode cX6_ruled 25 = .ok (.ifCond .eq 17, 3) := by decide +kernel
theorem dX6_ruled_28 : decode cX6_ruled 28 = .ok (.aload_n 0, 1) := by decide +kernel
theorem dX6_ruled_29 : decode cX6_ruled 29 = .ok (.getfield 16, 3) := by decide +kernel
theorem dX6_ruled_32 : decode cX6_ruled 32 = .ok (.bipush 15, 2) := by decide +kernel
theorem dX6_ruled_34 : decode cX6_ruled 34 = .ok (.iload_n 1, 1) := by decide +kernel
theorem dX6_ruled_35 : decode cX6_ruled 35 = .ok (.imul, 1) := by decide +kernel
theorem dX6_ruled_36 : decode cX6_ruled 36 = .ok (.iload_n 2, 1) := by decide +kernel
theorem dX6_ruled_37 : decode cX6_ruled 37 = .ok (.iadd, 1) := by decide +kernel
theorem dX6_ruled_38 : decode cX6_ruled 38 = .ok (.iaload, 1) := by decide +kernel
theorem dX6_ruled_39 : decode cX6_ruled 39 = .ok (.goto 8, 3) := by decide +kernel
theorem dX6_ruled_42 : decode cX6_ruled 42 = .ok (.aload_n 0, 1) := by decide +kernel
theorem dX6_ruled_43 : decode cX6_ruled 43 = .ok (.iconst 1, 1) := by decide +kernel
theorem dX6_ruled_44 : decode cX6_ruled 44 = .ok (.invokevirtual 55, 3) := by decide +kernel
theorem dX6_ruled_47 : decode cX6_ruled 47 = .ok (.ireturn, 1) := by decide +kernel
theorem dX6_related_0 : decode cX6_related 0 = .ok (.aload_n 0, 1) := by decide +kernel
theorem dX6_related_1 : decode cX6_related 1 = .ok (.iconst 0, 1) := by decide +kernel
theorem dX6_related_2 : decode cX6_related 2 = .ok (.putfield 31, 3) := by decide +kernel
theorem dX6_related_5 : decode cX6_related 5 = .ok (.aload_n 0, 1) := by decide +kernel
theorem dX6_related_6 : decode cX6_related 6 = .ok (.iload_n 1, 1) := by decide +kernel
theorem dX6_related_7 : decode cX6_related 7 = .ok (.invokevirtual 63, 3) := by decide +kernel
theorem dX6_related_10 : decode cX6_related 10 = .ok (.ifCond .eq 11, 3) := by decide +kernel
theorem dX6_related_13 : decode cX6_related 13 = .ok (.aload_n 0, 1) := by decide +kernel
theorem dX6_related_14 : decode cX6_related 14 = .ok (.iload_n 2, 1) := by decide +kernel
theorem dX6_related_15 : decode cX6_related 15 = .ok (.invokevirtual 63, 3) := by decide +kernel
theorem dX6_related_18 : decode cX6_related 18 = .ok (.ifCond .ne 9, 3) := by decide +kernel
theorem dX6_related_21 : decode cX6_related 21 = .ok (.aload_n 0, 1) := by decide +kernel
theorem dX6_related_22 : decode cX6_related 22 = .ok (.iconst 1, 1) := by decide +kernel
theorem dX6_related_23 : decode cX6_related 23 = .ok (.invokevirtual 55, 3) := by decide +kernel
theorem dX6_related_26 : decode cX6_related 26 = .ok (.ireturn, 1) := by decide +kernel
theorem dX6_related_27 : decode cX6_related 27 = .ok (.aload_n 0, 1) := by decide +kernel
theorem dX6_related_28 : decode cX6_related 28 = .ok (.iload_n 1, 1) := by decide +kernel
theorem dX6_related_29 : decode cX6_related 29 = .ok (.iload_n 2, 1) := by decide +kernel
theorem dX6_related_30 : decode cX6_related 30 = .ok (.invokevirtual 106, 3) := by decide +kernel
theorem dX6_related_33 : decode cX6_related 33 = .ok (.sipush 999, 3) := by decide +kernel
theorem dX6_related_36 : decode cX6_related 36 = .ok (.if_icmp .ne 7, 3) := by decide +kernel
theorem dX6_related_39 : decode cX6_related 39 = .ok (.iconst (-1), 1) := by decide +kernel
theorem dX6_related_40 : decode cX6_related 40 = .ok (.goto 9, 3) := by decide +kernel
theorem dX6_related_43 : decode cX6_related 43 = .ok (.aload_n 0, 1) := by decide +kernel
theorem dX6_related_44 : decode cX6_related 44 = .ok (.iload_n 1, 1) := by decide +kernel
theorem dX6_related_45 : decode cX6_related 45 = .ok (.iload_n 2, 1) := by decide +kernel
theorem dX6_related_46 : decode cX6_related 46 = .ok (.invokevirtual 106, 3) := by decide +kernel
theorem dX6_related_49 : decode cX6_related 49 = .ok (.ireturn, 1) := by decide +kernel
theorem dX6_rulesNow_0 : decode cX6_rulesNow 0 = .ok (.aload_n 0, 1) := by decide +kernel
theorem dX6_rulesNow_1 : decode cX6_rulesNow 1 = .ok (.iload_n 1, 1) := by decide +kernel
theorem dX6_rulesNow_2 : decode cX6_rulesNow 2 = .ok (.bipush 7, 2) := by decide +kernel
theorem dX6_rulesNow_4 : decode cX6_rulesNow 4 = .ok (.invokevirtual 138, 3) := by decide +kernel
theorem dX6_rulesNow_7 : decode cX6_rulesNow 7 = .ok (.ifCond .le 7, 3) := by decide +kernel
theorem dX6_rulesNow_10 : decode cX6_rulesNow 10 = .ok (.iconst 1, 1) := by decide +kernel
theorem dX6_rulesNow_11 : decode cX6_rulesNow 11 = .ok (.goto 4, 3) := by decide +kernel
theorem dX6_rulesNow_14 : decode cX6_rulesNow 14 = .ok (.iconst 0, 1) := by decide +kernel
theorem dX6_rulesNow_15 : decode cX6_rulesNow 15 = .ok (.ireturn, 1) := by decide +kernel
theorem dX6_counted_0 : decode cX6_counted 0 = .ok (.iconst 0, 1) := by decide +kernel
theorem dX6_counted_1 : decode cX6_counted 1 = .ok (.istore_n 2, 1) := by decide +kernel
theorem dX6_counted_2 : decode cX6_counted 2 = .ok (.iload_n 1, 1) := by decide +kernel
theorem dX6_counted_3 : decode cX6_counted 3 = .ok (.tableswitch 153 0 5 #[37, 44, 49, 76, 112, 117], 37) := by decide +kernel
theorem dX6_counted_40 : decode cX6_counted 40 = .ok (.aload_n 0, 1) := by decide +kernel
theorem dX6_counted_41 : decode cX6_counted 41 = .ok (.getfield 19, 3) := by decide +kernel
theorem dX6_counted_44 : decode cX6_counted 44 = .ok (.iconst 0, 1) := by decide +kernel
theorem dX6_counted_45 : decode cX6_counted 45 = .ok (.iaload, 1) := by decide +kernel
theorem dX6_counted_46 : decode cX6_counted 46 = .ok (.ireturn, 1) := by decide +kernel
theorem dX6_counted_47 : decode cX6_counted 47 = .ok (.aload_n 0, 1) := by decide +kernel
theorem dX6_counted_48 : decode cX6_counted 48 = .ok (.getfield 35, 3) := by decide +kernel
theorem dX6_counted_51 : decode cX6_counted 51 = .ok (.ireturn, 1) := by decide +kernel
theorem dX6_counted_52 : decode cX6_counted 52 = .ok (.iconst 0, 1) := by decide +kernel
theorem dX6_counted_53 : decode cX6_counted 53 = .ok (.istore_n 3, 1) := by decide +kernel
theorem dX6_counted_54 : decode cX6_counted 54 = .ok (.iload_n 3, 1) := by decide +kernel
theorem dX6_counted_55 : decode cX6_counted 55 = .ok (.aload_n 0, 1) := by decide +kernel
theorem dX6_counted_56 : decode cX6_counted 56 = .ok (.getfield 35, 3) := by decide +kernel
theorem dX6_counted_59 : decode cX6_counted 59 = .ok (.if_icmp .ge 18, 3) := by decide +kernel
theorem dX6_counted_62 : decode cX6_counted 62 = .ok (.iload_n 2, 1) := by decide +kernel
theorem dX6_counted_63 : decode cX6_counted 63 = .ok (.aload_n 0, 1) := by decide +kernel
theorem dX6_counted_64 : decode cX6_counted 64 = .ok (.iload_n 3, 1) := by decide +kernel
theorem dX6_counted_65 : decode cX6_counted 65 = .ok (.iconst 2, 1) := by decide +kernel
theorem dX6_counted_66 : decode cX6_counted 66 = .ok (.invokevirtual 45, 3) := by decide +kernel
theorem dX6_counted_69 : decode cX6_counted 69 = .ok (.iadd, 1) := by decide +kernel
theorem dX6_counted_70 : decode cX6_counted 70 = .ok (.istore_n 2, 1) := by decide +kernel
theorem dX6_counted_71 : decode cX6_counted 71 = .ok (.iinc 3 1, 3) := by decide +kernel
theorem dX6_counted_74 : decode cX6_counted 74 = .ok (.goto (-20), 3) := by decide +kernel
theorem dX6_counted_77 : decode cX6_counted 77 = .ok (.iload_n 2, 1) := by decide +kernel
theorem dX6_counted_78 : decode cX6_counted 78 = .ok (.ireturn, 1) := by decide +kernel
theorem dX6_counted_79 : decode cX6_counted 79 = .ok (.iconst 0, 1) := by decide +kernel
theorem dX6_counted_80 : decode cX6_counted 80 = .ok (.istore_n 3, 1) := by decide +kernel
theorem dX6_counted_81 : decode cX6_counted 81 = .ok (.iload_n 3, 1) := by decide +kernel
theorem dX6_counted_82 : decode cX6_counted 82 = .ok (.aload_n 0, 1) := by decide +kernel
theorem dX6_counted_83 : decode cX6_counted 83 = .ok (.getfield 35, 3) := by decide +kernel
theorem dX6_counted_86 : decode cX6_counted 86 = .ok (.if_icmp .ge 27, 3) := by decide +kernel
theorem dX6_counted_89 : decode cX6_counted 89 = .ok (.iload_n 2, 1) := by decide +kernel
theorem dX6_counted_90 : decode cX6_counted 90 = .ok (.aload_n 0, 1) := by decide +kernel
theorem dX6_counted_91 : decode cX6_counted 91 = .ok (.iload_n 3, 1) := by decide +kernel
theorem dX6_counted_92 : decode cX6_counted 92 = .ok (.iconst 5, 1) := by decide +kernel
theorem dX6_counted_93 : decode cX6_counted 93 = .ok (.invokevirtual 45, 3) := by decide +kernel
theorem dX6_counted_96 : decode cX6_counted 96 = .ok (.iload_n 3, 1) := by decide +kernel
theorem dX6_counted_97 : decode cX6_counted 97 = .ok (.if_icmp .le 7, 3) := by decide +kernel
theorem dX6_counted_100 : decode cX6_counted 100 = .ok (.iconst 1, 1) := by decide +kernel
theorem dX6_counted_101 : decode cX6_counted 101 = .ok (.goto 4, 3) := by decide +kernel
theorem dX6_counted_104 : decode cX6_counted 104 = .ok (.iconst 0, 1) := by decide +kernel
theorem dX6_counted_105 : decode cX6_counted 105 = .ok (.iadd, 1) := by decide +kernel
theorem dX6_counted_106 : decode cX6_counted 106 = .ok (.istore_n 2, 1) := by decide +kernel
theorem dX6_counted_107 : decode cX6_counted 107 = .ok (.iinc 3 1, 3) := by decide +kernel
theorem dX6_counted_110 : decode cX6_counted 110 = .ok (.goto (-29), 3) := by decide +kernel
theorem dX6_counted_113 : decode cX6_counted 113 = .ok (.iload_n 2, 1) := by decide +kernel
theorem dX6_counted_114 : decode cX6_counted 114 = .ok (.ireturn, 1) := by decide +kernel
theorem dX6_counted_115 : decode cX6_counted 115 = .ok (.aload_n 0, 1) := by decide +kernel
theorem dX6_counted_116 : decode cX6_counted 116 = .ok (.getfield 42, 3) := by decide +kernel
theorem dX6_counted_119 : decode cX6_counted 119 = .ok (.ireturn, 1) := by decide +kernel
theorem dX6_counted_120 : decode cX6_counted 120 = .ok (.iconst 0, 1) := by decide +kernel
theorem dX6_counted_121 : decode cX6_counted 121 = .ok (.istore_n 3, 1) := by decide +kernel
theorem dX6_counted_122 : decode cX6_counted 122 = .ok (.iload_n 3, 1) := by decide +kernel
theorem dX6_counted_123 : decode cX6_counted 123 = .ok (.aload_n 0, 1) := by decide +kernel
theorem dX6_counted_124 : decode cX6_counted 124 = .ok (.getfield 42, 3) := by decide +kernel
theorem dX6_counted_127 : decode cX6_counted 127 = .ok (.if_icmp .ge 27, 3) := by decide +kernel
theorem dX6_counted_130 : decode cX6_counted 130 = .ok (.iload_n 2, 1) := by decide +kernel
theorem dX6_counted_131 : decode cX6_counted 131 = .ok (.aload_n 0, 1) := by decide +kernel
theorem dX6_counted_132 : decode cX6_counted 132 = .ok (.iload_n 3, 1) := by decide +kernel
theorem dX6_counted_133 : decode cX6_counted 133 = .ok (.iconst 2, 1) := by decide +kernel
theorem dX6_counted_134 : decode cX6_counted 134 = .ok (.invokevirtual 77, 3) := by decide +kernel
theorem dX6_counted_137 : decode cX6_counted 137 = .ok (.iconst (-1), 1) := by decide +kernel
theorem dX6_counted_138 : decode cX6_counted 138 = .ok (.if_icmp .ne 7, 3) := by decide +kernel
theorem dX6_counted_141 : decode cX6_counted 141 = .ok (.iconst 1, 1) := by decide +kernel
theorem dX6_counted_142 : decode cX6_counted 142 = .ok (.goto 4, 3) := by decide +kernel
theorem dX6_counted_145 : decode cX6_counted 145 = .ok (.iconst 0, 1) := by decide +kernel
theorem dX6_counted_146 : decode cX6_counted 146 = .ok (.iadd, 1) := by decide +kernel
theorem dX6_counted_147 : decode cX6_counted 147 = .ok (.istore_n 2, 1) := by decide +kernel
theorem dX6_counted_148 : decode cX6_counted 148 = .ok (.iinc 3 1, 3) := by decide +kernel
theorem dX6_counted_151 : decode cX6_counted 151 = .ok (.goto (-29), 3) := by decide +kernel
theorem dX6_counted_154 : decode cX6_counted 154 = .ok (.iload_n 2, 1) := by decide +kernel
theorem dX6_counted_155 : decode cX6_counted 155 = .ok (.ireturn, 1) := by decide +kernel
theorem dX6_counted_156 : decode cX6_counted 156 = .ok (.iconst 0, 1) := by decide +kernel
theorem dX6_counted_157 : decode cX6_counted 157 = .ok (.istore_n 3, 1) := by decide +kernel
theorem dX6_counted_158 : decode cX6_counted 158 = .ok (.iload_n 3, 1) := by decide +kernel
theorem dX6_counted_159 : decode cX6_counted 159 = .ok (.aload_n 0, 1) := by decide +kernel
theorem dX6_counted_160 : decode cX6_counted 160 = .ok (.getfield 35, 3) := by decide +kernel
theorem dX6_counted_163 : decode cX6_counted 163 = .ok (.if_icmp .ge 41, 3) := by decide +kernel
theorem dX6_counted_166 : decode cX6_counted 166 = .ok (.iload_n 2, 1) := by decide +kernel
theorem dX6_counted_167 : decode cX6_counted 167 = .ok (.aload_n 0, 1) := by decide +kernel
theorem dX6_counted_168 : decode cX6_counted 168 = .ok (.iload_n 3, 1) := by decide +kernel
theorem dX6_counted_169 : decode cX6_counted 169 = .ok (.invokevirtual 150, 3) := by decide +kernel
theorem dX6_counted_172 : decode cX6_counted 172 = .ok (.ifCond .eq 23, 3) := by decide +kernel
theorem dX6_counted_175 : decode cX6_counted 175 = .ok (.iload_n 1, 1) := by decide +kernel
theorem dX6_counted_176 : decode cX6_counted 176 = .ok (.bipush 6, 2) := by decide +kernel
theorem dX6_counted_178 : decode cX6_counted 178 = .ok (.if_icmp .eq 13, 3) := by decide +kernel
theorem dX6_counted_181 : decode cX6_counted 181 = .ok (.aload_n 0, 1) := by decide +kernel
theorem dX6_counted_182 : decode cX6_counted 182 = .ok (.iload_n 3, 1) := by decide +kernel
theorem dX6_counted_183 : decode cX6_counted 183 = .ok (.invokevirtual 112, 3) := by decide +kernel
theorem dX6_counted_186 : decode cX6_counted 186 = .ok (.bipush 16, 2) := by decide +kernel
theorem dX6_counted_188 : decode cX6_counted 188 = .ok (.if_icmp .ge 7, 3) := by decide +kernel
theorem dX6_counted_191 : decode cX6_counted 191 = .ok (.iconst 1, 1) := by decide +kernel
theorem dX6_counted_192 : decode cX6_counted 192 = .ok (.goto 4, 3) := by decide +kernel
theorem dX6_counted_195 : decode cX6_counted 195 = .ok (.iconst 0, 1) := by decide +kernel
theorem dX6_counted_196 : decode cX6_counted 196 = .ok (.iadd, 1) := by decide +kernel
theorem dX6_counted_197 : decode cX6_counted 197 = .ok (.istore_n 2, 1) := by decide +kernel
theorem dX6_counted_198 : decode cX6_counted 198 = .ok (.iinc 3 1, 3) := by decide +kernel
theorem dX6_counted_201 : decode cX6_counted 201 = .ok (.goto (-43), 3) := by decide +kernel
theorem dX6_counted_204 : decode cX6_counted 204 = .ok (.iload_n 2, 1) := by decide +kernel
theorem dX6_counted_205 : decode cX6_counted 205 = .ok (.ireturn, 1) := by decide +kernel
theorem dX6_count_0 : decode cX6_count 0 = .ok (.aload_n 0, 1) := by decide +kernel
theorem dX6_count_1 : decode cX6_count 1 = .ok (.iconst 0, 1) := by decide +kernel
theorem dX6_count_2 : decode cX6_count 2 = .ok (.putfield 31, 3) := by decide +kernel
theorem dX6_count_5 : decode cX6_count 5 = .ok (.iload_n 1, 1) := by decide +kernel
theorem dX6_count_6 : decode cX6_count 6 = .ok (.iconst 0, 1) := by decide +kernel
theorem dX6_count_7 : decode cX6_count 7 = .ok (.bipush 7, 2) := by decide +kernel
theorem dX6_count_9 : decode cX6_count 9 = .ok (.invokestatic 38, 3) := by decide +kernel
theorem dX6_count_12 : decode cX6_count 12 = .ok (.ifCond .eq 11, 3) := by decide +kernel
theorem dX6_count_15 : decode cX6_count 15 = .ok (.aload_n 0, 1) := by decide +kernel
theorem dX6_count_16 : decode cX6_count 16 = .ok (.iload_n 1, 1) := by decide +kernel
theorem dX6_count_17 : decode cX6_count 17 = .ok (.invokevirtual 153, 3) := by decide +kernel
theorem dX6_count_20 : decode cX6_count 20 = .ok (.goto 8, 3) := by decide +kernel
theorem dX6_count_23 : decode cX6_count 23 = .ok (.aload_n 0, 1) := by decide +kernel
theorem dX6_count_24 : decode cX6_count 24 = .ok (.iconst 1, 1) := by decide +kernel
theorem dX6_count_25 : decode cX6_count 25 = .ok (.invokevirtual 55, 3) := by decide +kernel
theorem dX6_count_28 : decode cX6_count 28 = .ok (.ireturn, 1) := by decide +kernel
theorem dX6_yearOn_0 : decode cX6_yearOn 0 = .ok (.iconst 0, 1) := by decide +kernel
theorem dX6_yearOn_1 : decode cX6_yearOn 1 = .ok (.istore_n 1, 1) := by decide +kernel
theorem dX6_yearOn_2 : decode cX6_yearOn 2 = .ok (.aload_n 0, 1) := by decide +kernel
theorem dX6_yearOn_3 : decode cX6_yearOn 3 = .ok (.getfield 19, 3) := by decide +kernel
theorem dX6_yearOn_6 : decode cX6_yearOn 6 = .ok (.iconst 0, 1) := by decide +kernel
theorem dX6_yearOn_7 : decode cX6_yearOn 7 = .ok (.dup2, 1) := by decide +kernel
theorem dX6_yearOn_8 : decode cX6_yearOn 8 = .ok (.iaload, 1) := by decide +kernel
theorem dX6_yearOn_9 : decode cX6_yearOn 9 = .ok (.iconst 1, 1) := by decide +kernel
theorem dX6_yearOn_10 : decode cX6_yearOn 10 = .ok (.iadd, 1) := by decide +kernel
theorem dX6_yearOn_11 : decode cX6_yearOn 11 = .ok (.iastore, 1) := by decide +kernel
theorem dX6_yearOn_12 : decode cX6_yearOn 12 = .ok (.iconst 0, 1) := by decide +kernel
theorem dX6_yearOn_13 : decode cX6_yearOn 13 = .ok (.istore_n 2, 1) := by decide +kernel
theorem dX6_yearOn_14 : decode cX6_yearOn 14 = .ok (.iload_n 2, 1) := by decide +kernel
theorem dX6_yearOn_15 : decode cX6_yearOn 15 = .ok (.aload_n 0, 1) := by decide +kernel
theorem dX6_yearOn_16 : decode cX6_yearOn 16 = .ok (.getfield 35, 3) := by decide +kernel
theorem dX6_yearOn_19 : decode cX6_yearOn 19 = .ok (.if_icmp .ge 39, 3) := by decide +kernel
theorem dX6_yearOn_22 : decode cX6_yearOn 22 = .ok (.aload_n 0, 1) := by decide +kernel
theorem dX6_yearOn_23 : decode cX6_yearOn 23 = .ok (.iload_n 2, 1) := by decide +kernel
theorem dX6_yearOn_24 : decode cX6_yearOn 24 = .ok (.invokevirtual 67, 3) := by decide +kernel
theorem dX6_yearOn_27 : decode cX6_yearOn 27 = .ok (.ifCond .eq 25, 3) := by decide +kernel
theorem dX6_yearOn_30 : decode cX6_yearOn 30 = .ok (.aload_n 0, 1) := by decide +kernel
theorem dX6_yearOn_31 : decode cX6_yearOn 31 = .ok (.iload_n 2, 1) := by decide +kernel
theorem dX6_yearOn_32 : decode cX6_yearOn 32 = .ok (.invokevirtual 112, 3) := by decide +kernel
theorem dX6_yearOn_35 : decode cX6_yearOn 35 = .ok (.bipush 80, 2) := by decide +kernel
theorem dX6_yearOn_37 : decode cX6_yearOn 37 = .ok (.if_icmp .ge 6, 3) := by decide +kernel
theorem dX6_yearOn_40 : decode cX6_yearOn 40 = .ok (.goto 12, 3) := by decide +kernel
theorem dX6_yearOn_43 : decode cX6_yearOn 43 = .ok (.aload_n 0, 1) := by decide +kernel
theorem dX6_yearOn_44 : decode cX6_yearOn 44 = .ok (.iload_n 2, 1) := by decide +kernel
theorem dX6_yearOn_45 : decode cX6_yearOn 45 = .ok (.invokevirtual 135, 3) := by decide +kernel
theorem dX6_yearOn_48 : decode cX6_yearOn 48 = .ok (.pop, 1) := by decide +kernel
theorem dX6_yearOn_49 : decode cX6_yearOn 49 = .ok (.iinc 1 1, 3) := by decide +kernel
theorem dX6_yearOn_52 : decode cX6_yearOn 52 = .ok (.iinc 2 1, 3) := by decide +kernel
theorem dX6_yearOn_55 : decode cX6_yearOn 55 = .ok (.goto (-41), 3) := by decide +kernel
theorem dX6_yearOn_58 : decode cX6_yearOn 58 = .ok (.iload_n 1, 1) := by decide +kernel
theorem dX6_yearOn_59 : decode cX6_yearOn 59 = .ok (.ireturn, 1) := by decide +kernel
theorem dX6_yearsOn_0 : decode cX6_yearsOn 0 = .ok (.iconst 0, 1) := by decide +kernel
theorem dX6_yearsOn_1 : decode cX6_yearsOn 1 = .ok (.istore_n 2, 1) := by decide +kernel
theorem dX6_yearsOn_2 : decode cX6_yearsOn 2 = .ok (.iconst 0, 1) := by decide +kernel
theorem dX6_yearsOn_3 : decode cX6_yearsOn 3 = .ok (.istore_n 3, 1) := by decide +kernel
theorem dX6_yearsOn_4 : decode cX6_yearsOn 4 = .ok (.iload_n 3, 1) := by decide +kernel
theorem dX6_yearsOn_5 : decode cX6_yearsOn 5 = .ok (.iload_n 1, 1) := by decide +kernel
theorem dX6_yearsOn_6 : decode cX6_yearsOn 6 = .ok (.if_icmp .ge 16, 3) := by decide +kernel
theorem dX6_yearsOn_9 : decode cX6_yearsOn 9 = .ok (.iload_n 2, 1) := by decide +kernel
theorem dX6_yearsOn_10 : decode cX6_yearsOn 10 = .ok (.aload_n 0, 1) := by decide +kernel
theorem dX6_yearsOn_11 : decode cX6_yearsOn 11 = .ok (.invokevirtual 156, 3) := by decide +kernel
theorem dX6_yearsOn_14 : decode cX6_yearsOn 14 = .ok (.iadd, 1) := by decide +kernel
theorem dX6_yearsOn_15 : decode cX6_yearsOn 15 = .ok (.istore_n 2, 1) := by decide +kernel
theorem dX6_yearsOn_16 : decode cX6_yearsOn 16 = .ok (.iinc 3 1, 3) := by decide +kernel
theorem dX6_yearsOn_19 : decode cX6_yearsOn 19 = .ok (.goto (-15), 3) := by decide +kernel
theorem dX6_yearsOn_22 : decode cX6_yearsOn 22 = .ok (.iload_n 2, 1) := by decide +kernel
theorem dX6_yearsOn_23 : decode cX6_yearsOn 23 = .ok (.ireturn, 1) := by decide +kernel
theorem dX6_pass_0 : decode cX6_pass 0 = .ok (.aload_n 0, 1) := by decide +kernel
theorem dX6_pass_1 : decode cX6_pass 1 = .ok (.iconst 0, 1) := by decide +kernel
theorem dX6_pass_2 : decode cX6_pass 2 = .ok (.putfield 31, 3) := by decide +kernel
theorem dX6_pass_5 : decode cX6_pass 5 = .ok (.iload_n 1, 1) := by decide +kernel
theorem dX6_pass_6 : decode cX6_pass 6 = .ok (.iconst 1, 1) := by decide +kernel
theorem dX6_pass_7 : decode cX6_pass 7 = .ok (.bipush 100, 2) := by decide +kernel
theorem dX6_pass_9 : decode cX6_pass 9 = .ok (.invokestatic 38, 3) := by decide +kernel
theorem dX6_pass_12 : decode cX6_pass 12 = .ok (.ifCond .eq 11, 3) := by decide +kernel
theorem dX6_pass_15 : decode cX6_pass 15 = .ok (.aload_n 0, 1) := by decide +kernel
theorem dX6_pass_16 : decode cX6_pass 16 = .ok (.iload_n 1, 1) := by decide +kernel
theorem dX6_pass_17 : decode cX6_pass 17 = .ok (.invokevirtual 160, 3) := by decide +kernel
theorem dX6_pass_20 : decode cX6_pass 20 = .ok (.goto 8, 3) := by decide +kernel
theorem dX6_pass_23 : decode cX6_pass 23 = .ok (.aload_n 0, 1) := by decide +kernel
theorem dX6_pass_24 : decode cX6_pass 24 = .ok (.iconst 1, 1) := by decide +kernel
theorem dX6_pass_25 : decode cX6_pass 25 = .ok (.invokevirtual 55, 3) := by decide +kernel
theorem dX6_pass_28 : decode cX6_pass 28 = .ok (.ireturn, 1) := by decide +kernel
theorem dX6_kept__0 : decode cX6_kept_ 0 = .ok (.iconst 4, 1) := by decide +kernel
theorem dX6_kept__1 : decode cX6_kept_ 1 = .ok (.anewarray 163, 3) := by decide +kernel
theorem dX6_kept__4 : decode cX6_kept_ 4 = .ok (.dup, 1) := by decide +kernel
theorem dX6_kept__5 : decode cX6_kept_ 5 = .ok (.iconst 0, 1) := by decide +kernel
theorem dX6_kept__6 : decode cX6_kept_ 6 = .ok (.aload_n 0, 1) := by decide +kernel
theorem dX6_kept__7 : decode cX6_kept_ 7 = .ok (.getfield 9, 3) := by decide +kernel
theorem dX6_kept__10 : decode cX6_kept_ 10 = .ok (.invokevirtual 164, 3) := by decide +kernel
theorem dX6_kept__13 : decode cX6_kept_ 13 = .ok (.checkcast 163, 3) := by decide +kernel
theorem dX6_kept__16 : decode cX6_kept_ 16 = .ok (.aastore, 1) := by decide +kernel
theorem dX6_kept__17 : decode cX6_kept_ 17 = .ok (.dup, 1) := by decide +kernel
theorem dX6_kept__18 : decode cX6_kept_ 18 = .ok (.iconst 1, 1) := by decide +kernel
theorem dX6_kept__19 : decode cX6_kept_ 19 = .ok (.aload_n 0, 1) := by decide +kernel
theorem dX6_kept__20 : decode cX6_kept_ 20 = .ok (.getfield 13, 3) := by decide +kernel
theorem dX6_kept__23 : decode cX6_kept_ 23 = .ok (.invokevirtual 164, 3) := by decide +kernel
theorem dX6_kept__26 : decode cX6_kept_ 26 = .ok (.checkcast 163, 3) := by decide +kernel
theorem dX6_kept__29 : decode cX6_kept_ 29 = .ok (.aastore, 1) := by decide +kernel
theorem dX6_kept__30 : decode cX6_kept_ 30 = .ok (.dup, 1) := by decide +kernel
theorem dX6_kept__31 : decode cX6_kept_ 31 = .ok (.iconst 2, 1) := by decide +kernel
theorem dX6_kept__32 : decode cX6_kept_ 32 = .ok (.aload_n 0, 1) := by decide +kernel
theorem dX6_kept__33 : decode cX6_kept_ 33 = .ok (.getfield 16, 3) := by decide +kernel
theorem dX6_kept__36 : decode cX6_kept_ 36 = .ok (.invokevirtual 164, 3) := by decide +kernel
theorem dX6_kept__39 : decode cX6_kept_ 39 = .ok (.checkcast 163, 3) := by decide +kernel
theorem dX6_kept__42 : decode cX6_kept_ 42 = .ok (.aastore, 1) := by decide +kernel
theorem dX6_kept__43 : decode cX6_kept_ 43 = .ok (.dup, 1) := by decide +kernel
theorem dX6_kept__44 : decode cX6_kept_ 44 = .ok (.iconst 3, 1) := by decide +kernel
theorem dX6_kept__45 : decode cX6_kept_ 45 = .ok (.aload_n 0, 1) := by decide +kernel
theorem dX6_kept__46 : decode cX6_kept_ 46 = .ok (.getfield 19, 3) := by decide +kernel
theorem dX6_kept__49 : decode cX6_kept_ 49 = .ok (.invokevirtual 164, 3) := by decide +kernel
theorem dX6_kept__52 : decode cX6_kept_ 52 = .ok (.checkcast 163, 3) := by decide +kernel
theorem dX6_kept__55 : decode cX6_kept_ 55 = .ok (.aastore, 1) := by decide +kernel
theorem dX6_kept__56 : decode cX6_kept_ 56 = .ok (.areturn, 1) := by decide +kernel
theorem dX6_bringBack_0 : decode cX6_bringBack 0 = .ok (.iconst 4, 1) := by decide +kernel
theorem dX6_bringBack_1 : decode cX6_bringBack 1 = .ok (.anewarray 163, 3) := by decide +kernel
theorem dX6_bringBack_4 : decode cX6_bringBack 4 = .ok (.dup, 1) := by decide +kernel
theorem dX6_bringBack_5 : decode cX6_bringBack 5 = .ok (.iconst 0, 1) := by decide +kernel
theorem dX6_bringBack_6 : decode cX6_bringBack 6 = .ok (.aload_n 0, 1) := by decide +kernel
theorem dX6_bringBack_7 : decode cX6_bringBack 7 = .ok (.getfield 9, 3) := by decide +kernel
theorem dX6_bringBack_10 : decode cX6_bringBack 10 = .ok (.aastore, 1) := by decide +kernel
theorem dX6_bringBack_11 : decode cX6_bringBack 11 = .ok (.dup, 1) := by decide +kernel
theorem dX6_bringBack_12 : decode cX6_bringBack 12 = .ok (.iconst 1, 1) := by decide +kernel
theorem dX6_bringBack_13 : decode cX6_bringBack 13 = .ok (.aload_n 0, 1) := by decide +kernel
theorem dX6_bringBack_14 : decode cX6_bringBack 14 = .ok (.getfield 13, 3) := by decide +kernel
theorem dX6_bringBack_17 : decode cX6_bringBack 17 = .ok (.aastore, 1) := by decide +kernel
theorem dX6_bringBack_18 : decode cX6_bringBack 18 = .ok (.dup, 1) := by decide +kernel
theorem dX6_bringBack_19 : decode cX6_bringBack 19 = .ok (.iconst 2, 1) := by decide +kernel
theorem dX6_bringBack_20 : decode cX6_bringBack 20 = .ok (.aload_n 0, 1) := by decide +kernel
theorem dX6_bringBack_21 : decode cX6_bringBack 21 = .ok (.getfield 16, 3) := by decide +kernel
theorem dX6_bringBack_24 : decode cX6_bringBack 24 = .ok (.aastore, 1) := by decide +kernel
theorem dX6_bringBack_25 : decode cX6_bringBack 25 = .ok (.dup, 1) := by decide +kernel
theorem dX6_bringBack_26 : decode cX6_bringBack 26 = .ok (.iconst 3, 1) := by decide +kernel
theorem dX6_bringBack_27 : decode cX6_bringBack 27 = .ok (.aload_n 0, 1) := by decide +kernel
theorem dX6_bringBack_28 : decode cX6_bringBack 28 = .ok (.getfield 19, 3) := by decide +kernel
theorem dX6_bringBack_31 : decode cX6_bringBack 31 = .ok (.aastore, 1) := by decide +kernel
theorem dX6_bringBack_32 : decode cX6_bringBack 32 = .ok (.astore_n 2, 1) := by decide +kernel
theorem dX6_bringBack_33 : decode cX6_bringBack 33 = .ok (.iconst 0, 1) := by decide +kernel
theorem dX6_bringBack_34 : decode cX6_bringBack 34 = .ok (.istore_n 3, 1) := by decide +kernel
theorem dX6_bringBack_35 : decode cX6_bringBack 35 = .ok (.iload_n 3, 1) := by decide +kernel
theorem dX6_bringBack_36 : decode cX6_bringBack 36 = .ok (.aload_n 2, 1) := by decide +kernel
theorem dX6_bringBack_37 : decode cX6_bringBack 37 = .ok (.arraylength, 1) := by decide +kernel
theorem dX6_bringBack_38 : decode cX6_bringBack 38 = .ok (.if_icmp .ge 24, 3) := by decide +kernel
theorem dX6_bringBack_41 : decode cX6_bringBack 41 = .ok (.aload_n 1, 1) := by decide +kernel
theorem dX6_bringBack_42 : decode cX6_bringBack 42 = .ok (.iload_n 3, 1) := by decide +kernel
theorem dX6_bringBack_43 : decode cX6_bringBack 43 = .ok (.aaload, 1) := by decide +kernel
theorem dX6_bringBack_44 : decode cX6_bringBack 44 = .ok (.iconst 0, 1) := by decide +kernel
theorem dX6_bringBack_45 : decode cX6_bringBack 45 = .ok (.aload_n 2, 1) := by decide +kernel
theorem dX6_bringBack_46 : decode cX6_bringBack 46 = .ok (.iload_n 3, 1) := by decide +kernel
theorem dX6_bringBack_47 : decode cX6_bringBack 47 = .ok (.aaload, 1) := by decide +kernel
theorem dX6_bringBack_48 : decode cX6_bringBack 48 = .ok (.iconst 0, 1) := by decide +kernel
theorem dX6_bringBack_49 : decode cX6_bringBack 49 = .ok (.aload_n 2, 1) := by decide +kernel
theorem dX6_bringBack_50 : decode cX6_bringBack 50 = .ok (.iload_n 3, 1) := by decide +kernel
theorem dX6_bringBack_51 : decode cX6_bringBack 51 = .ok (.aaload, 1) := by decide +kernel
theorem dX6_bringBack_52 : decode cX6_bringBack 52 = .ok (.arraylength, 1) := by decide +kernel
theorem dX6_bringBack_53 : decode cX6_bringBack 53 = .ok (.invokestatic 49, 3) := by decide +kernel
theorem dX6_bringBack_56 : decode cX6_bringBack 56 = .ok (.iinc 3 1, 3) := by decide +kernel
theorem dX6_bringBack_59 : decode cX6_bringBack 59 = .ok (.goto (-24), 3) := by decide +kernel
theorem dX6_bringBack_62 : decode cX6_bringBack 62 = .ok (.return_, 1) := by decide +kernel
theorem dX6_rules_0 : decode cX6_rules 0 = .ok (.aload_n 0, 1) := by decide +kernel
theorem dX6_rules_1 : decode cX6_rules 1 = .ok (.iconst 0, 1) := by decide +kernel
theorem dX6_rules_2 : decode cX6_rules 2 = .ok (.putfield 31, 3) := by decide +kernel
theorem dX6_rules_5 : decode cX6_rules 5 = .ok (.aload_n 0, 1) := by decide +kernel
theorem dX6_rules_6 : decode cX6_rules 6 = .ok (.iload_n 1, 1) := by decide +kernel
theorem dX6_rules_7 : decode cX6_rules 7 = .ok (.invokevirtual 63, 3) := by decide +kernel
theorem dX6_rules_10 : decode cX6_rules 10 = .ok (.ifCond .ne 9, 3) := by decide +kernel
theorem dX6_rules_13 : decode cX6_rules 13 = .ok (.aload_n 0, 1) := by decide +kernel
theorem dX6_rules_14 : decode cX6_rules 14 = .ok (.iconst 1, 1) := by decide +kernel
theorem dX6_rules_15 : decode cX6_rules 15 = .ok (.invokevirtual 55, 3) := by decide +kernel
theorem dX6_rules_18 : decode cX6_rules 18 = .ok (.ireturn, 1) := by decide +kernel
theorem dX6_rules_19 : decode cX6_rules 19 = .ok (.aload_n 0, 1) := by decide +kernel
theorem dX6_rules_20 : decode cX6_rules 20 = .ok (.invokevirtual 168, 3) := by decide +kernel
theorem dX6_rules_23 : decode cX6_rules 23 = .ok (.astore_n 2, 1) := by decide +kernel
theorem dX6_rules_24 : decode cX6_rules 24 = .ok (.iconst 0, 1) := by decide +kernel
theorem dX6_rules_25 : decode cX6_rules 25 = .ok (.istore_n 3, 1) := by decide +kernel
theorem dX6_rules_26 : decode cX6_rules 26 = .ok (.iload_n 3, 1) := by decide +kernel
theorem dX6_rules_27 : decode cX6_rules 27 = .ok (.bipush 100, 2) := by decide +kernel
theorem dX6_rules_29 : decode cX6_rules 29 = .ok (.if_icmp .ge 22, 3) := by decide +kernel
theorem dX6_rules_32 : decode cX6_rules 32 = .ok (.aload_n 0, 1) := by decide +kernel
theorem dX6_rules_33 : decode cX6_rules 33 = .ok (.iload_n 1, 1) := by decide +kernel
theorem dX6_rules_34 : decode cX6_rules 34 = .ok (.invokevirtual 150, 3) := by decide +kernel
theorem dX6_rules_37 : decode cX6_rules 37 = .ok (.ifCond .ne 14, 3) := by decide +kernel
theorem dX6_rules_40 : decode cX6_rules 40 = .ok (.aload_n 0, 1) := by decide +kernel
theorem dX6_rules_41 : decode cX6_rules 41 = .ok (.invokevirtual 156, 3) := by decide +kernel
theorem dX6_rules_44 : decode cX6_rules 44 = .ok (.pop, 1) := by decide +kernel
theorem dX6_rules_45 : decode cX6_rules 45 = .ok (.iinc 3 1, 3) := by decide +kernel
theorem dX6_rules_48 : decode cX6_rules 48 = .ok (.goto (-22), 3) := by decide +kernel
theorem dX6_rules_51 : decode cX6_rules 51 = .ok (.aload_n 0, 1) := by decide +kernel
theorem dX6_rules_52 : decode cX6_rules 52 = .ok (.iload_n 1, 1) := by decide +kernel
theorem dX6_rules_53 : decode cX6_rules 53 = .ok (.invokevirtual 150, 3) := by decide +kernel
theorem dX6_rules_56 : decode cX6_rules 56 = .ok (.ifCond .ne 5, 3) := by decide +kernel
theorem dX6_rules_59 : decode cX6_rules 59 = .ok (.iconst (-1), 1) := by decide +kernel
theorem dX6_rules_60 : decode cX6_rules 60 = .ok (.istore_n 3, 1) := by decide +kernel
theorem dX6_rules_61 : decode cX6_rules 61 = .ok (.aload_n 0, 1) := by decide +kernel
theorem dX6_rules_62 : decode cX6_rules 62 = .ok (.aload_n 2, 1) := by decide +kernel
theorem dX6_rules_63 : decode cX6_rules 63 = .ok (.invokevirtual 171, 3) := by decide +kernel
theorem dX6_rules_66 : decode cX6_rules 66 = .ok (.iload_n 3, 1) := by decide +kernel
theorem dX6_rules_67 : decode cX6_rules 67 = .ok (.ireturn, 1) := by decide +kernel
theorem dX6_foresee_0 : decode cX6_foresee 0 = .ok (.aload_n 0, 1) := by decide +kernel
theorem dX6_foresee_1 : decode cX6_foresee 1 = .ok (.iconst 0, 1) := by decide +kernel
theorem dX6_foresee_2 : decode cX6_foresee 2 = .ok (.putfield 31, 3) := by decide +kernel
theorem dX6_foresee_5 : decode cX6_foresee 5 = .ok (.iload_n 1, 1) := by decide +kernel
theorem dX6_foresee_6 : decode cX6_foresee 6 = .ok (.iconst 1, 1) := by decide +kernel
theorem dX6_foresee_7 : decode cX6_foresee 7 = .ok (.bipush 100, 2) := by decide +kernel
theorem dX6_foresee_9 : decode cX6_foresee 9 = .ok (.invokestatic 38, 3) := by decide +kernel
theorem dX6_foresee_12 : decode cX6_foresee 12 = .ok (.ifCond .ne 9, 3) := by decide +kernel
theorem dX6_foresee_15 : decode cX6_foresee 15 = .ok (.aload_n 0, 1) := by decide +kernel
theorem dX6_foresee_16 : decode cX6_foresee 16 = .ok (.iconst 1, 1) := by decide +kernel
theorem dX6_foresee_17 : decode cX6_foresee 17 = .ok (.invokevirtual 55, 3) := by decide +kernel
theorem dX6_foresee_20 : decode cX6_foresee 20 = .ok (.ireturn, 1) := by decide +kernel
theorem dX6_foresee_21 : decode cX6_foresee 21 = .ok (.aload_n 0, 1) := by decide +kernel
theorem dX6_foresee_22 : decode cX6_foresee 22 = .ok (.iload_n 2, 1) := by decide +kernel
theorem dX6_foresee_23 : decode cX6_foresee 23 = .ok (.invokevirtual 74, 3) := by decide +kernel
theorem dX6_foresee_26 : decode cX6_foresee 26 = .ok (.ifCond .ne 9, 3) := by decide +kernel
theorem dX6_foresee_29 : decode cX6_foresee 29 = .ok (.aload_n 0, 1) := by decide +kernel
theorem dX6_foresee_30 : decode cX6_foresee 30 = .ok (.iconst 2, 1) := by decide +kernel
theorem dX6_foresee_31 : decode cX6_foresee 31 = .ok (.invokevirtual 55, 3) := by decide +kernel
theorem dX6_foresee_34 : decode cX6_foresee 34 = .ok (.ireturn, 1) := by decide +kernel
theorem dX6_foresee_35 : decode cX6_foresee 35 = .ok (.aload_n 0, 1) := by decide +kernel
theorem dX6_foresee_36 : decode cX6_foresee 36 = .ok (.invokevirtual 168, 3) := by decide +kernel
theorem dX6_foresee_39 : decode cX6_foresee 39 = .ok (.astore_n 3, 1) := by decide +kernel
theorem dX6_foresee_40 : decode cX6_foresee 40 = .ok (.aload_n 0, 1) := by decide +kernel
theorem dX6_foresee_41 : decode cX6_foresee 41 = .ok (.iload_n 1, 1) := by decide +kernel
theorem dX6_foresee_42 : decode cX6_foresee 42 = .ok (.invokevirtual 160, 3) := by decide +kernel
theorem dX6_foresee_45 : decode cX6_foresee 45 = .ok (.pop, 1) := by decide +kernel
theorem dX6_foresee_46 : decode cX6_foresee 46 = .ok (.aload_n 0, 1) := by decide +kernel
theorem dX6_foresee_47 : decode cX6_foresee 47 = .ok (.iload_n 2, 1) := by decide +kernel
theorem dX6_foresee_48 : decode cX6_foresee 48 = .ok (.iconst 2, 1) := by decide +kernel
theorem dX6_foresee_49 : decode cX6_foresee 49 = .ok (.invokevirtual 77, 3) := by decide +kernel
theorem dX6_foresee_52 : decode cX6_foresee 52 = .ok (.istore 4, 2) := by decide +kernel
theorem dX6_foresee_54 : decode cX6_foresee 54 = .ok (.aload_n 0, 1) := by decide +kernel
theorem dX6_foresee_55 : decode cX6_foresee 55 = .ok (.aload_n 3, 1) := by decide +kernel
theorem dX6_foresee_56 : decode cX6_foresee 56 = .ok (.invokevirtual 171, 3) := by decide +kernel
theorem dX6_foresee_59 : decode cX6_foresee 59 = .ok (.iload 4, 2) := by decide +kernel
theorem dX6_foresee_61 : decode cX6_foresee 61 = .ok (.ireturn, 1) := by decide +kernel
theorem dX6_best_0 : decode cX6_best 0 = .ok (.aload_n 0, 1) := by decide +kernel
theorem dX6_best_1 : decode cX6_best 1 = .ok (.iconst 0, 1) := by decide +kernel
theorem dX6_best_2 : decode cX6_best 2 = .ok (.putfield 31, 3) := by decide +kernel
theorem dX6_best_5 : decode cX6_best 5 = .ok (.aload_n 0, 1) := by decide +kernel
theorem dX6_best_6 : decode cX6_best 6 = .ok (.iload_n 1, 1) := by decide +kernel
theorem dX6_best_7 : decode cX6_best 7 = .ok (.invokevirtual 63, 3) := by decide +kernel
theorem dX6_best_10 : decode cX6_best 10 = .ok (.ifCond .ne 9, 3) := by decide +kernel
theorem dX6_best_13 : decode cX6_best 13 = .ok (.aload_n 0, 1) := by decide +kernel
theorem dX6_best_14 : decode cX6_best 14 = .ok (.iconst 1, 1) := by decide +kernel
theorem dX6_best_15 : decode cX6_best 15 = .ok (.invokevirtual 55, 3) := by decide +kernel
theorem dX6_best_18 : decode cX6_best 18 = .ok (.ireturn, 1) := by decide +kernel
theorem dX6_best_19 : decode cX6_best 19 = .ok (.iconst (-1), 1) := by decide +kernel
theorem dX6_best_20 : decode cX6_best 20 = .ok (.istore_n 2, 1) := by decide +kernel
theorem dX6_best_21 : decode cX6_best 21 = .ok (.iconst 0, 1) := by decide +kernel
theorem dX6_best_22 : decode cX6_best 22 = .ok (.istore_n 3, 1) := by decide +kernel
theorem dX6_best_23 : decode cX6_best 23 = .ok (.iload_n 3, 1) := by decide +kernel
theorem dX6_best_24 : decode cX6_best 24 = .ok (.aload_n 0, 1) := by decide +kernel
theorem dX6_best_25 : decode cX6_best 25 = .ok (.getfield 35, 3) := by decide +kernel
theorem dX6_best_28 : decode cX6_best 28 = .ok (.if_icmp .ge 38, 3) := by decide +kernel
theorem dX6_best_31 : decode cX6_best 31 = .ok (.aload_n 0, 1) := by decide +kernel
theorem dX6_best_32 : decode cX6_best 32 = .ok (.iload_n 1, 1) := by decide +kernel
theorem dX6_best_33 : decode cX6_best 33 = .ok (.iload_n 3, 1) := by decide +kernel
theorem dX6_best_34 : decode cX6_best 34 = .ok (.invokevirtual 118, 3) := by decide +kernel
theorem dX6_best_37 : decode cX6_best 37 = .ok (.ifCond .eq 23, 3) := by decide +kernel
theorem dX6_best_40 : decode cX6_best 40 = .ok (.iload_n 2, 1) := by decide +kernel
theorem dX6_best_41 : decode cX6_best 41 = .ok (.iconst (-1), 1) := by decide +kernel
theorem dX6_best_42 : decode cX6_best 42 = .ok (.if_icmp .eq 16, 3) := by decide +kernel
theorem dX6_best_45 : decode cX6_best 45 = .ok (.aload_n 0, 1) := by decide +kernel
theorem dX6_best_46 : decode cX6_best 46 = .ok (.iload_n 3, 1) := by decide +kernel
theorem dX6_best_47 : decode cX6_best 47 = .ok (.invokevirtual 125, 3) := by decide +kernel
theorem dX6_best_50 : decode cX6_best 50 = .ok (.aload_n 0, 1) := by decide +kernel
theorem dX6_best_51 : decode cX6_best 51 = .ok (.iload_n 2, 1) := by decide +kernel
theorem dX6_best_52 : decode cX6_best 52 = .ok (.invokevirtual 125, 3) := by decide +kernel
theorem dX6_best_55 : decode cX6_best 55 = .ok (.if_icmp .le 5, 3) := by decide +kernel
theorem dX6_best_58 : decode cX6_best 58 = .ok (.iload_n 3, 1) := by decide +kernel
theorem dX6_best_59 : decode cX6_best 59 = .ok (.istore_n 2, 1) := by decide +kernel
theorem dX6_best_60 : decode cX6_best 60 = .ok (.iinc 3 1, 3) := by decide +kernel
theorem dX6_best_63 : decode cX6_best 63 = .ok (.goto (-40), 3) := by decide +kernel
theorem dX6_best_66 : decode cX6_best 66 = .ok (.iload_n 2, 1) := by decide +kernel
theorem dX6_best_67 : decode cX6_best 67 = .ok (.ireturn, 1) := by decide +kernel
theorem dX6_mean_0 : decode cX6_mean 0 = .ok (.aload_n 0, 1) := by decide +kernel
theorem dX6_mean_1 : decode cX6_mean 1 = .ok (.iconst 0, 1) := by decide +kernel
theorem dX6_mean_2 : decode cX6_mean 2 = .ok (.putfield 31, 3) := by decide +kernel
theorem dX6_mean_5 : decode cX6_mean 5 = .ok (.iconst 0, 1) := by decide +kernel
theorem dX6_mean_6 : decode cX6_mean 6 = .ok (.istore_n 1, 1) := by decide +kernel
theorem dX6_mean_7 : decode cX6_mean 7 = .ok (.iconst 0, 1) := by decide +kernel
theorem dX6_mean_8 : decode cX6_mean 8 = .ok (.istore_n 2, 1) := by decide +kernel
theorem dX6_mean_9 : decode cX6_mean 9 = .ok (.iload_n 2, 1) := by decide +kernel
theorem dX6_mean_10 : decode cX6_mean 10 = .ok (.aload_n 0, 1) := by decide +kernel
theorem dX6_mean_11 : decode cX6_mean 11 = .ok (.getfield 35, 3) := by decide +kernel
theorem dX6_mean_14 : decode cX6_mean 14 = .ok (.if_icmp .ge 29, 3) := by decide +kernel
theorem dX6_mean_17 : decode cX6_mean 17 = .ok (.iload_n 1, 1) := by decide +kernel
theorem dX6_mean_18 : decode cX6_mean 18 = .ok (.aload_n 0, 1) := by decide +kernel
theorem dX6_mean_19 : decode cX6_mean 19 = .ok (.iload_n 2, 1) := by decide +kernel
theorem dX6_mean_20 : decode cX6_mean 20 = .ok (.invokevirtual 67, 3) := by decide +kernel
theorem dX6_mean_23 : decode cX6_mean 23 = .ok (.ifCond .eq 11, 3) := by decide +kernel
theorem dX6_mean_26 : decode cX6_mean 26 = .ok (.aload_n 0, 1) := by decide +kernel
theorem dX6_mean_27 : decode cX6_mean 27 = .ok (.iload_n 2, 1) := by decide +kernel
theorem dX6_mean_28 : decode cX6_mean 28 = .ok (.invokevirtual 112, 3) := by decide +kernel
theorem dX6_mean_31 : decode cX6_mean 31 = .ok (.goto 4, 3) := by decide +kernel
theorem dX6_mean_34 : decode cX6_mean 34 = .ok (.iconst 0, 1) := by decide +kernel
theorem dX6_mean_35 : decode cX6_mean 35 = .ok (.iadd, 1) := by decide +kernel
theorem dX6_mean_36 : decode cX6_mean 36 = .ok (.istore_n 1, 1) := by decide +kernel
theorem dX6_mean_37 : decode cX6_mean 37 = .ok (.iinc 2 1, 3) := by decide +kernel
theorem dX6_mean_40 : decode cX6_mean 40 = .ok (.goto (-31), 3) := by decide +kernel
theorem dX6_mean_43 : decode cX6_mean 43 = .ok (.aload_n 0, 1) := by decide +kernel
theorem dX6_mean_44 : decode cX6_mean 44 = .ok (.iconst 2, 1) := by decide +kernel
theorem dX6_mean_45 : decode cX6_mean 45 = .ok (.invokevirtual 153, 3) := by decide +kernel
theorem dX6_mean_48 : decode cX6_mean 48 = .ok (.ifCond .ne 7, 3) := by decide +kernel
theorem dX6_mean_51 : decode cX6_mean 51 = .ok (.dconst 0, 1) := by decide +kernel
theorem dX6_mean_52 : decode cX6_mean 52 = .ok (.goto 12, 3) := by decide +kernel
theorem dX6_mean_55 : decode cX6_mean 55 = .ok (.iload_n 1, 1) := by decide +kernel
theorem dX6_mean_56 : decode cX6_mean 56 = .ok (.i2d, 1) := by decide +kernel
theorem dX6_mean_57 : decode cX6_mean 57 = .ok (.aload_n 0, 1) := by decide +kernel
theorem dX6_mean_58 : decode cX6_mean 58 = .ok (.iconst 2, 1) := by decide +kernel
theorem dX6_mean_59 : decode cX6_mean 59 = .ok (.invokevirtual 153, 3) := by decide +kernel
theorem dX6_mean_62 : decode cX6_mean 62 = .ok (.i2d, 1) := by decide +kernel
theorem dX6_mean_63 : decode cX6_mean 63 = .ok (.ddiv, 1) := by decide +kernel
theorem dX6_mean_64 : decode cX6_mean 64 = .ok (.dreturn, 1) := by decide +kernel
theorem dX6_digest_0 : decode cX6_digest 0 = .ok (.aload_n 0, 1) := by decide +kernel
theorem dX6_digest_1 : decode cX6_digest 1 = .ok (.iconst 0, 1) := by decide +kernel
theorem dX6_digest_2 : decode cX6_digest 2 = .ok (.putfield 31, 3) := by decide +kernel
theorem dX6_digest_5 : decode cX6_digest 5 = .ok (.ldc2_w 175, 3) := by decide +kernel
theorem dX6_digest_8 : decode cX6_digest 8 = .ok (.lstore_n 1, 1) := by decide +kernel
theorem dX6_digest_9 : decode cX6_digest 9 = .ok (.iconst 0, 1) := by decide +kernel
theorem dX6_digest_10 : decode cX6_digest 10 = .ok (.istore_n 3, 1) := by decide +kernel
theorem dX6_digest_11 : decode cX6_digest 11 = .ok (.iload_n 3, 1) := by decide +kernel
theorem dX6_digest_12 : decode cX6_digest 12 = .ok (.bipush 8, 2) := by decide +kernel
theorem dX6_digest_14 : decode cX6_digest 14 = .ok (.if_icmp .ge 22, 3) := by decide +kernel
theorem dX6_digest_17 : decode cX6_digest 17 = .ok (.lload_n 1, 1) := by decide +kernel
theorem dX6_digest_18 : decode cX6_digest 18 = .ok (.ldc2_w 177, 3) := by decide +kernel
theorem dX6_digest_21 : decode cX6_digest 21 = .ok (.lmul, 1) := by decide +kernel
theorem dX6_digest_22 : decode cX6_digest 22 = .ok (.aload_n 0, 1) := by decide +kernel
theorem dX6_digest_23 : decode cX6_digest 23 = .ok (.iload_n 3, 1) := by decide +kernel
theorem dX6_digest_24 : decode cX6_digest 24 = .ok (.invokevirtual 153, 3) := by decide +kernel
theorem dX6_digest_27 : decode cX6_digest 27 = .ok (.i2l, 1) := by decide +kernel
theorem dX6_digest_28 : decode cX6_digest 28 = .ok (.ladd, 1) := by decide +kernel
theorem dX6_digest_29 : decode cX6_digest 29 = .ok (.lstore_n 1, 1) := by decide +kernel
theorem dX6_digest_30 : decode cX6_digest 30 = .ok (.iinc 3 1, 3) := by decide +kernel
theorem dX6_digest_33 : decode cX6_digest 33 = .ok (.goto (-22), 3) := by decide +kernel
theorem dX6_digest_36 : decode cX6_digest 36 = .ok (.iconst 0, 1) := by decide +kernel
theorem dX6_digest_37 : decode cX6_digest 37 = .ok (.istore_n 3, 1) := by decide +kernel
theorem dX6_digest_38 : decode cX6_digest 38 = .ok (.iload_n 3, 1) := by decide +kernel
theorem dX6_digest_39 : decode cX6_digest 39 = .ok (.aload_n 0, 1) := by decide +kernel
theorem dX6_digest_40 : decode cX6_digest 40 = .ok (.getfield 35, 3) := by decide +kernel
theorem dX6_digest_43 : decode cX6_digest 43 = .ok (.if_icmp .ge 40, 3) := by decide +kernel
theorem dX6_digest_46 : decode cX6_digest 46 = .ok (.iconst 0, 1) := by decide +kernel
theorem dX6_digest_47 : decode cX6_digest 47 = .ok (.istore 4, 2) := by decide +kernel
theorem dX6_digest_49 : decode cX6_digest 49 = .ok (.iload 4, 2) := by decide +kernel
theorem dX6_digest_51 : decode cX6_digest 51 = .ok (.bipush 10, 2) := by decide +kernel
theorem dX6_digest_53 : decode cX6_digest 53 = .ok (.if_icmp .ge 24, 3) := by decide +kernel
theorem dX6_digest_56 : decode cX6_digest 56 = .ok (.lload_n 1, 1) := by decide +kernel
theorem dX6_digest_57 : decode cX6_digest 57 = .ok (.ldc2_w 177, 3) := by decide +kernel
theorem dX6_digest_60 : decode cX6_digest 60 = .ok (.lmul, 1) := by decide +kernel
theorem dX6_digest_61 : decode cX6_digest 61 = .ok (.aload_n 0, 1) := by decide +kernel
theorem dX6_digest_62 : decode cX6_digest 62 = .ok (.iload_n 3, 1) := by decide +kernel
theorem dX6_digest_63 : decode cX6_digest 63 = .ok (.iload 4, 2) := by decide +kernel
theorem dX6_digest_65 : decode cX6_digest 65 = .ok (.invokevirtual 138, 3) := by decide +kernel
theorem dX6_digest_68 : decode cX6_digest 68 = .ok (.i2l, 1) := by decide +kernel
theorem dX6_digest_69 : decode cX6_digest 69 = .ok (.ladd, 1) := by decide +kernel
theorem dX6_digest_70 : decode cX6_digest 70 = .ok (.lstore_n 1, 1) := by decide +kernel
theorem dX6_digest_71 : decode cX6_digest 71 = .ok (.iinc 4 1, 3) := by decide +kernel
theorem dX6_digest_74 : decode cX6_digest 74 = .ok (.goto (-25), 3) := by decide +kernel
theorem dX6_digest_77 : decode cX6_digest 77 = .ok (.iinc 3 1, 3) := by decide +kernel
theorem dX6_digest_80 : decode cX6_digest 80 = .ok (.goto (-42), 3) := by decide +kernel
theorem dX6_digest_83 : decode cX6_digest 83 = .ok (.iconst 0, 1) := by decide +kernel
theorem dX6_digest_84 : decode cX6_digest 84 = .ok (.istore_n 3, 1) := by decide +kernel
theorem dX6_digest_85 : decode cX6_digest 85 = .ok (.iload_n 3, 1) := by decide +kernel
theorem dX6_digest_86 : decode cX6_digest 86 = .ok (.aload_n 0, 1) := by decide +kernel
theorem dX6_digest_87 : decode cX6_digest 87 = .ok (.getfield 42, 3) := by decide +kernel
theorem dX6_digest_90 : decode cX6_digest 90 = .ok (.if_icmp .ge 79, 3) := by decide +kernel
theorem dX6_digest_93 : decode cX6_digest 93 = .ok (.iconst 0, 1) := by decide +kernel
theorem dX6_digest_94 : decode cX6_digest 94 = .ok (.istore 4, 2) := by decide +kernel
theorem dX6_digest_96 : decode cX6_digest 96 = .ok (.iload 4, 2) := by decide +kernel
theorem dX6_digest_98 : decode cX6_digest 98 = .ok (.bipush 6, 2) := by decide +kernel
theorem dX6_digest_100 : decode cX6_digest 100 = .ok (.if_icmp .ge 24, 3) := by decide +kernel
theorem dX6_digest_103 : decode cX6_digest 103 = .ok (.lload_n 1, 1) := by decide +kernel
theorem dX6_digest_104 : decode cX6_digest 104 = .ok (.ldc2_w 177, 3) := by decide +kernel
theorem dX6_digest_107 : decode cX6_digest 107 = .ok (.lmul, 1) := by decide +kernel
theorem dX6_digest_108 : decode cX6_digest 108 = .ok (.aload_n 0, 1) := by decide +kernel
theorem dX6_digest_109 : decode cX6_digest 109 = .ok (.iload_n 3, 1) := by decide +kernel
theorem dX6_digest_110 : decode cX6_digest 110 = .ok (.iload 4, 2) := by decide +kernel
theorem dX6_digest_112 : decode cX6_digest 112 = .ok (.invokevirtual 144, 3) := by decide +kernel
theorem dX6_digest_115 : decode cX6_digest 115 = .ok (.i2l, 1) := by decide +kernel
theorem dX6_digest_116 : decode cX6_digest 116 = .ok (.ladd, 1) := by decide +kernel
theorem dX6_digest_117 : decode cX6_digest 117 = .ok (.lstore_n 1, 1) := by decide +kernel
theorem dX6_digest_118 : decode cX6_digest 118 = .ok (.iinc 4 1, 3) := by decide +kernel
theorem dX6_digest_121 : decode cX6_digest 121 = .ok (.goto (-25), 3) := by decide +kernel
theorem dX6_digest_124 : decode cX6_digest 124 = .ok (.iconst 0, 1) := by decide +kernel
theorem dX6_digest_125 : decode cX6_digest 125 = .ok (.istore 4, 2) := by decide +kernel
theorem dX6_digest_127 : decode cX6_digest 127 = .ok (.iload 4, 2) := by decide +kernel
theorem dX6_digest_129 : decode cX6_digest 129 = .ok (.aload_n 0, 1) := by decide +kernel
theorem dX6_digest_130 : decode cX6_digest 130 = .ok (.iload_n 3, 1) := by decide +kernel
theorem dX6_digest_131 : decode cX6_digest 131 = .ok (.invokevirtual 147, 3) := by decide +kernel
theorem dX6_digest_134 : decode cX6_digest 134 = .ok (.if_icmp .ge 29, 3) := by decide +kernel
theorem dX6_digest_137 : decode cX6_digest 137 = .ok (.lload_n 1, 1) := by decide +kernel
theorem dX6_digest_138 : decode cX6_digest 138 = .ok (.ldc2_w 177, 3) := by decide +kernel
theorem dX6_digest_141 : decode cX6_digest 141 = .ok (.lmul, 1) := by decide +kernel
theorem dX6_digest_142 : decode cX6_digest 142 = .ok (.aload_n 0, 1) := by decide +kernel
theorem dX6_digest_143 : decode cX6_digest 143 = .ok (.getfield 16, 3) := by decide +kernel
theorem dX6_digest_146 : decode cX6_digest 146 = .ok (.bipush 15, 2) := by decide +kernel
theorem dX6_digest_148 : decode cX6_digest 148 = .ok (.iload_n 3, 1) := by decide +kernel
theorem dX6_digest_149 : decode cX6_digest 149 = .ok (.imul, 1) := by decide +kernel
theorem dX6_digest_150 : decode cX6_digest 150 = .ok (.iload 4, 2) := by decide +kernel
theorem dX6_digest_152 : decode cX6_digest 152 = .ok (.iadd, 1) := by decide +kernel
theorem dX6_digest_153 : decode cX6_digest 153 = .ok (.iaload, 1) := by decide +kernel
theorem dX6_digest_154 : decode cX6_digest 154 = .ok (.i2l, 1) := by decide +kernel
theorem dX6_digest_155 : decode cX6_digest 155 = .ok (.ladd, 1) := by decide +kernel
theorem dX6_digest_156 : decode cX6_digest 156 = .ok (.lstore_n 1, 1) := by decide +kernel
theorem dX6_digest_157 : decode cX6_digest 157 = .ok (.iinc 4 1, 3) := by decide +kernel
theorem dX6_digest_160 : decode cX6_digest 160 = .ok (.goto (-33), 3) := by decide +kernel
theorem dX6_digest_163 : decode cX6_digest 163 = .ok (.iinc 3 1, 3) := by decide +kernel
theorem dX6_digest_166 : decode cX6_digest 166 = .ok (.goto (-81), 3) := by decide +kernel
theorem dX6_digest_169 : decode cX6_digest 169 = .ok (.lload_n 1, 1) := by decide +kernel
theorem dX6_digest_170 : decode cX6_digest 170 = .ok (.lreturn, 1) := by decide +kernel
theorem dL_come_0 : decode cL_come 0 = .ok (.aload_n 3, 1) := by decide +kernel
theorem dL_come_1 : decode cL_come 1 = .ok (.iconst 0, 1) := by decide +kernel
theorem dL_come_2 : decode cL_come 2 = .ok (.aload_n 0, 1) := by decide +kernel
theorem dL_come_3 : decode cL_come 3 = .ok (.iload_n 1, 1) := by decide +kernel
theorem dL_come_4 : decode cL_come 4 = .ok (.iload_n 2, 1) := by decide +kernel
theorem dL_come_5 : decode cL_come 5 = .ok (.invokevirtual 7, 3) := by decide +kernel
theorem dL_come_8 : decode cL_come 8 = .ok (.i2l, 1) := by decide +kernel
theorem dL_come_9 : decode cL_come 9 = .ok (.lastore, 1) := by decide +kernel
theorem dL_come_10 : decode cL_come 10 = .ok (.goto 11, 3) := by decide +kernel
theorem dL_come_13 : decode cL_come 13 = .ok (.astore 4, 2) := by decide +kernel
theorem dL_come_15 : decode cL_come 15 = .ok (.iconst 1, 1) := by decide +kernel
theorem dL_come_16 : decode cL_come 16 = .ok (.ireturn, 1) := by decide +kernel
theorem dL_come_17 : decode cL_come 17 = .ok (.astore 4, 2) := by decide +kernel
theorem dL_come_19 : decode cL_come 19 = .ok (.iconst 2, 1) := by decide +kernel
theorem dL_come_20 : decode cL_come 20 = .ok (.ireturn, 1) := by decide +kernel
theorem dL_come_21 : decode cL_come 21 = .ok (.iconst 0, 1) := by decide +kernel
theorem dL_come_22 : decode cL_come 22 = .ok (.ireturn, 1) := by decide +kernel
theorem dL_bear_0 : decode cL_bear 0 = .ok (.aload_n 3, 1) := by decide +kernel
theorem dL_bear_1 : decode cL_bear 1 = .ok (.iconst 0, 1) := by decide +kernel
theorem dL_bear_2 : decode cL_bear 2 = .ok (.aload_n 0, 1) := by decide +kernel
theorem dL_bear_3 : decode cL_bear 3 = .ok (.iload_n 1, 1) := by decide +kernel
theorem dL_bear_4 : decode cL_bear 4 = .ok (.iload_n 2, 1) := by decide +kernel
theorem dL_bear_5 : decode cL_bear 5 = .ok (.invokevirtual 17, 3) := by decide +kernel
theorem dL_bear_8 : decode cL_bear 8 = .ok (.i2l, 1) := by decide +kernel
theorem dL_bear_9 : decode cL_bear 9 = .ok (.lastore, 1) := by decide +kernel
theorem dL_bear_10 : decode cL_bear 10 = .ok (.goto 11, 3) := by decide +kernel
theorem dL_bear_13 : decode cL_bear 13 = .ok (.astore 4, 2) := by decide +kernel
theorem dL_bear_15 : decode cL_bear 15 = .ok (.iconst 1, 1) := by decide +kernel
theorem dL_bear_16 : decode cL_bear 16 = .ok (.ireturn, 1) := by decide +kernel
theorem dL_bear_17 : decode cL_bear 17 = .ok (.astore 4, 2) := by decide +kernel
theorem dL_bear_19 : decode cL_bear 19 = .ok (.iconst 2, 1) := by decide +kernel
theorem dL_bear_20 : decode cL_bear 20 = .ok (.ireturn, 1) := by decide +kernel
theorem dL_bear_21 : decode cL_bear 21 = .ok (.iconst 0, 1) := by decide +kernel
theorem dL_bear_22 : decode cL_bear 22 = .ok (.ireturn, 1) := by decide +kernel
theorem dL_found_0 : decode cL_found 0 = .ok (.aload 4, 2) := by decide +kernel
theorem dL_found_2 : decode cL_found 2 = .ok (.iconst 0, 1) := by decide +kernel
theorem dL_found_3 : decode cL_found 3 = .ok (.aload_n 0, 1) := by decide +kernel
theorem dL_found_4 : decode cL_found 4 = .ok (.iload_n 1, 1) := by decide +kernel
theorem dL_found_5 : decode cL_found 5 = .ok (.iload_n 2, 1) := by decide +kernel
theorem dL_found_6 : decode cL_found 6 = .ok (.iload_n 3, 1) := by decide +kernel
theorem dL_found_7 : decode cL_found 7 = .ok (.invokevirtual 23, 3) := by decide +kernel
theorem dL_found_10 : decode cL_found 10 = .ok (.i2l, 1) := by decide +kernel
theorem dL_found_11 : decode cL_found 11 = .ok (.lastore, 1) := by decide +kernel
theorem dL_found_12 : decode cL_found 12 = .ok (.goto 15, 3) := by decide +kernel
theorem dL_found_15 : decode cL_found 15 = .ok (.astore 5, 2) := by decide +kernel
theorem dL_found_17 : decode cL_found 17 = .ok (.iconst 1, 1) := by decide +kernel
theorem dL_found_18 : decode cL_found 18 = .ok (.ireturn, 1) := by decide +kernel
theorem dL_found_19 : decode cL_found 19 = .ok (.astore 5, 2) := by decide +kernel
theorem dL_found_21 : decode cL_found 21 = .ok (.iconst 2, 1) := by decide +kernel
theorem dL_found_22 : decode cL_found 22 = .ok (.ireturn, 1) := by decide +kernel
theorem dL_found_23 : decode cL_found 23 = .ok (.astore 5, 2) := by decide +kernel
theorem dL_found_25 : decode cL_found 25 = .ok (.iconst 3, 1) := by decide +kernel
theorem dL_found_26 : decode cL_found 26 = .ok (.ireturn, 1) := by decide +kernel
theorem dL_found_27 : decode cL_found 27 = .ok (.iconst 0, 1) := by decide +kernel
theorem dL_found_28 : decode cL_found 28 = .ok (.ireturn, 1) := by decide +kernel
theorem dL_setLaw_0 : decode cL_setLaw 0 = .ok (.aload_n 3, 1) := by decide +kernel
theorem dL_setLaw_1 : decode cL_setLaw 1 = .ok (.iconst 0, 1) := by decide +kernel
theorem dL_setLaw_2 : decode cL_setLaw 2 = .ok (.aload_n 0, 1) := by decide +kernel
theorem dL_setLaw_3 : decode cL_setLaw 3 = .ok (.iload_n 1, 1) := by decide +kernel
theorem dL_setLaw_4 : decode cL_setLaw 4 = .ok (.iload_n 2, 1) := by decide +kernel
theorem dL_setLaw_5 : decode cL_setLaw 5 = .ok (.invokevirtual 27, 3) := by decide +kernel
theorem dL_setLaw_8 : decode cL_setLaw 8 = .ok (.i2l, 1) := by decide +kernel
theorem dL_setLaw_9 : decode cL_setLaw 9 = .ok (.lastore, 1) := by decide +kernel
theorem dL_setLaw_10 : decode cL_setLaw 10 = .ok (.goto 11, 3) := by decide +kernel
theorem dL_setLaw_13 : decode cL_setLaw 13 = .ok (.astore 4, 2) := by decide +kernel
theorem dL_setLaw_15 : decode cL_setLaw 15 = .ok (.iconst 1, 1) := by decide +kernel
theorem dL_setLaw_16 : decode cL_setLaw 16 = .ok (.ireturn, 1) := by decide +kernel
theorem dL_setLaw_17 : decode cL_setLaw 17 = .ok (.astore 4, 2) := by decide +kernel
theorem dL_setLaw_19 : decode cL_setLaw 19 = .ok (.iconst 2, 1) := by decide +kernel
theorem dL_setLaw_20 : decode cL_setLaw 20 = .ok (.ireturn, 1) := by decide +kernel
theorem dL_setLaw_21 : decode cL_setLaw 21 = .ok (.iconst 0, 1) := by decide +kernel
theorem dL_setLaw_22 : decode cL_setLaw 22 = .ok (.ireturn, 1) := by decide +kernel
theorem dL_marry_0 : decode cL_marry 0 = .ok (.aload 4, 2) := by decide +kernel
theorem dL_marry_2 : decode cL_marry 2 = .ok (.iconst 0, 1) := by decide +kernel
theorem dL_marry_3 : decode cL_marry 3 = .ok (.aload_n 0, 1) := by decide +kernel
theorem dL_marry_4 : decode cL_marry 4 = .ok (.iload_n 1, 1) := by decide +kernel
theorem dL_marry_5 : decode cL_marry 5 = .ok (.iload_n 2, 1) := by decide +kernel
theorem dL_marry_6 : decode cL_marry 6 = .ok (.iload_n 3, 1) := by decide +kernel
theorem dL_marry_7 : decode cL_marry 7 = .ok (.invokevirtual 31, 3) := by decide +kernel
theorem dL_marry_10 : decode cL_marry 10 = .ok (.i2l, 1) := by decide +kernel
theorem dL_marry_11 : decode cL_marry 11 = .ok (.lastore, 1) := by decide +kernel
theorem dL_marry_12 : decode cL_marry 12 = .ok (.goto 11, 3) := by decide +kernel
theorem dL_marry_15 : decode cL_marry 15 = .ok (.astore 5, 2) := by decide +kernel
theorem dL_marry_17 : decode cL_marry 17 = .ok (.iconst 1, 1) := by decide +kernel
theorem dL_marry_18 : decode cL_marry 18 = .ok (.ireturn, 1) := by decide +kernel
theorem dL_marry_19 : decode cL_marry 19 = .ok (.astore 5, 2) := by decide +kernel
theorem dL_marry_21 : decode cL_marry 21 = .ok (.iconst 2, 1) := by decide +kernel
theorem dL_marry_22 : decode cL_marry 22 = .ok (.ireturn, 1) := by decide +kernel
theorem dL_marry_23 : decode cL_marry 23 = .ok (.iconst 0, 1) := by decide +kernel
theorem dL_marry_24 : decode cL_marry 24 = .ok (.ireturn, 1) := by decide +kernel
theorem dL_annul_0 : decode cL_annul 0 = .ok (.aload_n 2, 1) := by decide +kernel
theorem dL_annul_1 : decode cL_annul 1 = .ok (.iconst 0, 1) := by decide +kernel
theorem dL_annul_2 : decode cL_annul 2 = .ok (.aload_n 0, 1) := by decide +kernel
theorem dL_annul_3 : decode cL_annul 3 = .ok (.iload_n 1, 1) := by decide +kernel
theorem dL_annul_4 : decode cL_annul 4 = .ok (.invokevirtual 34, 3) := by decide +kernel
theorem dL_annul_7 : decode cL_annul 7 = .ok (.i2l, 1) := by decide +kernel
theorem dL_annul_8 : decode cL_annul 8 = .ok (.lastore, 1) := by decide +kernel
theorem dL_annul_9 : decode cL_annul 9 = .ok (.goto 9, 3) := by decide +kernel
theorem dL_annul_12 : decode cL_annul 12 = .ok (.astore_n 3, 1) := by decide +kernel
theorem dL_annul_13 : decode cL_annul 13 = .ok (.iconst 1, 1) := by decide +kernel
theorem dL_annul_14 : decode cL_annul 14 = .ok (.ireturn, 1) := by decide +kernel
theorem dL_annul_15 : decode cL_annul 15 = .ok (.astore_n 3, 1) := by decide +kernel
theorem dL_annul_16 : decode cL_annul 16 = .ok (.iconst 2, 1) := by decide +kernel
theorem dL_annul_17 : decode cL_annul 17 = .ok (.ireturn, 1) := by decide +kernel
theorem dL_annul_18 : decode cL_annul 18 = .ok (.iconst 0, 1) := by decide +kernel
theorem dL_annul_19 : decode cL_annul 19 = .ok (.ireturn, 1) := by decide +kernel
theorem dL_die_0 : decode cL_die 0 = .ok (.aload_n 2, 1) := by decide +kernel
theorem dL_die_1 : decode cL_die 1 = .ok (.iconst 0, 1) := by decide +kernel
theorem dL_die_2 : decode cL_die 2 = .ok (.aload_n 0, 1) := by decide +kernel
theorem dL_die_3 : decode cL_die 3 = .ok (.iload_n 1, 1) := by decide +kernel
theorem dL_die_4 : decode cL_die 4 = .ok (.invokevirtual 38, 3) := by decide +kernel
theorem dL_die_7 : decode cL_die 7 = .ok (.i2l, 1) := by decide +kernel
theorem dL_die_8 : decode cL_die 8 = .ok (.lastore, 1) := by decide +kernel
theorem dL_die_9 : decode cL_die 9 = .ok (.goto 9, 3) := by decide +kernel
theorem dL_die_12 : decode cL_die 12 = .ok (.astore_n 3, 1) := by decide +kernel
theorem dL_die_13 : decode cL_die 13 = .ok (.iconst 1, 1) := by decide +kernel
theorem dL_die_14 : decode cL_die 14 = .ok (.ireturn, 1) := by decide +kernel
theorem dL_die_15 : decode cL_die 15 = .ok (.astore_n 3, 1) := by decide +kernel
theorem dL_die_16 : decode cL_die 16 = .ok (.iconst 2, 1) := by decide +kernel
theorem dL_die_17 : decode cL_die 17 = .ok (.ireturn, 1) := by decide +kernel
theorem dL_die_18 : decode cL_die 18 = .ok (.iconst 0, 1) := by decide +kernel
theorem dL_die_19 : decode cL_die 19 = .ok (.ireturn, 1) := by decide +kernel
theorem dL_person_0 : decode cL_person 0 = .ok (.aload_n 3, 1) := by decide +kernel
theorem dL_person_1 : decode cL_person 1 = .ok (.iconst 0, 1) := by decide +kernel
theorem dL_person_2 : decode cL_person 2 = .ok (.aload_n 0, 1) := by decide +kernel
theorem dL_person_3 : decode cL_person 3 = .ok (.iload_n 1, 1) := by decide +kernel
theorem dL_person_4 : decode cL_person 4 = .ok (.iload_n 2, 1) := by decide +kernel
theorem dL_person_5 : decode cL_person 5 = .ok (.invokevirtual 41, 3) := by decide +kernel
theorem dL_person_8 : decode cL_person 8 = .ok (.i2l, 1) := by decide +kernel
theorem dL_person_9 : decode cL_person 9 = .ok (.lastore, 1) := by decide +kernel
theorem dL_person_10 : decode cL_person 10 = .ok (.goto 7, 3) := by decide +kernel
theorem dL_person_13 : decode cL_person 13 = .ok (.astore 4, 2) := by decide +kernel
theorem dL_person_15 : decode cL_person 15 = .ok (.iconst 1, 1) := by decide +kernel
theorem dL_person_16 : decode cL_person 16 = .ok (.ireturn, 1) := by decide +kernel
theorem dL_person_17 : decode cL_person 17 = .ok (.iconst 0, 1) := by decide +kernel
theorem dL_person_18 : decode cL_person 18 = .ok (.ireturn, 1) := by decide +kernel
theorem dL_land_0 : decode cL_land 0 = .ok (.aload_n 3, 1) := by decide +kernel
theorem dL_land_1 : decode cL_land 1 = .ok (.iconst 0, 1) := by decide +kernel
theorem dL_land_2 : decode cL_land 2 = .ok (.aload_n 0, 1) := by decide +kernel
theorem dL_land_3 : decode cL_land 3 = .ok (.iload_n 1, 1) := by decide +kernel
theorem dL_land_4 : decode cL_land 4 = .ok (.iload_n 2, 1) := by decide +kernel
theorem dL_land_5 : decode cL_land 5 = .ok (.invokevirtual 44, 3) := by decide +kernel
theorem dL_land_8 : decode cL_land 8 = .ok (.i2l, 1) := by decide +kernel
theorem dL_land_9 : decode cL_land 9 = .ok (.lastore, 1) := by decide +kernel
theorem dL_land_10 : decode cL_land 10 = .ok (.goto 7, 3) := by decide +kernel
theorem dL_land_13 : decode cL_land 13 = .ok (.astore 4, 2) := by decide +kernel
theorem dL_land_15 : decode cL_land 15 = .ok (.iconst 1, 1) := by decide +kernel
theorem dL_land_16 : decode cL_land 16 = .ok (.ireturn, 1) := by decide +kernel
theorem dL_land_17 : decode cL_land 17 = .ok (.iconst 0, 1) := by decide +kernel
theorem dL_land_18 : decode cL_land 18 = .ok (.ireturn, 1) := by decide +kernel
theorem dL_ruled_0 : decode cL_ruled 0 = .ok (.aload_n 3, 1) := by decide +kernel
theorem dL_ruled_1 : decode cL_ruled 1 = .ok (.iconst 0, 1) := by decide +kernel
theorem dL_ruled_2 : decode cL_ruled 2 = .ok (.aload_n 0, 1) := by decide +kernel
theorem dL_ruled_3 : decode cL_ruled 3 = .ok (.iload_n 1, 1) := by decide +kernel
theorem dL_ruled_4 : decode cL_ruled 4 = .ok (.iload_n 2, 1) := by decide +kernel
theorem dL_ruled_5 : decode cL_ruled 5 = .ok (.invokevirtual 47, 3) := by decide +kernel
theorem dL_ruled_8 : decode cL_ruled 8 = .ok (.i2l, 1) := by decide +kernel
theorem dL_ruled_9 : decode cL_ruled 9 = .ok (.lastore, 1) := by decide +kernel
theorem dL_ruled_10 : decode cL_ruled 10 = .ok (.goto 7, 3) := by decide +kernel
theorem dL_ruled_13 : decode cL_ruled 13 = .ok (.astore 4, 2) := by decide +kernel
theorem dL_ruled_15 : decode cL_ruled 15 = .ok (.iconst 1, 1) := by decide +kernel
theorem dL_ruled_16 : decode cL_ruled 16 = .ok (.ireturn, 1) := by decide +kernel
theorem dL_ruled_17 : decode cL_ruled 17 = .ok (.iconst 0, 1) := by decide +kernel
theorem dL_ruled_18 : decode cL_ruled 18 = .ok (.ireturn, 1) := by decide +kernel
theorem dL_related_0 : decode cL_related 0 = .ok (.aload_n 3, 1) := by decide +kernel
theorem dL_related_1 : decode cL_related 1 = .ok (.iconst 0, 1) := by decide +kernel
theorem dL_related_2 : decode cL_related 2 = .ok (.aload_n 0, 1) := by decide +kernel
theorem dL_related_3 : decode cL_related 3 = .ok (.iload_n 1, 1) := by decide +kernel
theorem dL_related_4 : decode cL_related 4 = .ok (.iload_n 2, 1) := by decide +kernel
theorem dL_related_5 : decode cL_related 5 = .ok (.invokevirtual 50, 3) := by decide +kernel
theorem dL_related_8 : decode cL_related 8 = .ok (.i2l, 1) := by decide +kernel
theorem dL_related_9 : decode cL_related 9 = .ok (.lastore, 1) := by decide +kernel
theorem dL_related_10 : decode cL_related 10 = .ok (.goto 7, 3) := by decide +kernel
theorem dL_related_13 : decode cL_related 13 = .ok (.astore 4, 2) := by decide +kernel
theorem dL_related_15 : decode cL_related 15 = .ok (.iconst 1, 1) := by decide +kernel
theorem dL_related_16 : decode cL_related 16 = .ok (.ireturn, 1) := by decide +kernel
theorem dL_related_17 : decode cL_related 17 = .ok (.iconst 0, 1) := by decide +kernel
theorem dL_related_18 : decode cL_related 18 = .ok (.ireturn, 1) := by decide +kernel
theorem dL_count_0 : decode cL_count 0 = .ok (.aload_n 2, 1) := by decide +kernel
theorem dL_count_1 : decode cL_count 1 = .ok (.iconst 0, 1) := by decide +kernel
theorem dL_count_2 : decode cL_count 2 = .ok (.aload_n 0, 1) := by decide +kernel
theorem dL_count_3 : decode cL_count 3 = .ok (.iload_n 1, 1) := by decide +kernel
theorem dL_count_4 : decode cL_count 4 = .ok (.invokevirtual 53, 3) := by decide +kernel
theorem dL_count_7 : decode cL_count 7 = .ok (.i2l, 1) := by decide +kernel
theorem dL_count_8 : decode cL_count 8 = .ok (.lastore, 1) := by decide +kernel
theorem dL_count_9 : decode cL_count 9 = .ok (.goto 6, 3) := by decide +kernel
theorem dL_count_12 : decode cL_count 12 = .ok (.astore_n 3, 1) := by decide +kernel
theorem dL_count_13 : decode cL_count 13 = .ok (.iconst 1, 1) := by decide +kernel
theorem dL_count_14 : decode cL_count 14 = .ok (.ireturn, 1) := by decide +kernel
theorem dL_count_15 : decode cL_count 15 = .ok (.iconst 0, 1) := by decide +kernel
theorem dL_count_16 : decode cL_count 16 = .ok (.ireturn, 1) := by decide +kernel
theorem dL_pass_0 : decode cL_pass 0 = .ok (.aload_n 2, 1) := by decide +kernel
theorem dL_pass_1 : decode cL_pass 1 = .ok (.iconst 0, 1) := by decide +kernel
theorem dL_pass_2 : decode cL_pass 2 = .ok (.aload_n 0, 1) := by decide +kernel
theorem dL_pass_3 : decode cL_pass 3 = .ok (.iload_n 1, 1) := by decide +kernel
theorem dL_pass_4 : decode cL_pass 4 = .ok (.invokevirtual 56, 3) := by decide +kernel
theorem dL_pass_7 : decode cL_pass 7 = .ok (.i2l, 1) := by decide +kernel
theorem dL_pass_8 : decode cL_pass 8 = .ok (.lastore, 1) := by decide +kernel
theorem dL_pass_9 : decode cL_pass 9 = .ok (.goto 6, 3) := by decide +kernel
theorem dL_pass_12 : decode cL_pass 12 = .ok (.astore_n 3, 1) := by decide +kernel
theorem dL_pass_13 : decode cL_pass 13 = .ok (.iconst 1, 1) := by decide +kernel
theorem dL_pass_14 : decode cL_pass 14 = .ok (.ireturn, 1) := by decide +kernel
theorem dL_pass_15 : decode cL_pass 15 = .ok (.iconst 0, 1) := by decide +kernel
theorem dL_pass_16 : decode cL_pass 16 = .ok (.ireturn, 1) := by decide +kernel
theorem dL_rules_0 : decode cL_rules 0 = .ok (.aload_n 2, 1) := by decide +kernel
theorem dL_rules_1 : decode cL_rules 1 = .ok (.iconst 0, 1) := by decide +kernel
theorem dL_rules_2 : decode cL_rules 2 = .ok (.aload_n 0, 1) := by decide +kernel
theorem dL_rules_3 : decode cL_rules 3 = .ok (.iload_n 1, 1) := by decide +kernel
theorem dL_rules_4 : decode cL_rules 4 = .ok (.invokevirtual 59, 3) := by decide +kernel
theorem dL_rules_7 : decode cL_rules 7 = .ok (.i2l, 1) := by decide +kernel
theorem dL_rules_8 : decode cL_rules 8 = .ok (.lastore, 1) := by decide +kernel
theorem dL_rules_9 : decode cL_rules 9 = .ok (.goto 6, 3) := by decide +kernel
theorem dL_rules_12 : decode cL_rules 12 = .ok (.astore_n 3, 1) := by decide +kernel
theorem dL_rules_13 : decode cL_rules 13 = .ok (.iconst 1, 1) := by decide +kernel
theorem dL_rules_14 : decode cL_rules 14 = .ok (.ireturn, 1) := by decide +kernel
theorem dL_rules_15 : decode cL_rules 15 = .ok (.iconst 0, 1) := by decide +kernel
theorem dL_rules_16 : decode cL_rules 16 = .ok (.ireturn, 1) := by decide +kernel
theorem dL_foresee_0 : decode cL_foresee 0 = .ok (.aload_n 3, 1) := by decide +kernel
theorem dL_foresee_1 : decode cL_foresee 1 = .ok (.iconst 0, 1) := by decide +kernel
theorem dL_foresee_2 : decode cL_foresee 2 = .ok (.aload_n 0, 1) := by decide +kernel
theorem dL_foresee_3 : decode cL_foresee 3 = .ok (.iload_n 1, 1) := by decide +kernel
theorem dL_foresee_4 : decode cL_foresee 4 = .ok (.iload_n 2, 1) := by decide +kernel
theorem dL_foresee_5 : decode cL_foresee 5 = .ok (.invokevirtual 62, 3) := by decide +kernel
theorem dL_foresee_8 : decode cL_foresee 8 = .ok (.i2l, 1) := by decide +kernel
theorem dL_foresee_9 : decode cL_foresee 9 = .ok (.lastore, 1) := by decide +kernel
theorem dL_foresee_10 : decode cL_foresee 10 = .ok (.goto 11, 3) := by decide +kernel
theorem dL_foresee_13 : decode cL_foresee 13 = .ok (.astore 4, 2) := by decide +kernel
theorem dL_foresee_15 : decode cL_foresee 15 = .ok (.iconst 1, 1) := by decide +kernel
theorem dL_foresee_16 : decode cL_foresee 16 = .ok (.ireturn, 1) := by decide +kernel
theorem dL_foresee_17 : decode cL_foresee 17 = .ok (.astore 4, 2) := by decide +kernel
theorem dL_foresee_19 : decode cL_foresee 19 = .ok (.iconst 2, 1) := by decide +kernel
theorem dL_foresee_20 : decode cL_foresee 20 = .ok (.ireturn, 1) := by decide +kernel
theorem dL_foresee_21 : decode cL_foresee 21 = .ok (.iconst 0, 1) := by decide +kernel
theorem dL_foresee_22 : decode cL_foresee 22 = .ok (.ireturn, 1) := by decide +kernel
theorem dL_best_0 : decode cL_best 0 = .ok (.aload_n 2, 1) := by decide +kernel
theorem dL_best_1 : decode cL_best 1 = .ok (.iconst 0, 1) := by decide +kernel
theorem dL_best_2 : decode cL_best 2 = .ok (.aload_n 0, 1) := by decide +kernel
theorem dL_best_3 : decode cL_best 3 = .ok (.iload_n 1, 1) := by decide +kernel
theorem dL_best_4 : decode cL_best 4 = .ok (.invokevirtual 65, 3) := by decide +kernel
theorem dL_best_7 : decode cL_best 7 = .ok (.i2l, 1) := by decide +kernel
theorem dL_best_8 : decode cL_best 8 = .ok (.lastore, 1) := by decide +kernel
theorem dL_best_9 : decode cL_best 9 = .ok (.goto 6, 3) := by decide +kernel
theorem dL_best_12 : decode cL_best 12 = .ok (.astore_n 3, 1) := by decide +kernel
theorem dL_best_13 : decode cL_best 13 = .ok (.iconst 1, 1) := by decide +kernel
theorem dL_best_14 : decode cL_best 14 = .ok (.ireturn, 1) := by decide +kernel
theorem dL_best_15 : decode cL_best 15 = .ok (.iconst 0, 1) := by decide +kernel
theorem dL_best_16 : decode cL_best 16 = .ok (.ireturn, 1) := by decide +kernel
theorem dL_law_0 : decode cL_law 0 = .ok (.new 8, 3) := by decide +kernel
theorem dL_law_3 : decode cL_law 3 = .ok (.dup, 1) := by decide +kernel
theorem dL_law_4 : decode cL_law 4 = .ok (.invokespecial 68, 3) := by decide +kernel
theorem dL_law_7 : decode cL_law 7 = .ok (.astore_n 1, 1) := by decide +kernel
theorem dL_law_8 : decode cL_law 8 = .ok (.new 69, 3) := by decide +kernel
theorem dL_law_11 : decode cL_law 11 = .ok (.dup, 1) := by decide +kernel
theorem dL_law_12 : decode cL_law 12 = .ok (.invokespecial 71, 3) := by decide +kernel
theorem dL_law_15 : decode cL_law 15 = .ok (.astore_n 2, 1) := by decide +kernel
theorem dL_law_16 : decode cL_law 16 = .ok (.iconst 1, 1) := by decide +kernel
theorem dL_law_17 : decode cL_law 17 = .ok (.newarray .long, 2) := by decide +kernel
theorem dL_law_19 : decode cL_law 19 = .ok (.astore_n 3, 1) := by decide +kernel
theorem dL_law_20 : decode cL_law 20 = .ok (.iconst 0, 1) := by decide +kernel
theorem dL_law_21 : decode cL_law 21 = .ok (.istore 4, 2) := by decide +kernel
theorem dL_law_23 : decode cL_law 23 = .ok (.iload 4, 2) := by decide +kernel
theorem dL_law_25 : decode cL_law 25 = .ok (.aload_n 0, 1) := by decide +kernel
theorem dL_law_26 : decode cL_law 26 = .ok (.arraylength, 1) := by decide +kernel
theorem dL_law_27 : decode cL_law 27 = .ok (.iconst 4, 1) := by decide +kernel
theorem dL_law_28 : decode cL_law 28 = .ok (.isub, 1) := by decide +kernel
theorem dL_law_29 : decode cL_law 29 = .ok (.if_icmp .gt 1228, 3) := by decide +kernel
theorem dL_law_32 : decode cL_law 32 = .ok (.aload_n 0, 1) := by decide +kernel
theorem dL_law_33 : decode cL_law 33 = .ok (.iload 4, 2) := by decide +kernel
theorem dL_law_35 : decode cL_law 35 = .ok (.iaload, 1) := by decide +kernel
theorem dL_law_36 : decode cL_law 36 = .ok (.bipush 31, 2) := by decide +kernel
theorem dL_law_38 : decode cL_law 38 = .ok (.iand, 1) := by decide +kernel
theorem dL_law_39 : decode cL_law 39 = .ok (.tableswitch 1212 0 17 #[85, 169, 253, 333, 401, 481, 537, 593, 661, 729, 797, 865, 921, 977, 1033, 1101, 1157, 1198], 85) := by decide +kernel
theorem dL_law_124 : decode cL_law 124 = .ok (.aload_n 1, 1) := by decide +kernel
theorem dL_law_125 : decode cL_law 125 = .ok (.aload_n 0, 1) := by decide +kernel
theorem dL_law_126 : decode cL_law 126 = .ok (.iload 4, 2) := by decide +kernel
theorem dL_law_128 : decode cL_law 128 = .ok (.iconst 1, 1) := by decide +kernel
theorem dL_law_129 : decode cL_law 129 = .ok (.iadd, 1) := by decide +kernel
theorem dL_law_130 : decode cL_law 130 = .ok (.iaload, 1) := by decide +kernel
theorem dL_law_131 : decode cL_law 131 = .ok (.ifCond .eq 7, 3) := by decide +kernel
theorem dL_law_134 : decode cL_law 134 = .ok (.iconst 1, 1) := by decide +kernel
theorem dL_law_135 : decode cL_law 135 = .ok (.goto 4, 3) := by decide +kernel
theorem dL_law_138 : decode cL_law 138 = .ok (.iconst 0, 1) := by decide +kernel
theorem dL_law_139 : decode cL_law 139 = .ok (.aload_n 0, 1) := by decide +kernel
theorem dL_law_140 : decode cL_law 140 = .ok (.iload 4, 2) := by decide +kernel
theorem dL_law_142 : decode cL_law 142 = .ok (.iconst 2, 1) := by decide +kernel
theorem dL_law_143 : decode cL_law 143 = .ok (.iadd, 1) := by decide +kernel
theorem dL_law_144 : decode cL_law 144 = .ok (.iaload, 1) := by decide +kernel
theorem dL_law_145 : decode cL_law 145 = .ok (.aload_n 3, 1) := by decide +kernel
theorem dL_law_146 : decode cL_law 146 = .ok (.invokestatic 72, 3) := by decide +kernel
theorem dL_law_149 : decode cL_law 149 = .ok (.istore 5, 2) := by decide +kernel
theorem dL_law_151 : decode cL_law 151 = .ok (.aload_n 2, 1) := by decide +kernel
theorem dL_law_152 : decode cL_law 152 = .ok (.aload_n 0, 1) := by decide +kernel
theorem dL_law_153 : decode cL_law 153 = .ok (.iload 4, 2) := by decide +kernel
theorem dL_law_155 : decode cL_law 155 = .ok (.iconst 1, 1) := by decide +kernel
theorem dL_law_156 : decode cL_law 156 = .ok (.iadd, 1) := by decide +kernel
theorem dL_law_157 : decode cL_law 157 = .ok (.iaload, 1) := by decide +kernel
theorem dL_law_158 : decode cL_law 158 = .ok (.ifCond .eq 7, 3) := by decide +kernel
theorem dL_law_161 : decode cL_law 161 = .ok (.iconst 1, 1) := by decide +kernel
theorem dL_law_162 : decode cL_law 162 = .ok (.goto 4, 3) := by decide +kernel
theorem dL_law_165 : decode cL_law 165 = .ok (.iconst 0, 1) := by decide +kernel
theorem dL_law_166 : decode cL_law 166 = .ok (.aload_n 0, 1) := by decide +kernel
theorem dL_law_167 : decode cL_law 167 = .ok (.iload 4, 2) := by decide +kernel
theorem dL_law_169 : decode cL_law 169 = .ok (.iconst 2, 1) := by decide +kernel
theorem dL_law_170 : decode cL_law 170 = .ok (.iadd, 1) := by decide +kernel
theorem dL_law_171 : decode cL_law 171 = .ok (.iaload, 1) := by decide +kernel
theorem dL_law_172 : decode cL_law 172 = .ok (.invokevirtual 77, 3) := by decide +kernel
theorem dL_law_175 : decode cL_law 175 = .ok (.istore 6, 2) := by decide +kernel
theorem dL_law_177 : decode cL_law 177 = .ok (.aload_n 2, 1) := by decide +kernel
theorem dL_law_178 : decode cL_law 178 = .ok (.invokevirtual 78, 3) := by decide +kernel
theorem dL_law_181 : decode cL_law 181 = .ok (.iload 5, 2) := by decide +kernel
theorem dL_law_183 : decode cL_law 183 = .ok (.if_icmp .eq 5, 3) := by decide +kernel
theorem dL_law_186 : decode cL_law 186 = .ok (.iconst 0, 1) := by decide +kernel
theorem dL_law_187 : decode cL_law 187 = .ok (.ireturn, 1) := by decide +kernel
theorem dL_law_188 : decode cL_law 188 = .ok (.iload 5, 2) := by decide +kernel
theorem dL_law_190 : decode cL_law 190 = .ok (.ifCond .ne 15, 3) := by decide +kernel
theorem dL_law_193 : decode cL_law 193 = .ok (.aload_n 3, 1) := by decide +kernel
theorem dL_law_194 : decode cL_law 194 = .ok (.iconst 0, 1) := by decide +kernel
theorem dL_law_195 : decode cL_law 195 = .ok (.laload, 1) := by decide +kernel
theorem dL_law_196 : decode cL_law 196 = .ok (.iload 6, 2) := by decide +kernel
theorem dL_law_198 : decode cL_law 198 = .ok (.i2l, 1) := by decide +kernel
theorem dL_law_199 : decode cL_law 199 = .ok (.lcmp, 1) := by decide +kernel
theorem dL_law_200 : decode cL_law 200 = .ok (.ifCond .eq 5, 3) := by decide +kernel
theorem dL_law_203 : decode cL_law 203 = .ok (.iconst 0, 1) := by decide +kernel
theorem dL_law_204 : decode cL_law 204 = .ok (.ireturn, 1) := by decide +kernel
theorem dL_law_205 : decode cL_law 205 = .ok (.goto 1046, 3) := by decide +kernel
theorem dL_law_208 : decode cL_law 208 = .ok (.aload_n 1, 1) := by decide +kernel
theorem dL_law_209 : decode cL_law 209 = .ok (.aload_n 0, 1) := by decide +kernel
theorem dL_law_210 : decode cL_law 210 = .ok (.iload 4, 2) := by decide +kernel
theorem dL_law_212 : decode cL_law 212 = .ok (.iconst 1, 1) := by decide +kernel
theorem dL_law_213 : decode cL_law 213 = .ok (.iadd, 1) := by decide +kernel
theorem dL_law_214 : decode cL_law 214 = .ok (.iaload, 1) := by decide +kernel
theorem dL_law_215 : decode cL_law 215 = .ok (.aload_n 0, 1) := by decide +kernel
theorem dL_law_216 : decode cL_law 216 = .ok (.iload 4, 2) := by decide +kernel
theorem dL_law_218 : decode cL_law 218 = .ok (.iconst 2, 1) := by decide +kernel
theorem dL_law_219 : decode cL_law 219 = .ok (.iadd, 1) := by decide +kernel
theorem dL_law_220 : decode cL_law 220 = .ok (.iaload, 1) := by decide +kernel
theorem dL_law_221 : decode cL_law 221 = .ok (.ifCond .eq 7, 3) := by decide +kernel
theorem dL_law_224 : decode cL_law 224 = .ok (.iconst 1, 1) := by decide +kernel
theorem dL_law_225 : decode cL_law 225 = .ok (.goto 4, 3) := by decide +kernel
theorem dL_law_228 : decode cL_law 228 = .ok (.iconst 0, 1) := by decide +kernel
theorem dL_law_229 : decode cL_law 229 = .ok (.aload_n 3, 1) := by decide +kernel
theorem dL_law_230 : decode cL_law 230 = .ok (.invokestatic 82, 3) := by decide +kernel
theorem dL_law_233 : decode cL_law 233 = .ok (.istore 5, 2) := by decide +kernel
theorem dL_law_235 : decode cL_law 235 = .ok (.aload_n 2, 1) := by decide +kernel
theorem dL_law_236 : decode cL_law 236 = .ok (.aload_n 0, 1) := by decide +kernel
theorem dL_law_237 : decode cL_law 237 = .ok (.iload 4, 2) := by decide +kernel
theorem dL_law_239 : decode cL_law 239 = .ok (.iconst 1, 1) := by decide +kernel
theorem dL_law_240 : decode cL_law 240 = .ok (.iadd, 1) := by decide +kernel
theorem dL_law_241 : decode cL_law 241 = .ok (.iaload, 1) := by decide +kernel
theorem dL_law_242 : decode cL_law 242 = .ok (.aload_n 0, 1) := by decide +kernel
theorem dL_law_243 : decode cL_law 243 = .ok (.iload 4, 2) := by decide +kernel
theorem dL_law_245 : decode cL_law 245 = .ok (.iconst 2, 1) := by decide +kernel
theorem dL_law_246 : decode cL_law 246 = .ok (.iadd, 1) := by decide +kernel
theorem dL_law_247 : decode cL_law 247 = .ok (.iaload, 1) := by decide +kernel
theorem dL_law_248 : decode cL_law 248 = .ok (.ifCond .eq 7, 3) := by decide +kernel
theorem dL_law_251 : decode cL_law 251 = .ok (.iconst 1, 1) := by decide +kernel
theorem dL_law_252 : decode cL_law 252 = .ok (.goto 4, 3) := by decide +kernel
theorem dL_law_255 : decode cL_law 255 = .ok (.iconst 0, 1) := by decide +kernel
theorem dL_law_256 : decode cL_law 256 = .ok (.invokevirtual 85, 3) := by decide +kernel
theorem dL_law_259 : decode cL_law 259 = .ok (.istore 6, 2) := by decide +kernel
theorem dL_law_261 : decode cL_law 261 = .ok (.aload_n 2, 1) := by decide +kernel
theorem dL_law_262 : decode cL_law 262 = .ok (.invokevirtual 78, 3) := by decide +kernel
theorem dL_law_265 : decode cL_law 265 = .ok (.iload 5, 2) := by decide +kernel
theorem dL_law_267 : decode cL_law 267 = .ok (.if_icmp .eq 5, 3) := by decide +kernel
theorem dL_law_270 : decode cL_law 270 = .ok (.iconst 0, 1) := by decide +kernel
theorem dL_law_271 : decode cL_law 271 = .ok (.ireturn, 1) := by decide +kernel
theorem dL_law_272 : decode cL_law 272 = .ok (.iload 5, 2) := by decide +kernel
theorem dL_law_274 : decode cL_law 274 = .ok (.ifCond .ne 15, 3) := by decide +kernel
theorem dL_law_277 : decode cL_law 277 = .ok (.aload_n 3, 1) := by decide +kernel
theorem dL_law_278 : decode cL_law 278 = .ok (.iconst 0, 1) := by decide +kernel
theorem dL_law_279 : decode cL_law 279 = .ok (.laload, 1) := by decide +kernel
theorem dL_law_280 : decode cL_law 280 = .ok (.iload 6, 2) := by decide +kernel
theorem dL_law_282 : decode cL_law 282 = .ok (.i2l, 1) := by decide +kernel
theorem dL_law_283 : decode cL_law 283 = .ok (.lcmp, 1) := by decide +kernel
theorem dL_law_284 : decode cL_law 284 = .ok (.ifCond .eq 5, 3) := by decide +kernel
theorem dL_law_287 : decode cL_law 287 = .ok (.iconst 0, 1) := by decide +kernel
theorem dL_law_288 : decode cL_law 288 = .ok (.ireturn, 1) := by decide +kernel
theorem dL_law_289 : decode cL_law 289 = .ok (.goto 962, 3) := by decide +kernel
theorem dL_law_292 : decode cL_law 292 = .ok (.aload_n 1, 1) := by decide +kernel
theorem dL_law_293 : decode cL_law 293 = .ok (.aload_n 0, 1) := by decide +kernel
theorem dL_law_294 : decode cL_law 294 = .ok (.iload 4, 2) := by decide +kernel
theorem dL_law_296 : decode cL_law 296 = .ok (.iconst 1, 1) := by decide +kernel
theorem dL_law_297 : decode cL_law 297 = .ok (.iadd, 1) := by decide +kernel
theorem dL_law_298 : decode cL_law 298 = .ok (.iaload, 1) := by decide +kernel
theorem dL_law_299 : decode cL_law 299 = .ok (.aload_n 0, 1) := by decide +kernel
theorem dL_law_300 : decode cL_law 300 = .ok (.iload 4, 2) := by decide +kernel
theorem dL_law_302 : decode cL_law 302 = .ok (.iconst 2, 1) := by decide +kernel
theorem dL_law_303 : decode cL_law 303 = .ok (.iadd, 1) := by decide +kernel
theorem dL_law_304 : decode cL_law 304 = .ok (.iaload, 1) := by decide +kernel
theorem dL_law_305 : decode cL_law 305 = .ok (.aload_n 0, 1) := by decide +kernel
theorem dL_law_306 : decode cL_law 306 = .ok (.iload 4, 2) := by decide +kernel
theorem dL_law_308 : decode cL_law 308 = .ok (.iconst 3, 1) := by decide +kernel
theorem dL_law_309 : decode cL_law 309 = .ok (.iadd, 1) := by decide +kernel
theorem dL_law_310 : decode cL_law 310 = .ok (.iaload, 1) := by decide +kernel
theorem dL_law_311 : decode cL_law 311 = .ok (.aload_n 3, 1) := by decide +kernel
theorem dL_law_312 : decode cL_law 312 = .ok (.invokestatic 86, 3) := by decide +kernel
theorem dL_law_315 : decode cL_law 315 = .ok (.istore 5, 2) := by decide +kernel
theorem dL_law_317 : decode cL_law 317 = .ok (.aload_n 2, 1) := by decide +kernel
theorem dL_law_318 : decode cL_law 318 = .ok (.aload_n 0, 1) := by decide +kernel
theorem dL_law_319 : decode cL_law 319 = .ok (.iload 4, 2) := by decide +kernel
theorem dL_law_321 : decode cL_law 321 = .ok (.iconst 1, 1) := by decide +kernel
theorem dL_law_322 : decode cL_law 322 = .ok (.iadd, 1) := by decide +kernel
theorem dL_law_323 : decode cL_law 323 = .ok (.iaload, 1) := by decide +kernel
theorem dL_law_324 : decode cL_law 324 = .ok (.aload_n 0, 1) := by decide +kernel
theorem dL_law_325 : decode cL_law 325 = .ok (.iload 4, 2) := by decide +kernel
theorem dL_law_327 : decode cL_law 327 = .ok (.iconst 2, 1) := by decide +kernel
theorem dL_law_328 : decode cL_law 328 = .ok (.iadd, 1) := by decide +kernel
theorem dL_law_329 : decode cL_law 329 = .ok (.iaload, 1) := by decide +kernel
theorem dL_law_330 : decode cL_law 330 = .ok (.aload_n 0, 1) := by decide +kernel
theorem dL_law_331 : decode cL_law 331 = .ok (.iload 4, 2) := by decide +kernel
theorem dL_law_333 : decode cL_law 333 = .ok (.iconst 3, 1) := by decide +kernel
theorem dL_law_334 : decode cL_law 334 = .ok (.iadd, 1) := by decide +kernel
theorem dL_law_335 : decode cL_law 335 = .ok (.iaload, 1) := by decide +kernel
theorem dL_law_336 : decode cL_law 336 = .ok (.invokevirtual 89, 3) := by decide +kernel
theorem dL_law_339 : decode cL_law 339 = .ok (.istore 6, 2) := by decide +kernel
theorem dL_law_341 : decode cL_law 341 = .ok (.aload_n 2, 1) := by decide +kernel
theorem dL_law_342 : decode cL_law 342 = .ok (.invokevirtual 78, 3) := by decide +kernel
theorem dL_law_345 : decode cL_law 345 = .ok (.iload 5, 2) := by decide +kernel
theorem dL_law_347 : decode cL_law 347 = .ok (.if_icmp .eq 5, 3) := by decide +kernel
theorem dL_law_350 : decode cL_law 350 = .ok (.iconst 0, 1) := by decide +kernel
theorem dL_law_351 : decode cL_law 351 = .ok (.ireturn, 1) := by decide +kernel
theorem dL_law_352 : decode cL_law 352 = .ok (.iload 5, 2) := by decide +kernel
theorem dL_law_354 : decode cL_law 354 = .ok (.ifCond .ne 15, 3) := by decide +kernel
theorem dL_law_357 : decode cL_law 357 = .ok (.aload_n 3, 1) := by decide +kernel
theorem dL_law_358 : decode cL_law 358 = .ok (.iconst 0, 1) := by decide +kernel
theorem dL_law_359 : decode cL_law 359 = .ok (.laload, 1) := by decide +kernel
theorem dL_law_360 : decode cL_law 360 = .ok (.iload 6, 2) := by decide +kernel
theorem dL_law_362 : decode cL_law 362 = .ok (.i2l, 1) := by decide +kernel
theorem dL_law_363 : decode cL_law 363 = .ok (.lcmp, 1) := by decide +kernel
theorem dL_law_364 : decode cL_law 364 = .ok (.ifCond .eq 5, 3) := by decide +kernel
theorem dL_law_367 : decode cL_law 367 = .ok (.iconst 0, 1) := by decide +kernel
theorem dL_law_368 : decode cL_law 368 = .ok (.ireturn, 1) := by decide +kernel
theorem dL_law_369 : decode cL_law 369 = .ok (.goto 882, 3) := by decide +kernel
theorem dL_law_372 : decode cL_law 372 = .ok (.aload_n 1, 1) := by decide +kernel
theorem dL_law_373 : decode cL_law 373 = .ok (.aload_n 0, 1) := by decide +kernel
theorem dL_law_374 : decode cL_law 374 = .ok (.iload 4, 2) := by decide +kernel
theorem dL_law_376 : decode cL_law 376 = .ok (.iconst 1, 1) := by decide +kernel
theorem dL_law_377 : decode cL_law 377 = .ok (.iadd, 1) := by decide +kernel
theorem dL_law_378 : decode cL_law 378 = .ok (.iaload, 1) := by decide +kernel
theorem dL_law_379 : decode cL_law 379 = .ok (.aload_n 0, 1) := by decide +kernel
theorem dL_law_380 : decode cL_law 380 = .ok (.iload 4, 2) := by decide +kernel
theorem dL_law_382 : decode cL_law 382 = .ok (.iconst 2, 1) := by decide +kernel
theorem dL_law_383 : decode cL_law 383 = .ok (.iadd, 1) := by decide +kernel
theorem dL_law_384 : decode cL_law 384 = .ok (.iaload, 1) := by decide +kernel
theorem dL_law_385 : decode cL_law 385 = .ok (.aload_n 3, 1) := by decide +kernel
theorem dL_law_386 : decode cL_law 386 = .ok (.invokestatic 90, 3) := by decide +kernel
theorem dL_law_389 : decode cL_law 389 = .ok (.istore 5, 2) := by decide +kernel
theorem dL_law_391 : decode cL_law 391 = .ok (.aload_n 2, 1) := by decide +kernel
theorem dL_law_392 : decode cL_law 392 = .ok (.aload_n 0, 1) := by decide +kernel
theorem dL_law_393 : decode cL_law 393 = .ok (.iload 4, 2) := by decide +kernel
theorem dL_law_395 : decode cL_law 395 = .ok (.iconst 1, 1) := by decide +kernel
theorem dL_law_396 : decode cL_law 396 = .ok (.iadd, 1) := by decide +kernel
theorem dL_law_397 : decode cL_law 397 = .ok (.iaload, 1) := by decide +kernel
theorem dL_law_398 : decode cL_law 398 = .ok (.aload_n 0, 1) := by decide +kernel
theorem dL_law_399 : decode cL_law 399 = .ok (.iload 4, 2) := by decide +kernel
theorem dL_law_401 : decode cL_law 401 = .ok (.iconst 2, 1) := by decide +kernel
theorem dL_law_402 : decode cL_law 402 = .ok (.iadd, 1) := by decide +kernel
theorem dL_law_403 : decode cL_law 403 = .ok (.iaload, 1) := by decide +kernel
theorem dL_law_404 : decode cL_law 404 = .ok (.invokevirtual 93, 3) := by decide +kernel
theorem dL_law_407 : decode cL_law 407 = .ok (.istore 6, 2) := by decide +kernel
theorem dL_law_409 : decode cL_law 409 = .ok (.aload_n 2, 1) := by decide +kernel
theorem dL_law_410 : decode cL_law 410 = .ok (.invokevirtual 78, 3) := by decide +kernel
theorem dL_law_413 : decode cL_law 413 = .ok (.iload 5, 2) := by decide +kernel
theorem dL_law_415 : decode cL_law 415 = .ok (.if_icmp .eq 5, 3) := by decide +kernel
theorem dL_law_418 : decode cL_law 418 = .ok (.iconst 0, 1) := by decide +kernel
theorem dL_law_419 : decode cL_law 419 = .ok (.ireturn, 1) := by decide +kernel
theorem dL_law_420 : decode cL_law 420 = .ok (.iload 5, 2) := by decide +kernel
theorem dL_law_422 : decode cL_law 422 = .ok (.ifCond .ne 15, 3) := by decide +kernel
theorem dL_law_425 : decode cL_law 425 = .ok (.aload_n 3, 1) := by decide +kernel
theorem dL_law_426 : decode cL_law 426 = .ok (.iconst 0, 1) := by decide +kernel
theorem dL_law_427 : decode cL_law 427 = .ok (.laload, 1) := by decide +kernel
theorem dL_law_428 : decode cL_law 428 = .ok (.iload 6, 2) := by decide +kernel
theorem dL_law_430 : decode cL_law 430 = .ok (.i2l, 1) := by decide +kernel
theorem dL_law_431 : decode cL_law 431 = .ok (.lcmp, 1) := by decide +kernel
theorem dL_law_432 : decode cL_law 432 = .ok (.ifCond .eq 5, 3) := by decide +kernel
theorem dL_law_435 : decode cL_law 435 = .ok (.iconst 0, 1) := by decide +kernel
theorem dL_law_436 : decode cL_law 436 = .ok (.ireturn, 1) := by decide +kernel
theorem dL_law_437 : decode cL_law 437 = .ok (.goto 814, 3) := by decide +kernel
theorem dL_law_440 : decode cL_law 440 = .ok (.aload_n 1, 1) := by decide +kernel
theorem dL_law_441 : decode cL_law 441 = .ok (.aload_n 0, 1) := by decide +kernel
theorem dL_law_442 : decode cL_law 442 = .ok (.iload 4, 2) := by decide +kernel
theorem dL_law_444 : decode cL_law 444 = .ok (.iconst 1, 1) := by decide +kernel
theorem dL_law_445 : decode cL_law 445 = .ok (.iadd, 1) := by decide +kernel
theorem dL_law_446 : decode cL_law 446 = .ok (.iaload, 1) := by decide +kernel
theorem dL_law_447 : decode cL_law 447 = .ok (.aload_n 0, 1) := by decide +kernel
theorem dL_law_448 : decode cL_law 448 = .ok (.iload 4, 2) := by decide +kernel
theorem dL_law_450 : decode cL_law 450 = .ok (.iconst 2, 1) := by decide +kernel
theorem dL_law_451 : decode cL_law 451 = .ok (.iadd, 1) := by decide +kernel
theorem dL_law_452 : decode cL_law 452 = .ok (.iaload, 1) := by decide +kernel
theorem dL_law_453 : decode cL_law 453 = .ok (.aload_n 0, 1) := by decide +kernel
theorem dL_law_454 : decode cL_law 454 = .ok (.iload 4, 2) := by decide +kernel
theorem dL_law_456 : decode cL_law 456 = .ok (.iconst 3, 1) := by decide +kernel
theorem dL_law_457 : decode cL_law 457 = .ok (.iadd, 1) := by decide +kernel
theorem dL_law_458 : decode cL_law 458 = .ok (.iaload, 1) := by decide +kernel
theorem dL_law_459 : decode cL_law 459 = .ok (.aload_n 3, 1) := by decide +kernel
theorem dL_law_460 : decode cL_law 460 = .ok (.invokestatic 94, 3) := by decide +kernel
theorem dL_law_463 : decode cL_law 463 = .ok (.istore 5, 2) := by decide +kernel
theorem dL_law_465 : decode cL_law 465 = .ok (.aload_n 2, 1) := by decide +kernel
theorem dL_law_466 : decode cL_law 466 = .ok (.aload_n 0, 1) := by decide +kernel
theorem dL_law_467 : decode cL_law 467 = .ok (.iload 4, 2) := by decide +kernel
theorem dL_law_469 : decode cL_law 469 = .ok (.iconst 1, 1) := by decide +kernel
theorem dL_law_470 : decode cL_law 470 = .ok (.iadd, 1) := by decide +kernel
theorem dL_law_471 : decode cL_law 471 = .ok (.iaload, 1) := by decide +kernel
theorem dL_law_472 : decode cL_law 472 = .ok (.aload_n 0, 1) := by decide +kernel
theorem dL_law_473 : decode cL_law 473 = .ok (.iload 4, 2) := by decide +kernel
theorem dL_law_475 : decode cL_law 475 = .ok (.iconst 2, 1) := by decide +kernel
theorem dL_law_476 : decode cL_law 476 = .ok (.iadd, 1) := by decide +kernel
theorem dL_law_477 : decode cL_law 477 = .ok (.iaload, 1) := by decide +kernel
theorem dL_law_478 : decode cL_law 478 = .ok (.aload_n 0, 1) := by decide +kernel
theorem dL_law_479 : decode cL_law 479 = .ok (.iload 4, 2) := by decide +kernel
theorem dL_law_481 : decode cL_law 481 = .ok (.iconst 3, 1) := by decide +kernel
theorem dL_law_482 : decode cL_law 482 = .ok (.iadd, 1) := by decide +kernel
theorem dL_law_483 : decode cL_law 483 = .ok (.iaload, 1) := by decide +kernel
theorem dL_law_484 : decode cL_law 484 = .ok (.invokevirtual 96, 3) := by decide +kernel
theorem dL_law_487 : decode cL_law 487 = .ok (.istore 6, 2) := by decide +kernel
theorem dL_law_489 : decode cL_law 489 = .ok (.aload_n 2, 1) := by decide +kernel
theorem dL_law_490 : decode cL_law 490 = .ok (.invokevirtual 78, 3) := by decide +kernel
theorem dL_law_493 : decode cL_law 493 = .ok (.iload 5, 2) := by decide +kernel
theorem dL_law_495 : decode cL_law 495 = .ok (.if_icmp .eq 5, 3) := by decide +kernel
theorem dL_law_498 : decode cL_law 498 = .ok (.iconst 0, 1) := by decide +kernel
theorem dL_law_499 : decode cL_law 499 = .ok (.ireturn, 1) := by decide +kernel
theorem dL_law_500 : decode cL_law 500 = .ok (.iload 5, 2) := by decide +kernel
theorem dL_law_502 : decode cL_law 502 = .ok (.ifCond .ne 15, 3) := by decide +kernel
theorem dL_law_505 : decode cL_law 505 = .ok (.aload_n 3, 1) := by decide +kernel
theorem dL_law_506 : decode cL_law 506 = .ok (.iconst 0, 1) := by decide +kernel
theorem dL_law_507 : decode cL_law 507 = .ok (.laload, 1) := by decide +kernel
theorem dL_law_508 : decode cL_law 508 = .ok (.iload 6, 2) := by decide +kernel
theorem dL_law_510 : decode cL_law 510 = .ok (.i2l, 1) := by decide +kernel
theorem dL_law_511 : decode cL_law 511 = .ok (.lcmp, 1) := by decide +kernel
theorem dL_law_512 : decode cL_law 512 = .ok (.ifCond .eq 5, 3) := by decide +kernel
theorem dL_law_515 : decode cL_law 515 = .ok (.iconst 0, 1) := by decide +kernel
theorem dL_law_516 : decode cL_law 516 = .ok (.ireturn, 1) := by decide +kernel
theorem dL_law_517 : decode cL_law 517 = .ok (.goto 734, 3) := by decide +kernel
theorem dL_law_520 : decode cL_law 520 = .ok (.aload_n 1, 1) := by decide +kernel
theorem dL_law_521 : decode cL_law 521 = .ok (.aload_n 0, 1) := by decide +kernel
theorem dL_law_522 : decode cL_law 522 = .ok (.iload 4, 2) := by decide +kernel
theorem dL_law_524 : decode cL_law 524 = .ok (.iconst 1, 1) := by decide +kernel
theorem dL_law_525 : decode cL_law 525 = .ok (.iadd, 1) := by decide +kernel
theorem dL_law_526 : decode cL_law 526 = .ok (.iaload, 1) := by decide +kernel
theorem dL_law_527 : decode cL_law 527 = .ok (.aload_n 3, 1) := by decide +kernel
theorem dL_law_528 : decode cL_law 528 = .ok (.invokestatic 97, 3) := by decide +kernel
theorem dL_law_531 : decode cL_law 531 = .ok (.istore 5, 2) := by decide +kernel
theorem dL_law_533 : decode cL_law 533 = .ok (.aload_n 2, 1) := by decide +kernel
theorem dL_law_534 : decode cL_law 534 = .ok (.aload_n 0, 1) := by decide +kernel
theorem dL_law_535 : decode cL_law 535 = .ok (.iload 4, 2) := by decide +kernel
theorem dL_law_537 : decode cL_law 537 = .ok (.iconst 1, 1) := by decide +kernel
theorem dL_law_538 : decode cL_law 538 = .ok (.iadd, 1) := by decide +kernel
theorem dL_law_539 : decode cL_law 539 = .ok (.iaload, 1) := by decide +kernel
theorem dL_law_540 : decode cL_law 540 = .ok (.invokevirtual 100, 3) := by decide +kernel
theorem dL_law_543 : decode cL_law 543 = .ok (.istore 6, 2) := by decide +kernel
theorem dL_law_545 : decode cL_law 545 = .ok (.aload_n 2, 1) := by decide +kernel
theorem dL_law_546 : decode cL_law 546 = .ok (.invokevirtual 78, 3) := by decide +kernel
theorem dL_law_549 : decode cL_law 549 = .ok (.iload 5, 2) := by decide +kernel
theorem dL_law_551 : decode cL_law 551 = .ok (.if_icmp .eq 5, 3) := by decide +kernel
theorem dL_law_554 : decode cL_law 554 = .ok (.iconst 0, 1) := by decide +kernel
theorem dL_law_555 : decode cL_law 555 = .ok (.ireturn, 1) := by decide +kernel
theorem dL_law_556 : decode cL_law 556 = .ok (.iload 5, 2) := by decide +kernel
theorem dL_law_558 : decode cL_law 558 = .ok (.ifCond .ne 15, 3) := by decide +kernel
theorem dL_law_561 : decode cL_law 561 = .ok (.aload_n 3, 1) := by decide +kernel
theorem dL_law_562 : decode cL_law 562 = .ok (.iconst 0, 1) := by decide +kernel
theorem dL_law_563 : decode cL_law 563 = .ok (.laload, 1) := by decide +kernel
theorem dL_law_564 : decode cL_law 564 = .ok (.iload 6, 2) := by decide +kernel
theorem dL_law_566 : decode cL_law 566 = .ok (.i2l, 1) := by decide +kernel
theorem dL_law_567 : decode cL_law 567 = .ok (.lcmp, 1) := by decide +kernel
theorem dL_law_568 : decode cL_law 568 = .ok (.ifCond .eq 5, 3) := by decide +kernel
theorem dL_law_571 : decode cL_law 571 = .ok (.iconst 0, 1) := by decide +kernel
theorem dL_law_572 : decode cL_law 572 = .ok (.ireturn, 1) := by decide +kernel
theorem dL_law_573 : decode cL_law 573 = .ok (.goto 678, 3) := by decide +kernel
theorem dL_law_576 : decode cL_law 576 = .ok (.aload_n 1, 1) := by decide +kernel
theorem dL_law_577 : decode cL_law 577 = .ok (.aload_n 0, 1) := by decide +kernel
theorem dL_law_578 : decode cL_law 578 = .ok (.iload 4, 2) := by decide +kernel
theorem dL_law_580 : decode cL_law 580 = .ok (.iconst 1, 1) := by decide +kernel
theorem dL_law_581 : decode cL_law 581 = .ok (.iadd, 1) := by decide +kernel
theorem dL_law_582 : decode cL_law 582 = .ok (.iaload, 1) := by decide +kernel
theorem dL_law_583 : decode cL_law 583 = .ok (.aload_n 3, 1) := by decide +kernel
theorem dL_law_584 : decode cL_law 584 = .ok (.invokestatic 101, 3) := by decide +kernel
theorem dL_law_587 : decode cL_law 587 = .ok (.istore 5, 2) := by decide +kernel
theorem dL_law_589 : decode cL_law 589 = .ok (.aload_n 2, 1) := by decide +kernel
theorem dL_law_590 : decode cL_law 590 = .ok (.aload_n 0, 1) := by decide +kernel
theorem dL_law_591 : decode cL_law 591 = .ok (.iload 4, 2) := by decide +kernel
theorem dL_law_593 : decode cL_law 593 = .ok (.iconst 1, 1) := by decide +kernel
theorem dL_law_594 : decode cL_law 594 = .ok (.iadd, 1) := by decide +kernel
theorem dL_law_595 : decode cL_law 595 = .ok (.iaload, 1) := by decide +kernel
theorem dL_law_596 : decode cL_law 596 = .ok (.invokevirtual 103, 3) := by decide +kernel
theorem dL_law_599 : decode cL_law 599 = .ok (.istore 6, 2) := by decide +kernel
theorem dL_law_601 : decode cL_law 601 = .ok (.aload_n 2, 1) := by decide +kernel
theorem dL_law_602 : decode cL_law 602 = .ok (.invokevirtual 78, 3) := by decide +kernel
theorem dL_law_605 : decode cL_law 605 = .ok (.iload 5, 2) := by decide +kernel
theorem dL_law_607 : decode cL_law 607 = .ok (.if_icmp .eq 5, 3) := by decide +kernel
theorem dL_law_610 : decode cL_law 610 = .ok (.iconst 0, 1) := by decide +kernel
theorem dL_law_611 : decode cL_law 611 = .ok (.ireturn, 1) := by decide +kernel
theorem dL_law_612 : decode cL_law 612 = .ok (.iload 5, 2) := by decide +kernel
theorem dL_law_614 : decode cL_law 614 = .ok (.ifCond .ne 15, 3) := by decide +kernel
theorem dL_law_617 : decode cL_law 617 = .ok (.aload_n 3, 1) := by decide +kernel
theorem dL_law_618 : decode cL_law 618 = .ok (.iconst 0, 1) := by decide +kernel
theorem dL_law_619 : decode cL_law 619 = .ok (.laload, 1) := by decide +kernel
theorem dL_law_620 : decode cL_law 620 = .ok (.iload 6, 2) := by decide +kernel
theorem dL_law_622 : decode cL_law 622 = .ok (.i2l, 1) := by decide +kernel
theorem dL_law_623 : decode cL_law 623 = .ok (.lcmp, 1) := by decide +kernel
theorem dL_law_624 : decode cL_law 624 = .ok (.ifCond .eq 5, 3) := by decide +kernel
theorem dL_law_627 : decode cL_law 627 = .ok (.iconst 0, 1) := by decide +kernel
theorem dL_law_628 : decode cL_law 628 = .ok (.ireturn, 1) := by decide +kernel
theorem dL_law_629 : decode cL_law 629 = .ok (.goto 622, 3) := by decide +kernel
theorem dL_law_632 : decode cL_law 632 = .ok (.aload_n 1, 1) := by decide +kernel
theorem dL_law_633 : decode cL_law 633 = .ok (.aload_n 0, 1) := by decide +kernel
theorem dL_law_634 : decode cL_law 634 = .ok (.iload 4, 2) := by decide +kernel
theorem dL_law_636 : decode cL_law 636 = .ok (.iconst 1, 1) := by decide +kernel
theorem dL_law_637 : decode cL_law 637 = .ok (.iadd, 1) := by decide +kernel
theorem dL_law_638 : decode cL_law 638 = .ok (.iaload, 1) := by decide +kernel
theorem dL_law_639 : decode cL_law 639 = .ok (.aload_n 0, 1) := by decide +kernel
theorem dL_law_640 : decode cL_law 640 = .ok (.iload 4, 2) := by decide +kernel
theorem dL_law_642 : decode cL_law 642 = .ok (.iconst 2, 1) := by decide +kernel
theorem dL_law_643 : decode cL_law 643 = .ok (.iadd, 1) := by decide +kernel
theorem dL_law_644 : decode cL_law 644 = .ok (.iaload, 1) := by decide +kernel
theorem dL_law_645 : decode cL_law 645 = .ok (.aload_n 3, 1) := by decide +kernel
theorem dL_law_646 : decode cL_law 646 = .ok (.invokestatic 104, 3) := by decide +kernel
theorem dL_law_649 : decode cL_law 649 = .ok (.istore 5, 2) := by decide +kernel
theorem dL_law_651 : decode cL_law 651 = .ok (.aload_n 2, 1) := by decide +kernel
theorem dL_law_652 : decode cL_law 652 = .ok (.aload_n 0, 1) := by decide +kernel
theorem dL_law_653 : decode cL_law 653 = .ok (.iload 4, 2) := by decide +kernel
theorem dL_law_655 : decode cL_law 655 = .ok (.iconst 1, 1) := by decide +kernel
theorem dL_law_656 : decode cL_law 656 = .ok (.iadd, 1) := by decide +kernel
theorem dL_law_657 : decode cL_law 657 = .ok (.iaload, 1) := by decide +kernel
theorem dL_law_658 : decode cL_law 658 = .ok (.aload_n 0, 1) := by decide +kernel
theorem dL_law_659 : decode cL_law 659 = .ok (.iload 4, 2) := by decide +kernel
theorem dL_law_661 : decode cL_law 661 = .ok (.iconst 2, 1) := by decide +kernel
theorem dL_law_662 : decode cL_law 662 = .ok (.iadd, 1) := by decide +kernel
theorem dL_law_663 : decode cL_law 663 = .ok (.iaload, 1) := by decide +kernel
theorem dL_law_664 : decode cL_law 664 = .ok (.invokevirtual 106, 3) := by decide +kernel
theorem dL_law_667 : decode cL_law 667 = .ok (.istore 6, 2) := by decide +kernel
theorem dL_law_669 : decode cL_law 669 = .ok (.aload_n 2, 1) := by decide +kernel
theorem dL_law_670 : decode cL_law 670 = .ok (.invokevirtual 78, 3) := by decide +kernel
theorem dL_law_673 : decode cL_law 673 = .ok (.iload 5, 2) := by decide +kernel
theorem dL_law_675 : decode cL_law 675 = .ok (.if_icmp .eq 5, 3) := by decide +kernel
theorem dL_law_678 : decode cL_law 678 = .ok (.iconst 0, 1) := by decide +kernel
theorem dL_law_679 : decode cL_law 679 = .ok (.ireturn, 1) := by decide +kernel
theorem dL_law_680 : decode cL_law 680 = .ok (.iload 5, 2) := by decide +kernel
theorem dL_law_682 : decode cL_law 682 = .ok (.ifCond .ne 15, 3) := by decide +kernel
theorem dL_law_685 : decode cL_law 685 = .ok (.aload_n 3, 1) := by decide +kernel
theorem dL_law_686 : decode cL_law 686 = .ok (.iconst 0, 1) := by decide +kernel
theorem dL_law_687 : decode cL_law 687 = .ok (.laload, 1) := by decide +kernel
theorem dL_law_688 : decode cL_law 688 = .ok (.iload 6, 2) := by decide +kernel
theorem dL_law_690 : decode cL_law 690 = .ok (.i2l, 1) := by decide +kernel
theorem dL_law_691 : decode cL_law 691 = .ok (.lcmp, 1) := by decide +kernel
theorem dL_law_692 : decode cL_law 692 = .ok (.ifCond .eq 5, 3) := by decide +kernel
theorem dL_law_695 : decode cL_law 695 = .ok (.iconst 0, 1) := by decide +kernel
theorem dL_law_696 : decode cL_law 696 = .ok (.ireturn, 1) := by decide +kernel
theorem dL_law_697 : decode cL_law 697 = .ok (.goto 554, 3) := by decide +kernel
theorem dL_law_700 : decode cL_law 700 = .ok (.aload_n 1, 1) := by decide +kernel
theorem dL_law_701 : decode cL_law 701 = .ok (.aload_n 0, 1) := by decide +kernel
theorem dL_law_702 : decode cL_law 702 = .ok (.iload 4, 2) := by decide +kernel
theorem dL_law_704 : decode cL_law 704 = .ok (.iconst 1, 1) := by decide +kernel
theorem dL_law_705 : decode cL_law 705 = .ok (.iadd, 1) := by decide +kernel
theorem dL_law_706 : decode cL_law 706 = .ok (.iaload, 1) := by decide +kernel
theorem dL_law_707 : decode cL_law 707 = .ok (.aload_n 0, 1) := by decide +kernel
theorem dL_law_708 : decode cL_law 708 = .ok (.iload 4, 2) := by decide +kernel
theorem dL_law_710 : decode cL_law 710 = .ok (.iconst 2, 1) := by decide +kernel
theorem dL_law_711 : decode cL_law 711 = .ok (.iadd, 1) := by decide +kernel
theorem dL_law_712 : decode cL_law 712 = .ok (.iaload, 1) := by decide +kernel
theorem dL_law_713 : decode cL_law 713 = .ok (.aload_n 3, 1) := by decide +kernel
theorem dL_law_714 : decode cL_law 714 = .ok (.invokestatic 107, 3) := by decide +kernel
theorem dL_law_717 : decode cL_law 717 = .ok (.istore 5, 2) := by decide +kernel
theorem dL_law_719 : decode cL_law 719 = .ok (.aload_n 2, 1) := by decide +kernel
theorem dL_law_720 : decode cL_law 720 = .ok (.aload_n 0, 1) := by decide +kernel
theorem dL_law_721 : decode cL_law 721 = .ok (.iload 4, 2) := by decide +kernel
theorem dL_law_723 : decode cL_law 723 = .ok (.iconst 1, 1) := by decide +kernel
theorem dL_law_724 : decode cL_law 724 = .ok (.iadd, 1) := by decide +kernel
theorem dL_law_725 : decode cL_law 725 = .ok (.iaload, 1) := by decide +kernel
theorem dL_law_726 : decode cL_law 726 = .ok (.aload_n 0, 1) := by decide +kernel
theorem dL_law_727 : decode cL_law 727 = .ok (.iload 4, 2) := by decide +kernel
theorem dL_law_729 : decode cL_law 729 = .ok (.iconst 2, 1) := by decide +kernel
theorem dL_law_730 : decode cL_law 730 = .ok (.iadd, 1) := by decide +kernel
theorem dL_law_731 : decode cL_law 731 = .ok (.iaload, 1) := by decide +kernel
theorem dL_law_732 : decode cL_law 732 = .ok (.invokevirtual 109, 3) := by decide +kernel
theorem dL_law_735 : decode cL_law 735 = .ok (.istore 6, 2) := by decide +kernel
theorem dL_law_737 : decode cL_law 737 = .ok (.aload_n 2, 1) := by decide +kernel
theorem dL_law_738 : decode cL_law 738 = .ok (.invokevirtual 78, 3) := by decide +kernel
theorem dL_law_741 : decode cL_law 741 = .ok (.iload 5, 2) := by decide +kernel
theorem dL_law_743 : decode cL_law 743 = .ok (.if_icmp .eq 5, 3) := by decide +kernel
theorem dL_law_746 : decode cL_law 746 = .ok (.iconst 0, 1) := by decide +kernel
theorem dL_law_747 : decode cL_law 747 = .ok (.ireturn, 1) := by decide +kernel
theorem dL_law_748 : decode cL_law 748 = .ok (.iload 5, 2) := by decide +kernel
theorem dL_law_750 : decode cL_law 750 = .ok (.ifCond .ne 15, 3) := by decide +kernel
theorem dL_law_753 : decode cL_law 753 = .ok (.aload_n 3, 1) := by decide +kernel
theorem dL_law_754 : decode cL_law 754 = .ok (.iconst 0, 1) := by decide +kernel
theorem dL_law_755 : decode cL_law 755 = .ok (.laload, 1) := by decide +kernel
theorem dL_law_756 : decode cL_law 756 = .ok (.iload 6, 2) := by decide +kernel
theorem dL_law_758 : decode cL_law 758 = .ok (.i2l, 1) := by decide +kernel
theorem dL_law_759 : decode cL_law 759 = .ok (.lcmp, 1) := by decide +kernel
theorem dL_law_760 : decode cL_law 760 = .ok (.ifCond .eq 5, 3) := by decide +kernel
theorem dL_law_763 : decode cL_law 763 = .ok (.iconst 0, 1) := by decide +kernel
theorem dL_law_764 : decode cL_law 764 = .ok (.ireturn, 1) := by decide +kernel
theorem dL_law_765 : decode cL_law 765 = .ok (.goto 486, 3) := by decide +kernel
theorem dL_law_768 : decode cL_law 768 = .ok (.aload_n 1, 1) := by decide +kernel
theorem dL_law_769 : decode cL_law 769 = .ok (.aload_n 0, 1) := by decide +kernel
theorem dL_law_770 : decode cL_law 770 = .ok (.iload 4, 2) := by decide +kernel
theorem dL_law_772 : decode cL_law 772 = .ok (.iconst 1, 1) := by decide +kernel
theorem dL_law_773 : decode cL_law 773 = .ok (.iadd, 1) := by decide +kernel
theorem dL_law_774 : decode cL_law 774 = .ok (.iaload, 1) := by decide +kernel
theorem dL_law_775 : decode cL_law 775 = .ok (.aload_n 0, 1) := by decide +kernel
theorem dL_law_776 : decode cL_law 776 = .ok (.iload 4, 2) := by decide +kernel
theorem dL_law_778 : decode cL_law 778 = .ok (.iconst 2, 1) := by decide +kernel
theorem dL_law_779 : decode cL_law 779 = .ok (.iadd, 1) := by decide +kernel
theorem dL_law_780 : decode cL_law 780 = .ok (.iaload, 1) := by decide +kernel
theorem dL_law_781 : decode cL_law 781 = .ok (.aload_n 3, 1) := by decide +kernel
theorem dL_law_782 : decode cL_law 782 = .ok (.invokestatic 110, 3) := by decide +kernel
theorem dL_law_785 : decode cL_law 785 = .ok (.istore 5, 2) := by decide +kernel
theorem dL_law_787 : decode cL_law 787 = .ok (.aload_n 2, 1) := by decide +kernel
theorem dL_law_788 : decode cL_law 788 = .ok (.aload_n 0, 1) := by decide +kernel
theorem dL_law_789 : decode cL_law 789 = .ok (.iload 4, 2) := by decide +kernel
theorem dL_law_791 : decode cL_law 791 = .ok (.iconst 1, 1) := by decide +kernel
theorem dL_law_792 : decode cL_law 792 = .ok (.iadd, 1) := by decide +kernel
theorem dL_law_793 : decode cL_law 793 = .ok (.iaload, 1) := by decide +kernel
theorem dL_law_794 : decode cL_law 794 = .ok (.aload_n 0, 1) := by decide +kernel
theorem dL_law_795 : decode cL_law 795 = .ok (.iload 4, 2) := by decide +kernel
theorem dL_law_797 : decode cL_law 797 = .ok (.iconst 2, 1) := by decide +kernel
theorem dL_law_798 : decode cL_law 798 = .ok (.iadd, 1) := by decide +kernel
theorem dL_law_799 : decode cL_law 799 = .ok (.iaload, 1) := by decide +kernel
theorem dL_law_800 : decode cL_law 800 = .ok (.invokevirtual 112, 3) := by decide +kernel
theorem dL_law_803 : decode cL_law 803 = .ok (.istore 6, 2) := by decide +kernel
theorem dL_law_805 : decode cL_law 805 = .ok (.aload_n 2, 1) := by decide +kernel
theorem dL_law_806 : decode cL_law 806 = .ok (.invokevirtual 78, 3) := by decide +kernel
theorem dL_law_809 : decode cL_law 809 = .ok (.iload 5, 2) := by decide +kernel
theorem dL_law_811 : decode cL_law 811 = .ok (.if_icmp .eq 5, 3) := by decide +kernel
theorem dL_law_814 : decode cL_law 814 = .ok (.iconst 0, 1) := by decide +kernel
theorem dL_law_815 : decode cL_law 815 = .ok (.ireturn, 1) := by decide +kernel
theorem dL_law_816 : decode cL_law 816 = .ok (.iload 5, 2) := by decide +kernel
theorem dL_law_818 : decode cL_law 818 = .ok (.ifCond .ne 15, 3) := by decide +kernel
theorem dL_law_821 : decode cL_law 821 = .ok (.aload_n 3, 1) := by decide +kernel
theorem dL_law_822 : decode cL_law 822 = .ok (.iconst 0, 1) := by decide +kernel
theorem dL_law_823 : decode cL_law 823 = .ok (.laload, 1) := by decide +kernel
theorem dL_law_824 : decode cL_law 824 = .ok (.iload 6, 2) := by decide +kernel
theorem dL_law_826 : decode cL_law 826 = .ok (.i2l, 1) := by decide +kernel
theorem dL_law_827 : decode cL_law 827 = .ok (.lcmp, 1) := by decide +kernel
theorem dL_law_828 : decode cL_law 828 = .ok (.ifCond .eq 5, 3) := by decide +kernel
theorem dL_law_831 : decode cL_law 831 = .ok (.iconst 0, 1) := by decide +kernel
theorem dL_law_832 : decode cL_law 832 = .ok (.ireturn, 1) := by decide +kernel
theorem dL_law_833 : decode cL_law 833 = .ok (.goto 418, 3) := by decide +kernel
theorem dL_law_836 : decode cL_law 836 = .ok (.aload_n 1, 1) := by decide +kernel
theorem dL_law_837 : decode cL_law 837 = .ok (.aload_n 0, 1) := by decide +kernel
theorem dL_law_838 : decode cL_law 838 = .ok (.iload 4, 2) := by decide +kernel
theorem dL_law_840 : decode cL_law 840 = .ok (.iconst 1, 1) := by decide +kernel
theorem dL_law_841 : decode cL_law 841 = .ok (.iadd, 1) := by decide +kernel
theorem dL_law_842 : decode cL_law 842 = .ok (.iaload, 1) := by decide +kernel
theorem dL_law_843 : decode cL_law 843 = .ok (.aload_n 0, 1) := by decide +kernel
theorem dL_law_844 : decode cL_law 844 = .ok (.iload 4, 2) := by decide +kernel
theorem dL_law_846 : decode cL_law 846 = .ok (.iconst 2, 1) := by decide +kernel
theorem dL_law_847 : decode cL_law 847 = .ok (.iadd, 1) := by decide +kernel
theorem dL_law_848 : decode cL_law 848 = .ok (.iaload, 1) := by decide +kernel
theorem dL_law_849 : decode cL_law 849 = .ok (.aload_n 3, 1) := by decide +kernel
theorem dL_law_850 : decode cL_law 850 = .ok (.invokestatic 113, 3) := by decide +kernel
theorem dL_law_853 : decode cL_law 853 = .ok (.istore 5, 2) := by decide +kernel
theorem dL_law_855 : decode cL_law 855 = .ok (.aload_n 2, 1) := by decide +kernel
theorem dL_law_856 : decode cL_law 856 = .ok (.aload_n 0, 1) := by decide +kernel
theorem dL_law_857 : decode cL_law 857 = .ok (.iload 4, 2) := by decide +kernel
theorem dL_law_859 : decode cL_law 859 = .ok (.iconst 1, 1) := by decide +kernel
theorem dL_law_860 : decode cL_law 860 = .ok (.iadd, 1) := by decide +kernel
theorem dL_law_861 : decode cL_law 861 = .ok (.iaload, 1) := by decide +kernel
theorem dL_law_862 : decode cL_law 862 = .ok (.aload_n 0, 1) := by decide +kernel
theorem dL_law_863 : decode cL_law 863 = .ok (.iload 4, 2) := by decide +kernel
theorem dL_law_865 : decode cL_law 865 = .ok (.iconst 2, 1) := by decide +kernel
theorem dL_law_866 : decode cL_law 866 = .ok (.iadd, 1) := by decide +kernel
theorem dL_law_867 : decode cL_law 867 = .ok (.iaload, 1) := by decide +kernel
theorem dL_law_868 : decode cL_law 868 = .ok (.invokevirtual 115, 3) := by decide +kernel
theorem dL_law_871 : decode cL_law 871 = .ok (.istore 6, 2) := by decide +kernel
theorem dL_law_873 : decode cL_law 873 = .ok (.aload_n 2, 1) := by decide +kernel
theorem dL_law_874 : decode cL_law 874 = .ok (.invokevirtual 78, 3) := by decide +kernel
theorem dL_law_877 : decode cL_law 877 = .ok (.iload 5, 2) := by decide +kernel
theorem dL_law_879 : decode cL_law 879 = .ok (.if_icmp .eq 5, 3) := by decide +kernel
theorem dL_law_882 : decode cL_law 882 = .ok (.iconst 0, 1) := by decide +kernel
theorem dL_law_883 : decode cL_law 883 = .ok (.ireturn, 1) := by decide +kernel
theorem dL_law_884 : decode cL_law 884 = .ok (.iload 5, 2) := by decide +kernel
theorem dL_law_886 : decode cL_law 886 = .ok (.ifCond .ne 15, 3) := by decide +kernel
theorem dL_law_889 : decode cL_law 889 = .ok (.aload_n 3, 1) := by decide +kernel
theorem dL_law_890 : decode cL_law 890 = .ok (.iconst 0, 1) := by decide +kernel
theorem dL_law_891 : decode cL_law 891 = .ok (.laload, 1) := by decide +kernel
theorem dL_law_892 : decode cL_law 892 = .ok (.iload 6, 2) := by decide +kernel
theorem dL_law_894 : decode cL_law 894 = .ok (.i2l, 1) := by decide +kernel
theorem dL_law_895 : decode cL_law 895 = .ok (.lcmp, 1) := by decide +kernel
theorem dL_law_896 : decode cL_law 896 = .ok (.ifCond .eq 5, 3) := by decide +kernel
theorem dL_law_899 : decode cL_law 899 = .ok (.iconst 0, 1) := by decide +kernel
theorem dL_law_900 : decode cL_law 900 = .ok (.ireturn, 1) := by decide +kernel
theorem dL_law_901 : decode cL_law 901 = .ok (.goto 350, 3) := by decide +kernel
theorem dL_law_904 : decode cL_law 904 = .ok (.aload_n 1, 1) := by decide +kernel
theorem dL_law_905 : decode cL_law 905 = .ok (.aload_n 0, 1) := by decide +kernel
theorem dL_law_906 : decode cL_law 906 = .ok (.iload 4, 2) := by decide +kernel
theorem dL_law_908 : decode cL_law 908 = .ok (.iconst 1, 1) := by decide +kernel
theorem dL_law_909 : decode cL_law 909 = .ok (.iadd, 1) := by decide +kernel
theorem dL_law_910 : decode cL_law 910 = .ok (.iaload, 1) := by decide +kernel
theorem dL_law_911 : decode cL_law 911 = .ok (.aload_n 3, 1) := by decide +kernel
theorem dL_law_912 : decode cL_law 912 = .ok (.invokestatic 116, 3) := by decide +kernel
theorem dL_law_915 : decode cL_law 915 = .ok (.istore 5, 2) := by decide +kernel
theorem dL_law_917 : decode cL_law 917 = .ok (.aload_n 2, 1) := by decide +kernel
theorem dL_law_918 : decode cL_law 918 = .ok (.aload_n 0, 1) := by decide +kernel
theorem dL_law_919 : decode cL_law 919 = .ok (.iload 4, 2) := by decide +kernel
theorem dL_law_921 : decode cL_law 921 = .ok (.iconst 1, 1) := by decide +kernel
theorem dL_law_922 : decode cL_law 922 = .ok (.iadd, 1) := by decide +kernel
theorem dL_law_923 : decode cL_law 923 = .ok (.iaload, 1) := by decide +kernel
theorem dL_law_924 : decode cL_law 924 = .ok (.invokevirtual 118, 3) := by decide +kernel
theorem dL_law_927 : decode cL_law 927 = .ok (.istore 6, 2) := by decide +kernel
theorem dL_law_929 : decode cL_law 929 = .ok (.aload_n 2, 1) := by decide +kernel
theorem dL_law_930 : decode cL_law 930 = .ok (.invokevirtual 78, 3) := by decide +kernel
theorem dL_law_933 : decode cL_law 933 = .ok (.iload 5, 2) := by decide +kernel
theorem dL_law_935 : decode cL_law 935 = .ok (.if_icmp .eq 5, 3) := by decide +kernel
theorem dL_law_938 : decode cL_law 938 = .ok (.iconst 0, 1) := by decide +kernel
theorem dL_law_939 : decode cL_law 939 = .ok (.ireturn, 1) := by decide +kernel
theorem dL_law_940 : decode cL_law 940 = .ok (.iload 5, 2) := by decide +kernel
theorem dL_law_942 : decode cL_law 942 = .ok (.ifCond .ne 15, 3) := by decide +kernel
theorem dL_law_945 : decode cL_law 945 = .ok (.aload_n 3, 1) := by decide +kernel
theorem dL_law_946 : decode cL_law 946 = .ok (.iconst 0, 1) := by decide +kernel
theorem dL_law_947 : decode cL_law 947 = .ok (.laload, 1) := by decide +kernel
theorem dL_law_948 : decode cL_law 948 = .ok (.iload 6, 2) := by decide +kernel
theorem dL_law_950 : decode cL_law 950 = .ok (.i2l, 1) := by decide +kernel
theorem dL_law_951 : decode cL_law 951 = .ok (.lcmp, 1) := by decide +kernel
theorem dL_law_952 : decode cL_law 952 = .ok (.ifCond .eq 5, 3) := by decide +kernel
theorem dL_law_955 : decode cL_law 955 = .ok (.iconst 0, 1) := by decide +kernel
theorem dL_law_956 : decode cL_law 956 = .ok (.ireturn, 1) := by decide +kernel
theorem dL_law_957 : decode cL_law 957 = .ok (.goto 294, 3) := by decide +kernel
theorem dL_law_960 : decode cL_law 960 = .ok (.aload_n 1, 1) := by decide +kernel
theorem dL_law_961 : decode cL_law 961 = .ok (.aload_n 0, 1) := by decide +kernel
theorem dL_law_962 : decode cL_law 962 = .ok (.iload 4, 2) := by decide +kernel
theorem dL_law_964 : decode cL_law 964 = .ok (.iconst 1, 1) := by decide +kernel
theorem dL_law_965 : decode cL_law 965 = .ok (.iadd, 1) := by decide +kernel
theorem dL_law_966 : decode cL_law 966 = .ok (.iaload, 1) := by decide +kernel
theorem dL_law_967 : decode cL_law 967 = .ok (.aload_n 3, 1) := by decide +kernel
theorem dL_law_968 : decode cL_law 968 = .ok (.invokestatic 119, 3) := by decide +kernel
theorem dL_law_971 : decode cL_law 971 = .ok (.istore 5, 2) := by decide +kernel
theorem dL_law_973 : decode cL_law 973 = .ok (.aload_n 2, 1) := by decide +kernel
theorem dL_law_974 : decode cL_law 974 = .ok (.aload_n 0, 1) := by decide +kernel
theorem dL_law_975 : decode cL_law 975 = .ok (.iload 4, 2) := by decide +kernel
theorem dL_law_977 : decode cL_law 977 = .ok (.iconst 1, 1) := by decide +kernel
theorem dL_law_978 : decode cL_law 978 = .ok (.iadd, 1) := by decide +kernel
theorem dL_law_979 : decode cL_law 979 = .ok (.iaload, 1) := by decide +kernel
theorem dL_law_980 : decode cL_law 980 = .ok (.invokevirtual 121, 3) := by decide +kernel
theorem dL_law_983 : decode cL_law 983 = .ok (.istore 6, 2) := by decide +kernel
theorem dL_law_985 : decode cL_law 985 = .ok (.aload_n 2, 1) := by decide +kernel
theorem dL_law_986 : decode cL_law 986 = .ok (.invokevirtual 78, 3) := by decide +kernel
theorem dL_law_989 : decode cL_law 989 = .ok (.iload 5, 2) := by decide +kernel
theorem dL_law_991 : decode cL_law 991 = .ok (.if_icmp .eq 5, 3) := by decide +kernel
theorem dL_law_994 : decode cL_law 994 = .ok (.iconst 0, 1) := by decide +kernel
theorem dL_law_995 : decode cL_law 995 = .ok (.ireturn, 1) := by decide +kernel
theorem dL_law_996 : decode cL_law 996 = .ok (.iload 5, 2) := by decide +kernel
theorem dL_law_998 : decode cL_law 998 = .ok (.ifCond .ne 15, 3) := by decide +kernel
theorem dL_law_1001 : decode cL_law 1001 = .ok (.aload_n 3, 1) := by decide +kernel
theorem dL_law_1002 : decode cL_law 1002 = .ok (.iconst 0, 1) := by decide +kernel
theorem dL_law_1003 : decode cL_law 1003 = .ok (.laload, 1) := by decide +kernel
theorem dL_law_1004 : decode cL_law 1004 = .ok (.iload 6, 2) := by decide +kernel
theorem dL_law_1006 : decode cL_law 1006 = .ok (.i2l, 1) := by decide +kernel
theorem dL_law_1007 : decode cL_law 1007 = .ok (.lcmp, 1) := by decide +kernel
theorem dL_law_1008 : decode cL_law 1008 = .ok (.ifCond .eq 5, 3) := by decide +kernel
theorem dL_law_1011 : decode cL_law 1011 = .ok (.iconst 0, 1) := by decide +kernel
theorem dL_law_1012 : decode cL_law 1012 = .ok (.ireturn, 1) := by decide +kernel
theorem dL_law_1013 : decode cL_law 1013 = .ok (.goto 238, 3) := by decide +kernel
theorem dL_law_1016 : decode cL_law 1016 = .ok (.aload_n 1, 1) := by decide +kernel
theorem dL_law_1017 : decode cL_law 1017 = .ok (.aload_n 0, 1) := by decide +kernel
theorem dL_law_1018 : decode cL_law 1018 = .ok (.iload 4, 2) := by decide +kernel
theorem dL_law_1020 : decode cL_law 1020 = .ok (.iconst 1, 1) := by decide +kernel
theorem dL_law_1021 : decode cL_law 1021 = .ok (.iadd, 1) := by decide +kernel
theorem dL_law_1022 : decode cL_law 1022 = .ok (.iaload, 1) := by decide +kernel
theorem dL_law_1023 : decode cL_law 1023 = .ok (.aload_n 3, 1) := by decide +kernel
theorem dL_law_1024 : decode cL_law 1024 = .ok (.invokestatic 122, 3) := by decide +kernel
theorem dL_law_1027 : decode cL_law 1027 = .ok (.istore 5, 2) := by decide +kernel
theorem dL_law_1029 : decode cL_law 1029 = .ok (.aload_n 2, 1) := by decide +kernel
theorem dL_law_1030 : decode cL_law 1030 = .ok (.aload_n 0, 1) := by decide +kernel
theorem dL_law_1031 : decode cL_law 1031 = .ok (.iload 4, 2) := by decide +kernel
theorem dL_law_1033 : decode cL_law 1033 = .ok (.iconst 1, 1) := by decide +kernel
theorem dL_law_1034 : decode cL_law 1034 = .ok (.iadd, 1) := by decide +kernel
theorem dL_law_1035 : decode cL_law 1035 = .ok (.iaload, 1) := by decide +kernel
theorem dL_law_1036 : decode cL_law 1036 = .ok (.invokevirtual 124, 3) := by decide +kernel
theorem dL_law_1039 : decode cL_law 1039 = .ok (.istore 6, 2) := by decide +kernel
theorem dL_law_1041 : decode cL_law 1041 = .ok (.aload_n 2, 1) := by decide +kernel
theorem dL_law_1042 : decode cL_law 1042 = .ok (.invokevirtual 78, 3) := by decide +kernel
theorem dL_law_1045 : decode cL_law 1045 = .ok (.iload 5, 2) := by decide +kernel
theorem dL_law_1047 : decode cL_law 1047 = .ok (.if_icmp .eq 5, 3) := by decide +kernel
theorem dL_law_1050 : decode cL_law 1050 = .ok (.iconst 0, 1) := by decide +kernel
theorem dL_law_1051 : decode cL_law 1051 = .ok (.ireturn, 1) := by decide +kernel
theorem dL_law_1052 : decode cL_law 1052 = .ok (.iload 5, 2) := by decide +kernel
theorem dL_law_1054 : decode cL_law 1054 = .ok (.ifCond .ne 15, 3) := by decide +kernel
theorem dL_law_1057 : decode cL_law 1057 = .ok (.aload_n 3, 1) := by decide +kernel
theorem dL_law_1058 : decode cL_law 1058 = .ok (.iconst 0, 1) := by decide +kernel
theorem dL_law_1059 : decode cL_law 1059 = .ok (.laload, 1) := by decide +kernel
theorem dL_law_1060 : decode cL_law 1060 = .ok (.iload 6, 2) := by decide +kernel
theorem dL_law_1062 : decode cL_law 1062 = .ok (.i2l, 1) := by decide +kernel
theorem dL_law_1063 : decode cL_law 1063 = .ok (.lcmp, 1) := by decide +kernel
theorem dL_law_1064 : decode cL_law 1064 = .ok (.ifCond .eq 5, 3) := by decide +kernel
theorem dL_law_1067 : decode cL_law 1067 = .ok (.iconst 0, 1) := by decide +kernel
theorem dL_law_1068 : decode cL_law 1068 = .ok (.ireturn, 1) := by decide +kernel
theorem dL_law_1069 : decode cL_law 1069 = .ok (.goto 182, 3) := by decide +kernel
theorem dL_law_1072 : decode cL_law 1072 = .ok (.aload_n 1, 1) := by decide +kernel
theorem dL_law_1073 : decode cL_law 1073 = .ok (.aload_n 0, 1) := by decide +kernel
theorem dL_law_1074 : decode cL_law 1074 = .ok (.iload 4, 2) := by decide +kernel
theorem dL_law_1076 : decode cL_law 1076 = .ok (.iconst 1, 1) := by decide +kernel
theorem dL_law_1077 : decode cL_law 1077 = .ok (.iadd, 1) := by decide +kernel
theorem dL_law_1078 : decode cL_law 1078 = .ok (.iaload, 1) := by decide +kernel
theorem dL_law_1079 : decode cL_law 1079 = .ok (.aload_n 0, 1) := by decide +kernel
theorem dL_law_1080 : decode cL_law 1080 = .ok (.iload 4, 2) := by decide +kernel
theorem dL_law_1082 : decode cL_law 1082 = .ok (.iconst 2, 1) := by decide +kernel
theorem dL_law_1083 : decode cL_law 1083 = .ok (.iadd, 1) := by decide +kernel
theorem dL_law_1084 : decode cL_law 1084 = .ok (.iaload, 1) := by decide +kernel
theorem dL_law_1085 : decode cL_law 1085 = .ok (.aload_n 3, 1) := by decide +kernel
theorem dL_law_1086 : decode cL_law 1086 = .ok (.invokestatic 125, 3) := by decide +kernel
theorem dL_law_1089 : decode cL_law 1089 = .ok (.istore 5, 2) := by decide +kernel
theorem dL_law_1091 : decode cL_law 1091 = .ok (.aload_n 2, 1) := by decide +kernel
theorem dL_law_1092 : decode cL_law 1092 = .ok (.aload_n 0, 1) := by decide +kernel
theorem dL_law_1093 : decode cL_law 1093 = .ok (.iload 4, 2) := by decide +kernel
theorem dL_law_1095 : decode cL_law 1095 = .ok (.iconst 1, 1) := by decide +kernel
theorem dL_law_1096 : decode cL_law 1096 = .ok (.iadd, 1) := by decide +kernel
theorem dL_law_1097 : decode cL_law 1097 = .ok (.iaload, 1) := by decide +kernel
theorem dL_law_1098 : decode cL_law 1098 = .ok (.aload_n 0, 1) := by decide +kernel
theorem dL_law_1099 : decode cL_law 1099 = .ok (.iload 4, 2) := by decide +kernel
theorem dL_law_1101 : decode cL_law 1101 = .ok (.iconst 2, 1) := by decide +kernel
theorem dL_law_1102 : decode cL_law 1102 = .ok (.iadd, 1) := by decide +kernel
theorem dL_law_1103 : decode cL_law 1103 = .ok (.iaload, 1) := by decide +kernel
theorem dL_law_1104 : decode cL_law 1104 = .ok (.invokevirtual 127, 3) := by decide +kernel
theorem dL_law_1107 : decode cL_law 1107 = .ok (.istore 6, 2) := by decide +kernel
theorem dL_law_1109 : decode cL_law 1109 = .ok (.aload_n 2, 1) := by decide +kernel
theorem dL_law_1110 : decode cL_law 1110 = .ok (.invokevirtual 78, 3) := by decide +kernel
theorem dL_law_1113 : decode cL_law 1113 = .ok (.iload 5, 2) := by decide +kernel
theorem dL_law_1115 : decode cL_law 1115 = .ok (.if_icmp .eq 5, 3) := by decide +kernel
theorem dL_law_1118 : decode cL_law 1118 = .ok (.iconst 0, 1) := by decide +kernel
theorem dL_law_1119 : decode cL_law 1119 = .ok (.ireturn, 1) := by decide +kernel
theorem dL_law_1120 : decode cL_law 1120 = .ok (.iload 5, 2) := by decide +kernel
theorem dL_law_1122 : decode cL_law 1122 = .ok (.ifCond .ne 15, 3) := by decide +kernel
theorem dL_law_1125 : decode cL_law 1125 = .ok (.aload_n 3, 1) := by decide +kernel
theorem dL_law_1126 : decode cL_law 1126 = .ok (.iconst 0, 1) := by decide +kernel
theorem dL_law_1127 : decode cL_law 1127 = .ok (.laload, 1) := by decide +kernel
theorem dL_law_1128 : decode cL_law 1128 = .ok (.iload 6, 2) := by decide +kernel
theorem dL_law_1130 : decode cL_law 1130 = .ok (.i2l, 1) := by decide +kernel
theorem dL_law_1131 : decode cL_law 1131 = .ok (.lcmp, 1) := by decide +kernel
theorem dL_law_1132 : decode cL_law 1132 = .ok (.ifCond .eq 5, 3) := by decide +kernel
theorem dL_law_1135 : decode cL_law 1135 = .ok (.iconst 0, 1) := by decide +kernel
theorem dL_law_1136 : decode cL_law 1136 = .ok (.ireturn, 1) := by decide +kernel
theorem dL_law_1137 : decode cL_law 1137 = .ok (.goto 114, 3) := by decide +kernel
theorem dL_law_1140 : decode cL_law 1140 = .ok (.aload_n 1, 1) := by decide +kernel
theorem dL_law_1141 : decode cL_law 1141 = .ok (.aload_n 0, 1) := by decide +kernel
theorem dL_law_1142 : decode cL_law 1142 = .ok (.iload 4, 2) := by decide +kernel
theorem dL_law_1144 : decode cL_law 1144 = .ok (.iconst 1, 1) := by decide +kernel
theorem dL_law_1145 : decode cL_law 1145 = .ok (.iadd, 1) := by decide +kernel
theorem dL_law_1146 : decode cL_law 1146 = .ok (.iaload, 1) := by decide +kernel
theorem dL_law_1147 : decode cL_law 1147 = .ok (.aload_n 3, 1) := by decide +kernel
theorem dL_law_1148 : decode cL_law 1148 = .ok (.invokestatic 128, 3) := by decide +kernel
theorem dL_law_1151 : decode cL_law 1151 = .ok (.istore 5, 2) := by decide +kernel
theorem dL_law_1153 : decode cL_law 1153 = .ok (.aload_n 2, 1) := by decide +kernel
theorem dL_law_1154 : decode cL_law 1154 = .ok (.aload_n 0, 1) := by decide +kernel
theorem dL_law_1155 : decode cL_law 1155 = .ok (.iload 4, 2) := by decide +kernel
theorem dL_law_1157 : decode cL_law 1157 = .ok (.iconst 1, 1) := by decide +kernel
theorem dL_law_1158 : decode cL_law 1158 = .ok (.iadd, 1) := by decide +kernel
theorem dL_law_1159 : decode cL_law 1159 = .ok (.iaload, 1) := by decide +kernel
theorem dL_law_1160 : decode cL_law 1160 = .ok (.invokevirtual 130, 3) := by decide +kernel
theorem dL_law_1163 : decode cL_law 1163 = .ok (.istore 6, 2) := by decide +kernel
theorem dL_law_1165 : decode cL_law 1165 = .ok (.aload_n 2, 1) := by decide +kernel
theorem dL_law_1166 : decode cL_law 1166 = .ok (.invokevirtual 78, 3) := by decide +kernel
theorem dL_law_1169 : decode cL_law 1169 = .ok (.iload 5, 2) := by decide +kernel
theorem dL_law_1171 : decode cL_law 1171 = .ok (.if_icmp .eq 5, 3) := by decide +kernel
theorem dL_law_1174 : decode cL_law 1174 = .ok (.iconst 0, 1) := by decide +kernel
theorem dL_law_1175 : decode cL_law 1175 = .ok (.ireturn, 1) := by decide +kernel
theorem dL_law_1176 : decode cL_law 1176 = .ok (.iload 5, 2) := by decide +kernel
theorem dL_law_1178 : decode cL_law 1178 = .ok (.ifCond .ne 15, 3) := by decide +kernel
theorem dL_law_1181 : decode cL_law 1181 = .ok (.aload_n 3, 1) := by decide +kernel
theorem dL_law_1182 : decode cL_law 1182 = .ok (.iconst 0, 1) := by decide +kernel
theorem dL_law_1183 : decode cL_law 1183 = .ok (.laload, 1) := by decide +kernel
theorem dL_law_1184 : decode cL_law 1184 = .ok (.iload 6, 2) := by decide +kernel
theorem dL_law_1186 : decode cL_law 1186 = .ok (.i2l, 1) := by decide +kernel
theorem dL_law_1187 : decode cL_law 1187 = .ok (.lcmp, 1) := by decide +kernel
theorem dL_law_1188 : decode cL_law 1188 = .ok (.ifCond .eq 5, 3) := by decide +kernel
theorem dL_law_1191 : decode cL_law 1191 = .ok (.iconst 0, 1) := by decide +kernel
theorem dL_law_1192 : decode cL_law 1192 = .ok (.ireturn, 1) := by decide +kernel
theorem dL_law_1193 : decode cL_law 1193 = .ok (.goto 58, 3) := by decide +kernel
theorem dL_law_1196 : decode cL_law 1196 = .ok (.aload_n 1, 1) := by decide +kernel
theorem dL_law_1197 : decode cL_law 1197 = .ok (.invokevirtual 131, 3) := by decide +kernel
theorem dL_law_1200 : decode cL_law 1200 = .ok (.dstore 5, 2) := by decide +kernel
theorem dL_law_1202 : decode cL_law 1202 = .ok (.aload_n 2, 1) := by decide +kernel
theorem dL_law_1203 : decode cL_law 1203 = .ok (.invokevirtual 135, 3) := by decide +kernel
theorem dL_law_1206 : decode cL_law 1206 = .ok (.dstore 7, 2) := by decide +kernel
theorem dL_law_1208 : decode cL_law 1208 = .ok (.dload 5, 2) := by decide +kernel
theorem dL_law_1210 : decode cL_law 1210 = .ok (.dload 7, 2) := by decide +kernel
theorem dL_law_1212 : decode cL_law 1212 = .ok (.dcmp .l, 1) := by decide +kernel
theorem dL_law_1213 : decode cL_law 1213 = .ok (.ifCond .eq 21, 3) := by decide +kernel
theorem dL_law_1216 : decode cL_law 1216 = .ok (.dload 5, 2) := by decide +kernel
theorem dL_law_1218 : decode cL_law 1218 = .ok (.dload 5, 2) := by decide +kernel
theorem dL_law_1220 : decode cL_law 1220 = .ok (.dcmp .l, 1) := by decide +kernel
theorem dL_law_1221 : decode cL_law 1221 = .ok (.ifCond .eq 11, 3) := by decide +kernel
theorem dL_law_1224 : decode cL_law 1224 = .ok (.dload 7, 2) := by decide +kernel
theorem dL_law_1226 : decode cL_law 1226 = .ok (.dload 7, 2) := by decide +kernel
theorem dL_law_1228 : decode cL_law 1228 = .ok (.dcmp .l, 1) := by decide +kernel
theorem dL_law_1229 : decode cL_law 1229 = .ok (.ifCond .ne 5, 3) := by decide +kernel
theorem dL_law_1232 : decode cL_law 1232 = .ok (.iconst 0, 1) := by decide +kernel
theorem dL_law_1233 : decode cL_law 1233 = .ok (.ireturn, 1) := by decide +kernel
theorem dL_law_1234 : decode cL_law 1234 = .ok (.goto 17, 3) := by decide +kernel
theorem dL_law_1237 : decode cL_law 1237 = .ok (.aload_n 1, 1) := by decide +kernel
theorem dL_law_1238 : decode cL_law 1238 = .ok (.invokevirtual 136, 3) := by decide +kernel
theorem dL_law_1241 : decode cL_law 1241 = .ok (.aload_n 2, 1) := by decide +kernel
theorem dL_law_1242 : decode cL_law 1242 = .ok (.invokevirtual 140, 3) := by decide +kernel
theorem dL_law_1245 : decode cL_law 1245 = .ok (.lcmp, 1) := by decide +kernel
theorem dL_law_1246 : decode cL_law 1246 = .ok (.ifCond .eq 5, 3) := by decide +kernel
theorem dL_law_1249 : decode cL_law 1249 = .ok (.iconst 0, 1) := by decide +kernel
theorem dL_law_1250 : decode cL_law 1250 = .ok (.ireturn, 1) := by decide +kernel
theorem dL_law_1251 : decode cL_law 1251 = .ok (.iinc 4 4, 3) := by decide +kernel
theorem dL_law_1254 : decode cL_law 1254 = .ok (.goto (-1231), 3) := by decide +kernel
theorem dL_law_1257 : decode cL_law 1257 = .ok (.iconst 1, 1) := by decide +kernel
theorem dL_law_1258 : decode cL_law 1258 = .ok (.ireturn, 1) := by decide +kernel
