-- decode rows (starting text: the printed names)
theorem dX0_init_0 : decode cX0_init 0 = .ok (.aload_n 0, 1) := by decide +kernel
theorem dX0_init_1 : decode cX0_init 1 = .ok (.invokespecial 3, 3) := by decide +kernel
theorem dX0_init_4 : decode cX0_init 4 = .ok (.aload_n 0, 1) := by decide +kernel
theorem dX0_init_5 : decode cX0_init 5 = .ok (.bipush 9, 2) := by decide +kernel
theorem dX0_init_7 : decode cX0_init 7 = .ok (.anewarray 9, 3) := by decide +kernel
theorem dX0_init_10 : decode cX0_init 10 = .ok (.putfield 11, 3) := by decide +kernel
theorem dX0_init_13 : decode cX0_init 13 = .ok (.aload_n 0, 1) := by decide +kernel
theorem dX0_init_14 : decode cX0_init 14 = .ok (.iconst 0, 1) := by decide +kernel
theorem dX0_init_15 : decode cX0_init 15 = .ok (.putfield 17, 3) := by decide +kernel
theorem dX0_init_18 : decode cX0_init 18 = .ok (.aload_n 0, 1) := by decide +kernel
theorem dX0_init_19 : decode cX0_init 19 = .ok (.iconst 0, 1) := by decide +kernel
theorem dX0_init_20 : decode cX0_init 20 = .ok (.putfield 21, 3) := by decide +kernel
theorem dX0_init_23 : decode cX0_init 23 = .ok (.aload_n 0, 1) := by decide +kernel
theorem dX0_init_24 : decode cX0_init 24 = .ok (.lconst 0, 1) := by decide +kernel
theorem dX0_init_25 : decode cX0_init 25 = .ok (.putfield 24, 3) := by decide +kernel
theorem dX0_init_28 : decode cX0_init 28 = .ok (.aload_n 0, 1) := by decide +kernel
theorem dX0_init_29 : decode cX0_init 29 = .ok (.lconst 1, 1) := by decide +kernel
theorem dX0_init_30 : decode cX0_init 30 = .ok (.putfield 28, 3) := by decide +kernel
theorem dX0_init_33 : decode cX0_init 33 = .ok (.aload_n 0, 1) := by decide +kernel
theorem dX0_init_34 : decode cX0_init 34 = .ok (.iconst 0, 1) := by decide +kernel
theorem dX0_init_35 : decode cX0_init 35 = .ok (.putfield 31, 3) := by decide +kernel
theorem dX0_init_38 : decode cX0_init 38 = .ok (.aload_n 0, 1) := by decide +kernel
theorem dX0_init_39 : decode cX0_init 39 = .ok (.iconst 0, 1) := by decide +kernel
theorem dX0_init_40 : decode cX0_init 40 = .ok (.putfield 34, 3) := by decide +kernel
theorem dX0_init_43 : decode cX0_init 43 = .ok (.aload_n 0, 1) := by decide +kernel
theorem dX0_init_44 : decode cX0_init 44 = .ok (.bipush 7, 2) := by decide +kernel
theorem dX0_init_46 : decode cX0_init 46 = .ok (.newarray .int, 2) := by decide +kernel
theorem dX0_init_48 : decode cX0_init 48 = .ok (.putfield 37, 3) := by decide +kernel
theorem dX0_init_51 : decode cX0_init 51 = .ok (.aload_n 0, 1) := by decide +kernel
theorem dX0_init_52 : decode cX0_init 52 = .ok (.iconst 0, 1) := by decide +kernel
theorem dX0_init_53 : decode cX0_init 53 = .ok (.putfield 41, 3) := by decide +kernel
theorem dX0_init_56 : decode cX0_init 56 = .ok (.aload_n 0, 1) := by decide +kernel
theorem dX0_init_57 : decode cX0_init 57 = .ok (.bipush 9, 2) := by decide +kernel
theorem dX0_init_59 : decode cX0_init 59 = .ok (.newarray .int, 2) := by decide +kernel
theorem dX0_init_61 : decode cX0_init 61 = .ok (.putfield 44, 3) := by decide +kernel
theorem dX0_init_64 : decode cX0_init 64 = .ok (.aload_n 0, 1) := by decide +kernel
theorem dX0_init_65 : decode cX0_init 65 = .ok (.aload_n 1, 1) := by decide +kernel
theorem dX0_init_66 : decode cX0_init 66 = .ok (.putfield 47, 3) := by decide +kernel
theorem dX0_init_69 : decode cX0_init 69 = .ok (.iconst 0, 1) := by decide +kernel
theorem dX0_init_70 : decode cX0_init 70 = .ok (.istore_n 2, 1) := by decide +kernel
theorem dX0_init_71 : decode cX0_init 71 = .ok (.iload_n 2, 1) := by decide +kernel
theorem dX0_init_72 : decode cX0_init 72 = .ok (.bipush 8, 2) := by decide +kernel
theorem dX0_init_74 : decode cX0_init 74 = .ok (.if_icmp .gt 23, 3) := by decide +kernel
theorem dX0_init_77 : decode cX0_init 77 = .ok (.aload_n 0, 1) := by decide +kernel
theorem dX0_init_78 : decode cX0_init 78 = .ok (.getfield 11, 3) := by decide +kernel
theorem dX0_init_81 : decode cX0_init 81 = .ok (.iload_n 2, 1) := by decide +kernel
theorem dX0_init_82 : decode cX0_init 82 = .ok (.new 9, 3) := by decide +kernel
theorem dX0_init_85 : decode cX0_init 85 = .ok (.dup, 1) := by decide +kernel
theorem dX0_init_86 : decode cX0_init 86 = .ok (.aload_n 1, 1) := by decide +kernel
theorem dX0_init_87 : decode cX0_init 87 = .ok (.invokespecial 51, 3) := by decide +kernel
theorem dX0_init_90 : decode cX0_init 90 = .ok (.aastore, 1) := by decide +kernel
theorem dX0_init_91 : decode cX0_init 91 = .ok (.iinc 2 1, 3) := by decide +kernel
theorem dX0_init_94 : decode cX0_init 94 = .ok (.goto (-23), 3) := by decide +kernel
theorem dX0_init_97 : decode cX0_init 97 = .ok (.return_, 1) := by decide +kernel
theorem dX0_setOut_0 : decode cX0_setOut 0 = .ok (.aload_n 0, 1) := by decide +kernel
theorem dX0_setOut_1 : decode cX0_setOut 1 = .ok (.getfield 11, 3) := by decide +kernel
theorem dX0_setOut_4 : decode cX0_setOut 4 = .ok (.iconst 0, 1) := by decide +kernel
theorem dX0_setOut_5 : decode cX0_setOut 5 = .ok (.aaload, 1) := by decide +kernel
theorem dX0_setOut_6 : decode cX0_setOut 6 = .ok (.astore_n 2, 1) := by decide +kernel
theorem dX0_setOut_7 : decode cX0_setOut 7 = .ok (.aload_n 2, 1) := by decide +kernel
theorem dX0_setOut_8 : decode cX0_setOut 8 = .ok (.aload_n 1, 1) := by decide +kernel
theorem dX0_setOut_9 : decode cX0_setOut 9 = .ok (.invokevirtual 54, 3) := by decide +kernel
theorem dX0_setOut_12 : decode cX0_setOut 12 = .ok (.aload_n 2, 1) := by decide +kernel
theorem dX0_setOut_13 : decode cX0_setOut 13 = .ok (.iconst 0, 1) := by decide +kernel
theorem dX0_setOut_14 : decode cX0_setOut 14 = .ok (.putfield 58, 3) := by decide +kernel
theorem dX0_setOut_17 : decode cX0_setOut 17 = .ok (.aload_n 2, 1) := by decide +kernel
theorem dX0_setOut_18 : decode cX0_setOut 18 = .ok (.iconst 0, 1) := by decide +kernel
theorem dX0_setOut_19 : decode cX0_setOut 19 = .ok (.putfield 61, 3) := by decide +kernel
theorem dX0_setOut_22 : decode cX0_setOut 22 = .ok (.aload_n 2, 1) := by decide +kernel
theorem dX0_setOut_23 : decode cX0_setOut 23 = .ok (.areturn, 1) := by decide +kernel
theorem dX0_end_0 : decode cX0_end 0 = .ok (.aload_n 0, 1) := by decide +kernel
theorem dX0_end_1 : decode cX0_end 1 = .ok (.aload_n 1, 1) := by decide +kernel
theorem dX0_end_2 : decode cX0_end 2 = .ok (.invokevirtual 64, 3) := by decide +kernel
theorem dX0_end_5 : decode cX0_end 5 = .ok (.astore_n 2, 1) := by decide +kernel
theorem dX0_end_6 : decode cX0_end 6 = .ok (.aload_n 2, 1) := by decide +kernel
theorem dX0_end_7 : decode cX0_end 7 = .ok (.getfield 68, 3) := by decide +kernel
theorem dX0_end_10 : decode cX0_end 10 = .ok (.istore_n 3, 1) := by decide +kernel
theorem dX0_end_11 : decode cX0_end 11 = .ok (.iload_n 3, 1) := by decide +kernel
theorem dX0_end_12 : decode cX0_end 12 = .ok (.aload_n 0, 1) := by decide +kernel
theorem dX0_end_13 : decode cX0_end 13 = .ok (.getfield 47, 3) := by decide +kernel
theorem dX0_end_16 : decode cX0_end 16 = .ok (.getfield 71, 3) := by decide +kernel
theorem dX0_end_19 : decode cX0_end 19 = .ok (.if_icmp .ge 21, 3) := by decide +kernel
theorem dX0_end_22 : decode cX0_end 22 = .ok (.aload_n 2, 1) := by decide +kernel
theorem dX0_end_23 : decode cX0_end 23 = .ok (.aload_n 0, 1) := by decide +kernel
theorem dX0_end_24 : decode cX0_end 24 = .ok (.getfield 47, 3) := by decide +kernel
theorem dX0_end_27 : decode cX0_end 27 = .ok (.iload_n 3, 1) := by decide +kernel
theorem dX0_end_28 : decode cX0_end 28 = .ok (.invokevirtual 76, 3) := by decide +kernel
theorem dX0_end_31 : decode cX0_end 31 = .ok (.invokevirtual 80, 3) := by decide +kernel
theorem dX0_end_34 : decode cX0_end 34 = .ok (.iinc 3 1, 3) := by decide +kernel
theorem dX0_end_37 : decode cX0_end 37 = .ok (.goto (-26), 3) := by decide +kernel
theorem dX0_end_40 : decode cX0_end 40 = .ok (.aload_n 2, 1) := by decide +kernel
theorem dX0_end_41 : decode cX0_end 41 = .ok (.areturn, 1) := by decide +kernel
theorem dX0_findSpent_0 : decode cX0_findSpent 0 = .ok (.aload_n 0, 1) := by decide +kernel
theorem dX0_findSpent_1 : decode cX0_findSpent 1 = .ok (.aload_n 1, 1) := by decide +kernel
theorem dX0_findSpent_2 : decode cX0_findSpent 2 = .ok (.invokevirtual 64, 3) := by decide +kernel
theorem dX0_findSpent_5 : decode cX0_findSpent 5 = .ok (.astore_n 2, 1) := by decide +kernel
theorem dX0_findSpent_6 : decode cX0_findSpent 6 = .ok (.aload_n 2, 1) := by decide +kernel
theorem dX0_findSpent_7 : decode cX0_findSpent 7 = .ok (.getfield 68, 3) := by decide +kernel
theorem dX0_findSpent_10 : decode cX0_findSpent 10 = .ok (.istore_n 3, 1) := by decide +kernel
theorem dX0_findSpent_11 : decode cX0_findSpent 11 = .ok (.iload_n 3, 1) := by decide +kernel
theorem dX0_findSpent_12 : decode cX0_findSpent 12 = .ok (.aload_n 0, 1) := by decide +kernel
theorem dX0_findSpent_13 : decode cX0_findSpent 13 = .ok (.getfield 47, 3) := by decide +kernel
theorem dX0_findSpent_16 : decode cX0_findSpent 16 = .ok (.getfield 71, 3) := by decide +kernel
theorem dX0_findSpent_19 : decode cX0_findSpent 19 = .ok (.if_icmp .ge 86, 3) := by decide +kernel
theorem dX0_findSpent_22 : decode cX0_findSpent 22 = .ok (.aload_n 0, 1) := by decide +kernel
theorem dX0_findSpent_23 : decode cX0_findSpent 23 = .ok (.getfield 47, 3) := by decide +kernel
theorem dX0_findSpent_26 : decode cX0_findSpent 26 = .ok (.iload_n 3, 1) := by decide +kernel
theorem dX0_findSpent_27 : decode cX0_findSpent 27 = .ok (.invokevirtual 76, 3) := by decide +kernel
theorem dX0_findSpent_30 : decode cX0_findSpent 30 = .ok (.ifCond .eq 7, 3) := by decide +kernel
theorem dX0_findSpent_33 : decode cX0_findSpent 33 = .ok (.aload_n 2, 1) := by decide +kernel
theorem dX0_findSpent_34 : decode cX0_findSpent 34 = .ok (.invokevirtual 84, 3) := by decide +kernel
theorem dX0_findSpent_37 : decode cX0_findSpent 37 = .ok (.iconst 0, 1) := by decide +kernel
theorem dX0_findSpent_38 : decode cX0_findSpent 38 = .ok (.istore 4, 2) := by decide +kernel
theorem dX0_findSpent_40 : decode cX0_findSpent 40 = .ok (.iload 4, 2) := by decide +kernel
theorem dX0_findSpent_42 : decode cX0_findSpent 42 = .ok (.aload_n 0, 1) := by decide +kernel
theorem dX0_findSpent_43 : decode cX0_findSpent 43 = .ok (.getfield 47, 3) := by decide +kernel
theorem dX0_findSpent_46 : decode cX0_findSpent 46 = .ok (.getfield 87, 3) := by decide +kernel
theorem dX0_findSpent_49 : decode cX0_findSpent 49 = .ok (.if_icmp .ge 38, 3) := by decide +kernel
theorem dX0_findSpent_52 : decode cX0_findSpent 52 = .ok (.aload_n 2, 1) := by decide +kernel
theorem dX0_findSpent_53 : decode cX0_findSpent 53 = .ok (.iload 4, 2) := by decide +kernel
theorem dX0_findSpent_55 : decode cX0_findSpent 55 = .ok (.aload_n 2, 1) := by decide +kernel
theorem dX0_findSpent_56 : decode cX0_findSpent 56 = .ok (.iload 4, 2) := by decide +kernel
theorem dX0_findSpent_58 : decode cX0_findSpent 58 = .ok (.invokevirtual 90, 3) := by decide +kernel
theorem dX0_findSpent_61 : decode cX0_findSpent 61 = .ok (.invokevirtual 94, 3) := by decide +kernel
theorem dX0_findSpent_64 : decode cX0_findSpent 64 = .ok (.iconst 1, 1) := by decide +kernel
theorem dX0_findSpent_65 : decode cX0_findSpent 65 = .ok (.if_icmp .ne 16, 3) := by decide +kernel
theorem dX0_findSpent_68 : decode cX0_findSpent 68 = .ok (.aload_n 0, 1) := by decide +kernel
theorem dX0_findSpent_69 : decode cX0_findSpent 69 = .ok (.iload 4, 2) := by decide +kernel
theorem dX0_findSpent_71 : decode cX0_findSpent 71 = .ok (.putfield 17, 3) := by decide +kernel
theorem dX0_findSpent_74 : decode cX0_findSpent 74 = .ok (.aload_n 0, 1) := by decide +kernel
theorem dX0_findSpent_75 : decode cX0_findSpent 75 = .ok (.iload_n 3, 1) := by decide +kernel
theorem dX0_findSpent_76 : decode cX0_findSpent 76 = .ok (.putfield 21, 3) := by decide +kernel
theorem dX0_findSpent_79 : decode cX0_findSpent 79 = .ok (.iconst 1, 1) := by decide +kernel
theorem dX0_findSpent_80 : decode cX0_findSpent 80 = .ok (.ireturn, 1) := by decide +kernel
theorem dX0_findSpent_81 : decode cX0_findSpent 81 = .ok (.iinc 4 1, 3) := by decide +kernel
theorem dX0_findSpent_84 : decode cX0_findSpent 84 = .ok (.goto (-44), 3) := by decide +kernel
theorem dX0_findSpent_87 : decode cX0_findSpent 87 = .ok (.aload_n 2, 1) := by decide +kernel
theorem dX0_findSpent_88 : decode cX0_findSpent 88 = .ok (.aload_n 0, 1) := by decide +kernel
theorem dX0_findSpent_89 : decode cX0_findSpent 89 = .ok (.getfield 47, 3) := by decide +kernel
theorem dX0_findSpent_92 : decode cX0_findSpent 92 = .ok (.iload_n 3, 1) := by decide +kernel
theorem dX0_findSpent_93 : decode cX0_findSpent 93 = .ok (.invokevirtual 76, 3) := by decide +kernel
theorem dX0_findSpent_96 : decode cX0_findSpent 96 = .ok (.invokevirtual 80, 3) := by decide +kernel
theorem dX0_findSpent_99 : decode cX0_findSpent 99 = .ok (.iinc 3 1, 3) := by decide +kernel
theorem dX0_findSpent_102 : decode cX0_findSpent 102 = .ok (.goto (-91), 3) := by decide +kernel
theorem dX0_findSpent_105 : decode cX0_findSpent 105 = .ok (.iconst 0, 1) := by decide +kernel
theorem dX0_findSpent_106 : decode cX0_findSpent 106 = .ok (.ireturn, 1) := by decide +kernel
theorem dX0_findOdds_0 : decode cX0_findOdds 0 = .ok (.aload_n 0, 1) := by decide +kernel
theorem dX0_findOdds_1 : decode cX0_findOdds 1 = .ok (.lconst 1, 1) := by decide +kernel
theorem dX0_findOdds_2 : decode cX0_findOdds 2 = .ok (.putfield 28, 3) := by decide +kernel
theorem dX0_findOdds_5 : decode cX0_findOdds 5 = .ok (.aload_n 1, 1) := by decide +kernel
theorem dX0_findOdds_6 : decode cX0_findOdds 6 = .ok (.getfield 68, 3) := by decide +kernel
theorem dX0_findOdds_9 : decode cX0_findOdds 9 = .ok (.istore 4, 2) := by decide +kernel
theorem dX0_findOdds_11 : decode cX0_findOdds 11 = .ok (.iload 4, 2) := by decide +kernel
theorem dX0_findOdds_13 : decode cX0_findOdds 13 = .ok (.aload_n 0, 1) := by decide +kernel
theorem dX0_findOdds_14 : decode cX0_findOdds 14 = .ok (.getfield 47, 3) := by decide +kernel
theorem dX0_findOdds_17 : decode cX0_findOdds 17 = .ok (.getfield 71, 3) := by decide +kernel
theorem dX0_findOdds_20 : decode cX0_findOdds 20 = .ok (.if_icmp .ge 21, 3) := by decide +kernel
theorem dX0_findOdds_23 : decode cX0_findOdds 23 = .ok (.aload_n 0, 1) := by decide +kernel
theorem dX0_findOdds_24 : decode cX0_findOdds 24 = .ok (.dup, 1) := by decide +kernel
theorem dX0_findOdds_25 : decode cX0_findOdds 25 = .ok (.getfield 28, 3) := by decide +kernel
theorem dX0_findOdds_28 : decode cX0_findOdds 28 = .ok (.ldc2_w 98, 3) := by decide +kernel
theorem dX0_findOdds_31 : decode cX0_findOdds 31 = .ok (.lmul, 1) := by decide +kernel
theorem dX0_findOdds_32 : decode cX0_findOdds 32 = .ok (.putfield 28, 3) := by decide +kernel
theorem dX0_findOdds_35 : decode cX0_findOdds 35 = .ok (.iinc 4 1, 3) := by decide +kernel
theorem dX0_findOdds_38 : decode cX0_findOdds 38 = .ok (.goto (-27), 3) := by decide +kernel
theorem dX0_findOdds_41 : decode cX0_findOdds 41 = .ok (.aload_n 0, 1) := by decide +kernel
theorem dX0_findOdds_42 : decode cX0_findOdds 42 = .ok (.aload_n 1, 1) := by decide +kernel
theorem dX0_findOdds_43 : decode cX0_findOdds 43 = .ok (.invokevirtual 64, 3) := by decide +kernel
theorem dX0_findOdds_46 : decode cX0_findOdds 46 = .ok (.pop, 1) := by decide +kernel
theorem dX0_findOdds_47 : decode cX0_findOdds 47 = .ok (.aload_n 0, 1) := by decide +kernel
theorem dX0_findOdds_48 : decode cX0_findOdds 48 = .ok (.aload_n 0, 1) := by decide +kernel
theorem dX0_findOdds_49 : decode cX0_findOdds 49 = .ok (.iconst 0, 1) := by decide +kernel
theorem dX0_findOdds_50 : decode cX0_findOdds 50 = .ok (.iload_n 2, 1) := by decide +kernel
theorem dX0_findOdds_51 : decode cX0_findOdds 51 = .ok (.iload_n 3, 1) := by decide +kernel
theorem dX0_findOdds_52 : decode cX0_findOdds 52 = .ok (.invokevirtual 100, 3) := by decide +kernel
theorem dX0_findOdds_55 : decode cX0_findOdds 55 = .ok (.putfield 24, 3) := by decide +kernel
theorem dX0_findOdds_58 : decode cX0_findOdds 58 = .ok (.aload_n 0, 1) := by decide +kernel
theorem dX0_findOdds_59 : decode cX0_findOdds 59 = .ok (.iconst 2, 1) := by decide +kernel
theorem dX0_findOdds_60 : decode cX0_findOdds 60 = .ok (.invokevirtual 104, 3) := by decide +kernel
theorem dX0_findOdds_63 : decode cX0_findOdds 63 = .ok (.aload_n 0, 1) := by decide +kernel
theorem dX0_findOdds_64 : decode cX0_findOdds 64 = .ok (.iconst 5, 1) := by decide +kernel
theorem dX0_findOdds_65 : decode cX0_findOdds 65 = .ok (.invokevirtual 104, 3) := by decide +kernel
theorem dX0_findOdds_68 : decode cX0_findOdds 68 = .ok (.return_, 1) := by decide +kernel
theorem dX0_luckyWays_0 : decode cX0_luckyWays 0 = .ok (.aload_n 0, 1) := by decide +kernel
theorem dX0_luckyWays_1 : decode cX0_luckyWays 1 = .ok (.getfield 11, 3) := by decide +kernel
theorem dX0_luckyWays_4 : decode cX0_luckyWays 4 = .ok (.iload_n 1, 1) := by decide +kernel
theorem dX0_luckyWays_5 : decode cX0_luckyWays 5 = .ok (.aaload, 1) := by decide +kernel
theorem dX0_luckyWays_6 : decode cX0_luckyWays 6 = .ok (.astore 4, 2) := by decide +kernel
theorem dX0_luckyWays_8 : decode cX0_luckyWays 8 = .ok (.aload 4, 2) := by decide +kernel
theorem dX0_luckyWays_10 : decode cX0_luckyWays 10 = .ok (.getfield 58, 3) := by decide +kernel
theorem dX0_luckyWays_13 : decode cX0_luckyWays 13 = .ok (.iload_n 3, 1) := by decide +kernel
theorem dX0_luckyWays_14 : decode cX0_luckyWays 14 = .ok (.if_icmp .le 5, 3) := by decide +kernel
theorem dX0_luckyWays_17 : decode cX0_luckyWays 17 = .ok (.lconst 0, 1) := by decide +kernel
theorem dX0_luckyWays_18 : decode cX0_luckyWays 18 = .ok (.lreturn, 1) := by decide +kernel
theorem dX0_luckyWays_19 : decode cX0_luckyWays 19 = .ok (.aload 4, 2) := by decide +kernel
theorem dX0_luckyWays_21 : decode cX0_luckyWays 21 = .ok (.invokevirtual 108, 3) := by decide +kernel
theorem dX0_luckyWays_24 : decode cX0_luckyWays 24 = .ok (.ifCond .eq 9, 3) := by decide +kernel
theorem dX0_luckyWays_27 : decode cX0_luckyWays 27 = .ok (.iload_n 1, 1) := by decide +kernel
theorem dX0_luckyWays_28 : decode cX0_luckyWays 28 = .ok (.bipush 8, 2) := by decide +kernel
theorem dX0_luckyWays_30 : decode cX0_luckyWays 30 = .ok (.if_icmp .lt 5, 3) := by decide +kernel
theorem dX0_luckyWays_33 : decode cX0_luckyWays 33 = .ok (.lconst 1, 1) := by decide +kernel
theorem dX0_luckyWays_34 : decode cX0_luckyWays 34 = .ok (.lreturn, 1) := by decide +kernel
theorem dX0_luckyWays_35 : decode cX0_luckyWays 35 = .ok (.lconst 0, 1) := by decide +kernel
theorem dX0_luckyWays_36 : decode cX0_luckyWays 36 = .ok (.lstore 5, 2) := by decide +kernel
theorem dX0_luckyWays_38 : decode cX0_luckyWays 38 = .ok (.iload_n 2, 1) := by decide +kernel
theorem dX0_luckyWays_39 : decode cX0_luckyWays 39 = .ok (.ifCond .le 26, 3) := by decide +kernel
theorem dX0_luckyWays_42 : decode cX0_luckyWays 42 = .ok (.aload_n 0, 1) := by decide +kernel
theorem dX0_luckyWays_43 : decode cX0_luckyWays 43 = .ok (.iload_n 1, 1) := by decide +kernel
theorem dX0_luckyWays_44 : decode cX0_luckyWays 44 = .ok (.iconst 1, 1) := by decide +kernel
theorem dX0_luckyWays_45 : decode cX0_luckyWays 45 = .ok (.invokevirtual 112, 3) := by decide +kernel
theorem dX0_luckyWays_48 : decode cX0_luckyWays 48 = .ok (.lload 5, 2) := by decide +kernel
theorem dX0_luckyWays_50 : decode cX0_luckyWays 50 = .ok (.iload_n 2, 1) := by decide +kernel
theorem dX0_luckyWays_51 : decode cX0_luckyWays 51 = .ok (.i2l, 1) := by decide +kernel
theorem dX0_luckyWays_52 : decode cX0_luckyWays 52 = .ok (.aload_n 0, 1) := by decide +kernel
theorem dX0_luckyWays_53 : decode cX0_luckyWays 53 = .ok (.iload_n 1, 1) := by decide +kernel
theorem dX0_luckyWays_54 : decode cX0_luckyWays 54 = .ok (.iconst 1, 1) := by decide +kernel
theorem dX0_luckyWays_55 : decode cX0_luckyWays 55 = .ok (.iadd, 1) := by decide +kernel
theorem dX0_luckyWays_56 : decode cX0_luckyWays 56 = .ok (.iload_n 2, 1) := by decide +kernel
theorem dX0_luckyWays_57 : decode cX0_luckyWays 57 = .ok (.iload_n 3, 1) := by decide +kernel
theorem dX0_luckyWays_58 : decode cX0_luckyWays 58 = .ok (.invokevirtual 100, 3) := by decide +kernel
theorem dX0_luckyWays_61 : decode cX0_luckyWays 61 = .ok (.lmul, 1) := by decide +kernel
theorem dX0_luckyWays_62 : decode cX0_luckyWays 62 = .ok (.ladd, 1) := by decide +kernel
theorem dX0_luckyWays_63 : decode cX0_luckyWays 63 = .ok (.lstore 5, 2) := by decide +kernel
theorem dX0_luckyWays_65 : decode cX0_luckyWays 65 = .ok (.iload_n 2, 1) := by decide +kernel
theorem dX0_luckyWays_66 : decode cX0_luckyWays 66 = .ok (.bipush 10, 2) := by decide +kernel
theorem dX0_luckyWays_68 : decode cX0_luckyWays 68 = .ok (.if_icmp .ge 29, 3) := by decide +kernel
theorem dX0_luckyWays_71 : decode cX0_luckyWays 71 = .ok (.aload_n 0, 1) := by decide +kernel
theorem dX0_luckyWays_72 : decode cX0_luckyWays 72 = .ok (.iload_n 1, 1) := by decide +kernel
theorem dX0_luckyWays_73 : decode cX0_luckyWays 73 = .ok (.iconst 0, 1) := by decide +kernel
theorem dX0_luckyWays_74 : decode cX0_luckyWays 74 = .ok (.invokevirtual 112, 3) := by decide +kernel
theorem dX0_luckyWays_77 : decode cX0_luckyWays 77 = .ok (.lload 5, 2) := by decide +kernel
theorem dX0_luckyWays_79 : decode cX0_luckyWays 79 = .ok (.bipush 10, 2) := by decide +kernel
theorem dX0_luckyWays_81 : decode cX0_luckyWays 81 = .ok (.iload_n 2, 1) := by decide +kernel
theorem dX0_luckyWays_82 : decode cX0_luckyWays 82 = .ok (.isub, 1) := by decide +kernel
theorem dX0_luckyWays_83 : decode cX0_luckyWays 83 = .ok (.i2l, 1) := by decide +kernel
theorem dX0_luckyWays_84 : decode cX0_luckyWays 84 = .ok (.aload_n 0, 1) := by decide +kernel
theorem dX0_luckyWays_85 : decode cX0_luckyWays 85 = .ok (.iload_n 1, 1) := by decide +kernel
theorem dX0_luckyWays_86 : decode cX0_luckyWays 86 = .ok (.iconst 1, 1) := by decide +kernel
theorem dX0_luckyWays_87 : decode cX0_luckyWays 87 = .ok (.iadd, 1) := by decide +kernel
theorem dX0_luckyWays_88 : decode cX0_luckyWays 88 = .ok (.iload_n 2, 1) := by decide +kernel
theorem dX0_luckyWays_89 : decode cX0_luckyWays 89 = .ok (.iload_n 3, 1) := by decide +kernel
theorem dX0_luckyWays_90 : decode cX0_luckyWays 90 = .ok (.invokevirtual 100, 3) := by decide +kernel
theorem dX0_luckyWays_93 : decode cX0_luckyWays 93 = .ok (.lmul, 1) := by decide +kernel
theorem dX0_luckyWays_94 : decode cX0_luckyWays 94 = .ok (.ladd, 1) := by decide +kernel
theorem dX0_luckyWays_95 : decode cX0_luckyWays 95 = .ok (.lstore 5, 2) := by decide +kernel
theorem dX0_luckyWays_97 : decode cX0_luckyWays 97 = .ok (.lload 5, 2) := by decide +kernel
theorem dX0_luckyWays_99 : decode cX0_luckyWays 99 = .ok (.lreturn, 1) := by decide +kernel
theorem dX0_stepOn_0 : decode cX0_stepOn 0 = .ok (.aload_n 0, 1) := by decide +kernel
theorem dX0_stepOn_1 : decode cX0_stepOn 1 = .ok (.getfield 11, 3) := by decide +kernel
theorem dX0_stepOn_4 : decode cX0_stepOn 4 = .ok (.iload_n 1, 1) := by decide +kernel
theorem dX0_stepOn_5 : decode cX0_stepOn 5 = .ok (.iconst 1, 1) := by decide +kernel
theorem dX0_stepOn_6 : decode cX0_stepOn 6 = .ok (.iadd, 1) := by decide +kernel
theorem dX0_stepOn_7 : decode cX0_stepOn 7 = .ok (.aaload, 1) := by decide +kernel
theorem dX0_stepOn_8 : decode cX0_stepOn 8 = .ok (.aload_n 0, 1) := by decide +kernel
theorem dX0_stepOn_9 : decode cX0_stepOn 9 = .ok (.getfield 11, 3) := by decide +kernel
theorem dX0_stepOn_12 : decode cX0_stepOn 12 = .ok (.iload_n 1, 1) := by decide +kernel
theorem dX0_stepOn_13 : decode cX0_stepOn 13 = .ok (.aaload, 1) := by decide +kernel
theorem dX0_stepOn_14 : decode cX0_stepOn 14 = .ok (.invokevirtual 54, 3) := by decide +kernel
theorem dX0_stepOn_17 : decode cX0_stepOn 17 = .ok (.aload_n 0, 1) := by decide +kernel
theorem dX0_stepOn_18 : decode cX0_stepOn 18 = .ok (.getfield 11, 3) := by decide +kernel
theorem dX0_stepOn_21 : decode cX0_stepOn 21 = .ok (.iload_n 1, 1) := by decide +kernel
theorem dX0_stepOn_22 : decode cX0_stepOn 22 = .ok (.iconst 1, 1) := by decide +kernel
theorem dX0_stepOn_23 : decode cX0_stepOn 23 = .ok (.iadd, 1) := by decide +kernel
theorem dX0_stepOn_24 : decode cX0_stepOn 24 = .ok (.aaload, 1) := by decide +kernel
theorem dX0_stepOn_25 : decode cX0_stepOn 25 = .ok (.iload_n 2, 1) := by decide +kernel
theorem dX0_stepOn_26 : decode cX0_stepOn 26 = .ok (.invokevirtual 80, 3) := by decide +kernel
theorem dX0_stepOn_29 : decode cX0_stepOn 29 = .ok (.return_, 1) := by decide +kernel
theorem dX0_shorten_0 : decode cX0_shorten 0 = .ok (.iconst 0, 1) := by decide +kernel
theorem dX0_shorten_1 : decode cX0_shorten 1 = .ok (.istore_n 2, 1) := by decide +kernel
theorem dX0_shorten_2 : decode cX0_shorten 2 = .ok (.iload_n 2, 1) := by decide +kernel
theorem dX0_shorten_3 : decode cX0_shorten 3 = .ok (.bipush 8, 2) := by decide +kernel
theorem dX0_shorten_5 : decode cX0_shorten 5 = .ok (.if_icmp .ge 60, 3) := by decide +kernel
theorem dX0_shorten_8 : decode cX0_shorten 8 = .ok (.iload_n 1, 1) := by decide +kernel
theorem dX0_shorten_9 : decode cX0_shorten 9 = .ok (.iconst 1, 1) := by decide +kernel
theorem dX0_shorten_10 : decode cX0_shorten 10 = .ok (.if_icmp .le 49, 3) := by decide +kernel
theorem dX0_shorten_13 : decode cX0_shorten 13 = .ok (.aload_n 0, 1) := by decide +kernel
theorem dX0_shorten_14 : decode cX0_shorten 14 = .ok (.getfield 24, 3) := by decide +kernel
theorem dX0_shorten_17 : decode cX0_shorten 17 = .ok (.iload_n 1, 1) := by decide +kernel
theorem dX0_shorten_18 : decode cX0_shorten 18 = .ok (.i2l, 1) := by decide +kernel
theorem dX0_shorten_19 : decode cX0_shorten 19 = .ok (.lrem, 1) := by decide +kernel
theorem dX0_shorten_20 : decode cX0_shorten 20 = .ok (.lconst 0, 1) := by decide +kernel
theorem dX0_shorten_21 : decode cX0_shorten 21 = .ok (.lcmp, 1) := by decide +kernel
theorem dX0_shorten_22 : decode cX0_shorten 22 = .ok (.ifCond .ne 37, 3) := by decide +kernel
theorem dX0_shorten_25 : decode cX0_shorten 25 = .ok (.aload_n 0, 1) := by decide +kernel
theorem dX0_shorten_26 : decode cX0_shorten 26 = .ok (.getfield 28, 3) := by decide +kernel
theorem dX0_shorten_29 : decode cX0_shorten 29 = .ok (.iload_n 1, 1) := by decide +kernel
theorem dX0_shorten_30 : decode cX0_shorten 30 = .ok (.i2l, 1) := by decide +kernel
theorem dX0_shorten_31 : decode cX0_shorten 31 = .ok (.lrem, 1) := by decide +kernel
theorem dX0_shorten_32 : decode cX0_shorten 32 = .ok (.lconst 0, 1) := by decide +kernel
theorem dX0_shorten_33 : decode cX0_shorten 33 = .ok (.lcmp, 1) := by decide +kernel
theorem dX0_shorten_34 : decode cX0_shorten 34 = .ok (.ifCond .ne 25, 3) := by decide +kernel
theorem dX0_shorten_37 : decode cX0_shorten 37 = .ok (.aload_n 0, 1) := by decide +kernel
theorem dX0_shorten_38 : decode cX0_shorten 38 = .ok (.dup, 1) := by decide +kernel
theorem dX0_shorten_39 : decode cX0_shorten 39 = .ok (.getfield 24, 3) := by decide +kernel
theorem dX0_shorten_42 : decode cX0_shorten 42 = .ok (.iload_n 1, 1) := by decide +kernel
theorem dX0_shorten_43 : decode cX0_shorten 43 = .ok (.i2l, 1) := by decide +kernel
theorem dX0_shorten_44 : decode cX0_shorten 44 = .ok (.ldiv, 1) := by decide +kernel
theorem dX0_shorten_45 : decode cX0_shorten 45 = .ok (.putfield 24, 3) := by decide +kernel
theorem dX0_shorten_48 : decode cX0_shorten 48 = .ok (.aload_n 0, 1) := by decide +kernel
theorem dX0_shorten_49 : decode cX0_shorten 49 = .ok (.dup, 1) := by decide +kernel
theorem dX0_shorten_50 : decode cX0_shorten 50 = .ok (.getfield 28, 3) := by decide +kernel
theorem dX0_shorten_53 : decode cX0_shorten 53 = .ok (.iload_n 1, 1) := by decide +kernel
theorem dX0_shorten_54 : decode cX0_shorten 54 = .ok (.i2l, 1) := by decide +kernel
theorem dX0_shorten_55 : decode cX0_shorten 55 = .ok (.ldiv, 1) := by decide +kernel
theorem dX0_shorten_56 : decode cX0_shorten 56 = .ok (.putfield 28, 3) := by decide +kernel
theorem dX0_shorten_59 : decode cX0_shorten 59 = .ok (.iinc 2 1, 3) := by decide +kernel
theorem dX0_shorten_62 : decode cX0_shorten 62 = .ok (.goto (-60), 3) := by decide +kernel
theorem dX0_shorten_65 : decode cX0_shorten 65 = .ok (.return_, 1) := by decide +kernel
theorem dX0_findRow_0 : decode cX0_findRow 0 = .ok (.aload_n 0, 1) := by decide +kernel
theorem dX0_findRow_1 : decode cX0_findRow 1 = .ok (.invokevirtual 116, 3) := by decide +kernel
theorem dX0_findRow_4 : decode cX0_findRow 4 = .ok (.aload_n 0, 1) := by decide +kernel
theorem dX0_findRow_5 : decode cX0_findRow 5 = .ok (.aload_n 1, 1) := by decide +kernel
theorem dX0_findRow_6 : decode cX0_findRow 6 = .ok (.invokevirtual 64, 3) := by decide +kernel
theorem dX0_findRow_9 : decode cX0_findRow 9 = .ok (.pop, 1) := by decide +kernel
theorem dX0_findRow_10 : decode cX0_findRow 10 = .ok (.aload_n 0, 1) := by decide +kernel
theorem dX0_findRow_11 : decode cX0_findRow 11 = .ok (.getfield 44, 3) := by decide +kernel
theorem dX0_findRow_14 : decode cX0_findRow 14 = .ok (.iconst 0, 1) := by decide +kernel
theorem dX0_findRow_15 : decode cX0_findRow 15 = .ok (.iconst 0, 1) := by decide +kernel
theorem dX0_findRow_16 : decode cX0_findRow 16 = .ok (.iastore, 1) := by decide +kernel
theorem dX0_findRow_17 : decode cX0_findRow 17 = .ok (.aload_n 0, 1) := by decide +kernel
theorem dX0_findRow_18 : decode cX0_findRow 18 = .ok (.iconst 0, 1) := by decide +kernel
theorem dX0_findRow_19 : decode cX0_findRow 19 = .ok (.putfield 31, 3) := by decide +kernel
theorem dX0_findRow_22 : decode cX0_findRow 22 = .ok (.aload_n 0, 1) := by decide +kernel
theorem dX0_findRow_23 : decode cX0_findRow 23 = .ok (.ldc 119, 2) := by decide +kernel
theorem dX0_findRow_25 : decode cX0_findRow 25 = .ok (.putfield 34, 3) := by decide +kernel
theorem dX0_findRow_28 : decode cX0_findRow 28 = .ok (.iconst 0, 1) := by decide +kernel
theorem dX0_findRow_29 : decode cX0_findRow 29 = .ok (.istore_n 2, 1) := by decide +kernel
theorem dX0_findRow_30 : decode cX0_findRow 30 = .ok (.iconst 0, 1) := by decide +kernel
theorem dX0_findRow_31 : decode cX0_findRow 31 = .ok (.istore_n 3, 1) := by decide +kernel
theorem dX0_findRow_32 : decode cX0_findRow 32 = .ok (.iload_n 3, 1) := by decide +kernel
theorem dX0_findRow_33 : decode cX0_findRow 33 = .ok (.sipush 5040, 3) := by decide +kernel
theorem dX0_findRow_36 : decode cX0_findRow 36 = .ok (.if_icmp .ge 31, 3) := by decide +kernel
theorem dX0_findRow_39 : decode cX0_findRow 39 = .ok (.iload_n 2, 1) := by decide +kernel
theorem dX0_findRow_40 : decode cX0_findRow 40 = .ok (.ifCond .lt 27, 3) := by decide +kernel
theorem dX0_findRow_43 : decode cX0_findRow 43 = .ok (.aload_n 0, 1) := by decide +kernel
theorem dX0_findRow_44 : decode cX0_findRow 44 = .ok (.iload_n 2, 1) := by decide +kernel
theorem dX0_findRow_45 : decode cX0_findRow 45 = .ok (.invokevirtual 120, 3) := by decide +kernel
theorem dX0_findRow_48 : decode cX0_findRow 48 = .ok (.istore 4, 2) := by decide +kernel
theorem dX0_findRow_50 : decode cX0_findRow 50 = .ok (.aload_n 0, 1) := by decide +kernel
theorem dX0_findRow_51 : decode cX0_findRow 51 = .ok (.aload_n 0, 1) := by decide +kernel
theorem dX0_findRow_52 : decode cX0_findRow 52 = .ok (.iload 4, 2) := by decide +kernel
theorem dX0_findRow_54 : decode cX0_findRow 54 = .ok (.invokevirtual 123, 3) := by decide +kernel
theorem dX0_findRow_57 : decode cX0_findRow 57 = .ok (.invokevirtual 126, 3) := by decide +kernel
theorem dX0_findRow_60 : decode cX0_findRow 60 = .ok (.istore_n 2, 1) := by decide +kernel
theorem dX0_findRow_61 : decode cX0_findRow 61 = .ok (.iinc 3 1, 3) := by decide +kernel
theorem dX0_findRow_64 : decode cX0_findRow 64 = .ok (.goto (-32), 3) := by decide +kernel
theorem dX0_findRow_67 : decode cX0_findRow 67 = .ok (.return_, 1) := by decide +kernel
theorem dX0_lowestRow_0 : decode cX0_lowestRow 0 = .ok (.aload_n 0, 1) := by decide +kernel
theorem dX0_lowestRow_1 : decode cX0_lowestRow 1 = .ok (.iconst 0, 1) := by decide +kernel
theorem dX0_lowestRow_2 : decode cX0_lowestRow 2 = .ok (.putfield 41, 3) := by decide +kernel
theorem dX0_lowestRow_5 : decode cX0_lowestRow 5 = .ok (.iconst 0, 1) := by decide +kernel
theorem dX0_lowestRow_6 : decode cX0_lowestRow 6 = .ok (.istore_n 1, 1) := by decide +kernel
theorem dX0_lowestRow_7 : decode cX0_lowestRow 7 = .ok (.iload_n 1, 1) := by decide +kernel
theorem dX0_lowestRow_8 : decode cX0_lowestRow 8 = .ok (.aload_n 0, 1) := by decide +kernel
theorem dX0_lowestRow_9 : decode cX0_lowestRow 9 = .ok (.getfield 47, 3) := by decide +kernel
theorem dX0_lowestRow_12 : decode cX0_lowestRow 12 = .ok (.getfield 129, 3) := by decide +kernel
theorem dX0_lowestRow_15 : decode cX0_lowestRow 15 = .ok (.if_icmp .ge 42, 3) := by decide +kernel
theorem dX0_lowestRow_18 : decode cX0_lowestRow 18 = .ok (.aload_n 0, 1) := by decide +kernel
theorem dX0_lowestRow_19 : decode cX0_lowestRow 19 = .ok (.getfield 47, 3) := by decide +kernel
theorem dX0_lowestRow_22 : decode cX0_lowestRow 22 = .ok (.getfield 132, 3) := by decide +kernel
theorem dX0_lowestRow_25 : decode cX0_lowestRow 25 = .ok (.iload_n 1, 1) := by decide +kernel
theorem dX0_lowestRow_26 : decode cX0_lowestRow 26 = .ok (.iaload, 1) := by decide +kernel
theorem dX0_lowestRow_27 : decode cX0_lowestRow 27 = .ok (.iconst 1, 1) := by decide +kernel
theorem dX0_lowestRow_28 : decode cX0_lowestRow 28 = .ok (.if_icmp .ne 23, 3) := by decide +kernel
theorem dX0_lowestRow_31 : decode cX0_lowestRow 31 = .ok (.aload_n 0, 1) := by decide +kernel
theorem dX0_lowestRow_32 : decode cX0_lowestRow 32 = .ok (.getfield 37, 3) := by decide +kernel
theorem dX0_lowestRow_35 : decode cX0_lowestRow 35 = .ok (.aload_n 0, 1) := by decide +kernel
theorem dX0_lowestRow_36 : decode cX0_lowestRow 36 = .ok (.getfield 41, 3) := by decide +kernel
theorem dX0_lowestRow_39 : decode cX0_lowestRow 39 = .ok (.iload_n 1, 1) := by decide +kernel
theorem dX0_lowestRow_40 : decode cX0_lowestRow 40 = .ok (.iastore, 1) := by decide +kernel
theorem dX0_lowestRow_41 : decode cX0_lowestRow 41 = .ok (.aload_n 0, 1) := by decide +kernel
theorem dX0_lowestRow_42 : decode cX0_lowestRow 42 = .ok (.dup, 1) := by decide +kernel
theorem dX0_lowestRow_43 : decode cX0_lowestRow 43 = .ok (.getfield 41, 3) := by decide +kernel
theorem dX0_lowestRow_46 : decode cX0_lowestRow 46 = .ok (.iconst 1, 1) := by decide +kernel
theorem dX0_lowestRow_47 : decode cX0_lowestRow 47 = .ok (.iadd, 1) := by decide +kernel
theorem dX0_lowestRow_48 : decode cX0_lowestRow 48 = .ok (.putfield 41, 3) := by decide +kernel
theorem dX0_lowestRow_51 : decode cX0_lowestRow 51 = .ok (.iinc 1 1, 3) := by decide +kernel
theorem dX0_lowestRow_54 : decode cX0_lowestRow 54 = .ok (.goto (-47), 3) := by decide +kernel
theorem dX0_lowestRow_57 : decode cX0_lowestRow 57 = .ok (.return_, 1) := by decide +kernel
theorem dX0_followRow_0 : decode cX0_followRow 0 = .ok (.bipush 8, 2) := by decide +kernel
theorem dX0_followRow_2 : decode cX0_followRow 2 = .ok (.aload_n 0, 1) := by decide +kernel
theorem dX0_followRow_3 : decode cX0_followRow 3 = .ok (.getfield 47, 3) := by decide +kernel
theorem dX0_followRow_6 : decode cX0_followRow 6 = .ok (.getfield 71, 3) := by decide +kernel
theorem dX0_followRow_9 : decode cX0_followRow 9 = .ok (.aload_n 0, 1) := by decide +kernel
theorem dX0_followRow_10 : decode cX0_followRow 10 = .ok (.getfield 11, 3) := by decide +kernel
theorem dX0_followRow_13 : decode cX0_followRow 13 = .ok (.iconst 0, 1) := by decide +kernel
theorem dX0_followRow_14 : decode cX0_followRow 14 = .ok (.aaload, 1) := by decide +kernel
theorem dX0_followRow_15 : decode cX0_followRow 15 = .ok (.getfield 68, 3) := by decide +kernel
theorem dX0_followRow_18 : decode cX0_followRow 18 = .ok (.isub, 1) := by decide +kernel
theorem dX0_followRow_19 : decode cX0_followRow 19 = .ok (.invokestatic 135, 3) := by decide +kernel
theorem dX0_followRow_22 : decode cX0_followRow 22 = .ok (.istore_n 2, 1) := by decide +kernel
theorem dX0_followRow_23 : decode cX0_followRow 23 = .ok (.iload_n 1, 1) := by decide +kernel
theorem dX0_followRow_24 : decode cX0_followRow 24 = .ok (.istore_n 3, 1) := by decide +kernel
theorem dX0_followRow_25 : decode cX0_followRow 25 = .ok (.iload_n 3, 1) := by decide +kernel
theorem dX0_followRow_26 : decode cX0_followRow 26 = .ok (.iload_n 2, 1) := by decide +kernel
theorem dX0_followRow_27 : decode cX0_followRow 27 = .ok (.if_icmp .ge 138, 3) := by decide +kernel
theorem dX0_followRow_30 : decode cX0_followRow 30 = .ok (.aload_n 0, 1) := by decide +kernel
theorem dX0_followRow_31 : decode cX0_followRow 31 = .ok (.getfield 11, 3) := by decide +kernel
theorem dX0_followRow_34 : decode cX0_followRow 34 = .ok (.iload_n 3, 1) := by decide +kernel
theorem dX0_followRow_35 : decode cX0_followRow 35 = .ok (.iconst 1, 1) := by decide +kernel
theorem dX0_followRow_36 : decode cX0_followRow 36 = .ok (.iadd, 1) := by decide +kernel
theorem dX0_followRow_37 : decode cX0_followRow 37 = .ok (.aaload, 1) := by decide +kernel
theorem dX0_followRow_38 : decode cX0_followRow 38 = .ok (.astore 4, 2) := by decide +kernel
theorem dX0_followRow_40 : decode cX0_followRow 40 = .ok (.aload 4, 2) := by decide +kernel
theorem dX0_followRow_42 : decode cX0_followRow 42 = .ok (.aload_n 0, 1) := by decide +kernel
theorem dX0_followRow_43 : decode cX0_followRow 43 = .ok (.getfield 11, 3) := by decide +kernel
theorem dX0_followRow_46 : decode cX0_followRow 46 = .ok (.iload_n 3, 1) := by decide +kernel
theorem dX0_followRow_47 : decode cX0_followRow 47 = .ok (.aaload, 1) := by decide +kernel
theorem dX0_followRow_48 : decode cX0_followRow 48 = .ok (.invokevirtual 54, 3) := by decide +kernel
theorem dX0_followRow_51 : decode cX0_followRow 51 = .ok (.aload_n 0, 1) := by decide +kernel
theorem dX0_followRow_52 : decode cX0_followRow 52 = .ok (.getfield 47, 3) := by decide +kernel
theorem dX0_followRow_55 : decode cX0_followRow 55 = .ok (.aload 4, 2) := by decide +kernel
theorem dX0_followRow_57 : decode cX0_followRow 57 = .ok (.getfield 68, 3) := by decide +kernel
theorem dX0_followRow_60 : decode cX0_followRow 60 = .ok (.invokevirtual 76, 3) := by decide +kernel
theorem dX0_followRow_63 : decode cX0_followRow 63 = .ok (.istore 5, 2) := by decide +kernel
theorem dX0_followRow_65 : decode cX0_followRow 65 = .ok (.aload 4, 2) := by decide +kernel
theorem dX0_followRow_67 : decode cX0_followRow 67 = .ok (.iload 5, 2) := by decide +kernel
theorem dX0_followRow_69 : decode cX0_followRow 69 = .ok (.invokevirtual 140, 3) := by decide +kernel
theorem dX0_followRow_72 : decode cX0_followRow 72 = .ok (.aload 4, 2) := by decide +kernel
theorem dX0_followRow_74 : decode cX0_followRow 74 = .ok (.getfield 58, 3) := by decide +kernel
theorem dX0_followRow_77 : decode cX0_followRow 77 = .ok (.aload_n 0, 1) := by decide +kernel
theorem dX0_followRow_78 : decode cX0_followRow 78 = .ok (.getfield 34, 3) := by decide +kernel
theorem dX0_followRow_81 : decode cX0_followRow 81 = .ok (.if_icmp .ge 10, 3) := by decide +kernel
theorem dX0_followRow_84 : decode cX0_followRow 84 = .ok (.iload_n 3, 1) := by decide +kernel
theorem dX0_followRow_85 : decode cX0_followRow 85 = .ok (.iload_n 2, 1) := by decide +kernel
theorem dX0_followRow_86 : decode cX0_followRow 86 = .ok (.iconst 1, 1) := by decide +kernel
theorem dX0_followRow_87 : decode cX0_followRow 87 = .ok (.isub, 1) := by decide +kernel
theorem dX0_followRow_88 : decode cX0_followRow 88 = .ok (.if_icmp .ne 19, 3) := by decide +kernel
theorem dX0_followRow_91 : decode cX0_followRow 91 = .ok (.aload_n 0, 1) := by decide +kernel
theorem dX0_followRow_92 : decode cX0_followRow 92 = .ok (.aload 4, 2) := by decide +kernel
theorem dX0_followRow_94 : decode cX0_followRow 94 = .ok (.getfield 58, 3) := by decide +kernel
theorem dX0_followRow_97 : decode cX0_followRow 97 = .ok (.invokevirtual 143, 3) := by decide +kernel
theorem dX0_followRow_100 : decode cX0_followRow 100 = .ok (.aload_n 0, 1) := by decide +kernel
theorem dX0_followRow_101 : decode cX0_followRow 101 = .ok (.getfield 44, 3) := by decide +kernel
theorem dX0_followRow_104 : decode cX0_followRow 104 = .ok (.iload_n 3, 1) := by decide +kernel
theorem dX0_followRow_105 : decode cX0_followRow 105 = .ok (.iaload, 1) := by decide +kernel
theorem dX0_followRow_106 : decode cX0_followRow 106 = .ok (.ireturn, 1) := by decide +kernel
theorem dX0_followRow_107 : decode cX0_followRow 107 = .ok (.aload_n 0, 1) := by decide +kernel
theorem dX0_followRow_108 : decode cX0_followRow 108 = .ok (.getfield 44, 3) := by decide +kernel
theorem dX0_followRow_111 : decode cX0_followRow 111 = .ok (.iload_n 3, 1) := by decide +kernel
theorem dX0_followRow_112 : decode cX0_followRow 112 = .ok (.iconst 1, 1) := by decide +kernel
theorem dX0_followRow_113 : decode cX0_followRow 113 = .ok (.iadd, 1) := by decide +kernel
theorem dX0_followRow_114 : decode cX0_followRow 114 = .ok (.aload_n 0, 1) := by decide +kernel
theorem dX0_followRow_115 : decode cX0_followRow 115 = .ok (.getfield 44, 3) := by decide +kernel
theorem dX0_followRow_118 : decode cX0_followRow 118 = .ok (.iload_n 3, 1) := by decide +kernel
theorem dX0_followRow_119 : decode cX0_followRow 119 = .ok (.iaload, 1) := by decide +kernel
theorem dX0_followRow_120 : decode cX0_followRow 120 = .ok (.aload 4, 2) := by decide +kernel
theorem dX0_followRow_122 : decode cX0_followRow 122 = .ok (.aload_n 0, 1) := by decide +kernel
theorem dX0_followRow_123 : decode cX0_followRow 123 = .ok (.getfield 37, 3) := by decide +kernel
theorem dX0_followRow_126 : decode cX0_followRow 126 = .ok (.aload_n 0, 1) := by decide +kernel
theorem dX0_followRow_127 : decode cX0_followRow 127 = .ok (.getfield 41, 3) := by decide +kernel
theorem dX0_followRow_130 : decode cX0_followRow 130 = .ok (.invokevirtual 146, 3) := by decide +kernel
theorem dX0_followRow_133 : decode cX0_followRow 133 = .ok (.invokestatic 150, 3) := by decide +kernel
theorem dX0_followRow_136 : decode cX0_followRow 136 = .ok (.iastore, 1) := by decide +kernel
theorem dX0_followRow_137 : decode cX0_followRow 137 = .ok (.aload_n 0, 1) := by decide +kernel
theorem dX0_followRow_138 : decode cX0_followRow 138 = .ok (.iload_n 3, 1) := by decide +kernel
theorem dX0_followRow_139 : decode cX0_followRow 139 = .ok (.invokevirtual 153, 3) := by decide +kernel
theorem dX0_followRow_142 : decode cX0_followRow 142 = .ok (.istore 6, 2) := by decide +kernel
theorem dX0_followRow_144 : decode cX0_followRow 144 = .ok (.iload 6, 2) := by decide +kernel
theorem dX0_followRow_146 : decode cX0_followRow 146 = .ok (.ifCond .le 6, 3) := by decide +kernel
theorem dX0_followRow_149 : decode cX0_followRow 149 = .ok (.iload 6, 2) := by decide +kernel
theorem dX0_followRow_151 : decode cX0_followRow 151 = .ok (.ireturn, 1) := by decide +kernel
theorem dX0_followRow_152 : decode cX0_followRow 152 = .ok (.aload 4, 2) := by decide +kernel
theorem dX0_followRow_154 : decode cX0_followRow 154 = .ok (.iload 5, 2) := by decide +kernel
theorem dX0_followRow_156 : decode cX0_followRow 156 = .ok (.invokevirtual 156, 3) := by decide +kernel
theorem dX0_followRow_159 : decode cX0_followRow 159 = .ok (.iinc 3 1, 3) := by decide +kernel
theorem dX0_followRow_162 : decode cX0_followRow 162 = .ok (.goto (-137), 3) := by decide +kernel
theorem dX0_followRow_165 : decode cX0_followRow 165 = .ok (.aload_n 0, 1) := by decide +kernel
theorem dX0_followRow_166 : decode cX0_followRow 166 = .ok (.iconst 0, 1) := by decide +kernel
theorem dX0_followRow_167 : decode cX0_followRow 167 = .ok (.invokevirtual 143, 3) := by decide +kernel
theorem dX0_followRow_170 : decode cX0_followRow 170 = .ok (.iconst 0, 1) := by decide +kernel
theorem dX0_followRow_171 : decode cX0_followRow 171 = .ok (.ireturn, 1) := by decide +kernel
theorem dX0_toldAsTurned_0 : decode cX0_toldAsTurned 0 = .ok (.aload_n 0, 1) := by decide +kernel
theorem dX0_toldAsTurned_1 : decode cX0_toldAsTurned 1 = .ok (.getfield 44, 3) := by decide +kernel
theorem dX0_toldAsTurned_4 : decode cX0_toldAsTurned 4 = .ok (.iload_n 1, 1) := by decide +kernel
theorem dX0_toldAsTurned_5 : decode cX0_toldAsTurned 5 = .ok (.iconst 1, 1) := by decide +kernel
theorem dX0_toldAsTurned_6 : decode cX0_toldAsTurned 6 = .ok (.iadd, 1) := by decide +kernel
theorem dX0_toldAsTurned_7 : decode cX0_toldAsTurned 7 = .ok (.iaload, 1) := by decide +kernel
theorem dX0_toldAsTurned_8 : decode cX0_toldAsTurned 8 = .ok (.istore_n 2, 1) := by decide +kernel
theorem dX0_toldAsTurned_9 : decode cX0_toldAsTurned 9 = .ok (.aload_n 0, 1) := by decide +kernel
theorem dX0_toldAsTurned_10 : decode cX0_toldAsTurned 10 = .ok (.getfield 44, 3) := by decide +kernel
theorem dX0_toldAsTurned_13 : decode cX0_toldAsTurned 13 = .ok (.iload_n 1, 1) := by decide +kernel
theorem dX0_toldAsTurned_14 : decode cX0_toldAsTurned 14 = .ok (.iaload, 1) := by decide +kernel
theorem dX0_toldAsTurned_15 : decode cX0_toldAsTurned 15 = .ok (.iconst 1, 1) := by decide +kernel
theorem dX0_toldAsTurned_16 : decode cX0_toldAsTurned 16 = .ok (.iadd, 1) := by decide +kernel
theorem dX0_toldAsTurned_17 : decode cX0_toldAsTurned 17 = .ok (.istore_n 3, 1) := by decide +kernel
theorem dX0_toldAsTurned_18 : decode cX0_toldAsTurned 18 = .ok (.iload_n 3, 1) := by decide +kernel
theorem dX0_toldAsTurned_19 : decode cX0_toldAsTurned 19 = .ok (.iload_n 2, 1) := by decide +kernel
theorem dX0_toldAsTurned_20 : decode cX0_toldAsTurned 20 = .ok (.if_icmp .ge 70, 3) := by decide +kernel
theorem dX0_toldAsTurned_23 : decode cX0_toldAsTurned 23 = .ok (.iload_n 3, 1) := by decide +kernel
theorem dX0_toldAsTurned_24 : decode cX0_toldAsTurned 24 = .ok (.iload_n 2, 1) := by decide +kernel
theorem dX0_toldAsTurned_25 : decode cX0_toldAsTurned 25 = .ok (.iconst 1, 1) := by decide +kernel
theorem dX0_toldAsTurned_26 : decode cX0_toldAsTurned 26 = .ok (.isub, 1) := by decide +kernel
theorem dX0_toldAsTurned_27 : decode cX0_toldAsTurned 27 = .ok (.if_icmp .lt 24, 3) := by decide +kernel
theorem dX0_toldAsTurned_30 : decode cX0_toldAsTurned 30 = .ok (.aload_n 0, 1) := by decide +kernel
theorem dX0_toldAsTurned_31 : decode cX0_toldAsTurned 31 = .ok (.getfield 11, 3) := by decide +kernel
theorem dX0_toldAsTurned_34 : decode cX0_toldAsTurned 34 = .ok (.iload_n 1, 1) := by decide +kernel
theorem dX0_toldAsTurned_35 : decode cX0_toldAsTurned 35 = .ok (.iconst 1, 1) := by decide +kernel
theorem dX0_toldAsTurned_36 : decode cX0_toldAsTurned 36 = .ok (.iadd, 1) := by decide +kernel
theorem dX0_toldAsTurned_37 : decode cX0_toldAsTurned 37 = .ok (.aaload, 1) := by decide +kernel
theorem dX0_toldAsTurned_38 : decode cX0_toldAsTurned 38 = .ok (.getfield 159, 3) := by decide +kernel
theorem dX0_toldAsTurned_41 : decode cX0_toldAsTurned 41 = .ok (.aload_n 0, 1) := by decide +kernel
theorem dX0_toldAsTurned_42 : decode cX0_toldAsTurned 42 = .ok (.getfield 37, 3) := by decide +kernel
theorem dX0_toldAsTurned_45 : decode cX0_toldAsTurned 45 = .ok (.iload_n 3, 1) := by decide +kernel
theorem dX0_toldAsTurned_46 : decode cX0_toldAsTurned 46 = .ok (.iaload, 1) := by decide +kernel
theorem dX0_toldAsTurned_47 : decode cX0_toldAsTurned 47 = .ok (.iaload, 1) := by decide +kernel
theorem dX0_toldAsTurned_48 : decode cX0_toldAsTurned 48 = .ok (.ifCond .ne 7, 3) := by decide +kernel
theorem dX0_toldAsTurned_51 : decode cX0_toldAsTurned 51 = .ok (.iconst 1, 1) := by decide +kernel
theorem dX0_toldAsTurned_52 : decode cX0_toldAsTurned 52 = .ok (.goto 4, 3) := by decide +kernel
theorem dX0_toldAsTurned_55 : decode cX0_toldAsTurned 55 = .ok (.iconst 0, 1) := by decide +kernel
theorem dX0_toldAsTurned_56 : decode cX0_toldAsTurned 56 = .ok (.istore 4, 2) := by decide +kernel
theorem dX0_toldAsTurned_58 : decode cX0_toldAsTurned 58 = .ok (.iload 4, 2) := by decide +kernel
theorem dX0_toldAsTurned_60 : decode cX0_toldAsTurned 60 = .ok (.ifCond .eq 24, 3) := by decide +kernel
theorem dX0_toldAsTurned_63 : decode cX0_toldAsTurned 63 = .ok (.aload_n 0, 1) := by decide +kernel
theorem dX0_toldAsTurned_64 : decode cX0_toldAsTurned 64 = .ok (.getfield 37, 3) := by decide +kernel
theorem dX0_toldAsTurned_67 : decode cX0_toldAsTurned 67 = .ok (.iload_n 3, 1) := by decide +kernel
theorem dX0_toldAsTurned_68 : decode cX0_toldAsTurned 68 = .ok (.iaload, 1) := by decide +kernel
theorem dX0_toldAsTurned_69 : decode cX0_toldAsTurned 69 = .ok (.aload_n 0, 1) := by decide +kernel
theorem dX0_toldAsTurned_70 : decode cX0_toldAsTurned 70 = .ok (.getfield 37, 3) := by decide +kernel
theorem dX0_toldAsTurned_73 : decode cX0_toldAsTurned 73 = .ok (.iload_n 3, 1) := by decide +kernel
theorem dX0_toldAsTurned_74 : decode cX0_toldAsTurned 74 = .ok (.iconst 1, 1) := by decide +kernel
theorem dX0_toldAsTurned_75 : decode cX0_toldAsTurned 75 = .ok (.isub, 1) := by decide +kernel
theorem dX0_toldAsTurned_76 : decode cX0_toldAsTurned 76 = .ok (.iaload, 1) := by decide +kernel
theorem dX0_toldAsTurned_77 : decode cX0_toldAsTurned 77 = .ok (.if_icmp .ge 7, 3) := by decide +kernel
theorem dX0_toldAsTurned_80 : decode cX0_toldAsTurned 80 = .ok (.iload_n 3, 1) := by decide +kernel
theorem dX0_toldAsTurned_81 : decode cX0_toldAsTurned 81 = .ok (.iconst 1, 1) := by decide +kernel
theorem dX0_toldAsTurned_82 : decode cX0_toldAsTurned 82 = .ok (.iadd, 1) := by decide +kernel
theorem dX0_toldAsTurned_83 : decode cX0_toldAsTurned 83 = .ok (.ireturn, 1) := by decide +kernel
theorem dX0_toldAsTurned_84 : decode cX0_toldAsTurned 84 = .ok (.iinc 3 1, 3) := by decide +kernel
theorem dX0_toldAsTurned_87 : decode cX0_toldAsTurned 87 = .ok (.goto (-69), 3) := by decide +kernel
theorem dX0_toldAsTurned_90 : decode cX0_toldAsTurned 90 = .ok (.iconst 0, 1) := by decide +kernel
theorem dX0_toldAsTurned_91 : decode cX0_toldAsTurned 91 = .ok (.ireturn, 1) := by decide +kernel
theorem dX0_judge_0 : decode cX0_judge 0 = .ok (.iload_n 1, 1) := by decide +kernel
theorem dX0_judge_1 : decode cX0_judge 1 = .ok (.aload_n 0, 1) := by decide +kernel
theorem dX0_judge_2 : decode cX0_judge 2 = .ok (.getfield 34, 3) := by decide +kernel
theorem dX0_judge_5 : decode cX0_judge 5 = .ok (.if_icmp .ge 49, 3) := by decide +kernel
theorem dX0_judge_8 : decode cX0_judge 8 = .ok (.aload_n 0, 1) := by decide +kernel
theorem dX0_judge_9 : decode cX0_judge 9 = .ok (.iload_n 1, 1) := by decide +kernel
theorem dX0_judge_10 : decode cX0_judge 10 = .ok (.putfield 34, 3) := by decide +kernel
theorem dX0_judge_13 : decode cX0_judge 13 = .ok (.aload_n 0, 1) := by decide +kernel
theorem dX0_judge_14 : decode cX0_judge 14 = .ok (.iconst 0, 1) := by decide +kernel
theorem dX0_judge_15 : decode cX0_judge 15 = .ok (.putfield 31, 3) := by decide +kernel
theorem dX0_judge_18 : decode cX0_judge 18 = .ok (.iconst 0, 1) := by decide +kernel
theorem dX0_judge_19 : decode cX0_judge 19 = .ok (.istore_n 2, 1) := by decide +kernel
theorem dX0_judge_20 : decode cX0_judge 20 = .ok (.iload_n 2, 1) := by decide +kernel
theorem dX0_judge_21 : decode cX0_judge 21 = .ok (.aload_n 0, 1) := by decide +kernel
theorem dX0_judge_22 : decode cX0_judge 22 = .ok (.getfield 41, 3) := by decide +kernel
theorem dX0_judge_25 : decode cX0_judge 25 = .ok (.if_icmp .ge 29, 3) := by decide +kernel
theorem dX0_judge_28 : decode cX0_judge 28 = .ok (.aload_n 0, 1) := by decide +kernel
theorem dX0_judge_29 : decode cX0_judge 29 = .ok (.bipush 10, 2) := by decide +kernel
theorem dX0_judge_31 : decode cX0_judge 31 = .ok (.aload_n 0, 1) := by decide +kernel
theorem dX0_judge_32 : decode cX0_judge 32 = .ok (.getfield 31, 3) := by decide +kernel
theorem dX0_judge_35 : decode cX0_judge 35 = .ok (.imul, 1) := by decide +kernel
theorem dX0_judge_36 : decode cX0_judge 36 = .ok (.aload_n 0, 1) := by decide +kernel
theorem dX0_judge_37 : decode cX0_judge 37 = .ok (.getfield 37, 3) := by decide +kernel
theorem dX0_judge_40 : decode cX0_judge 40 = .ok (.iload_n 2, 1) := by decide +kernel
theorem dX0_judge_41 : decode cX0_judge 41 = .ok (.iaload, 1) := by decide +kernel
theorem dX0_judge_42 : decode cX0_judge 42 = .ok (.iadd, 1) := by decide +kernel
theorem dX0_judge_43 : decode cX0_judge 43 = .ok (.iconst 1, 1) := by decide +kernel
theorem dX0_judge_44 : decode cX0_judge 44 = .ok (.iadd, 1) := by decide +kernel
theorem dX0_judge_45 : decode cX0_judge 45 = .ok (.putfield 31, 3) := by decide +kernel
theorem dX0_judge_48 : decode cX0_judge 48 = .ok (.iinc 2 1, 3) := by decide +kernel
theorem dX0_judge_51 : decode cX0_judge 51 = .ok (.goto (-31), 3) := by decide +kernel
theorem dX0_judge_54 : decode cX0_judge 54 = .ok (.return_, 1) := by decide +kernel
theorem dX0_nextRow_0 : decode cX0_nextRow 0 = .ok (.iload_n 1, 1) := by decide +kernel
theorem dX0_nextRow_1 : decode cX0_nextRow 1 = .ok (.aload_n 0, 1) := by decide +kernel
theorem dX0_nextRow_2 : decode cX0_nextRow 2 = .ok (.getfield 41, 3) := by decide +kernel
theorem dX0_nextRow_5 : decode cX0_nextRow 5 = .ok (.invokestatic 135, 3) := by decide +kernel
theorem dX0_nextRow_8 : decode cX0_nextRow 8 = .ok (.iconst 1, 1) := by decide +kernel
theorem dX0_nextRow_9 : decode cX0_nextRow 9 = .ok (.isub, 1) := by decide +kernel
theorem dX0_nextRow_10 : decode cX0_nextRow 10 = .ok (.istore_n 2, 1) := by decide +kernel
theorem dX0_nextRow_11 : decode cX0_nextRow 11 = .ok (.iload_n 2, 1) := by decide +kernel
theorem dX0_nextRow_12 : decode cX0_nextRow 12 = .ok (.ifCond .lt 34, 3) := by decide +kernel
theorem dX0_nextRow_15 : decode cX0_nextRow 15 = .ok (.aload_n 0, 1) := by decide +kernel
theorem dX0_nextRow_16 : decode cX0_nextRow 16 = .ok (.iload_n 2, 1) := by decide +kernel
theorem dX0_nextRow_17 : decode cX0_nextRow 17 = .ok (.invokevirtual 162, 3) := by decide +kernel
theorem dX0_nextRow_20 : decode cX0_nextRow 20 = .ok (.istore_n 3, 1) := by decide +kernel
theorem dX0_nextRow_21 : decode cX0_nextRow 21 = .ok (.iload_n 3, 1) := by decide +kernel
theorem dX0_nextRow_22 : decode cX0_nextRow 22 = .ok (.ifCond .lt 18, 3) := by decide +kernel
theorem dX0_nextRow_25 : decode cX0_nextRow 25 = .ok (.aload_n 0, 1) := by decide +kernel
theorem dX0_nextRow_26 : decode cX0_nextRow 26 = .ok (.iload_n 2, 1) := by decide +kernel
theorem dX0_nextRow_27 : decode cX0_nextRow 27 = .ok (.iload_n 3, 1) := by decide +kernel
theorem dX0_nextRow_28 : decode cX0_nextRow 28 = .ok (.invokevirtual 165, 3) := by decide +kernel
theorem dX0_nextRow_31 : decode cX0_nextRow 31 = .ok (.aload_n 0, 1) := by decide +kernel
theorem dX0_nextRow_32 : decode cX0_nextRow 32 = .ok (.iload_n 2, 1) := by decide +kernel
theorem dX0_nextRow_33 : decode cX0_nextRow 33 = .ok (.iconst 1, 1) := by decide +kernel
theorem dX0_nextRow_34 : decode cX0_nextRow 34 = .ok (.iadd, 1) := by decide +kernel
theorem dX0_nextRow_35 : decode cX0_nextRow 35 = .ok (.invokevirtual 169, 3) := by decide +kernel
theorem dX0_nextRow_38 : decode cX0_nextRow 38 = .ok (.iload_n 2, 1) := by decide +kernel
theorem dX0_nextRow_39 : decode cX0_nextRow 39 = .ok (.ireturn, 1) := by decide +kernel
theorem dX0_nextRow_40 : decode cX0_nextRow 40 = .ok (.iinc 2 (-1), 3) := by decide +kernel
theorem dX0_nextRow_43 : decode cX0_nextRow 43 = .ok (.goto (-32), 3) := by decide +kernel
theorem dX0_nextRow_46 : decode cX0_nextRow 46 = .ok (.iconst (-1), 1) := by decide +kernel
theorem dX0_nextRow_47 : decode cX0_nextRow 47 = .ok (.ireturn, 1) := by decide +kernel
theorem dX0_placeOfNextAbove_0 : decode cX0_placeOfNextAbove 0 = .ok (.iconst (-1), 1) := by decide +kernel
theorem dX0_placeOfNextAbove_1 : decode cX0_placeOfNextAbove 1 = .ok (.istore_n 2, 1) := by decide +kernel
theorem dX0_placeOfNextAbove_2 : decode cX0_placeOfNextAbove 2 = .ok (.iload_n 1, 1) := by decide +kernel
theorem dX0_placeOfNextAbove_3 : decode cX0_placeOfNextAbove 3 = .ok (.iconst 1, 1) := by decide +kernel
theorem dX0_placeOfNextAbove_4 : decode cX0_placeOfNextAbove 4 = .ok (.iadd, 1) := by decide +kernel
theorem dX0_placeOfNextAbove_5 : decode cX0_placeOfNextAbove 5 = .ok (.istore_n 3, 1) := by decide +kernel
theorem dX0_placeOfNextAbove_6 : decode cX0_placeOfNextAbove 6 = .ok (.iload_n 3, 1) := by decide +kernel
theorem dX0_placeOfNextAbove_7 : decode cX0_placeOfNextAbove 7 = .ok (.aload_n 0, 1) := by decide +kernel
theorem dX0_placeOfNextAbove_8 : decode cX0_placeOfNextAbove 8 = .ok (.getfield 41, 3) := by decide +kernel
theorem dX0_placeOfNextAbove_11 : decode cX0_placeOfNextAbove 11 = .ok (.if_icmp .ge 45, 3) := by decide +kernel
theorem dX0_placeOfNextAbove_14 : decode cX0_placeOfNextAbove 14 = .ok (.aload_n 0, 1) := by decide +kernel
theorem dX0_placeOfNextAbove_15 : decode cX0_placeOfNextAbove 15 = .ok (.getfield 37, 3) := by decide +kernel
theorem dX0_placeOfNextAbove_18 : decode cX0_placeOfNextAbove 18 = .ok (.iload_n 3, 1) := by decide +kernel
theorem dX0_placeOfNextAbove_19 : decode cX0_placeOfNextAbove 19 = .ok (.iaload, 1) := by decide +kernel
theorem dX0_placeOfNextAbove_20 : decode cX0_placeOfNextAbove 20 = .ok (.aload_n 0, 1) := by decide +kernel
theorem dX0_placeOfNextAbove_21 : decode cX0_placeOfNextAbove 21 = .ok (.getfield 37, 3) := by decide +kernel
theorem dX0_placeOfNextAbove_24 : decode cX0_placeOfNextAbove 24 = .ok (.iload_n 1, 1) := by decide +kernel
theorem dX0_placeOfNextAbove_25 : decode cX0_placeOfNextAbove 25 = .ok (.iaload, 1) := by decide +kernel
theorem dX0_placeOfNextAbove_26 : decode cX0_placeOfNextAbove 26 = .ok (.if_icmp .le 24, 3) := by decide +kernel
theorem dX0_placeOfNextAbove_29 : decode cX0_placeOfNextAbove 29 = .ok (.iload_n 2, 1) := by decide +kernel
theorem dX0_placeOfNextAbove_30 : decode cX0_placeOfNextAbove 30 = .ok (.ifCond .lt 18, 3) := by decide +kernel
theorem dX0_placeOfNextAbove_33 : decode cX0_placeOfNextAbove 33 = .ok (.aload_n 0, 1) := by decide +kernel
theorem dX0_placeOfNextAbove_34 : decode cX0_placeOfNextAbove 34 = .ok (.getfield 37, 3) := by decide +kernel
theorem dX0_placeOfNextAbove_37 : decode cX0_placeOfNextAbove 37 = .ok (.iload_n 3, 1) := by decide +kernel
theorem dX0_placeOfNextAbove_38 : decode cX0_placeOfNextAbove 38 = .ok (.iaload, 1) := by decide +kernel
theorem dX0_placeOfNextAbove_39 : decode cX0_placeOfNextAbove 39 = .ok (.aload_n 0, 1) := by decide +kernel
theorem dX0_placeOfNextAbove_40 : decode cX0_placeOfNextAbove 40 = .ok (.getfield 37, 3) := by decide +kernel
theorem dX0_placeOfNextAbove_43 : decode cX0_placeOfNextAbove 43 = .ok (.iload_n 2, 1) := by decide +kernel
theorem dX0_placeOfNextAbove_44 : decode cX0_placeOfNextAbove 44 = .ok (.iaload, 1) := by decide +kernel
theorem dX0_placeOfNextAbove_45 : decode cX0_placeOfNextAbove 45 = .ok (.if_icmp .ge 5, 3) := by decide +kernel
theorem dX0_placeOfNextAbove_48 : decode cX0_placeOfNextAbove 48 = .ok (.iload_n 3, 1) := by decide +kernel
theorem dX0_placeOfNextAbove_49 : decode cX0_placeOfNextAbove 49 = .ok (.istore_n 2, 1) := by decide +kernel
theorem dX0_placeOfNextAbove_50 : decode cX0_placeOfNextAbove 50 = .ok (.iinc 3 1, 3) := by decide +kernel
theorem dX0_placeOfNextAbove_53 : decode cX0_placeOfNextAbove 53 = .ok (.goto (-47), 3) := by decide +kernel
theorem dX0_placeOfNextAbove_56 : decode cX0_placeOfNextAbove 56 = .ok (.iload_n 2, 1) := by decide +kernel
theorem dX0_placeOfNextAbove_57 : decode cX0_placeOfNextAbove 57 = .ok (.ireturn, 1) := by decide +kernel
theorem dX0_sortFrom_0 : decode cX0_sortFrom 0 = .ok (.iload_n 1, 1) := by decide +kernel
theorem dX0_sortFrom_1 : decode cX0_sortFrom 1 = .ok (.istore_n 2, 1) := by decide +kernel
theorem dX0_sortFrom_2 : decode cX0_sortFrom 2 = .ok (.iload_n 2, 1) := by decide +kernel
theorem dX0_sortFrom_3 : decode cX0_sortFrom 3 = .ok (.aload_n 0, 1) := by decide +kernel
theorem dX0_sortFrom_4 : decode cX0_sortFrom 4 = .ok (.getfield 41, 3) := by decide +kernel
theorem dX0_sortFrom_7 : decode cX0_sortFrom 7 = .ok (.if_icmp .ge 48, 3) := by decide +kernel
theorem dX0_sortFrom_10 : decode cX0_sortFrom 10 = .ok (.iload_n 2, 1) := by decide +kernel
theorem dX0_sortFrom_11 : decode cX0_sortFrom 11 = .ok (.iconst 1, 1) := by decide +kernel
theorem dX0_sortFrom_12 : decode cX0_sortFrom 12 = .ok (.iadd, 1) := by decide +kernel
theorem dX0_sortFrom_13 : decode cX0_sortFrom 13 = .ok (.istore_n 3, 1) := by decide +kernel
theorem dX0_sortFrom_14 : decode cX0_sortFrom 14 = .ok (.iload_n 3, 1) := by decide +kernel
theorem dX0_sortFrom_15 : decode cX0_sortFrom 15 = .ok (.aload_n 0, 1) := by decide +kernel
theorem dX0_sortFrom_16 : decode cX0_sortFrom 16 = .ok (.getfield 41, 3) := by decide +kernel
theorem dX0_sortFrom_19 : decode cX0_sortFrom 19 = .ok (.if_icmp .ge 30, 3) := by decide +kernel
theorem dX0_sortFrom_22 : decode cX0_sortFrom 22 = .ok (.aload_n 0, 1) := by decide +kernel
theorem dX0_sortFrom_23 : decode cX0_sortFrom 23 = .ok (.getfield 37, 3) := by decide +kernel
theorem dX0_sortFrom_26 : decode cX0_sortFrom 26 = .ok (.iload_n 3, 1) := by decide +kernel
theorem dX0_sortFrom_27 : decode cX0_sortFrom 27 = .ok (.iaload, 1) := by decide +kernel
theorem dX0_sortFrom_28 : decode cX0_sortFrom 28 = .ok (.aload_n 0, 1) := by decide +kernel
theorem dX0_sortFrom_29 : decode cX0_sortFrom 29 = .ok (.getfield 37, 3) := by decide +kernel
theorem dX0_sortFrom_32 : decode cX0_sortFrom 32 = .ok (.iload_n 2, 1) := by decide +kernel
theorem dX0_sortFrom_33 : decode cX0_sortFrom 33 = .ok (.iaload, 1) := by decide +kernel
theorem dX0_sortFrom_34 : decode cX0_sortFrom 34 = .ok (.if_icmp .ge 9, 3) := by decide +kernel
theorem dX0_sortFrom_37 : decode cX0_sortFrom 37 = .ok (.aload_n 0, 1) := by decide +kernel
theorem dX0_sortFrom_38 : decode cX0_sortFrom 38 = .ok (.iload_n 2, 1) := by decide +kernel
theorem dX0_sortFrom_39 : decode cX0_sortFrom 39 = .ok (.iload_n 3, 1) := by decide +kernel
theorem dX0_sortFrom_40 : decode cX0_sortFrom 40 = .ok (.invokevirtual 165, 3) := by decide +kernel
theorem dX0_sortFrom_43 : decode cX0_sortFrom 43 = .ok (.iinc 3 1, 3) := by decide +kernel
theorem dX0_sortFrom_46 : decode cX0_sortFrom 46 = .ok (.goto (-32), 3) := by decide +kernel
theorem dX0_sortFrom_49 : decode cX0_sortFrom 49 = .ok (.iinc 2 1, 3) := by decide +kernel
theorem dX0_sortFrom_52 : decode cX0_sortFrom 52 = .ok (.goto (-50), 3) := by decide +kernel
theorem dX0_sortFrom_55 : decode cX0_sortFrom 55 = .ok (.return_, 1) := by decide +kernel
theorem dX0_swap_0 : decode cX0_swap 0 = .ok (.aload_n 0, 1) := by decide +kernel
theorem dX0_swap_1 : decode cX0_swap 1 = .ok (.getfield 37, 3) := by decide +kernel
theorem dX0_swap_4 : decode cX0_swap 4 = .ok (.iload_n 1, 1) := by decide +kernel
theorem dX0_swap_5 : decode cX0_swap 5 = .ok (.iaload, 1) := by decide +kernel
theorem dX0_swap_6 : decode cX0_swap 6 = .ok (.istore_n 3, 1) := by decide +kernel
theorem dX0_swap_7 : decode cX0_swap 7 = .ok (.aload_n 0, 1) := by decide +kernel
theorem dX0_swap_8 : decode cX0_swap 8 = .ok (.getfield 37, 3) := by decide +kernel
theorem dX0_swap_11 : decode cX0_swap 11 = .ok (.iload_n 1, 1) := by decide +kernel
theorem dX0_swap_12 : decode cX0_swap 12 = .ok (.aload_n 0, 1) := by decide +kernel
theorem dX0_swap_13 : decode cX0_swap 13 = .ok (.getfield 37, 3) := by decide +kernel
theorem dX0_swap_16 : decode cX0_swap 16 = .ok (.iload_n 2, 1) := by decide +kernel
theorem dX0_swap_17 : decode cX0_swap 17 = .ok (.iaload, 1) := by decide +kernel
theorem dX0_swap_18 : decode cX0_swap 18 = .ok (.iastore, 1) := by decide +kernel
theorem dX0_swap_19 : decode cX0_swap 19 = .ok (.aload_n 0, 1) := by decide +kernel
theorem dX0_swap_20 : decode cX0_swap 20 = .ok (.getfield 37, 3) := by decide +kernel
theorem dX0_swap_23 : decode cX0_swap 23 = .ok (.iload_n 2, 1) := by decide +kernel
theorem dX0_swap_24 : decode cX0_swap 24 = .ok (.iload_n 3, 1) := by decide +kernel
theorem dX0_swap_25 : decode cX0_swap 25 = .ok (.iastore, 1) := by decide +kernel
theorem dX0_swap_26 : decode cX0_swap 26 = .ok (.return_, 1) := by decide +kernel
theorem dX0_stepBefore_0 : decode cX0_stepBefore 0 = .ok (.iconst (-1), 1) := by decide +kernel
theorem dX0_stepBefore_1 : decode cX0_stepBefore 1 = .ok (.istore_n 2, 1) := by decide +kernel
theorem dX0_stepBefore_2 : decode cX0_stepBefore 2 = .ok (.iconst 0, 1) := by decide +kernel
theorem dX0_stepBefore_3 : decode cX0_stepBefore 3 = .ok (.istore_n 3, 1) := by decide +kernel
theorem dX0_stepBefore_4 : decode cX0_stepBefore 4 = .ok (.iload_n 3, 1) := by decide +kernel
theorem dX0_stepBefore_5 : decode cX0_stepBefore 5 = .ok (.bipush 8, 2) := by decide +kernel
theorem dX0_stepBefore_7 : decode cX0_stepBefore 7 = .ok (.if_icmp .gt 32, 3) := by decide +kernel
theorem dX0_stepBefore_10 : decode cX0_stepBefore 10 = .ok (.iload_n 1, 1) := by decide +kernel
theorem dX0_stepBefore_11 : decode cX0_stepBefore 11 = .ok (.ifCond .lt 28, 3) := by decide +kernel
theorem dX0_stepBefore_14 : decode cX0_stepBefore 14 = .ok (.aload_n 0, 1) := by decide +kernel
theorem dX0_stepBefore_15 : decode cX0_stepBefore 15 = .ok (.getfield 44, 3) := by decide +kernel
theorem dX0_stepBefore_18 : decode cX0_stepBefore 18 = .ok (.iload_n 3, 1) := by decide +kernel
theorem dX0_stepBefore_19 : decode cX0_stepBefore 19 = .ok (.iaload, 1) := by decide +kernel
theorem dX0_stepBefore_20 : decode cX0_stepBefore 20 = .ok (.iload_n 1, 1) := by decide +kernel
theorem dX0_stepBefore_21 : decode cX0_stepBefore 21 = .ok (.if_icmp .gt 12, 3) := by decide +kernel
theorem dX0_stepBefore_24 : decode cX0_stepBefore 24 = .ok (.iload_n 3, 1) := by decide +kernel
theorem dX0_stepBefore_25 : decode cX0_stepBefore 25 = .ok (.iload_n 2, 1) := by decide +kernel
theorem dX0_stepBefore_26 : decode cX0_stepBefore 26 = .ok (.iconst 1, 1) := by decide +kernel
theorem dX0_stepBefore_27 : decode cX0_stepBefore 27 = .ok (.iadd, 1) := by decide +kernel
theorem dX0_stepBefore_28 : decode cX0_stepBefore 28 = .ok (.if_icmp .ne 5, 3) := by decide +kernel
theorem dX0_stepBefore_31 : decode cX0_stepBefore 31 = .ok (.iload_n 3, 1) := by decide +kernel
theorem dX0_stepBefore_32 : decode cX0_stepBefore 32 = .ok (.istore_n 2, 1) := by decide +kernel
theorem dX0_stepBefore_33 : decode cX0_stepBefore 33 = .ok (.iinc 3 1, 3) := by decide +kernel
theorem dX0_stepBefore_36 : decode cX0_stepBefore 36 = .ok (.goto (-32), 3) := by decide +kernel
theorem dX0_stepBefore_39 : decode cX0_stepBefore 39 = .ok (.iload_n 2, 1) := by decide +kernel
theorem dX0_stepBefore_40 : decode cX0_stepBefore 40 = .ok (.ireturn, 1) := by decide +kernel
theorem dX1_init_0 : decode cX1_init 0 = .ok (.aload_n 0, 1) := by decide +kernel
theorem dX1_init_1 : decode cX1_init 1 = .ok (.invokespecial 3, 3) := by decide +kernel
theorem dX1_init_4 : decode cX1_init 4 = .ok (.aload_n 0, 1) := by decide +kernel
theorem dX1_init_5 : decode cX1_init 5 = .ok (.iconst 0, 1) := by decide +kernel
theorem dX1_init_6 : decode cX1_init 6 = .ok (.putfield 9, 3) := by decide +kernel
theorem dX1_init_9 : decode cX1_init 9 = .ok (.aload_n 0, 1) := by decide +kernel
theorem dX1_init_10 : decode cX1_init 10 = .ok (.bipush 6, 2) := by decide +kernel
theorem dX1_init_12 : decode cX1_init 12 = .ok (.newarray .int, 2) := by decide +kernel
theorem dX1_init_14 : decode cX1_init 14 = .ok (.putfield 15, 3) := by decide +kernel
theorem dX1_init_17 : decode cX1_init 17 = .ok (.aload_n 0, 1) := by decide +kernel
theorem dX1_init_18 : decode cX1_init 18 = .ok (.bipush 6, 2) := by decide +kernel
theorem dX1_init_20 : decode cX1_init 20 = .ok (.newarray .int, 2) := by decide +kernel
theorem dX1_init_22 : decode cX1_init 22 = .ok (.putfield 19, 3) := by decide +kernel
theorem dX1_init_25 : decode cX1_init 25 = .ok (.aload_n 0, 1) := by decide +kernel
theorem dX1_init_26 : decode cX1_init 26 = .ok (.bipush 6, 2) := by decide +kernel
theorem dX1_init_28 : decode cX1_init 28 = .ok (.newarray .int, 2) := by decide +kernel
theorem dX1_init_30 : decode cX1_init 30 = .ok (.putfield 22, 3) := by decide +kernel
theorem dX1_init_33 : decode cX1_init 33 = .ok (.aload_n 0, 1) := by decide +kernel
theorem dX1_init_34 : decode cX1_init 34 = .ok (.iconst 0, 1) := by decide +kernel
theorem dX1_init_35 : decode cX1_init 35 = .ok (.putfield 25, 3) := by decide +kernel
theorem dX1_init_38 : decode cX1_init 38 = .ok (.aload_n 0, 1) := by decide +kernel
theorem dX1_init_39 : decode cX1_init 39 = .ok (.bipush (-9), 2) := by decide +kernel
theorem dX1_init_41 : decode cX1_init 41 = .ok (.putfield 28, 3) := by decide +kernel
theorem dX1_init_44 : decode cX1_init 44 = .ok (.aload_n 0, 1) := by decide +kernel
theorem dX1_init_45 : decode cX1_init 45 = .ok (.aload_n 1, 1) := by decide +kernel
theorem dX1_init_46 : decode cX1_init 46 = .ok (.putfield 31, 3) := by decide +kernel
theorem dX1_init_49 : decode cX1_init 49 = .ok (.aload_n 0, 1) := by decide +kernel
theorem dX1_init_50 : decode cX1_init 50 = .ok (.new 35, 3) := by decide +kernel
theorem dX1_init_53 : decode cX1_init 53 = .ok (.dup, 1) := by decide +kernel
theorem dX1_init_54 : decode cX1_init 54 = .ok (.aload_n 1, 1) := by decide +kernel
theorem dX1_init_55 : decode cX1_init 55 = .ok (.invokespecial 37, 3) := by decide +kernel
theorem dX1_init_58 : decode cX1_init 58 = .ok (.putfield 40, 3) := by decide +kernel
theorem dX1_init_61 : decode cX1_init 61 = .ok (.return_, 1) := by decide +kernel
theorem dX1_takes_0 : decode cX1_takes 0 = .ok (.aload_n 0, 1) := by decide +kernel
theorem dX1_takes_1 : decode cX1_takes 1 = .ok (.getfield 9, 3) := by decide +kernel
theorem dX1_takes_4 : decode cX1_takes 4 = .ok (.bipush 6, 2) := by decide +kernel
theorem dX1_takes_6 : decode cX1_takes 6 = .ok (.if_icmp .lt 5, 3) := by decide +kernel
theorem dX1_takes_9 : decode cX1_takes 9 = .ok (.iconst 0, 1) := by decide +kernel
theorem dX1_takes_10 : decode cX1_takes 10 = .ok (.ireturn, 1) := by decide +kernel
theorem dX1_takes_11 : decode cX1_takes 11 = .ok (.aload_n 0, 1) := by decide +kernel
theorem dX1_takes_12 : decode cX1_takes 12 = .ok (.getfield 15, 3) := by decide +kernel
theorem dX1_takes_15 : decode cX1_takes 15 = .ok (.aload_n 0, 1) := by decide +kernel
theorem dX1_takes_16 : decode cX1_takes 16 = .ok (.getfield 9, 3) := by decide +kernel
theorem dX1_takes_19 : decode cX1_takes 19 = .ok (.iload_n 1, 1) := by decide +kernel
theorem dX1_takes_20 : decode cX1_takes 20 = .ok (.iastore, 1) := by decide +kernel
theorem dX1_takes_21 : decode cX1_takes 21 = .ok (.aload_n 0, 1) := by decide +kernel
theorem dX1_takes_22 : decode cX1_takes 22 = .ok (.getfield 19, 3) := by decide +kernel
theorem dX1_takes_25 : decode cX1_takes 25 = .ok (.aload_n 0, 1) := by decide +kernel
theorem dX1_takes_26 : decode cX1_takes 26 = .ok (.getfield 9, 3) := by decide +kernel
theorem dX1_takes_29 : decode cX1_takes 29 = .ok (.iload_n 2, 1) := by decide +kernel
theorem dX1_takes_30 : decode cX1_takes 30 = .ok (.iastore, 1) := by decide +kernel
theorem dX1_takes_31 : decode cX1_takes 31 = .ok (.aload_n 0, 1) := by decide +kernel
theorem dX1_takes_32 : decode cX1_takes 32 = .ok (.getfield 22, 3) := by decide +kernel
theorem dX1_takes_35 : decode cX1_takes 35 = .ok (.aload_n 0, 1) := by decide +kernel
theorem dX1_takes_36 : decode cX1_takes 36 = .ok (.getfield 9, 3) := by decide +kernel
theorem dX1_takes_39 : decode cX1_takes 39 = .ok (.iload_n 3, 1) := by decide +kernel
theorem dX1_takes_40 : decode cX1_takes 40 = .ok (.iastore, 1) := by decide +kernel
theorem dX1_takes_41 : decode cX1_takes 41 = .ok (.aload_n 0, 1) := by decide +kernel
theorem dX1_takes_42 : decode cX1_takes 42 = .ok (.dup, 1) := by decide +kernel
theorem dX1_takes_43 : decode cX1_takes 43 = .ok (.getfield 9, 3) := by decide +kernel
theorem dX1_takes_46 : decode cX1_takes 46 = .ok (.iconst 1, 1) := by decide +kernel
theorem dX1_takes_47 : decode cX1_takes 47 = .ok (.iadd, 1) := by decide +kernel
theorem dX1_takes_48 : decode cX1_takes 48 = .ok (.putfield 9, 3) := by decide +kernel
theorem dX1_takes_51 : decode cX1_takes 51 = .ok (.iconst 1, 1) := by decide +kernel
theorem dX1_takes_52 : decode cX1_takes 52 = .ok (.ireturn, 1) := by decide +kernel
theorem dX1_findGifts_0 : decode cX1_findGifts 0 = .ok (.aload_n 0, 1) := by decide +kernel
theorem dX1_findGifts_1 : decode cX1_findGifts 1 = .ok (.iconst 0, 1) := by decide +kernel
theorem dX1_findGifts_2 : decode cX1_findGifts 2 = .ok (.putfield 25, 3) := by decide +kernel
theorem dX1_findGifts_5 : decode cX1_findGifts 5 = .ok (.aload_n 0, 1) := by decide +kernel
theorem dX1_findGifts_6 : decode cX1_findGifts 6 = .ok (.bipush (-9), 2) := by decide +kernel
theorem dX1_findGifts_8 : decode cX1_findGifts 8 = .ok (.putfield 28, 3) := by decide +kernel
theorem dX1_findGifts_11 : decode cX1_findGifts 11 = .ok (.aload_n 0, 1) := by decide +kernel
theorem dX1_findGifts_12 : decode cX1_findGifts 12 = .ok (.getfield 40, 3) := by decide +kernel
theorem dX1_findGifts_15 : decode cX1_findGifts 15 = .ok (.aload_n 1, 1) := by decide +kernel
theorem dX1_findGifts_16 : decode cX1_findGifts 16 = .ok (.invokevirtual 44, 3) := by decide +kernel
theorem dX1_findGifts_19 : decode cX1_findGifts 19 = .ok (.iconst 0, 1) := by decide +kernel
theorem dX1_findGifts_20 : decode cX1_findGifts 20 = .ok (.istore_n 2, 1) := by decide +kernel
theorem dX1_findGifts_21 : decode cX1_findGifts 21 = .ok (.iload_n 2, 1) := by decide +kernel
theorem dX1_findGifts_22 : decode cX1_findGifts 22 = .ok (.aload_n 0, 1) := by decide +kernel
theorem dX1_findGifts_23 : decode cX1_findGifts 23 = .ok (.getfield 31, 3) := by decide +kernel
theorem dX1_findGifts_26 : decode cX1_findGifts 26 = .ok (.getfield 48, 3) := by decide +kernel
theorem dX1_findGifts_29 : decode cX1_findGifts 29 = .ok (.if_icmp .ge 103, 3) := by decide +kernel
theorem dX1_findGifts_32 : decode cX1_findGifts 32 = .ok (.iconst 0, 1) := by decide +kernel
theorem dX1_findGifts_33 : decode cX1_findGifts 33 = .ok (.istore_n 3, 1) := by decide +kernel
theorem dX1_findGifts_34 : decode cX1_findGifts 34 = .ok (.iload_n 3, 1) := by decide +kernel
theorem dX1_findGifts_35 : decode cX1_findGifts 35 = .ok (.aload_n 0, 1) := by decide +kernel
theorem dX1_findGifts_36 : decode cX1_findGifts 36 = .ok (.getfield 31, 3) := by decide +kernel
theorem dX1_findGifts_39 : decode cX1_findGifts 39 = .ok (.getfield 53, 3) := by decide +kernel
theorem dX1_findGifts_42 : decode cX1_findGifts 42 = .ok (.if_icmp .ge 69, 3) := by decide +kernel
theorem dX1_findGifts_45 : decode cX1_findGifts 45 = .ok (.aload_n 0, 1) := by decide +kernel
theorem dX1_findGifts_46 : decode cX1_findGifts 46 = .ok (.getfield 40, 3) := by decide +kernel
theorem dX1_findGifts_49 : decode cX1_findGifts 49 = .ok (.getfield 55, 3) := by decide +kernel
theorem dX1_findGifts_52 : decode cX1_findGifts 52 = .ok (.iload_n 2, 1) := by decide +kernel
theorem dX1_findGifts_53 : decode cX1_findGifts 53 = .ok (.iload_n 3, 1) := by decide +kernel
theorem dX1_findGifts_54 : decode cX1_findGifts 54 = .ok (.iastore, 1) := by decide +kernel
theorem dX1_findGifts_55 : decode cX1_findGifts 55 = .ok (.aload_n 1, 1) := by decide +kernel
theorem dX1_findGifts_56 : decode cX1_findGifts 56 = .ok (.iload_n 2, 1) := by decide +kernel
theorem dX1_findGifts_57 : decode cX1_findGifts 57 = .ok (.iload_n 3, 1) := by decide +kernel
theorem dX1_findGifts_58 : decode cX1_findGifts 58 = .ok (.invokevirtual 58, 3) := by decide +kernel
theorem dX1_findGifts_61 : decode cX1_findGifts 61 = .ok (.ifCond .eq 44, 3) := by decide +kernel
theorem dX1_findGifts_64 : decode cX1_findGifts 64 = .ok (.aload_n 0, 1) := by decide +kernel
theorem dX1_findGifts_65 : decode cX1_findGifts 65 = .ok (.invokevirtual 62, 3) := by decide +kernel
theorem dX1_findGifts_68 : decode cX1_findGifts 68 = .ok (.ifCond .eq 37, 3) := by decide +kernel
theorem dX1_findGifts_71 : decode cX1_findGifts 71 = .ok (.aload_n 0, 1) := by decide +kernel
theorem dX1_findGifts_72 : decode cX1_findGifts 72 = .ok (.aload_n 0, 1) := by decide +kernel
theorem dX1_findGifts_73 : decode cX1_findGifts 73 = .ok (.getfield 25, 3) := by decide +kernel
theorem dX1_findGifts_76 : decode cX1_findGifts 76 = .ok (.ifCond .ne 12, 3) := by decide +kernel
theorem dX1_findGifts_79 : decode cX1_findGifts 79 = .ok (.bipush 10, 2) := by decide +kernel
theorem dX1_findGifts_81 : decode cX1_findGifts 81 = .ok (.iload_n 2, 1) := by decide +kernel
theorem dX1_findGifts_82 : decode cX1_findGifts 82 = .ok (.imul, 1) := by decide +kernel
theorem dX1_findGifts_83 : decode cX1_findGifts 83 = .ok (.iload_n 3, 1) := by decide +kernel
theorem dX1_findGifts_84 : decode cX1_findGifts 84 = .ok (.iadd, 1) := by decide +kernel
theorem dX1_findGifts_85 : decode cX1_findGifts 85 = .ok (.goto 7, 3) := by decide +kernel
theorem dX1_findGifts_88 : decode cX1_findGifts 88 = .ok (.aload_n 0, 1) := by decide +kernel
theorem dX1_findGifts_89 : decode cX1_findGifts 89 = .ok (.getfield 28, 3) := by decide +kernel
theorem dX1_findGifts_92 : decode cX1_findGifts 92 = .ok (.putfield 28, 3) := by decide +kernel
theorem dX1_findGifts_95 : decode cX1_findGifts 95 = .ok (.aload_n 0, 1) := by decide +kernel
theorem dX1_findGifts_96 : decode cX1_findGifts 96 = .ok (.dup, 1) := by decide +kernel
theorem dX1_findGifts_97 : decode cX1_findGifts 97 = .ok (.getfield 25, 3) := by decide +kernel
theorem dX1_findGifts_100 : decode cX1_findGifts 100 = .ok (.iconst 1, 1) := by decide +kernel
theorem dX1_findGifts_101 : decode cX1_findGifts 101 = .ok (.iadd, 1) := by decide +kernel
theorem dX1_findGifts_102 : decode cX1_findGifts 102 = .ok (.putfield 25, 3) := by decide +kernel
theorem dX1_findGifts_105 : decode cX1_findGifts 105 = .ok (.iinc 3 1, 3) := by decide +kernel
theorem dX1_findGifts_108 : decode cX1_findGifts 108 = .ok (.goto (-74), 3) := by decide +kernel
theorem dX1_findGifts_111 : decode cX1_findGifts 111 = .ok (.aload_n 0, 1) := by decide +kernel
theorem dX1_findGifts_112 : decode cX1_findGifts 112 = .ok (.getfield 40, 3) := by decide +kernel
theorem dX1_findGifts_115 : decode cX1_findGifts 115 = .ok (.getfield 55, 3) := by decide +kernel
theorem dX1_findGifts_118 : decode cX1_findGifts 118 = .ok (.iload_n 2, 1) := by decide +kernel
theorem dX1_findGifts_119 : decode cX1_findGifts 119 = .ok (.aload_n 1, 1) := by decide +kernel
theorem dX1_findGifts_120 : decode cX1_findGifts 120 = .ok (.getfield 55, 3) := by decide +kernel
theorem dX1_findGifts_123 : decode cX1_findGifts 123 = .ok (.iload_n 2, 1) := by decide +kernel
theorem dX1_findGifts_124 : decode cX1_findGifts 124 = .ok (.iaload, 1) := by decide +kernel
theorem dX1_findGifts_125 : decode cX1_findGifts 125 = .ok (.iastore, 1) := by decide +kernel
theorem dX1_findGifts_126 : decode cX1_findGifts 126 = .ok (.iinc 2 1, 3) := by decide +kernel
theorem dX1_findGifts_129 : decode cX1_findGifts 129 = .ok (.goto (-108), 3) := by decide +kernel
theorem dX1_findGifts_132 : decode cX1_findGifts 132 = .ok (.return_, 1) := by decide +kernel
theorem dX1_isSo_0 : decode cX1_isSo 0 = .ok (.iconst 0, 1) := by decide +kernel
theorem dX1_isSo_1 : decode cX1_isSo 1 = .ok (.istore_n 1, 1) := by decide +kernel
theorem dX1_isSo_2 : decode cX1_isSo 2 = .ok (.iload_n 1, 1) := by decide +kernel
theorem dX1_isSo_3 : decode cX1_isSo 3 = .ok (.aload_n 0, 1) := by decide +kernel
theorem dX1_isSo_4 : decode cX1_isSo 4 = .ok (.getfield 9, 3) := by decide +kernel
theorem dX1_isSo_7 : decode cX1_isSo 7 = .ok (.if_icmp .ge 49, 3) := by decide +kernel
theorem dX1_isSo_10 : decode cX1_isSo 10 = .ok (.aload_n 0, 1) := by decide +kernel
theorem dX1_isSo_11 : decode cX1_isSo 11 = .ok (.getfield 15, 3) := by decide +kernel
theorem dX1_isSo_14 : decode cX1_isSo 14 = .ok (.iload_n 1, 1) := by decide +kernel
theorem dX1_isSo_15 : decode cX1_isSo 15 = .ok (.iaload, 1) := by decide +kernel
theorem dX1_isSo_16 : decode cX1_isSo 16 = .ok (.istore_n 2, 1) := by decide +kernel
theorem dX1_isSo_17 : decode cX1_isSo 17 = .ok (.aload_n 0, 1) := by decide +kernel
theorem dX1_isSo_18 : decode cX1_isSo 18 = .ok (.getfield 40, 3) := by decide +kernel
theorem dX1_isSo_21 : decode cX1_isSo 21 = .ok (.iload_n 2, 1) := by decide +kernel
theorem dX1_isSo_22 : decode cX1_isSo 22 = .ok (.aload_n 0, 1) := by decide +kernel
theorem dX1_isSo_23 : decode cX1_isSo 23 = .ok (.getfield 40, 3) := by decide +kernel
theorem dX1_isSo_26 : decode cX1_isSo 26 = .ok (.iload_n 2, 1) := by decide +kernel
theorem dX1_isSo_27 : decode cX1_isSo 27 = .ok (.invokevirtual 66, 3) := by decide +kernel
theorem dX1_isSo_30 : decode cX1_isSo 30 = .ok (.aload_n 0, 1) := by decide +kernel
theorem dX1_isSo_31 : decode cX1_isSo 31 = .ok (.getfield 19, 3) := by decide +kernel
theorem dX1_isSo_34 : decode cX1_isSo 34 = .ok (.iload_n 1, 1) := by decide +kernel
theorem dX1_isSo_35 : decode cX1_isSo 35 = .ok (.iaload, 1) := by decide +kernel
theorem dX1_isSo_36 : decode cX1_isSo 36 = .ok (.invokevirtual 70, 3) := by decide +kernel
theorem dX1_isSo_39 : decode cX1_isSo 39 = .ok (.aload_n 0, 1) := by decide +kernel
theorem dX1_isSo_40 : decode cX1_isSo 40 = .ok (.getfield 22, 3) := by decide +kernel
theorem dX1_isSo_43 : decode cX1_isSo 43 = .ok (.iload_n 1, 1) := by decide +kernel
theorem dX1_isSo_44 : decode cX1_isSo 44 = .ok (.iaload, 1) := by decide +kernel
theorem dX1_isSo_45 : decode cX1_isSo 45 = .ok (.if_icmp .eq 5, 3) := by decide +kernel
theorem dX1_isSo_48 : decode cX1_isSo 48 = .ok (.iconst 0, 1) := by decide +kernel
theorem dX1_isSo_49 : decode cX1_isSo 49 = .ok (.ireturn, 1) := by decide +kernel
theorem dX1_isSo_50 : decode cX1_isSo 50 = .ok (.iinc 1 1, 3) := by decide +kernel
theorem dX1_isSo_53 : decode cX1_isSo 53 = .ok (.goto (-51), 3) := by decide +kernel
theorem dX1_isSo_56 : decode cX1_isSo 56 = .ok (.iconst 1, 1) := by decide +kernel
theorem dX1_isSo_57 : decode cX1_isSo 57 = .ok (.ireturn, 1) := by decide +kernel
theorem dX2_init_0 : decode cX2_init 0 = .ok (.aload_n 0, 1) := by decide +kernel
theorem dX2_init_1 : decode cX2_init 1 = .ok (.invokespecial 3, 3) := by decide +kernel
theorem dX2_init_4 : decode cX2_init 4 = .ok (.aload_n 0, 1) := by decide +kernel
theorem dX2_init_5 : decode cX2_init 5 = .ok (.iconst 0, 1) := by decide +kernel
theorem dX2_init_6 : decode cX2_init 6 = .ok (.putfield 9, 3) := by decide +kernel
theorem dX2_init_9 : decode cX2_init 9 = .ok (.aload_n 0, 1) := by decide +kernel
theorem dX2_init_10 : decode cX2_init 10 = .ok (.iconst 0, 1) := by decide +kernel
theorem dX2_init_11 : decode cX2_init 11 = .ok (.putfield 15, 3) := by decide +kernel
theorem dX2_init_14 : decode cX2_init 14 = .ok (.aload_n 0, 1) := by decide +kernel
theorem dX2_init_15 : decode cX2_init 15 = .ok (.iconst 0, 1) := by decide +kernel
theorem dX2_init_16 : decode cX2_init 16 = .ok (.putfield 18, 3) := by decide +kernel
theorem dX2_init_19 : decode cX2_init 19 = .ok (.aload_n 0, 1) := by decide +kernel
theorem dX2_init_20 : decode cX2_init 20 = .ok (.iconst 0, 1) := by decide +kernel
theorem dX2_init_21 : decode cX2_init 21 = .ok (.putfield 21, 3) := by decide +kernel
theorem dX2_init_24 : decode cX2_init 24 = .ok (.aload_n 0, 1) := by decide +kernel
theorem dX2_init_25 : decode cX2_init 25 = .ok (.iconst 0, 1) := by decide +kernel
theorem dX2_init_26 : decode cX2_init 26 = .ok (.putfield 24, 3) := by decide +kernel
theorem dX2_init_29 : decode cX2_init 29 = .ok (.aload_n 0, 1) := by decide +kernel
theorem dX2_init_30 : decode cX2_init 30 = .ok (.bipush 7, 2) := by decide +kernel
theorem dX2_init_32 : decode cX2_init 32 = .ok (.newarray .int, 2) := by decide +kernel
theorem dX2_init_34 : decode cX2_init 34 = .ok (.putfield 27, 3) := by decide +kernel
theorem dX2_init_37 : decode cX2_init 37 = .ok (.aload_n 0, 1) := by decide +kernel
theorem dX2_init_38 : decode cX2_init 38 = .ok (.bipush 7, 2) := by decide +kernel
theorem dX2_init_40 : decode cX2_init 40 = .ok (.newarray .int, 2) := by decide +kernel
theorem dX2_init_42 : decode cX2_init 42 = .ok (.putfield 31, 3) := by decide +kernel
theorem dX2_init_45 : decode cX2_init 45 = .ok (.aload_n 0, 1) := by decide +kernel
theorem dX2_init_46 : decode cX2_init 46 = .ok (.iconst 4, 1) := by decide +kernel
theorem dX2_init_47 : decode cX2_init 47 = .ok (.newarray .int, 2) := by decide +kernel
theorem dX2_init_49 : decode cX2_init 49 = .ok (.putfield 34, 3) := by decide +kernel
theorem dX2_init_52 : decode cX2_init 52 = .ok (.aload_n 0, 1) := by decide +kernel
theorem dX2_init_53 : decode cX2_init 53 = .ok (.aload_n 1, 1) := by decide +kernel
theorem dX2_init_54 : decode cX2_init 54 = .ok (.putfield 37, 3) := by decide +kernel
theorem dX2_init_57 : decode cX2_init 57 = .ok (.return_, 1) := by decide +kernel
theorem dX2_begin_0 : decode cX2_begin 0 = .ok (.aload_n 0, 1) := by decide +kernel
theorem dX2_begin_1 : decode cX2_begin 1 = .ok (.iconst 0, 1) := by decide +kernel
theorem dX2_begin_2 : decode cX2_begin 2 = .ok (.putfield 9, 3) := by decide +kernel
theorem dX2_begin_5 : decode cX2_begin 5 = .ok (.aload_n 0, 1) := by decide +kernel
theorem dX2_begin_6 : decode cX2_begin 6 = .ok (.iconst 0, 1) := by decide +kernel
theorem dX2_begin_7 : decode cX2_begin 7 = .ok (.putfield 15, 3) := by decide +kernel
theorem dX2_begin_10 : decode cX2_begin 10 = .ok (.aload_n 0, 1) := by decide +kernel
theorem dX2_begin_11 : decode cX2_begin 11 = .ok (.iconst 0, 1) := by decide +kernel
theorem dX2_begin_12 : decode cX2_begin 12 = .ok (.putfield 18, 3) := by decide +kernel
theorem dX2_begin_15 : decode cX2_begin 15 = .ok (.aload_n 0, 1) := by decide +kernel
theorem dX2_begin_16 : decode cX2_begin 16 = .ok (.iconst 0, 1) := by decide +kernel
theorem dX2_begin_17 : decode cX2_begin 17 = .ok (.putfield 21, 3) := by decide +kernel
theorem dX2_begin_20 : decode cX2_begin 20 = .ok (.aload_n 0, 1) := by decide +kernel
theorem dX2_begin_21 : decode cX2_begin 21 = .ok (.iconst 0, 1) := by decide +kernel
theorem dX2_begin_22 : decode cX2_begin 22 = .ok (.putfield 24, 3) := by decide +kernel
theorem dX2_begin_25 : decode cX2_begin 25 = .ok (.aload_n 0, 1) := by decide +kernel
theorem dX2_begin_26 : decode cX2_begin 26 = .ok (.getfield 37, 3) := by decide +kernel
theorem dX2_begin_29 : decode cX2_begin 29 = .ok (.getfield 41, 3) := by decide +kernel
theorem dX2_begin_32 : decode cX2_begin 32 = .ok (.iconst 0, 1) := by decide +kernel
theorem dX2_begin_33 : decode cX2_begin 33 = .ok (.aload_n 0, 1) := by decide +kernel
theorem dX2_begin_34 : decode cX2_begin 34 = .ok (.getfield 27, 3) := by decide +kernel
theorem dX2_begin_37 : decode cX2_begin 37 = .ok (.iconst 0, 1) := by decide +kernel
theorem dX2_begin_38 : decode cX2_begin 38 = .ok (.bipush 7, 2) := by decide +kernel
theorem dX2_begin_40 : decode cX2_begin 40 = .ok (.invokestatic 44, 3) := by decide +kernel
theorem dX2_begin_43 : decode cX2_begin 43 = .ok (.aload_n 0, 1) := by decide +kernel
theorem dX2_begin_44 : decode cX2_begin 44 = .ok (.getfield 37, 3) := by decide +kernel
theorem dX2_begin_47 : decode cX2_begin 47 = .ok (.getfield 50, 3) := by decide +kernel
theorem dX2_begin_50 : decode cX2_begin 50 = .ok (.iconst 0, 1) := by decide +kernel
theorem dX2_begin_51 : decode cX2_begin 51 = .ok (.aload_n 0, 1) := by decide +kernel
theorem dX2_begin_52 : decode cX2_begin 52 = .ok (.getfield 31, 3) := by decide +kernel
theorem dX2_begin_55 : decode cX2_begin 55 = .ok (.iconst 0, 1) := by decide +kernel
theorem dX2_begin_56 : decode cX2_begin 56 = .ok (.bipush 7, 2) := by decide +kernel
theorem dX2_begin_58 : decode cX2_begin 58 = .ok (.invokestatic 44, 3) := by decide +kernel
theorem dX2_begin_61 : decode cX2_begin 61 = .ok (.iconst 0, 1) := by decide +kernel
theorem dX2_begin_62 : decode cX2_begin 62 = .ok (.istore_n 1, 1) := by decide +kernel
theorem dX2_begin_63 : decode cX2_begin 63 = .ok (.iload_n 1, 1) := by decide +kernel
theorem dX2_begin_64 : decode cX2_begin 64 = .ok (.iconst 4, 1) := by decide +kernel
theorem dX2_begin_65 : decode cX2_begin 65 = .ok (.if_icmp .ge 16, 3) := by decide +kernel
theorem dX2_begin_68 : decode cX2_begin 68 = .ok (.aload_n 0, 1) := by decide +kernel
theorem dX2_begin_69 : decode cX2_begin 69 = .ok (.getfield 34, 3) := by decide +kernel
theorem dX2_begin_72 : decode cX2_begin 72 = .ok (.iload_n 1, 1) := by decide +kernel
theorem dX2_begin_73 : decode cX2_begin 73 = .ok (.iconst 0, 1) := by decide +kernel
theorem dX2_begin_74 : decode cX2_begin 74 = .ok (.iastore, 1) := by decide +kernel
theorem dX2_begin_75 : decode cX2_begin 75 = .ok (.iinc 1 1, 3) := by decide +kernel
theorem dX2_begin_78 : decode cX2_begin 78 = .ok (.goto (-15), 3) := by decide +kernel
theorem dX2_begin_81 : decode cX2_begin 81 = .ok (.return_, 1) := by decide +kernel
theorem dX2_copyFrom_0 : decode cX2_copyFrom 0 = .ok (.aload_n 0, 1) := by decide +kernel
theorem dX2_copyFrom_1 : decode cX2_copyFrom 1 = .ok (.aload_n 1, 1) := by decide +kernel
theorem dX2_copyFrom_2 : decode cX2_copyFrom 2 = .ok (.getfield 9, 3) := by decide +kernel
theorem dX2_copyFrom_5 : decode cX2_copyFrom 5 = .ok (.putfield 9, 3) := by decide +kernel
theorem dX2_copyFrom_8 : decode cX2_copyFrom 8 = .ok (.aload_n 0, 1) := by decide +kernel
theorem dX2_copyFrom_9 : decode cX2_copyFrom 9 = .ok (.aload_n 1, 1) := by decide +kernel
theorem dX2_copyFrom_10 : decode cX2_copyFrom 10 = .ok (.getfield 15, 3) := by decide +kernel
theorem dX2_copyFrom_13 : decode cX2_copyFrom 13 = .ok (.putfield 15, 3) := by decide +kernel
theorem dX2_copyFrom_16 : decode cX2_copyFrom 16 = .ok (.aload_n 0, 1) := by decide +kernel
theorem dX2_copyFrom_17 : decode cX2_copyFrom 17 = .ok (.aload_n 1, 1) := by decide +kernel
theorem dX2_copyFrom_18 : decode cX2_copyFrom 18 = .ok (.getfield 18, 3) := by decide +kernel
theorem dX2_copyFrom_21 : decode cX2_copyFrom 21 = .ok (.putfield 18, 3) := by decide +kernel
theorem dX2_copyFrom_24 : decode cX2_copyFrom 24 = .ok (.aload_n 0, 1) := by decide +kernel
theorem dX2_copyFrom_25 : decode cX2_copyFrom 25 = .ok (.aload_n 1, 1) := by decide +kernel
theorem dX2_copyFrom_26 : decode cX2_copyFrom 26 = .ok (.getfield 21, 3) := by decide +kernel
theorem dX2_copyFrom_29 : decode cX2_copyFrom 29 = .ok (.putfield 21, 3) := by decide +kernel
theorem dX2_copyFrom_32 : decode cX2_copyFrom 32 = .ok (.aload_n 0, 1) := by decide +kernel
theorem dX2_copyFrom_33 : decode cX2_copyFrom 33 = .ok (.aload_n 1, 1) := by decide +kernel
theorem dX2_copyFrom_34 : decode cX2_copyFrom 34 = .ok (.getfield 24, 3) := by decide +kernel
theorem dX2_copyFrom_37 : decode cX2_copyFrom 37 = .ok (.putfield 24, 3) := by decide +kernel
theorem dX2_copyFrom_40 : decode cX2_copyFrom 40 = .ok (.aload_n 1, 1) := by decide +kernel
theorem dX2_copyFrom_41 : decode cX2_copyFrom 41 = .ok (.getfield 27, 3) := by decide +kernel
theorem dX2_copyFrom_44 : decode cX2_copyFrom 44 = .ok (.iconst 0, 1) := by decide +kernel
theorem dX2_copyFrom_45 : decode cX2_copyFrom 45 = .ok (.aload_n 0, 1) := by decide +kernel
theorem dX2_copyFrom_46 : decode cX2_copyFrom 46 = .ok (.getfield 27, 3) := by decide +kernel
theorem dX2_copyFrom_49 : decode cX2_copyFrom 49 = .ok (.iconst 0, 1) := by decide +kernel
theorem dX2_copyFrom_50 : decode cX2_copyFrom 50 = .ok (.bipush 7, 2) := by decide +kernel
theorem dX2_copyFrom_52 : decode cX2_copyFrom 52 = .ok (.invokestatic 44, 3) := by decide +kernel
theorem dX2_copyFrom_55 : decode cX2_copyFrom 55 = .ok (.aload_n 1, 1) := by decide +kernel
theorem dX2_copyFrom_56 : decode cX2_copyFrom 56 = .ok (.getfield 31, 3) := by decide +kernel
theorem dX2_copyFrom_59 : decode cX2_copyFrom 59 = .ok (.iconst 0, 1) := by decide +kernel
theorem dX2_copyFrom_60 : decode cX2_copyFrom 60 = .ok (.aload_n 0, 1) := by decide +kernel
theorem dX2_copyFrom_61 : decode cX2_copyFrom 61 = .ok (.getfield 31, 3) := by decide +kernel
theorem dX2_copyFrom_64 : decode cX2_copyFrom 64 = .ok (.iconst 0, 1) := by decide +kernel
theorem dX2_copyFrom_65 : decode cX2_copyFrom 65 = .ok (.bipush 7, 2) := by decide +kernel
theorem dX2_copyFrom_67 : decode cX2_copyFrom 67 = .ok (.invokestatic 44, 3) := by decide +kernel
theorem dX2_copyFrom_70 : decode cX2_copyFrom 70 = .ok (.aload_n 1, 1) := by decide +kernel
theorem dX2_copyFrom_71 : decode cX2_copyFrom 71 = .ok (.getfield 34, 3) := by decide +kernel
theorem dX2_copyFrom_74 : decode cX2_copyFrom 74 = .ok (.iconst 0, 1) := by decide +kernel
theorem dX2_copyFrom_75 : decode cX2_copyFrom 75 = .ok (.aload_n 0, 1) := by decide +kernel
theorem dX2_copyFrom_76 : decode cX2_copyFrom 76 = .ok (.getfield 34, 3) := by decide +kernel
theorem dX2_copyFrom_79 : decode cX2_copyFrom 79 = .ok (.iconst 0, 1) := by decide +kernel
theorem dX2_copyFrom_80 : decode cX2_copyFrom 80 = .ok (.iconst 4, 1) := by decide +kernel
theorem dX2_copyFrom_81 : decode cX2_copyFrom 81 = .ok (.invokestatic 44, 3) := by decide +kernel
theorem dX2_copyFrom_84 : decode cX2_copyFrom 84 = .ok (.return_, 1) := by decide +kernel
theorem dX2_isWet_0 : decode cX2_isWet 0 = .ok (.aload_n 0, 1) := by decide +kernel
theorem dX2_isWet_1 : decode cX2_isWet 1 = .ok (.getfield 24, 3) := by decide +kernel
theorem dX2_isWet_4 : decode cX2_isWet 4 = .ok (.iload_n 1, 1) := by decide +kernel
theorem dX2_isWet_5 : decode cX2_isWet 5 = .ok (.ishr, 1) := by decide +kernel
theorem dX2_isWet_6 : decode cX2_isWet 6 = .ok (.iconst 1, 1) := by decide +kernel
theorem dX2_isWet_7 : decode cX2_isWet 7 = .ok (.iand, 1) := by decide +kernel
theorem dX2_isWet_8 : decode cX2_isWet 8 = .ok (.iconst 1, 1) := by decide +kernel
theorem dX2_isWet_9 : decode cX2_isWet 9 = .ok (.if_icmp .ne 7, 3) := by decide +kernel
theorem dX2_isWet_12 : decode cX2_isWet 12 = .ok (.iconst 1, 1) := by decide +kernel
theorem dX2_isWet_13 : decode cX2_isWet 13 = .ok (.goto 4, 3) := by decide +kernel
theorem dX2_isWet_16 : decode cX2_isWet 16 = .ok (.iconst 0, 1) := by decide +kernel
theorem dX2_isWet_17 : decode cX2_isWet 17 = .ok (.ireturn, 1) := by decide +kernel
theorem dX2_isCarried_0 : decode cX2_isCarried 0 = .ok (.aload_n 0, 1) := by decide +kernel
theorem dX2_isCarried_1 : decode cX2_isCarried 1 = .ok (.getfield 27, 3) := by decide +kernel
theorem dX2_isCarried_4 : decode cX2_isCarried 4 = .ok (.iload_n 1, 1) := by decide +kernel
theorem dX2_isCarried_5 : decode cX2_isCarried 5 = .ok (.iaload, 1) := by decide +kernel
theorem dX2_isCarried_6 : decode cX2_isCarried 6 = .ok (.bipush 9, 2) := by decide +kernel
theorem dX2_isCarried_8 : decode cX2_isCarried 8 = .ok (.if_icmp .eq 7, 3) := by decide +kernel
theorem dX2_isCarried_11 : decode cX2_isCarried 11 = .ok (.iconst 1, 1) := by decide +kernel
theorem dX2_isCarried_12 : decode cX2_isCarried 12 = .ok (.goto 4, 3) := by decide +kernel
theorem dX2_isCarried_15 : decode cX2_isCarried 15 = .ok (.iconst 0, 1) := by decide +kernel
theorem dX2_isCarried_16 : decode cX2_isCarried 16 = .ok (.ireturn, 1) := by decide +kernel
theorem dX2_canBeGiven_0 : decode cX2_canBeGiven 0 = .ok (.aload_n 0, 1) := by decide +kernel
theorem dX2_canBeGiven_1 : decode cX2_canBeGiven 1 = .ok (.iload_n 1, 1) := by decide +kernel
theorem dX2_canBeGiven_2 : decode cX2_canBeGiven 2 = .ok (.invokevirtual 53, 3) := by decide +kernel
theorem dX2_canBeGiven_5 : decode cX2_canBeGiven 5 = .ok (.ifCond .eq 17, 3) := by decide +kernel
theorem dX2_canBeGiven_8 : decode cX2_canBeGiven 8 = .ok (.aload_n 0, 1) := by decide +kernel
theorem dX2_canBeGiven_9 : decode cX2_canBeGiven 9 = .ok (.getfield 27, 3) := by decide +kernel
theorem dX2_canBeGiven_12 : decode cX2_canBeGiven 12 = .ok (.iload_n 1, 1) := by decide +kernel
theorem dX2_canBeGiven_13 : decode cX2_canBeGiven 13 = .ok (.iaload, 1) := by decide +kernel
theorem dX2_canBeGiven_14 : decode cX2_canBeGiven 14 = .ok (.iload_n 2, 1) := by decide +kernel
theorem dX2_canBeGiven_15 : decode cX2_canBeGiven 15 = .ok (.if_icmp .eq 7, 3) := by decide +kernel
theorem dX2_canBeGiven_18 : decode cX2_canBeGiven 18 = .ok (.iconst 1, 1) := by decide +kernel
theorem dX2_canBeGiven_19 : decode cX2_canBeGiven 19 = .ok (.goto 4, 3) := by decide +kernel
theorem dX2_canBeGiven_22 : decode cX2_canBeGiven 22 = .ok (.iconst 0, 1) := by decide +kernel
theorem dX2_canBeGiven_23 : decode cX2_canBeGiven 23 = .ok (.ireturn, 1) := by decide +kernel
theorem dX2_isAtHut_0 : decode cX2_isAtHut 0 = .ok (.aload_n 0, 1) := by decide +kernel
theorem dX2_isAtHut_1 : decode cX2_isAtHut 1 = .ok (.getfield 9, 3) := by decide +kernel
theorem dX2_isAtHut_4 : decode cX2_isAtHut 4 = .ok (.ifCond .le 35, 3) := by decide +kernel
theorem dX2_isAtHut_7 : decode cX2_isAtHut 7 = .ok (.aload_n 0, 1) := by decide +kernel
theorem dX2_isAtHut_8 : decode cX2_isAtHut 8 = .ok (.getfield 9, 3) := by decide +kernel
theorem dX2_isAtHut_11 : decode cX2_isAtHut 11 = .ok (.aload_n 0, 1) := by decide +kernel
theorem dX2_isAtHut_12 : decode cX2_isAtHut 12 = .ok (.getfield 37, 3) := by decide +kernel
theorem dX2_isAtHut_15 : decode cX2_isAtHut 15 = .ok (.getfield 57, 3) := by decide +kernel
theorem dX2_isAtHut_18 : decode cX2_isAtHut 18 = .ok (.if_icmp .gt 25, 3) := by decide +kernel
theorem dX2_isAtHut_21 : decode cX2_isAtHut 21 = .ok (.aload_n 0, 1) := by decide +kernel
theorem dX2_isAtHut_22 : decode cX2_isAtHut 22 = .ok (.getfield 37, 3) := by decide +kernel
theorem dX2_isAtHut_25 : decode cX2_isAtHut 25 = .ok (.getfield 60, 3) := by decide +kernel
theorem dX2_isAtHut_28 : decode cX2_isAtHut 28 = .ok (.aload_n 0, 1) := by decide +kernel
theorem dX2_isAtHut_29 : decode cX2_isAtHut 29 = .ok (.getfield 9, 3) := by decide +kernel
theorem dX2_isAtHut_32 : decode cX2_isAtHut 32 = .ok (.iconst 1, 1) := by decide +kernel
theorem dX2_isAtHut_33 : decode cX2_isAtHut 33 = .ok (.isub, 1) := by decide +kernel
theorem dX2_isAtHut_34 : decode cX2_isAtHut 34 = .ok (.iaload, 1) := by decide +kernel
theorem dX2_isAtHut_35 : decode cX2_isAtHut 35 = .ok (.iconst 1, 1) := by decide +kernel
theorem dX2_isAtHut_36 : decode cX2_isAtHut 36 = .ok (.if_icmp .ne 7, 3) := by decide +kernel
theorem dX2_isAtHut_39 : decode cX2_isAtHut 39 = .ok (.iconst 1, 1) := by decide +kernel
theorem dX2_isAtHut_40 : decode cX2_isAtHut 40 = .ok (.goto 4, 3) := by decide +kernel
theorem dX2_isAtHut_43 : decode cX2_isAtHut 43 = .ok (.iconst 0, 1) := by decide +kernel
theorem dX2_isAtHut_44 : decode cX2_isAtHut 44 = .ok (.ireturn, 1) := by decide +kernel
theorem dX2_hasStage_0 : decode cX2_hasStage 0 = .ok (.aload_n 0, 1) := by decide +kernel
theorem dX2_hasStage_1 : decode cX2_hasStage 1 = .ok (.getfield 9, 3) := by decide +kernel
theorem dX2_hasStage_4 : decode cX2_hasStage 4 = .ok (.aload_n 0, 1) := by decide +kernel
theorem dX2_hasStage_5 : decode cX2_hasStage 5 = .ok (.getfield 37, 3) := by decide +kernel
theorem dX2_hasStage_8 : decode cX2_hasStage 8 = .ok (.getfield 57, 3) := by decide +kernel
theorem dX2_hasStage_11 : decode cX2_hasStage 11 = .ok (.if_icmp .ge 7, 3) := by decide +kernel
theorem dX2_hasStage_14 : decode cX2_hasStage 14 = .ok (.iconst 1, 1) := by decide +kernel
theorem dX2_hasStage_15 : decode cX2_hasStage 15 = .ok (.goto 4, 3) := by decide +kernel
theorem dX2_hasStage_18 : decode cX2_hasStage 18 = .ok (.iconst 0, 1) := by decide +kernel
theorem dX2_hasStage_19 : decode cX2_hasStage 19 = .ok (.ireturn, 1) := by decide +kernel
theorem dX2_weight_0 : decode cX2_weight 0 = .ok (.aload_n 0, 1) := by decide +kernel
theorem dX2_weight_1 : decode cX2_weight 1 = .ok (.getfield 31, 3) := by decide +kernel
theorem dX2_weight_4 : decode cX2_weight 4 = .ok (.iload_n 1, 1) := by decide +kernel
theorem dX2_weight_5 : decode cX2_weight 5 = .ok (.iaload, 1) := by decide +kernel
theorem dX2_weight_6 : decode cX2_weight 6 = .ok (.ifCond .le 30, 3) := by decide +kernel
theorem dX2_weight_9 : decode cX2_weight 9 = .ok (.aload_n 0, 1) := by decide +kernel
theorem dX2_weight_10 : decode cX2_weight 10 = .ok (.iload_n 1, 1) := by decide +kernel
theorem dX2_weight_11 : decode cX2_weight 11 = .ok (.invokevirtual 63, 3) := by decide +kernel
theorem dX2_weight_14 : decode cX2_weight 14 = .ok (.ifCond .eq 22, 3) := by decide +kernel
theorem dX2_weight_17 : decode cX2_weight 17 = .ok (.aload_n 0, 1) := by decide +kernel
theorem dX2_weight_18 : decode cX2_weight 18 = .ok (.getfield 31, 3) := by decide +kernel
theorem dX2_weight_21 : decode cX2_weight 21 = .ok (.iload_n 1, 1) := by decide +kernel
theorem dX2_weight_22 : decode cX2_weight 22 = .ok (.iaload, 1) := by decide +kernel
theorem dX2_weight_23 : decode cX2_weight 23 = .ok (.aload_n 0, 1) := by decide +kernel
theorem dX2_weight_24 : decode cX2_weight 24 = .ok (.getfield 37, 3) := by decide +kernel
theorem dX2_weight_27 : decode cX2_weight 27 = .ok (.getfield 66, 3) := by decide +kernel
theorem dX2_weight_30 : decode cX2_weight 30 = .ok (.iload_n 1, 1) := by decide +kernel
theorem dX2_weight_31 : decode cX2_weight 31 = .ok (.iaload, 1) := by decide +kernel
theorem dX2_weight_32 : decode cX2_weight 32 = .ok (.iadd, 1) := by decide +kernel
theorem dX2_weight_33 : decode cX2_weight 33 = .ok (.goto 9, 3) := by decide +kernel
theorem dX2_weight_36 : decode cX2_weight 36 = .ok (.aload_n 0, 1) := by decide +kernel
theorem dX2_weight_37 : decode cX2_weight 37 = .ok (.getfield 31, 3) := by decide +kernel
theorem dX2_weight_40 : decode cX2_weight 40 = .ok (.iload_n 1, 1) := by decide +kernel
theorem dX2_weight_41 : decode cX2_weight 41 = .ok (.iaload, 1) := by decide +kernel
theorem dX2_weight_42 : decode cX2_weight 42 = .ok (.ireturn, 1) := by decide +kernel
theorem dX2_load_0 : decode cX2_load 0 = .ok (.iconst 0, 1) := by decide +kernel
theorem dX2_load_1 : decode cX2_load 1 = .ok (.istore_n 2, 1) := by decide +kernel
theorem dX2_load_2 : decode cX2_load 2 = .ok (.iconst 0, 1) := by decide +kernel
theorem dX2_load_3 : decode cX2_load 3 = .ok (.istore_n 3, 1) := by decide +kernel
theorem dX2_load_4 : decode cX2_load 4 = .ok (.iload_n 3, 1) := by decide +kernel
theorem dX2_load_5 : decode cX2_load 5 = .ok (.aload_n 0, 1) := by decide +kernel
theorem dX2_load_6 : decode cX2_load 6 = .ok (.getfield 37, 3) := by decide +kernel
theorem dX2_load_9 : decode cX2_load 9 = .ok (.getfield 69, 3) := by decide +kernel
theorem dX2_load_12 : decode cX2_load 12 = .ok (.if_icmp .ge 27, 3) := by decide +kernel
theorem dX2_load_15 : decode cX2_load 15 = .ok (.aload_n 0, 1) := by decide +kernel
theorem dX2_load_16 : decode cX2_load 16 = .ok (.getfield 27, 3) := by decide +kernel
theorem dX2_load_19 : decode cX2_load 19 = .ok (.iload_n 3, 1) := by decide +kernel
theorem dX2_load_20 : decode cX2_load 20 = .ok (.iaload, 1) := by decide +kernel
theorem dX2_load_21 : decode cX2_load 21 = .ok (.iload_n 1, 1) := by decide +kernel
theorem dX2_load_22 : decode cX2_load 22 = .ok (.if_icmp .ne 11, 3) := by decide +kernel
theorem dX2_load_25 : decode cX2_load 25 = .ok (.iload_n 2, 1) := by decide +kernel
theorem dX2_load_26 : decode cX2_load 26 = .ok (.aload_n 0, 1) := by decide +kernel
theorem dX2_load_27 : decode cX2_load 27 = .ok (.iload_n 3, 1) := by decide +kernel
theorem dX2_load_28 : decode cX2_load 28 = .ok (.invokevirtual 72, 3) := by decide +kernel
theorem dX2_load_31 : decode cX2_load 31 = .ok (.iadd, 1) := by decide +kernel
theorem dX2_load_32 : decode cX2_load 32 = .ok (.istore_n 2, 1) := by decide +kernel
theorem dX2_load_33 : decode cX2_load 33 = .ok (.iinc 3 1, 3) := by decide +kernel
theorem dX2_load_36 : decode cX2_load 36 = .ok (.goto (-32), 3) := by decide +kernel
theorem dX2_load_39 : decode cX2_load 39 = .ok (.iload_n 2, 1) := by decide +kernel
theorem dX2_load_40 : decode cX2_load 40 = .ok (.ireturn, 1) := by decide +kernel
theorem dX2_thingsWith_0 : decode cX2_thingsWith 0 = .ok (.iconst 0, 1) := by decide +kernel
theorem dX2_thingsWith_1 : decode cX2_thingsWith 1 = .ok (.istore_n 2, 1) := by decide +kernel
theorem dX2_thingsWith_2 : decode cX2_thingsWith 2 = .ok (.iconst 0, 1) := by decide +kernel
theorem dX2_thingsWith_3 : decode cX2_thingsWith 3 = .ok (.istore_n 3, 1) := by decide +kernel
theorem dX2_thingsWith_4 : decode cX2_thingsWith 4 = .ok (.iload_n 3, 1) := by decide +kernel
theorem dX2_thingsWith_5 : decode cX2_thingsWith 5 = .ok (.aload_n 0, 1) := by decide +kernel
theorem dX2_thingsWith_6 : decode cX2_thingsWith 6 = .ok (.getfield 37, 3) := by decide +kernel
theorem dX2_thingsWith_9 : decode cX2_thingsWith 9 = .ok (.getfield 69, 3) := by decide +kernel
theorem dX2_thingsWith_12 : decode cX2_thingsWith 12 = .ok (.if_icmp .ge 25, 3) := by decide +kernel
theorem dX2_thingsWith_15 : decode cX2_thingsWith 15 = .ok (.aload_n 0, 1) := by decide +kernel
theorem dX2_thingsWith_16 : decode cX2_thingsWith 16 = .ok (.getfield 27, 3) := by decide +kernel
theorem dX2_thingsWith_19 : decode cX2_thingsWith 19 = .ok (.iload_n 3, 1) := by decide +kernel
theorem dX2_thingsWith_20 : decode cX2_thingsWith 20 = .ok (.iaload, 1) := by decide +kernel
theorem dX2_thingsWith_21 : decode cX2_thingsWith 21 = .ok (.iload_n 1, 1) := by decide +kernel
theorem dX2_thingsWith_22 : decode cX2_thingsWith 22 = .ok (.if_icmp .ne 9, 3) := by decide +kernel
theorem dX2_thingsWith_25 : decode cX2_thingsWith 25 = .ok (.iload_n 2, 1) := by decide +kernel
theorem dX2_thingsWith_26 : decode cX2_thingsWith 26 = .ok (.iconst 1, 1) := by decide +kernel
theorem dX2_thingsWith_27 : decode cX2_thingsWith 27 = .ok (.iload_n 3, 1) := by decide +kernel
theorem dX2_thingsWith_28 : decode cX2_thingsWith 28 = .ok (.ishl, 1) := by decide +kernel
theorem dX2_thingsWith_29 : decode cX2_thingsWith 29 = .ok (.ior, 1) := by decide +kernel
theorem dX2_thingsWith_30 : decode cX2_thingsWith 30 = .ok (.istore_n 2, 1) := by decide +kernel
theorem dX2_thingsWith_31 : decode cX2_thingsWith 31 = .ok (.iinc 3 1, 3) := by decide +kernel
theorem dX2_thingsWith_34 : decode cX2_thingsWith 34 = .ok (.goto (-30), 3) := by decide +kernel
theorem dX2_thingsWith_37 : decode cX2_thingsWith 37 = .ok (.iload_n 2, 1) := by decide +kernel
theorem dX2_thingsWith_38 : decode cX2_thingsWith 38 = .ok (.ireturn, 1) := by decide +kernel
theorem dX2_leftOf_0 : decode cX2_leftOf 0 = .ok (.iconst 0, 1) := by decide +kernel
theorem dX2_leftOf_1 : decode cX2_leftOf 1 = .ok (.istore_n 2, 1) := by decide +kernel
theorem dX2_leftOf_2 : decode cX2_leftOf 2 = .ok (.iconst 0, 1) := by decide +kernel
theorem dX2_leftOf_3 : decode cX2_leftOf 3 = .ok (.istore_n 3, 1) := by decide +kernel
theorem dX2_leftOf_4 : decode cX2_leftOf 4 = .ok (.iload_n 3, 1) := by decide +kernel
theorem dX2_leftOf_5 : decode cX2_leftOf 5 = .ok (.aload_n 0, 1) := by decide +kernel
theorem dX2_leftOf_6 : decode cX2_leftOf 6 = .ok (.getfield 37, 3) := by decide +kernel
theorem dX2_leftOf_9 : decode cX2_leftOf 9 = .ok (.getfield 69, 3) := by decide +kernel
theorem dX2_leftOf_12 : decode cX2_leftOf 12 = .ok (.if_icmp .ge 27, 3) := by decide +kernel
theorem dX2_leftOf_15 : decode cX2_leftOf 15 = .ok (.iload_n 1, 1) := by decide +kernel
theorem dX2_leftOf_16 : decode cX2_leftOf 16 = .ok (.iload_n 3, 1) := by decide +kernel
theorem dX2_leftOf_17 : decode cX2_leftOf 17 = .ok (.ishr, 1) := by decide +kernel
theorem dX2_leftOf_18 : decode cX2_leftOf 18 = .ok (.iconst 1, 1) := by decide +kernel
theorem dX2_leftOf_19 : decode cX2_leftOf 19 = .ok (.iand, 1) := by decide +kernel
theorem dX2_leftOf_20 : decode cX2_leftOf 20 = .ok (.iconst 1, 1) := by decide +kernel
theorem dX2_leftOf_21 : decode cX2_leftOf 21 = .ok (.if_icmp .ne 12, 3) := by decide +kernel
theorem dX2_leftOf_24 : decode cX2_leftOf 24 = .ok (.iload_n 2, 1) := by decide +kernel
theorem dX2_leftOf_25 : decode cX2_leftOf 25 = .ok (.aload_n 0, 1) := by decide +kernel
theorem dX2_leftOf_26 : decode cX2_leftOf 26 = .ok (.getfield 31, 3) := by decide +kernel
theorem dX2_leftOf_29 : decode cX2_leftOf 29 = .ok (.iload_n 3, 1) := by decide +kernel
theorem dX2_leftOf_30 : decode cX2_leftOf 30 = .ok (.iaload, 1) := by decide +kernel
theorem dX2_leftOf_31 : decode cX2_leftOf 31 = .ok (.iadd, 1) := by decide +kernel
theorem dX2_leftOf_32 : decode cX2_leftOf 32 = .ok (.istore_n 2, 1) := by decide +kernel
theorem dX2_leftOf_33 : decode cX2_leftOf 33 = .ok (.iinc 3 1, 3) := by decide +kernel
theorem dX2_leftOf_36 : decode cX2_leftOf 36 = .ok (.goto (-32), 3) := by decide +kernel
theorem dX2_leftOf_39 : decode cX2_leftOf 39 = .ok (.iload_n 2, 1) := by decide +kernel
theorem dX2_leftOf_40 : decode cX2_leftOf 40 = .ok (.ireturn, 1) := by decide +kernel
theorem dX2_force_0 : decode cX2_force 0 = .ok (.aload_n 0, 1) := by decide +kernel
theorem dX2_force_1 : decode cX2_force 1 = .ok (.getfield 37, 3) := by decide +kernel
theorem dX2_force_4 : decode cX2_force 4 = .ok (.getfield 76, 3) := by decide +kernel
theorem dX2_force_7 : decode cX2_force 7 = .ok (.iload_n 1, 1) := by decide +kernel
theorem dX2_force_8 : decode cX2_force 8 = .ok (.iaload, 1) := by decide +kernel
theorem dX2_force_9 : decode cX2_force 9 = .ok (.aload_n 0, 1) := by decide +kernel
theorem dX2_force_10 : decode cX2_force 10 = .ok (.getfield 34, 3) := by decide +kernel
theorem dX2_force_13 : decode cX2_force 13 = .ok (.iload_n 1, 1) := by decide +kernel
theorem dX2_force_14 : decode cX2_force 14 = .ok (.iaload, 1) := by decide +kernel
theorem dX2_force_15 : decode cX2_force 15 = .ok (.isub, 1) := by decide +kernel
theorem dX2_force_16 : decode cX2_force 16 = .ok (.ireturn, 1) := by decide +kernel
theorem dX2_pace_0 : decode cX2_pace 0 = .ok (.iconst 1, 1) := by decide +kernel
theorem dX2_pace_1 : decode cX2_pace 1 = .ok (.bipush 20, 2) := by decide +kernel
theorem dX2_pace_3 : decode cX2_pace 3 = .ok (.aload_n 0, 1) := by decide +kernel
theorem dX2_pace_4 : decode cX2_pace 4 = .ok (.iload_n 1, 1) := by decide +kernel
theorem dX2_pace_5 : decode cX2_pace 5 = .ok (.invokevirtual 79, 3) := by decide +kernel
theorem dX2_pace_8 : decode cX2_pace 8 = .ok (.iload_n 2, 1) := by decide +kernel
theorem dX2_pace_9 : decode cX2_pace 9 = .ok (.isub, 1) := by decide +kernel
theorem dX2_pace_10 : decode cX2_pace 10 = .ok (.bipush 10, 2) := by decide +kernel
theorem dX2_pace_12 : decode cX2_pace 12 = .ok (.iadd, 1) := by decide +kernel
theorem dX2_pace_13 : decode cX2_pace 13 = .ok (.invokestatic 82, 3) := by decide +kernel
theorem dX2_pace_16 : decode cX2_pace 16 = .ok (.invokestatic 88, 3) := by decide +kernel
theorem dX2_pace_19 : decode cX2_pace 19 = .ok (.ireturn, 1) := by decide +kernel
theorem dX2_minutesFor_0 : decode cX2_minutesFor 0 = .ok (.aload_n 0, 1) := by decide +kernel
theorem dX2_minutesFor_1 : decode cX2_minutesFor 1 = .ok (.iload_n 1, 1) := by decide +kernel
theorem dX2_minutesFor_2 : decode cX2_minutesFor 2 = .ok (.iload_n 2, 1) := by decide +kernel
theorem dX2_minutesFor_3 : decode cX2_minutesFor 3 = .ok (.invokevirtual 91, 3) := by decide +kernel
theorem dX2_minutesFor_6 : decode cX2_minutesFor 6 = .ok (.istore 4, 2) := by decide +kernel
theorem dX2_minutesFor_8 : decode cX2_minutesFor 8 = .ok (.iload 4, 2) := by decide +kernel
theorem dX2_minutesFor_10 : decode cX2_minutesFor 10 = .ok (.iconst 1, 1) := by decide +kernel
theorem dX2_minutesFor_11 : decode cX2_minutesFor 11 = .ok (.if_icmp .ge 7, 3) := by decide +kernel
theorem dX2_minutesFor_14 : decode cX2_minutesFor 14 = .ok (.iconst 0, 1) := by decide +kernel
theorem dX2_minutesFor_15 : decode cX2_minutesFor 15 = .ok (.goto 15, 3) := by decide +kernel
theorem dX2_minutesFor_18 : decode cX2_minutesFor 18 = .ok (.bipush 60, 2) := by decide +kernel
theorem dX2_minutesFor_20 : decode cX2_minutesFor 20 = .ok (.iload_n 3, 1) := by decide +kernel
theorem dX2_minutesFor_21 : decode cX2_minutesFor 21 = .ok (.imul, 1) := by decide +kernel
theorem dX2_minutesFor_22 : decode cX2_minutesFor 22 = .ok (.iload 4, 2) := by decide +kernel
theorem dX2_minutesFor_24 : decode cX2_minutesFor 24 = .ok (.iadd, 1) := by decide +kernel
theorem dX2_minutesFor_25 : decode cX2_minutesFor 25 = .ok (.iconst 1, 1) := by decide +kernel
theorem dX2_minutesFor_26 : decode cX2_minutesFor 26 = .ok (.isub, 1) := by decide +kernel
theorem dX2_minutesFor_27 : decode cX2_minutesFor 27 = .ok (.iload 4, 2) := by decide +kernel
theorem dX2_minutesFor_29 : decode cX2_minutesFor 29 = .ok (.idiv, 1) := by decide +kernel
theorem dX2_minutesFor_30 : decode cX2_minutesFor 30 = .ok (.ireturn, 1) := by decide +kernel
theorem dX2_slowest_0 : decode cX2_slowest 0 = .ok (.iconst 0, 1) := by decide +kernel
theorem dX2_slowest_1 : decode cX2_slowest 1 = .ok (.istore_n 2, 1) := by decide +kernel
theorem dX2_slowest_2 : decode cX2_slowest 2 = .ok (.iconst 0, 1) := by decide +kernel
theorem dX2_slowest_3 : decode cX2_slowest 3 = .ok (.istore_n 3, 1) := by decide +kernel
theorem dX2_slowest_4 : decode cX2_slowest 4 = .ok (.iload_n 3, 1) := by decide +kernel
theorem dX2_slowest_5 : decode cX2_slowest 5 = .ok (.aload_n 0, 1) := by decide +kernel
theorem dX2_slowest_6 : decode cX2_slowest 6 = .ok (.getfield 37, 3) := by decide +kernel
theorem dX2_slowest_9 : decode cX2_slowest 9 = .ok (.getfield 94, 3) := by decide +kernel
theorem dX2_slowest_12 : decode cX2_slowest 12 = .ok (.if_icmp .ge 25, 3) := by decide +kernel
theorem dX2_slowest_15 : decode cX2_slowest 15 = .ok (.iload_n 2, 1) := by decide +kernel
theorem dX2_slowest_16 : decode cX2_slowest 16 = .ok (.aload_n 0, 1) := by decide +kernel
theorem dX2_slowest_17 : decode cX2_slowest 17 = .ok (.iload_n 3, 1) := by decide +kernel
theorem dX2_slowest_18 : decode cX2_slowest 18 = .ok (.aload_n 0, 1) := by decide +kernel
theorem dX2_slowest_19 : decode cX2_slowest 19 = .ok (.iload_n 3, 1) := by decide +kernel
theorem dX2_slowest_20 : decode cX2_slowest 20 = .ok (.invokevirtual 97, 3) := by decide +kernel
theorem dX2_slowest_23 : decode cX2_slowest 23 = .ok (.iload_n 1, 1) := by decide +kernel
theorem dX2_slowest_24 : decode cX2_slowest 24 = .ok (.invokevirtual 100, 3) := by decide +kernel
theorem dX2_slowest_27 : decode cX2_slowest 27 = .ok (.invokestatic 88, 3) := by decide +kernel
theorem dX2_slowest_30 : decode cX2_slowest 30 = .ok (.istore_n 2, 1) := by decide +kernel
theorem dX2_slowest_31 : decode cX2_slowest 31 = .ok (.iinc 3 1, 3) := by decide +kernel
theorem dX2_slowest_34 : decode cX2_slowest 34 = .ok (.goto (-30), 3) := by decide +kernel
theorem dX2_slowest_37 : decode cX2_slowest 37 = .ok (.iload_n 2, 1) := by decide +kernel
theorem dX2_slowest_38 : decode cX2_slowest 38 = .ok (.ireturn, 1) := by decide +kernel
theorem dX2_spread_0 : decode cX2_spread 0 = .ok (.ldc 104, 2) := by decide +kernel
theorem dX2_spread_2 : decode cX2_spread 2 = .ok (.istore_n 2, 1) := by decide +kernel
theorem dX2_spread_3 : decode cX2_spread 3 = .ok (.ldc 105, 2) := by decide +kernel
theorem dX2_spread_5 : decode cX2_spread 5 = .ok (.istore_n 3, 1) := by decide +kernel
theorem dX2_spread_6 : decode cX2_spread 6 = .ok (.iconst 0, 1) := by decide +kernel
theorem dX2_spread_7 : decode cX2_spread 7 = .ok (.istore 4, 2) := by decide +kernel
theorem dX2_spread_9 : decode cX2_spread 9 = .ok (.iload 4, 2) := by decide +kernel
theorem dX2_spread_11 : decode cX2_spread 11 = .ok (.aload_n 0, 1) := by decide +kernel
theorem dX2_spread_12 : decode cX2_spread 12 = .ok (.getfield 37, 3) := by decide +kernel
theorem dX2_spread_15 : decode cX2_spread 15 = .ok (.getfield 94, 3) := by decide +kernel
theorem dX2_spread_18 : decode cX2_spread 18 = .ok (.if_icmp .ge 51, 3) := by decide +kernel
theorem dX2_spread_21 : decode cX2_spread 21 = .ok (.iload_n 1, 1) := by decide +kernel
theorem dX2_spread_22 : decode cX2_spread 22 = .ok (.ifCond .eq 19, 3) := by decide +kernel
theorem dX2_spread_25 : decode cX2_spread 25 = .ok (.aload_n 0, 1) := by decide +kernel
theorem dX2_spread_26 : decode cX2_spread 26 = .ok (.iload 4, 2) := by decide +kernel
theorem dX2_spread_28 : decode cX2_spread 28 = .ok (.invokevirtual 97, 3) := by decide +kernel
theorem dX2_spread_31 : decode cX2_spread 31 = .ok (.aload_n 0, 1) := by decide +kernel
theorem dX2_spread_32 : decode cX2_spread 32 = .ok (.iload 4, 2) := by decide +kernel
theorem dX2_spread_34 : decode cX2_spread 34 = .ok (.invokevirtual 79, 3) := by decide +kernel
theorem dX2_spread_37 : decode cX2_spread 37 = .ok (.isub, 1) := by decide +kernel
theorem dX2_spread_38 : decode cX2_spread 38 = .ok (.goto 9, 3) := by decide +kernel
theorem dX2_spread_41 : decode cX2_spread 41 = .ok (.aload_n 0, 1) := by decide +kernel
theorem dX2_spread_42 : decode cX2_spread 42 = .ok (.iload 4, 2) := by decide +kernel
theorem dX2_spread_44 : decode cX2_spread 44 = .ok (.invokevirtual 97, 3) := by decide +kernel
theorem dX2_spread_47 : decode cX2_spread 47 = .ok (.istore 5, 2) := by decide +kernel
theorem dX2_spread_49 : decode cX2_spread 49 = .ok (.iload_n 2, 1) := by decide +kernel
theorem dX2_spread_50 : decode cX2_spread 50 = .ok (.iload 5, 2) := by decide +kernel
theorem dX2_spread_52 : decode cX2_spread 52 = .ok (.invokestatic 88, 3) := by decide +kernel
theorem dX2_spread_55 : decode cX2_spread 55 = .ok (.istore_n 2, 1) := by decide +kernel
theorem dX2_spread_56 : decode cX2_spread 56 = .ok (.iload_n 3, 1) := by decide +kernel
theorem dX2_spread_57 : decode cX2_spread 57 = .ok (.iload 5, 2) := by decide +kernel
theorem dX2_spread_59 : decode cX2_spread 59 = .ok (.invokestatic 82, 3) := by decide +kernel
theorem dX2_spread_62 : decode cX2_spread 62 = .ok (.istore_n 3, 1) := by decide +kernel
theorem dX2_spread_63 : decode cX2_spread 63 = .ok (.iinc 4 1, 3) := by decide +kernel
theorem dX2_spread_66 : decode cX2_spread 66 = .ok (.goto (-57), 3) := by decide +kernel
theorem dX2_spread_69 : decode cX2_spread 69 = .ok (.aload_n 0, 1) := by decide +kernel
theorem dX2_spread_70 : decode cX2_spread 70 = .ok (.getfield 37, 3) := by decide +kernel
theorem dX2_spread_73 : decode cX2_spread 73 = .ok (.getfield 94, 3) := by decide +kernel
theorem dX2_spread_76 : decode cX2_spread 76 = .ok (.ifCond .ne 7, 3) := by decide +kernel
theorem dX2_spread_79 : decode cX2_spread 79 = .ok (.iconst 0, 1) := by decide +kernel
theorem dX2_spread_80 : decode cX2_spread 80 = .ok (.goto 6, 3) := by decide +kernel
theorem dX2_spread_83 : decode cX2_spread 83 = .ok (.iload_n 2, 1) := by decide +kernel
theorem dX2_spread_84 : decode cX2_spread 84 = .ok (.iload_n 3, 1) := by decide +kernel
theorem dX2_spread_85 : decode cX2_spread 85 = .ok (.isub, 1) := by decide +kernel
theorem dX2_spread_86 : decode cX2_spread 86 = .ok (.ireturn, 1) := by decide +kernel
theorem dX2_parted_0 : decode cX2_parted 0 = .ok (.iconst 0, 1) := by decide +kernel
theorem dX2_parted_1 : decode cX2_parted 1 = .ok (.istore_n 1, 1) := by decide +kernel
theorem dX2_parted_2 : decode cX2_parted 2 = .ok (.iconst 0, 1) := by decide +kernel
theorem dX2_parted_3 : decode cX2_parted 3 = .ok (.istore_n 2, 1) := by decide +kernel
theorem dX2_parted_4 : decode cX2_parted 4 = .ok (.iload_n 2, 1) := by decide +kernel
theorem dX2_parted_5 : decode cX2_parted 5 = .ok (.aload_n 0, 1) := by decide +kernel
theorem dX2_parted_6 : decode cX2_parted 6 = .ok (.getfield 37, 3) := by decide +kernel
theorem dX2_parted_9 : decode cX2_parted 9 = .ok (.getfield 69, 3) := by decide +kernel
theorem dX2_parted_12 : decode cX2_parted 12 = .ok (.if_icmp .ge 84, 3) := by decide +kernel
theorem dX2_parted_15 : decode cX2_parted 15 = .ok (.iconst 0, 1) := by decide +kernel
theorem dX2_parted_16 : decode cX2_parted 16 = .ok (.istore_n 3, 1) := by decide +kernel
theorem dX2_parted_17 : decode cX2_parted 17 = .ok (.iload_n 3, 1) := by decide +kernel
theorem dX2_parted_18 : decode cX2_parted 18 = .ok (.iload_n 2, 1) := by decide +kernel
theorem dX2_parted_19 : decode cX2_parted 19 = .ok (.if_icmp .ge 71, 3) := by decide +kernel
theorem dX2_parted_22 : decode cX2_parted 22 = .ok (.aload_n 0, 1) := by decide +kernel
theorem dX2_parted_23 : decode cX2_parted 23 = .ok (.getfield 37, 3) := by decide +kernel
theorem dX2_parted_26 : decode cX2_parted 26 = .ok (.getfield 106, 3) := by decide +kernel
theorem dX2_parted_29 : decode cX2_parted 29 = .ok (.iload_n 2, 1) := by decide +kernel
theorem dX2_parted_30 : decode cX2_parted 30 = .ok (.iaload, 1) := by decide +kernel
theorem dX2_parted_31 : decode cX2_parted 31 = .ok (.ifCond .le 53, 3) := by decide +kernel
theorem dX2_parted_34 : decode cX2_parted 34 = .ok (.aload_n 0, 1) := by decide +kernel
theorem dX2_parted_35 : decode cX2_parted 35 = .ok (.getfield 37, 3) := by decide +kernel
theorem dX2_parted_38 : decode cX2_parted 38 = .ok (.getfield 106, 3) := by decide +kernel
theorem dX2_parted_41 : decode cX2_parted 41 = .ok (.iload_n 2, 1) := by decide +kernel
theorem dX2_parted_42 : decode cX2_parted 42 = .ok (.iaload, 1) := by decide +kernel
theorem dX2_parted_43 : decode cX2_parted 43 = .ok (.aload_n 0, 1) := by decide +kernel
theorem dX2_parted_44 : decode cX2_parted 44 = .ok (.getfield 37, 3) := by decide +kernel
theorem dX2_parted_47 : decode cX2_parted 47 = .ok (.getfield 106, 3) := by decide +kernel
theorem dX2_parted_50 : decode cX2_parted 50 = .ok (.iload_n 3, 1) := by decide +kernel
theorem dX2_parted_51 : decode cX2_parted 51 = .ok (.iaload, 1) := by decide +kernel
theorem dX2_parted_52 : decode cX2_parted 52 = .ok (.if_icmp .ne 32, 3) := by decide +kernel
theorem dX2_parted_55 : decode cX2_parted 55 = .ok (.aload_n 0, 1) := by decide +kernel
theorem dX2_parted_56 : decode cX2_parted 56 = .ok (.getfield 27, 3) := by decide +kernel
theorem dX2_parted_59 : decode cX2_parted 59 = .ok (.iload_n 2, 1) := by decide +kernel
theorem dX2_parted_60 : decode cX2_parted 60 = .ok (.iaload, 1) := by decide +kernel
theorem dX2_parted_61 : decode cX2_parted 61 = .ok (.aload_n 0, 1) := by decide +kernel
theorem dX2_parted_62 : decode cX2_parted 62 = .ok (.getfield 27, 3) := by decide +kernel
theorem dX2_parted_65 : decode cX2_parted 65 = .ok (.iload_n 3, 1) := by decide +kernel
theorem dX2_parted_66 : decode cX2_parted 66 = .ok (.iaload, 1) := by decide +kernel
theorem dX2_parted_67 : decode cX2_parted 67 = .ok (.if_icmp .eq 17, 3) := by decide +kernel
theorem dX2_parted_70 : decode cX2_parted 70 = .ok (.iload_n 1, 1) := by decide +kernel
theorem dX2_parted_71 : decode cX2_parted 71 = .ok (.iconst 1, 1) := by decide +kernel
theorem dX2_parted_72 : decode cX2_parted 72 = .ok (.aload_n 0, 1) := by decide +kernel
theorem dX2_parted_73 : decode cX2_parted 73 = .ok (.getfield 37, 3) := by decide +kernel
theorem dX2_parted_76 : decode cX2_parted 76 = .ok (.getfield 106, 3) := by decide +kernel
theorem dX2_parted_79 : decode cX2_parted 79 = .ok (.iload_n 2, 1) := by decide +kernel
theorem dX2_parted_80 : decode cX2_parted 80 = .ok (.iaload, 1) := by decide +kernel
theorem dX2_parted_81 : decode cX2_parted 81 = .ok (.ishl, 1) := by decide +kernel
theorem dX2_parted_82 : decode cX2_parted 82 = .ok (.ior, 1) := by decide +kernel
theorem dX2_parted_83 : decode cX2_parted 83 = .ok (.istore_n 1, 1) := by decide +kernel
theorem dX2_parted_84 : decode cX2_parted 84 = .ok (.iinc 3 1, 3) := by decide +kernel
theorem dX2_parted_87 : decode cX2_parted 87 = .ok (.goto (-70), 3) := by decide +kernel
theorem dX2_parted_90 : decode cX2_parted 90 = .ok (.iinc 2 1, 3) := by decide +kernel
theorem dX2_parted_93 : decode cX2_parted 93 = .ok (.goto (-89), 3) := by decide +kernel
theorem dX2_parted_96 : decode cX2_parted 96 = .ok (.iload_n 1, 1) := by decide +kernel
theorem dX2_parted_97 : decode cX2_parted 97 = .ok (.ireturn, 1) := by decide +kernel
theorem dX2_pass_0 : decode cX2_pass 0 = .ok (.aload_n 0, 1) := by decide +kernel
theorem dX2_pass_1 : decode cX2_pass 1 = .ok (.iload_n 1, 1) := by decide +kernel
theorem dX2_pass_2 : decode cX2_pass 2 = .ok (.invokevirtual 109, 3) := by decide +kernel
theorem dX2_pass_5 : decode cX2_pass 5 = .ok (.aload_n 0, 1) := by decide +kernel
theorem dX2_pass_6 : decode cX2_pass 6 = .ok (.getstatic 113, 3) := by decide +kernel
theorem dX2_pass_9 : decode cX2_pass 9 = .ok (.aload_n 0, 1) := by decide +kernel
theorem dX2_pass_10 : decode cX2_pass 10 = .ok (.getfield 37, 3) := by decide +kernel
theorem dX2_pass_13 : decode cX2_pass 13 = .ok (.getfield 69, 3) := by decide +kernel
theorem dX2_pass_16 : decode cX2_pass 16 = .ok (.invokevirtual 116, 3) := by decide +kernel
theorem dX2_pass_19 : decode cX2_pass 19 = .ok (.pop, 1) := by decide +kernel
theorem dX2_pass_20 : decode cX2_pass 20 = .ok (.aload_n 0, 1) := by decide +kernel
theorem dX2_pass_21 : decode cX2_pass 21 = .ok (.iload_n 1, 1) := by decide +kernel
theorem dX2_pass_22 : decode cX2_pass 22 = .ok (.invokevirtual 120, 3) := by decide +kernel
theorem dX2_pass_25 : decode cX2_pass 25 = .ok (.return_, 1) := by decide +kernel
theorem dX2_march_0 : decode cX2_march 0 = .ok (.aload_n 0, 1) := by decide +kernel
theorem dX2_march_1 : decode cX2_march 1 = .ok (.invokevirtual 123, 3) := by decide +kernel
theorem dX2_march_4 : decode cX2_march 4 = .ok (.ifCond .ne 4, 3) := by decide +kernel
theorem dX2_march_7 : decode cX2_march 7 = .ok (.return_, 1) := by decide +kernel
theorem dX2_march_8 : decode cX2_march 8 = .ok (.iload_n 1, 1) := by decide +kernel
theorem dX2_march_9 : decode cX2_march 9 = .ok (.ifCond .eq 7, 3) := by decide +kernel
theorem dX2_march_12 : decode cX2_march 12 = .ok (.aload_n 0, 1) := by decide +kernel
theorem dX2_march_13 : decode cX2_march 13 = .ok (.invokevirtual 127, 3) := by decide +kernel
theorem dX2_march_16 : decode cX2_march 16 = .ok (.iconst 0, 1) := by decide +kernel
theorem dX2_march_17 : decode cX2_march 17 = .ok (.istore_n 2, 1) := by decide +kernel
theorem dX2_march_18 : decode cX2_march 18 = .ok (.iconst 0, 1) := by decide +kernel
theorem dX2_march_19 : decode cX2_march 19 = .ok (.istore_n 3, 1) := by decide +kernel
theorem dX2_march_20 : decode cX2_march 20 = .ok (.iload_n 3, 1) := by decide +kernel
theorem dX2_march_21 : decode cX2_march 21 = .ok (.aload_n 0, 1) := by decide +kernel
theorem dX2_march_22 : decode cX2_march 22 = .ok (.getfield 37, 3) := by decide +kernel
theorem dX2_march_25 : decode cX2_march 25 = .ok (.getfield 94, 3) := by decide +kernel
theorem dX2_march_28 : decode cX2_march 28 = .ok (.if_icmp .ge 47, 3) := by decide +kernel
theorem dX2_march_31 : decode cX2_march 31 = .ok (.aload_n 0, 1) := by decide +kernel
theorem dX2_march_32 : decode cX2_march 32 = .ok (.iload_n 3, 1) := by decide +kernel
theorem dX2_march_33 : decode cX2_march 33 = .ok (.invokevirtual 97, 3) := by decide +kernel
theorem dX2_march_36 : decode cX2_march 36 = .ok (.istore 4, 2) := by decide +kernel
theorem dX2_march_38 : decode cX2_march 38 = .ok (.iload_n 2, 1) := by decide +kernel
theorem dX2_march_39 : decode cX2_march 39 = .ok (.aload_n 0, 1) := by decide +kernel
theorem dX2_march_40 : decode cX2_march 40 = .ok (.iload_n 3, 1) := by decide +kernel
theorem dX2_march_41 : decode cX2_march 41 = .ok (.iload 4, 2) := by decide +kernel
theorem dX2_march_43 : decode cX2_march 43 = .ok (.aload_n 0, 1) := by decide +kernel
theorem dX2_march_44 : decode cX2_march 44 = .ok (.getfield 37, 3) := by decide +kernel
theorem dX2_march_47 : decode cX2_march 47 = .ok (.getfield 130, 3) := by decide +kernel
theorem dX2_march_50 : decode cX2_march 50 = .ok (.aload_n 0, 1) := by decide +kernel
theorem dX2_march_51 : decode cX2_march 51 = .ok (.getfield 9, 3) := by decide +kernel
theorem dX2_march_54 : decode cX2_march 54 = .ok (.iaload, 1) := by decide +kernel
theorem dX2_march_55 : decode cX2_march 55 = .ok (.invokevirtual 100, 3) := by decide +kernel
theorem dX2_march_58 : decode cX2_march 58 = .ok (.invokestatic 88, 3) := by decide +kernel
theorem dX2_march_61 : decode cX2_march 61 = .ok (.istore_n 2, 1) := by decide +kernel
theorem dX2_march_62 : decode cX2_march 62 = .ok (.aload_n 0, 1) := by decide +kernel
theorem dX2_march_63 : decode cX2_march 63 = .ok (.iload_n 3, 1) := by decide +kernel
theorem dX2_march_64 : decode cX2_march 64 = .ok (.iload 4, 2) := by decide +kernel
theorem dX2_march_66 : decode cX2_march 66 = .ok (.invokevirtual 133, 3) := by decide +kernel
theorem dX2_march_69 : decode cX2_march 69 = .ok (.iinc 3 1, 3) := by decide +kernel
theorem dX2_march_72 : decode cX2_march 72 = .ok (.goto (-52), 3) := by decide +kernel
theorem dX2_march_75 : decode cX2_march 75 = .ok (.aload_n 0, 1) := by decide +kernel
theorem dX2_march_76 : decode cX2_march 76 = .ok (.dup, 1) := by decide +kernel
theorem dX2_march_77 : decode cX2_march 77 = .ok (.getfield 15, 3) := by decide +kernel
theorem dX2_march_80 : decode cX2_march 80 = .ok (.iload_n 2, 1) := by decide +kernel
theorem dX2_march_81 : decode cX2_march 81 = .ok (.iadd, 1) := by decide +kernel
theorem dX2_march_82 : decode cX2_march 82 = .ok (.putfield 15, 3) := by decide +kernel
theorem dX2_march_85 : decode cX2_march 85 = .ok (.return_, 1) := by decide +kernel
theorem dX2_soak_0 : decode cX2_soak 0 = .ok (.iconst 0, 1) := by decide +kernel
theorem dX2_soak_1 : decode cX2_soak 1 = .ok (.istore_n 1, 1) := by decide +kernel
theorem dX2_soak_2 : decode cX2_soak 2 = .ok (.iload_n 1, 1) := by decide +kernel
theorem dX2_soak_3 : decode cX2_soak 3 = .ok (.aload_n 0, 1) := by decide +kernel
theorem dX2_soak_4 : decode cX2_soak 4 = .ok (.getfield 37, 3) := by decide +kernel
theorem dX2_soak_7 : decode cX2_soak 7 = .ok (.getfield 69, 3) := by decide +kernel
theorem dX2_soak_10 : decode cX2_soak 10 = .ok (.if_icmp .ge 29, 3) := by decide +kernel
theorem dX2_soak_13 : decode cX2_soak 13 = .ok (.aload_n 0, 1) := by decide +kernel
theorem dX2_soak_14 : decode cX2_soak 14 = .ok (.iload_n 1, 1) := by decide +kernel
theorem dX2_soak_15 : decode cX2_soak 15 = .ok (.invokevirtual 53, 3) := by decide +kernel
theorem dX2_soak_18 : decode cX2_soak 18 = .ok (.ifCond .eq 15, 3) := by decide +kernel
theorem dX2_soak_21 : decode cX2_soak 21 = .ok (.aload_n 0, 1) := by decide +kernel
theorem dX2_soak_22 : decode cX2_soak 22 = .ok (.dup, 1) := by decide +kernel
theorem dX2_soak_23 : decode cX2_soak 23 = .ok (.getfield 24, 3) := by decide +kernel
theorem dX2_soak_26 : decode cX2_soak 26 = .ok (.iconst 1, 1) := by decide +kernel
theorem dX2_soak_27 : decode cX2_soak 27 = .ok (.iload_n 1, 1) := by decide +kernel
theorem dX2_soak_28 : decode cX2_soak 28 = .ok (.ishl, 1) := by decide +kernel
theorem dX2_soak_29 : decode cX2_soak 29 = .ok (.ior, 1) := by decide +kernel
theorem dX2_soak_30 : decode cX2_soak 30 = .ok (.putfield 24, 3) := by decide +kernel
theorem dX2_soak_33 : decode cX2_soak 33 = .ok (.iinc 1 1, 3) := by decide +kernel
theorem dX2_soak_36 : decode cX2_soak 36 = .ok (.goto (-34), 3) := by decide +kernel
theorem dX2_soak_39 : decode cX2_soak 39 = .ok (.return_, 1) := by decide +kernel
theorem dX2_tire_0 : decode cX2_tire 0 = .ok (.iload_n 2, 1) := by decide +kernel
theorem dX2_tire_1 : decode cX2_tire 1 = .ok (.aload_n 0, 1) := by decide +kernel
theorem dX2_tire_2 : decode cX2_tire 2 = .ok (.iload_n 1, 1) := by decide +kernel
theorem dX2_tire_3 : decode cX2_tire 3 = .ok (.invokevirtual 79, 3) := by decide +kernel
theorem dX2_tire_6 : decode cX2_tire 6 = .ok (.if_icmp .le 25, 3) := by decide +kernel
theorem dX2_tire_9 : decode cX2_tire 9 = .ok (.aload_n 0, 1) := by decide +kernel
theorem dX2_tire_10 : decode cX2_tire 10 = .ok (.getfield 34, 3) := by decide +kernel
theorem dX2_tire_13 : decode cX2_tire 13 = .ok (.iload_n 1, 1) := by decide +kernel
theorem dX2_tire_14 : decode cX2_tire 14 = .ok (.bipush 20, 2) := by decide +kernel
theorem dX2_tire_16 : decode cX2_tire 16 = .ok (.aload_n 0, 1) := by decide +kernel
theorem dX2_tire_17 : decode cX2_tire 17 = .ok (.getfield 34, 3) := by decide +kernel
theorem dX2_tire_20 : decode cX2_tire 20 = .ok (.iload_n 1, 1) := by decide +kernel
theorem dX2_tire_21 : decode cX2_tire 21 = .ok (.iaload, 1) := by decide +kernel
theorem dX2_tire_22 : decode cX2_tire 22 = .ok (.iconst 2, 1) := by decide +kernel
theorem dX2_tire_23 : decode cX2_tire 23 = .ok (.iadd, 1) := by decide +kernel
theorem dX2_tire_24 : decode cX2_tire 24 = .ok (.invokestatic 82, 3) := by decide +kernel
theorem dX2_tire_27 : decode cX2_tire 27 = .ok (.iastore, 1) := by decide +kernel
theorem dX2_tire_28 : decode cX2_tire 28 = .ok (.goto 29, 3) := by decide +kernel
theorem dX2_tire_31 : decode cX2_tire 31 = .ok (.aload_n 0, 1) := by decide +kernel
theorem dX2_tire_32 : decode cX2_tire 32 = .ok (.getfield 34, 3) := by decide +kernel
theorem dX2_tire_35 : decode cX2_tire 35 = .ok (.iload_n 1, 1) := by decide +kernel
theorem dX2_tire_36 : decode cX2_tire 36 = .ok (.iconst 0, 1) := by decide +kernel
theorem dX2_tire_37 : decode cX2_tire 37 = .ok (.aload_n 0, 1) := by decide +kernel
theorem dX2_tire_38 : decode cX2_tire 38 = .ok (.getfield 34, 3) := by decide +kernel
theorem dX2_tire_41 : decode cX2_tire 41 = .ok (.iload_n 1, 1) := by decide +kernel
theorem dX2_tire_42 : decode cX2_tire 42 = .ok (.iaload, 1) := by decide +kernel
theorem dX2_tire_43 : decode cX2_tire 43 = .ok (.aload_n 0, 1) := by decide +kernel
theorem dX2_tire_44 : decode cX2_tire 44 = .ok (.getfield 37, 3) := by decide +kernel
theorem dX2_tire_47 : decode cX2_tire 47 = .ok (.getfield 137, 3) := by decide +kernel
theorem dX2_tire_50 : decode cX2_tire 50 = .ok (.iload_n 1, 1) := by decide +kernel
theorem dX2_tire_51 : decode cX2_tire 51 = .ok (.iaload, 1) := by decide +kernel
theorem dX2_tire_52 : decode cX2_tire 52 = .ok (.isub, 1) := by decide +kernel
theorem dX2_tire_53 : decode cX2_tire 53 = .ok (.invokestatic 88, 3) := by decide +kernel
theorem dX2_tire_56 : decode cX2_tire 56 = .ok (.iastore, 1) := by decide +kernel
theorem dX2_tire_57 : decode cX2_tire 57 = .ok (.return_, 1) := by decide +kernel
theorem dX2_feed_0 : decode cX2_feed 0 = .ok (.iconst 2, 1) := by decide +kernel
theorem dX2_feed_1 : decode cX2_feed 1 = .ok (.aload_n 0, 1) := by decide +kernel
theorem dX2_feed_2 : decode cX2_feed 2 = .ok (.getfield 37, 3) := by decide +kernel
theorem dX2_feed_5 : decode cX2_feed 5 = .ok (.getfield 94, 3) := by decide +kernel
theorem dX2_feed_8 : decode cX2_feed 8 = .ok (.imul, 1) := by decide +kernel
theorem dX2_feed_9 : decode cX2_feed 9 = .ok (.istore_n 3, 1) := by decide +kernel
theorem dX2_feed_10 : decode cX2_feed 10 = .ok (.iconst 0, 1) := by decide +kernel
theorem dX2_feed_11 : decode cX2_feed 11 = .ok (.istore 4, 2) := by decide +kernel
theorem dX2_feed_13 : decode cX2_feed 13 = .ok (.iconst 0, 1) := by decide +kernel
theorem dX2_feed_14 : decode cX2_feed 14 = .ok (.istore 5, 2) := by decide +kernel
theorem dX2_feed_16 : decode cX2_feed 16 = .ok (.iload 5, 2) := by decide +kernel
theorem dX2_feed_18 : decode cX2_feed 18 = .ok (.iload_n 2, 1) := by decide +kernel
theorem dX2_feed_19 : decode cX2_feed 19 = .ok (.if_icmp .ge 88, 3) := by decide +kernel
theorem dX2_feed_22 : decode cX2_feed 22 = .ok (.iload_n 3, 1) := by decide +kernel
theorem dX2_feed_23 : decode cX2_feed 23 = .ok (.ifCond .le 84, 3) := by decide +kernel
theorem dX2_feed_26 : decode cX2_feed 26 = .ok (.aload_n 1, 1) := by decide +kernel
theorem dX2_feed_27 : decode cX2_feed 27 = .ok (.iload 5, 2) := by decide +kernel
theorem dX2_feed_29 : decode cX2_feed 29 = .ok (.iaload, 1) := by decide +kernel
theorem dX2_feed_30 : decode cX2_feed 30 = .ok (.istore 6, 2) := by decide +kernel
theorem dX2_feed_32 : decode cX2_feed 32 = .ok (.aload_n 0, 1) := by decide +kernel
theorem dX2_feed_33 : decode cX2_feed 33 = .ok (.getfield 37, 3) := by decide +kernel
theorem dX2_feed_36 : decode cX2_feed 36 = .ok (.getfield 140, 3) := by decide +kernel
theorem dX2_feed_39 : decode cX2_feed 39 = .ok (.iload 6, 2) := by decide +kernel
theorem dX2_feed_41 : decode cX2_feed 41 = .ok (.iaload, 1) := by decide +kernel
theorem dX2_feed_42 : decode cX2_feed 42 = .ok (.iconst 1, 1) := by decide +kernel
theorem dX2_feed_43 : decode cX2_feed 43 = .ok (.if_icmp .ne 58, 3) := by decide +kernel
theorem dX2_feed_46 : decode cX2_feed 46 = .ok (.aload_n 0, 1) := by decide +kernel
theorem dX2_feed_47 : decode cX2_feed 47 = .ok (.iload 6, 2) := by decide +kernel
theorem dX2_feed_49 : decode cX2_feed 49 = .ok (.invokevirtual 53, 3) := by decide +kernel
theorem dX2_feed_52 : decode cX2_feed 52 = .ok (.ifCond .eq 49, 3) := by decide +kernel
theorem dX2_feed_55 : decode cX2_feed 55 = .ok (.aload_n 0, 1) := by decide +kernel
theorem dX2_feed_56 : decode cX2_feed 56 = .ok (.getfield 31, 3) := by decide +kernel
theorem dX2_feed_59 : decode cX2_feed 59 = .ok (.iload 6, 2) := by decide +kernel
theorem dX2_feed_61 : decode cX2_feed 61 = .ok (.iaload, 1) := by decide +kernel
theorem dX2_feed_62 : decode cX2_feed 62 = .ok (.ifCond .le 39, 3) := by decide +kernel
theorem dX2_feed_65 : decode cX2_feed 65 = .ok (.iload_n 3, 1) := by decide +kernel
theorem dX2_feed_66 : decode cX2_feed 66 = .ok (.aload_n 0, 1) := by decide +kernel
theorem dX2_feed_67 : decode cX2_feed 67 = .ok (.getfield 31, 3) := by decide +kernel
theorem dX2_feed_70 : decode cX2_feed 70 = .ok (.iload 6, 2) := by decide +kernel
theorem dX2_feed_72 : decode cX2_feed 72 = .ok (.iaload, 1) := by decide +kernel
theorem dX2_feed_73 : decode cX2_feed 73 = .ok (.invokestatic 82, 3) := by decide +kernel
theorem dX2_feed_76 : decode cX2_feed 76 = .ok (.istore 7, 2) := by decide +kernel
theorem dX2_feed_78 : decode cX2_feed 78 = .ok (.aload_n 0, 1) := by decide +kernel
theorem dX2_feed_79 : decode cX2_feed 79 = .ok (.getfield 31, 3) := by decide +kernel
theorem dX2_feed_82 : decode cX2_feed 82 = .ok (.iload 6, 2) := by decide +kernel
theorem dX2_feed_84 : decode cX2_feed 84 = .ok (.dup2, 1) := by decide +kernel
theorem dX2_feed_85 : decode cX2_feed 85 = .ok (.iaload, 1) := by decide +kernel
theorem dX2_feed_86 : decode cX2_feed 86 = .ok (.iload 7, 2) := by decide +kernel
theorem dX2_feed_88 : decode cX2_feed 88 = .ok (.isub, 1) := by decide +kernel
theorem dX2_feed_89 : decode cX2_feed 89 = .ok (.iastore, 1) := by decide +kernel
theorem dX2_feed_90 : decode cX2_feed 90 = .ok (.iload_n 3, 1) := by decide +kernel
theorem dX2_feed_91 : decode cX2_feed 91 = .ok (.iload 7, 2) := by decide +kernel
theorem dX2_feed_93 : decode cX2_feed 93 = .ok (.isub, 1) := by decide +kernel
theorem dX2_feed_94 : decode cX2_feed 94 = .ok (.istore_n 3, 1) := by decide +kernel
theorem dX2_feed_95 : decode cX2_feed 95 = .ok (.iload 5, 2) := by decide +kernel
theorem dX2_feed_97 : decode cX2_feed 97 = .ok (.iconst 1, 1) := by decide +kernel
theorem dX2_feed_98 : decode cX2_feed 98 = .ok (.iadd, 1) := by decide +kernel
theorem dX2_feed_99 : decode cX2_feed 99 = .ok (.istore 4, 2) := by decide +kernel
theorem dX2_feed_101 : decode cX2_feed 101 = .ok (.iinc 5 1, 3) := by decide +kernel
theorem dX2_feed_104 : decode cX2_feed 104 = .ok (.goto (-88), 3) := by decide +kernel
theorem dX2_feed_107 : decode cX2_feed 107 = .ok (.aload_n 0, 1) := by decide +kernel
theorem dX2_feed_108 : decode cX2_feed 108 = .ok (.dup, 1) := by decide +kernel
theorem dX2_feed_109 : decode cX2_feed 109 = .ok (.getfield 18, 3) := by decide +kernel
theorem dX2_feed_112 : decode cX2_feed 112 = .ok (.iload_n 3, 1) := by decide +kernel
theorem dX2_feed_113 : decode cX2_feed 113 = .ok (.iadd, 1) := by decide +kernel
theorem dX2_feed_114 : decode cX2_feed 114 = .ok (.putfield 18, 3) := by decide +kernel
theorem dX2_feed_117 : decode cX2_feed 117 = .ok (.iload 4, 2) := by decide +kernel
theorem dX2_feed_119 : decode cX2_feed 119 = .ok (.ireturn, 1) := by decide +kernel
theorem dX2_settle_0 : decode cX2_settle 0 = .ok (.iload_n 1, 1) := by decide +kernel
theorem dX2_settle_1 : decode cX2_settle 1 = .ok (.ifCond .ne 8, 3) := by decide +kernel
theorem dX2_settle_4 : decode cX2_settle 4 = .ok (.aload_n 0, 1) := by decide +kernel
theorem dX2_settle_5 : decode cX2_settle 5 = .ok (.iconst 0, 1) := by decide +kernel
theorem dX2_settle_6 : decode cX2_settle 6 = .ok (.putfield 24, 3) := by decide +kernel
theorem dX2_settle_9 : decode cX2_settle 9 = .ok (.aload_n 0, 1) := by decide +kernel
theorem dX2_settle_10 : decode cX2_settle 10 = .ok (.dup, 1) := by decide +kernel
theorem dX2_settle_11 : decode cX2_settle 11 = .ok (.getfield 9, 3) := by decide +kernel
theorem dX2_settle_14 : decode cX2_settle 14 = .ok (.iconst 1, 1) := by decide +kernel
theorem dX2_settle_15 : decode cX2_settle 15 = .ok (.iadd, 1) := by decide +kernel
theorem dX2_settle_16 : decode cX2_settle 16 = .ok (.putfield 9, 3) := by decide +kernel
theorem dX2_settle_19 : decode cX2_settle 19 = .ok (.return_, 1) := by decide +kernel
theorem dX3_init_0 : decode cX3_init 0 = .ok (.aload_n 0, 1) := by decide +kernel
theorem dX3_init_1 : decode cX3_init 1 = .ok (.invokespecial 3, 3) := by decide +kernel
theorem dX3_init_4 : decode cX3_init 4 = .ok (.aload_n 0, 1) := by decide +kernel
theorem dX3_init_5 : decode cX3_init 5 = .ok (.bipush 10, 2) := by decide +kernel
theorem dX3_init_7 : decode cX3_init 7 = .ok (.anewarray 9, 3) := by decide +kernel
theorem dX3_init_10 : decode cX3_init 10 = .ok (.putfield 11, 3) := by decide +kernel
theorem dX3_init_13 : decode cX3_init 13 = .ok (.aload_n 0, 1) := by decide +kernel
theorem dX3_init_14 : decode cX3_init 14 = .ok (.iconst 0, 1) := by decide +kernel
theorem dX3_init_15 : decode cX3_init 15 = .ok (.putfield 17, 3) := by decide +kernel
theorem dX3_init_18 : decode cX3_init 18 = .ok (.aload_n 0, 1) := by decide +kernel
theorem dX3_init_19 : decode cX3_init 19 = .ok (.iconst 0, 1) := by decide +kernel
theorem dX3_init_20 : decode cX3_init 20 = .ok (.putfield 21, 3) := by decide +kernel
theorem dX3_init_23 : decode cX3_init 23 = .ok (.aload_n 0, 1) := by decide +kernel
theorem dX3_init_24 : decode cX3_init 24 = .ok (.new 9, 3) := by decide +kernel
theorem dX3_init_27 : decode cX3_init 27 = .ok (.dup, 1) := by decide +kernel
theorem dX3_init_28 : decode cX3_init 28 = .ok (.aload_n 1, 1) := by decide +kernel
theorem dX3_init_29 : decode cX3_init 29 = .ok (.invokespecial 24, 3) := by decide +kernel
theorem dX3_init_32 : decode cX3_init 32 = .ok (.putfield 27, 3) := by decide +kernel
theorem dX3_init_35 : decode cX3_init 35 = .ok (.iconst 0, 1) := by decide +kernel
theorem dX3_init_36 : decode cX3_init 36 = .ok (.istore_n 2, 1) := by decide +kernel
theorem dX3_init_37 : decode cX3_init 37 = .ok (.iload_n 2, 1) := by decide +kernel
theorem dX3_init_38 : decode cX3_init 38 = .ok (.bipush 10, 2) := by decide +kernel
theorem dX3_init_40 : decode cX3_init 40 = .ok (.if_icmp .ge 23, 3) := by decide +kernel
theorem dX3_init_43 : decode cX3_init 43 = .ok (.aload_n 0, 1) := by decide +kernel
theorem dX3_init_44 : decode cX3_init 44 = .ok (.getfield 11, 3) := by decide +kernel
theorem dX3_init_47 : decode cX3_init 47 = .ok (.iload_n 2, 1) := by decide +kernel
theorem dX3_init_48 : decode cX3_init 48 = .ok (.new 9, 3) := by decide +kernel
theorem dX3_init_51 : decode cX3_init 51 = .ok (.dup, 1) := by decide +kernel
theorem dX3_init_52 : decode cX3_init 52 = .ok (.aload_n 1, 1) := by decide +kernel
theorem dX3_init_53 : decode cX3_init 53 = .ok (.invokespecial 24, 3) := by decide +kernel
theorem dX3_init_56 : decode cX3_init 56 = .ok (.aastore, 1) := by decide +kernel
theorem dX3_init_57 : decode cX3_init 57 = .ok (.iinc 2 1, 3) := by decide +kernel
theorem dX3_init_60 : decode cX3_init 60 = .ok (.goto (-23), 3) := by decide +kernel
theorem dX3_init_63 : decode cX3_init 63 = .ok (.return_, 1) := by decide +kernel
theorem dX3_begin_0 : decode cX3_begin 0 = .ok (.aload_n 0, 1) := by decide +kernel
theorem dX3_begin_1 : decode cX3_begin 1 = .ok (.getfield 27, 3) := by decide +kernel
theorem dX3_begin_4 : decode cX3_begin 4 = .ok (.invokevirtual 31, 3) := by decide +kernel
theorem dX3_begin_7 : decode cX3_begin 7 = .ok (.aload_n 0, 1) := by decide +kernel
theorem dX3_begin_8 : decode cX3_begin 8 = .ok (.iconst 0, 1) := by decide +kernel
theorem dX3_begin_9 : decode cX3_begin 9 = .ok (.putfield 17, 3) := by decide +kernel
theorem dX3_begin_12 : decode cX3_begin 12 = .ok (.aload_n 0, 1) := by decide +kernel
theorem dX3_begin_13 : decode cX3_begin 13 = .ok (.iconst 0, 1) := by decide +kernel
theorem dX3_begin_14 : decode cX3_begin 14 = .ok (.putfield 21, 3) := by decide +kernel
theorem dX3_begin_17 : decode cX3_begin 17 = .ok (.return_, 1) := by decide +kernel
theorem dX3_copyFrom_0 : decode cX3_copyFrom 0 = .ok (.aload_n 0, 1) := by decide +kernel
theorem dX3_copyFrom_1 : decode cX3_copyFrom 1 = .ok (.getfield 27, 3) := by decide +kernel
theorem dX3_copyFrom_4 : decode cX3_copyFrom 4 = .ok (.aload_n 1, 1) := by decide +kernel
theorem dX3_copyFrom_5 : decode cX3_copyFrom 5 = .ok (.getfield 27, 3) := by decide +kernel
theorem dX3_copyFrom_8 : decode cX3_copyFrom 8 = .ok (.invokevirtual 34, 3) := by decide +kernel
theorem dX3_copyFrom_11 : decode cX3_copyFrom 11 = .ok (.iconst 0, 1) := by decide +kernel
theorem dX3_copyFrom_12 : decode cX3_copyFrom 12 = .ok (.istore_n 2, 1) := by decide +kernel
theorem dX3_copyFrom_13 : decode cX3_copyFrom 13 = .ok (.iload_n 2, 1) := by decide +kernel
theorem dX3_copyFrom_14 : decode cX3_copyFrom 14 = .ok (.bipush 10, 2) := by decide +kernel
theorem dX3_copyFrom_16 : decode cX3_copyFrom 16 = .ok (.if_icmp .ge 24, 3) := by decide +kernel
theorem dX3_copyFrom_19 : decode cX3_copyFrom 19 = .ok (.aload_n 0, 1) := by decide +kernel
theorem dX3_copyFrom_20 : decode cX3_copyFrom 20 = .ok (.getfield 11, 3) := by decide +kernel
theorem dX3_copyFrom_23 : decode cX3_copyFrom 23 = .ok (.iload_n 2, 1) := by decide +kernel
theorem dX3_copyFrom_24 : decode cX3_copyFrom 24 = .ok (.aaload, 1) := by decide +kernel
theorem dX3_copyFrom_25 : decode cX3_copyFrom 25 = .ok (.aload_n 1, 1) := by decide +kernel
theorem dX3_copyFrom_26 : decode cX3_copyFrom 26 = .ok (.getfield 11, 3) := by decide +kernel
theorem dX3_copyFrom_29 : decode cX3_copyFrom 29 = .ok (.iload_n 2, 1) := by decide +kernel
theorem dX3_copyFrom_30 : decode cX3_copyFrom 30 = .ok (.aaload, 1) := by decide +kernel
theorem dX3_copyFrom_31 : decode cX3_copyFrom 31 = .ok (.invokevirtual 34, 3) := by decide +kernel
theorem dX3_copyFrom_34 : decode cX3_copyFrom 34 = .ok (.iinc 2 1, 3) := by decide +kernel
theorem dX3_copyFrom_37 : decode cX3_copyFrom 37 = .ok (.goto (-24), 3) := by decide +kernel
theorem dX3_copyFrom_40 : decode cX3_copyFrom 40 = .ok (.aload_n 0, 1) := by decide +kernel
theorem dX3_copyFrom_41 : decode cX3_copyFrom 41 = .ok (.aload_n 1, 1) := by decide +kernel
theorem dX3_copyFrom_42 : decode cX3_copyFrom 42 = .ok (.getfield 17, 3) := by decide +kernel
theorem dX3_copyFrom_45 : decode cX3_copyFrom 45 = .ok (.putfield 17, 3) := by decide +kernel
theorem dX3_copyFrom_48 : decode cX3_copyFrom 48 = .ok (.aload_n 0, 1) := by decide +kernel
theorem dX3_copyFrom_49 : decode cX3_copyFrom 49 = .ok (.aload_n 1, 1) := by decide +kernel
theorem dX3_copyFrom_50 : decode cX3_copyFrom 50 = .ok (.getfield 21, 3) := by decide +kernel
theorem dX3_copyFrom_53 : decode cX3_copyFrom 53 = .ok (.putfield 21, 3) := by decide +kernel
theorem dX3_copyFrom_56 : decode cX3_copyFrom 56 = .ok (.return_, 1) := by decide +kernel
theorem dX3_remember_0 : decode cX3_remember 0 = .ok (.aload_n 0, 1) := by decide +kernel
theorem dX3_remember_1 : decode cX3_remember 1 = .ok (.getfield 11, 3) := by decide +kernel
theorem dX3_remember_4 : decode cX3_remember 4 = .ok (.aload_n 0, 1) := by decide +kernel
theorem dX3_remember_5 : decode cX3_remember 5 = .ok (.getfield 21, 3) := by decide +kernel
theorem dX3_remember_8 : decode cX3_remember 8 = .ok (.aaload, 1) := by decide +kernel
theorem dX3_remember_9 : decode cX3_remember 9 = .ok (.aload_n 0, 1) := by decide +kernel
theorem dX3_remember_10 : decode cX3_remember 10 = .ok (.getfield 27, 3) := by decide +kernel
theorem dX3_remember_13 : decode cX3_remember 13 = .ok (.invokevirtual 34, 3) := by decide +kernel
theorem dX3_remember_16 : decode cX3_remember 16 = .ok (.aload_n 0, 1) := by decide +kernel
theorem dX3_remember_17 : decode cX3_remember 17 = .ok (.aload_n 0, 1) := by decide +kernel
theorem dX3_remember_18 : decode cX3_remember 18 = .ok (.getfield 21, 3) := by decide +kernel
theorem dX3_remember_21 : decode cX3_remember 21 = .ok (.iconst 1, 1) := by decide +kernel
theorem dX3_remember_22 : decode cX3_remember 22 = .ok (.iadd, 1) := by decide +kernel
theorem dX3_remember_23 : decode cX3_remember 23 = .ok (.bipush 10, 2) := by decide +kernel
theorem dX3_remember_25 : decode cX3_remember 25 = .ok (.irem, 1) := by decide +kernel
theorem dX3_remember_26 : decode cX3_remember 26 = .ok (.putfield 21, 3) := by decide +kernel
theorem dX3_remember_29 : decode cX3_remember 29 = .ok (.aload_n 0, 1) := by decide +kernel
theorem dX3_remember_30 : decode cX3_remember 30 = .ok (.bipush 10, 2) := by decide +kernel
theorem dX3_remember_32 : decode cX3_remember 32 = .ok (.aload_n 0, 1) := by decide +kernel
theorem dX3_remember_33 : decode cX3_remember 33 = .ok (.getfield 17, 3) := by decide +kernel
theorem dX3_remember_36 : decode cX3_remember 36 = .ok (.iconst 1, 1) := by decide +kernel
theorem dX3_remember_37 : decode cX3_remember 37 = .ok (.iadd, 1) := by decide +kernel
theorem dX3_remember_38 : decode cX3_remember 38 = .ok (.invokestatic 38, 3) := by decide +kernel
theorem dX3_remember_41 : decode cX3_remember 41 = .ok (.putfield 17, 3) := by decide +kernel
theorem dX3_remember_44 : decode cX3_remember 44 = .ok (.return_, 1) := by decide +kernel
theorem dX3_takeBack_0 : decode cX3_takeBack 0 = .ok (.aload_n 0, 1) := by decide +kernel
theorem dX3_takeBack_1 : decode cX3_takeBack 1 = .ok (.getfield 17, 3) := by decide +kernel
theorem dX3_takeBack_4 : decode cX3_takeBack 4 = .ok (.ifCond .ne 5, 3) := by decide +kernel
theorem dX3_takeBack_7 : decode cX3_takeBack 7 = .ok (.iconst 0, 1) := by decide +kernel
theorem dX3_takeBack_8 : decode cX3_takeBack 8 = .ok (.ireturn, 1) := by decide +kernel
theorem dX3_takeBack_9 : decode cX3_takeBack 9 = .ok (.aload_n 0, 1) := by decide +kernel
theorem dX3_takeBack_10 : decode cX3_takeBack 10 = .ok (.aload_n 0, 1) := by decide +kernel
theorem dX3_takeBack_11 : decode cX3_takeBack 11 = .ok (.getfield 21, 3) := by decide +kernel
theorem dX3_takeBack_14 : decode cX3_takeBack 14 = .ok (.bipush 10, 2) := by decide +kernel
theorem dX3_takeBack_16 : decode cX3_takeBack 16 = .ok (.iadd, 1) := by decide +kernel
theorem dX3_takeBack_17 : decode cX3_takeBack 17 = .ok (.iconst 1, 1) := by decide +kernel
theorem dX3_takeBack_18 : decode cX3_takeBack 18 = .ok (.isub, 1) := by decide +kernel
theorem dX3_takeBack_19 : decode cX3_takeBack 19 = .ok (.bipush 10, 2) := by decide +kernel
theorem dX3_takeBack_21 : decode cX3_takeBack 21 = .ok (.irem, 1) := by decide +kernel
theorem dX3_takeBack_22 : decode cX3_takeBack 22 = .ok (.putfield 21, 3) := by decide +kernel
theorem dX3_takeBack_25 : decode cX3_takeBack 25 = .ok (.aload_n 0, 1) := by decide +kernel
theorem dX3_takeBack_26 : decode cX3_takeBack 26 = .ok (.dup, 1) := by decide +kernel
theorem dX3_takeBack_27 : decode cX3_takeBack 27 = .ok (.getfield 17, 3) := by decide +kernel
theorem dX3_takeBack_30 : decode cX3_takeBack 30 = .ok (.iconst 1, 1) := by decide +kernel
theorem dX3_takeBack_31 : decode cX3_takeBack 31 = .ok (.isub, 1) := by decide +kernel
theorem dX3_takeBack_32 : decode cX3_takeBack 32 = .ok (.putfield 17, 3) := by decide +kernel
theorem dX3_takeBack_35 : decode cX3_takeBack 35 = .ok (.aload_n 0, 1) := by decide +kernel
theorem dX3_takeBack_36 : decode cX3_takeBack 36 = .ok (.getfield 27, 3) := by decide +kernel
theorem dX3_takeBack_39 : decode cX3_takeBack 39 = .ok (.aload_n 0, 1) := by decide +kernel
theorem dX3_takeBack_40 : decode cX3_takeBack 40 = .ok (.getfield 11, 3) := by decide +kernel
theorem dX3_takeBack_43 : decode cX3_takeBack 43 = .ok (.aload_n 0, 1) := by decide +kernel
theorem dX3_takeBack_44 : decode cX3_takeBack 44 = .ok (.getfield 21, 3) := by decide +kernel
theorem dX3_takeBack_47 : decode cX3_takeBack 47 = .ok (.aaload, 1) := by decide +kernel
theorem dX3_takeBack_48 : decode cX3_takeBack 48 = .ok (.invokevirtual 34, 3) := by decide +kernel
theorem dX3_takeBack_51 : decode cX3_takeBack 51 = .ok (.iconst 1, 1) := by decide +kernel
theorem dX3_takeBack_52 : decode cX3_takeBack 52 = .ok (.ireturn, 1) := by decide +kernel
theorem dX4_init_0 : decode cX4_init 0 = .ok (.aload_n 0, 1) := by decide +kernel
theorem dX4_init_1 : decode cX4_init 1 = .ok (.invokespecial 3, 3) := by decide +kernel
theorem dX4_init_4 : decode cX4_init 4 = .ok (.aload_n 0, 1) := by decide +kernel
theorem dX4_init_5 : decode cX4_init 5 = .ok (.new 9, 3) := by decide +kernel
theorem dX4_init_8 : decode cX4_init 8 = .ok (.dup, 1) := by decide +kernel
theorem dX4_init_9 : decode cX4_init 9 = .ok (.invokespecial 11, 3) := by decide +kernel
theorem dX4_init_12 : decode cX4_init 12 = .ok (.putfield 12, 3) := by decide +kernel
theorem dX4_init_15 : decode cX4_init 15 = .ok (.aload_n 0, 1) := by decide +kernel
theorem dX4_init_16 : decode cX4_init 16 = .ok (.iconst 0, 1) := by decide +kernel
theorem dX4_init_17 : decode cX4_init 17 = .ok (.putfield 18, 3) := by decide +kernel
theorem dX4_init_20 : decode cX4_init 20 = .ok (.aload_n 0, 1) := by decide +kernel
theorem dX4_init_21 : decode cX4_init 21 = .ok (.aload_n 1, 1) := by decide +kernel
theorem dX4_init_22 : decode cX4_init 22 = .ok (.putfield 22, 3) := by decide +kernel
theorem dX4_init_25 : decode cX4_init 25 = .ok (.return_, 1) := by decide +kernel
theorem dX4_readAll_0 : decode cX4_readAll 0 = .ok (.aload_n 0, 1) := by decide +kernel
theorem dX4_readAll_1 : decode cX4_readAll 1 = .ok (.getfield 12, 3) := by decide +kernel
theorem dX4_readAll_4 : decode cX4_readAll 4 = .ok (.iconst 0, 1) := by decide +kernel
theorem dX4_readAll_5 : decode cX4_readAll 5 = .ok (.putfield 26, 3) := by decide +kernel
theorem dX4_readAll_8 : decode cX4_readAll 8 = .ok (.aload_n 0, 1) := by decide +kernel
theorem dX4_readAll_9 : decode cX4_readAll 9 = .ok (.getfield 12, 3) := by decide +kernel
theorem dX4_readAll_12 : decode cX4_readAll 12 = .ok (.iconst 0, 1) := by decide +kernel
theorem dX4_readAll_13 : decode cX4_readAll 13 = .ok (.putfield 30, 3) := by decide +kernel
theorem dX4_readAll_16 : decode cX4_readAll 16 = .ok (.aload_n 0, 1) := by decide +kernel
theorem dX4_readAll_17 : decode cX4_readAll 17 = .ok (.getfield 12, 3) := by decide +kernel
theorem dX4_readAll_20 : decode cX4_readAll 20 = .ok (.iconst 0, 1) := by decide +kernel
theorem dX4_readAll_21 : decode cX4_readAll 21 = .ok (.putfield 33, 3) := by decide +kernel
theorem dX4_readAll_24 : decode cX4_readAll 24 = .ok (.aload_n 0, 1) := by decide +kernel
theorem dX4_readAll_25 : decode cX4_readAll 25 = .ok (.iconst 0, 1) := by decide +kernel
theorem dX4_readAll_26 : decode cX4_readAll 26 = .ok (.putfield 18, 3) := by decide +kernel
theorem dX4_readAll_29 : decode cX4_readAll 29 = .ok (.aload_n 0, 1) := by decide +kernel
theorem dX4_readAll_30 : decode cX4_readAll 30 = .ok (.getfield 22, 3) := by decide +kernel
theorem dX4_readAll_33 : decode cX4_readAll 33 = .ok (.invokevirtual 36, 3) := by decide +kernel
theorem dX4_readAll_36 : decode cX4_readAll 36 = .ok (.iconst 0, 1) := by decide +kernel
theorem dX4_readAll_37 : decode cX4_readAll 37 = .ok (.istore_n 1, 1) := by decide +kernel
theorem dX4_readAll_38 : decode cX4_readAll 38 = .ok (.iconst 0, 1) := by decide +kernel
theorem dX4_readAll_39 : decode cX4_readAll 39 = .ok (.istore_n 2, 1) := by decide +kernel
theorem dX4_readAll_40 : decode cX4_readAll 40 = .ok (.iload_n 2, 1) := by decide +kernel
theorem dX4_readAll_41 : decode cX4_readAll 41 = .ok (.sipush 200, 3) := by decide +kernel
theorem dX4_readAll_44 : decode cX4_readAll 44 = .ok (.if_icmp .ge 33, 3) := by decide +kernel
theorem dX4_readAll_47 : decode cX4_readAll 47 = .ok (.aload_n 0, 1) := by decide +kernel
theorem dX4_readAll_48 : decode cX4_readAll 48 = .ok (.getfield 22, 3) := by decide +kernel
theorem dX4_readAll_51 : decode cX4_readAll 51 = .ok (.getfield 41, 3) := by decide +kernel
theorem dX4_readAll_54 : decode cX4_readAll 54 = .ok (.ifCond .eq 23, 3) := by decide +kernel
theorem dX4_readAll_57 : decode cX4_readAll 57 = .ok (.aload_n 0, 1) := by decide +kernel
theorem dX4_readAll_58 : decode cX4_readAll 58 = .ok (.getfield 18, 3) := by decide +kernel
theorem dX4_readAll_61 : decode cX4_readAll 61 = .ok (.ifCond .ne 16, 3) := by decide +kernel
theorem dX4_readAll_64 : decode cX4_readAll 64 = .ok (.aload_n 0, 1) := by decide +kernel
theorem dX4_readAll_65 : decode cX4_readAll 65 = .ok (.invokevirtual 44, 3) := by decide +kernel
theorem dX4_readAll_68 : decode cX4_readAll 68 = .ok (.iinc 1 1, 3) := by decide +kernel
theorem dX4_readAll_71 : decode cX4_readAll 71 = .ok (.iinc 2 1, 3) := by decide +kernel
theorem dX4_readAll_74 : decode cX4_readAll 74 = .ok (.goto (-34), 3) := by decide +kernel
theorem dX4_readAll_77 : decode cX4_readAll 77 = .ok (.aload_n 0, 1) := by decide +kernel
theorem dX4_readAll_78 : decode cX4_readAll 78 = .ok (.getfield 18, 3) := by decide +kernel
theorem dX4_readAll_81 : decode cX4_readAll 81 = .ok (.ifCond .eq 7, 3) := by decide +kernel
theorem dX4_readAll_84 : decode cX4_readAll 84 = .ok (.iconst (-1), 1) := by decide +kernel
theorem dX4_readAll_85 : decode cX4_readAll 85 = .ok (.goto 4, 3) := by decide +kernel
theorem dX4_readAll_88 : decode cX4_readAll 88 = .ok (.iload_n 1, 1) := by decide +kernel
theorem dX4_readAll_89 : decode cX4_readAll 89 = .ok (.ireturn, 1) := by decide +kernel
theorem dX4_readItem_0 : decode cX4_readItem 0 = .ok (.aload_n 0, 1) := by decide +kernel
theorem dX4_readItem_1 : decode cX4_readItem 1 = .ok (.getfield 22, 3) := by decide +kernel
theorem dX4_readItem_4 : decode cX4_readItem 4 = .ok (.getfield 41, 3) := by decide +kernel
theorem dX4_readItem_7 : decode cX4_readItem 7 = .ok (.iconst 1, 1) := by decide +kernel
theorem dX4_readItem_8 : decode cX4_readItem 8 = .ok (.if_icmp .ne 13, 3) := by decide +kernel
theorem dX4_readItem_11 : decode cX4_readItem 11 = .ok (.aload_n 0, 1) := by decide +kernel
theorem dX4_readItem_12 : decode cX4_readItem 12 = .ok (.getfield 22, 3) := by decide +kernel
theorem dX4_readItem_15 : decode cX4_readItem 15 = .ok (.getfield 47, 3) := by decide +kernel
theorem dX4_readItem_18 : decode cX4_readItem 18 = .ok (.goto 4, 3) := by decide +kernel
theorem dX4_readItem_21 : decode cX4_readItem 21 = .ok (.iconst 0, 1) := by decide +kernel
theorem dX4_readItem_22 : decode cX4_readItem 22 = .ok (.istore_n 1, 1) := by decide +kernel
theorem dX4_readItem_23 : decode cX4_readItem 23 = .ok (.iload_n 1, 1) := by decide +kernel
theorem dX4_readItem_24 : decode cX4_readItem 24 = .ok (.bipush 119, 2) := by decide +kernel
theorem dX4_readItem_26 : decode cX4_readItem 26 = .ok (.if_icmp .ne 28, 3) := by decide +kernel
theorem dX4_readItem_29 : decode cX4_readItem 29 = .ok (.aload_n 0, 1) := by decide +kernel
theorem dX4_readItem_30 : decode cX4_readItem 30 = .ok (.getfield 12, 3) := by decide +kernel
theorem dX4_readItem_33 : decode cX4_readItem 33 = .ok (.getfield 26, 3) := by decide +kernel
theorem dX4_readItem_36 : decode cX4_readItem 36 = .ok (.iconst 4, 1) := by decide +kernel
theorem dX4_readItem_37 : decode cX4_readItem 37 = .ok (.if_icmp .ge 17, 3) := by decide +kernel
theorem dX4_readItem_40 : decode cX4_readItem 40 = .ok (.aload_n 0, 1) := by decide +kernel
theorem dX4_readItem_41 : decode cX4_readItem 41 = .ok (.aload_n 0, 1) := by decide +kernel
theorem dX4_readItem_42 : decode cX4_readItem 42 = .ok (.getfield 12, 3) := by decide +kernel
theorem dX4_readItem_45 : decode cX4_readItem 45 = .ok (.getfield 26, 3) := by decide +kernel
theorem dX4_readItem_48 : decode cX4_readItem 48 = .ok (.invokevirtual 50, 3) := by decide +kernel
theorem dX4_readItem_51 : decode cX4_readItem 51 = .ok (.goto 72, 3) := by decide +kernel
theorem dX4_readItem_54 : decode cX4_readItem 54 = .ok (.iload_n 1, 1) := by decide +kernel
theorem dX4_readItem_55 : decode cX4_readItem 55 = .ok (.bipush 116, 2) := by decide +kernel
theorem dX4_readItem_57 : decode cX4_readItem 57 = .ok (.if_icmp .ne 29, 3) := by decide +kernel
theorem dX4_readItem_60 : decode cX4_readItem 60 = .ok (.aload_n 0, 1) := by decide +kernel
theorem dX4_readItem_61 : decode cX4_readItem 61 = .ok (.getfield 12, 3) := by decide +kernel
theorem dX4_readItem_64 : decode cX4_readItem 64 = .ok (.getfield 30, 3) := by decide +kernel
theorem dX4_readItem_67 : decode cX4_readItem 67 = .ok (.bipush 7, 2) := by decide +kernel
theorem dX4_readItem_69 : decode cX4_readItem 69 = .ok (.if_icmp .ge 17, 3) := by decide +kernel
theorem dX4_readItem_72 : decode cX4_readItem 72 = .ok (.aload_n 0, 1) := by decide +kernel
theorem dX4_readItem_73 : decode cX4_readItem 73 = .ok (.aload_n 0, 1) := by decide +kernel
theorem dX4_readItem_74 : decode cX4_readItem 74 = .ok (.getfield 12, 3) := by decide +kernel
theorem dX4_readItem_77 : decode cX4_readItem 77 = .ok (.getfield 30, 3) := by decide +kernel
theorem dX4_readItem_80 : decode cX4_readItem 80 = .ok (.invokevirtual 54, 3) := by decide +kernel
theorem dX4_readItem_83 : decode cX4_readItem 83 = .ok (.goto 40, 3) := by decide +kernel
theorem dX4_readItem_86 : decode cX4_readItem 86 = .ok (.iload_n 1, 1) := by decide +kernel
theorem dX4_readItem_87 : decode cX4_readItem 87 = .ok (.bipush 115, 2) := by decide +kernel
theorem dX4_readItem_89 : decode cX4_readItem 89 = .ok (.if_icmp .ne 29, 3) := by decide +kernel
theorem dX4_readItem_92 : decode cX4_readItem 92 = .ok (.aload_n 0, 1) := by decide +kernel
theorem dX4_readItem_93 : decode cX4_readItem 93 = .ok (.getfield 12, 3) := by decide +kernel
theorem dX4_readItem_96 : decode cX4_readItem 96 = .ok (.getfield 33, 3) := by decide +kernel
theorem dX4_readItem_99 : decode cX4_readItem 99 = .ok (.bipush 8, 2) := by decide +kernel
theorem dX4_readItem_101 : decode cX4_readItem 101 = .ok (.if_icmp .ge 17, 3) := by decide +kernel
theorem dX4_readItem_104 : decode cX4_readItem 104 = .ok (.aload_n 0, 1) := by decide +kernel
theorem dX4_readItem_105 : decode cX4_readItem 105 = .ok (.aload_n 0, 1) := by decide +kernel
theorem dX4_readItem_106 : decode cX4_readItem 106 = .ok (.getfield 12, 3) := by decide +kernel
theorem dX4_readItem_109 : decode cX4_readItem 109 = .ok (.getfield 33, 3) := by decide +kernel
theorem dX4_readItem_112 : decode cX4_readItem 112 = .ok (.invokevirtual 57, 3) := by decide +kernel
theorem dX4_readItem_115 : decode cX4_readItem 115 = .ok (.goto 8, 3) := by decide +kernel
theorem dX4_readItem_118 : decode cX4_readItem 118 = .ok (.aload_n 0, 1) := by decide +kernel
theorem dX4_readItem_119 : decode cX4_readItem 119 = .ok (.iconst 1, 1) := by decide +kernel
theorem dX4_readItem_120 : decode cX4_readItem 120 = .ok (.putfield 18, 3) := by decide +kernel
theorem dX4_readItem_123 : decode cX4_readItem 123 = .ok (.return_, 1) := by decide +kernel
theorem dX4_readWalker_0 : decode cX4_readWalker 0 = .ok (.aload_n 0, 1) := by decide +kernel
theorem dX4_readWalker_1 : decode cX4_readWalker 1 = .ok (.getfield 22, 3) := by decide +kernel
theorem dX4_readWalker_4 : decode cX4_readWalker 4 = .ok (.invokevirtual 60, 3) := by decide +kernel
theorem dX4_readWalker_7 : decode cX4_readWalker 7 = .ok (.aload_n 0, 1) := by decide +kernel
theorem dX4_readWalker_8 : decode cX4_readWalker 8 = .ok (.getfield 12, 3) := by decide +kernel
theorem dX4_readWalker_11 : decode cX4_readWalker 11 = .ok (.getfield 63, 3) := by decide +kernel
theorem dX4_readWalker_14 : decode cX4_readWalker 14 = .ok (.iload_n 1, 1) := by decide +kernel
theorem dX4_readWalker_15 : decode cX4_readWalker 15 = .ok (.aload_n 0, 1) := by decide +kernel
theorem dX4_readWalker_16 : decode cX4_readWalker 16 = .ok (.iconst 1, 1) := by decide +kernel
theorem dX4_readWalker_17 : decode cX4_readWalker 17 = .ok (.bipush 40, 2) := by decide +kernel
theorem dX4_readWalker_19 : decode cX4_readWalker 19 = .ok (.invokevirtual 67, 3) := by decide +kernel
theorem dX4_readWalker_22 : decode cX4_readWalker 22 = .ok (.iastore, 1) := by decide +kernel
theorem dX4_readWalker_23 : decode cX4_readWalker 23 = .ok (.aload_n 0, 1) := by decide +kernel
theorem dX4_readWalker_24 : decode cX4_readWalker 24 = .ok (.getfield 12, 3) := by decide +kernel
theorem dX4_readWalker_27 : decode cX4_readWalker 27 = .ok (.getfield 71, 3) := by decide +kernel
theorem dX4_readWalker_30 : decode cX4_readWalker 30 = .ok (.iload_n 1, 1) := by decide +kernel
theorem dX4_readWalker_31 : decode cX4_readWalker 31 = .ok (.aload_n 0, 1) := by decide +kernel
theorem dX4_readWalker_32 : decode cX4_readWalker 32 = .ok (.iconst 0, 1) := by decide +kernel
theorem dX4_readWalker_33 : decode cX4_readWalker 33 = .ok (.iconst 5, 1) := by decide +kernel
theorem dX4_readWalker_34 : decode cX4_readWalker 34 = .ok (.invokevirtual 67, 3) := by decide +kernel
theorem dX4_readWalker_37 : decode cX4_readWalker 37 = .ok (.iastore, 1) := by decide +kernel
theorem dX4_readWalker_38 : decode cX4_readWalker 38 = .ok (.aload_n 0, 1) := by decide +kernel
theorem dX4_readWalker_39 : decode cX4_readWalker 39 = .ok (.getfield 12, 3) := by decide +kernel
theorem dX4_readWalker_42 : decode cX4_readWalker 42 = .ok (.dup, 1) := by decide +kernel
theorem dX4_readWalker_43 : decode cX4_readWalker 43 = .ok (.getfield 26, 3) := by decide +kernel
theorem dX4_readWalker_46 : decode cX4_readWalker 46 = .ok (.iconst 1, 1) := by decide +kernel
theorem dX4_readWalker_47 : decode cX4_readWalker 47 = .ok (.iadd, 1) := by decide +kernel
theorem dX4_readWalker_48 : decode cX4_readWalker 48 = .ok (.putfield 26, 3) := by decide +kernel
theorem dX4_readWalker_51 : decode cX4_readWalker 51 = .ok (.aload_n 0, 1) := by decide +kernel
theorem dX4_readWalker_52 : decode cX4_readWalker 52 = .ok (.invokevirtual 74, 3) := by decide +kernel
theorem dX4_readWalker_55 : decode cX4_readWalker 55 = .ok (.return_, 1) := by decide +kernel
theorem dX4_readThing_0 : decode cX4_readThing 0 = .ok (.aload_n 0, 1) := by decide +kernel
theorem dX4_readThing_1 : decode cX4_readThing 1 = .ok (.getfield 22, 3) := by decide +kernel
theorem dX4_readThing_4 : decode cX4_readThing 4 = .ok (.invokevirtual 60, 3) := by decide +kernel
theorem dX4_readThing_7 : decode cX4_readThing 7 = .ok (.aload_n 0, 1) := by decide +kernel
theorem dX4_readThing_8 : decode cX4_readThing 8 = .ok (.getfield 12, 3) := by decide +kernel
theorem dX4_readThing_11 : decode cX4_readThing 11 = .ok (.getfield 77, 3) := by decide +kernel
theorem dX4_readThing_14 : decode cX4_readThing 14 = .ok (.iload_n 1, 1) := by decide +kernel
theorem dX4_readThing_15 : decode cX4_readThing 15 = .ok (.aload_n 0, 1) := by decide +kernel
theorem dX4_readThing_16 : decode cX4_readThing 16 = .ok (.iconst 1, 1) := by decide +kernel
theorem dX4_readThing_17 : decode cX4_readThing 17 = .ok (.bipush 20, 2) := by decide +kernel
theorem dX4_readThing_19 : decode cX4_readThing 19 = .ok (.invokevirtual 67, 3) := by decide +kernel
theorem dX4_readThing_22 : decode cX4_readThing 22 = .ok (.iastore, 1) := by decide +kernel
theorem dX4_readThing_23 : decode cX4_readThing 23 = .ok (.aload_n 0, 1) := by decide +kernel
theorem dX4_readThing_24 : decode cX4_readThing 24 = .ok (.getfield 12, 3) := by decide +kernel
theorem dX4_readThing_27 : decode cX4_readThing 27 = .ok (.getfield 80, 3) := by decide +kernel
theorem dX4_readThing_30 : decode cX4_readThing 30 = .ok (.iload_n 1, 1) := by decide +kernel
theorem dX4_readThing_31 : decode cX4_readThing 31 = .ok (.aload_n 0, 1) := by decide +kernel
theorem dX4_readThing_32 : decode cX4_readThing 32 = .ok (.iconst 0, 1) := by decide +kernel
theorem dX4_readThing_33 : decode cX4_readThing 33 = .ok (.bipush 9, 2) := by decide +kernel
theorem dX4_readThing_35 : decode cX4_readThing 35 = .ok (.invokevirtual 67, 3) := by decide +kernel
theorem dX4_readThing_38 : decode cX4_readThing 38 = .ok (.iastore, 1) := by decide +kernel
theorem dX4_readThing_39 : decode cX4_readThing 39 = .ok (.aload_n 0, 1) := by decide +kernel
theorem dX4_readThing_40 : decode cX4_readThing 40 = .ok (.getfield 12, 3) := by decide +kernel
theorem dX4_readThing_43 : decode cX4_readThing 43 = .ok (.getfield 83, 3) := by decide +kernel
theorem dX4_readThing_46 : decode cX4_readThing 46 = .ok (.iload_n 1, 1) := by decide +kernel
theorem dX4_readThing_47 : decode cX4_readThing 47 = .ok (.aload_n 0, 1) := by decide +kernel
theorem dX4_readThing_48 : decode cX4_readThing 48 = .ok (.iconst 0, 1) := by decide +kernel
theorem dX4_readThing_49 : decode cX4_readThing 49 = .ok (.iconst 1, 1) := by decide +kernel
theorem dX4_readThing_50 : decode cX4_readThing 50 = .ok (.invokevirtual 67, 3) := by decide +kernel
theorem dX4_readThing_53 : decode cX4_readThing 53 = .ok (.iastore, 1) := by decide +kernel
theorem dX4_readThing_54 : decode cX4_readThing 54 = .ok (.aload_n 0, 1) := by decide +kernel
theorem dX4_readThing_55 : decode cX4_readThing 55 = .ok (.getfield 12, 3) := by decide +kernel
theorem dX4_readThing_58 : decode cX4_readThing 58 = .ok (.getfield 86, 3) := by decide +kernel
theorem dX4_readThing_61 : decode cX4_readThing 61 = .ok (.iload_n 1, 1) := by decide +kernel
theorem dX4_readThing_62 : decode cX4_readThing 62 = .ok (.aload_n 0, 1) := by decide +kernel
theorem dX4_readThing_63 : decode cX4_readThing 63 = .ok (.iconst 0, 1) := by decide +kernel
theorem dX4_readThing_64 : decode cX4_readThing 64 = .ok (.iconst 3, 1) := by decide +kernel
theorem dX4_readThing_65 : decode cX4_readThing 65 = .ok (.invokevirtual 67, 3) := by decide +kernel
theorem dX4_readThing_68 : decode cX4_readThing 68 = .ok (.iastore, 1) := by decide +kernel
theorem dX4_readThing_69 : decode cX4_readThing 69 = .ok (.aload_n 0, 1) := by decide +kernel
theorem dX4_readThing_70 : decode cX4_readThing 70 = .ok (.getfield 12, 3) := by decide +kernel
theorem dX4_readThing_73 : decode cX4_readThing 73 = .ok (.getfield 89, 3) := by decide +kernel
theorem dX4_readThing_76 : decode cX4_readThing 76 = .ok (.iload_n 1, 1) := by decide +kernel
theorem dX4_readThing_77 : decode cX4_readThing 77 = .ok (.aload_n 0, 1) := by decide +kernel
theorem dX4_readThing_78 : decode cX4_readThing 78 = .ok (.iconst 0, 1) := by decide +kernel
theorem dX4_readThing_79 : decode cX4_readThing 79 = .ok (.aload_n 0, 1) := by decide +kernel
theorem dX4_readThing_80 : decode cX4_readThing 80 = .ok (.getfield 12, 3) := by decide +kernel
theorem dX4_readThing_83 : decode cX4_readThing 83 = .ok (.getfield 26, 3) := by decide +kernel
theorem dX4_readThing_86 : decode cX4_readThing 86 = .ok (.iconst 1, 1) := by decide +kernel
theorem dX4_readThing_87 : decode cX4_readThing 87 = .ok (.isub, 1) := by decide +kernel
theorem dX4_readThing_88 : decode cX4_readThing 88 = .ok (.invokevirtual 67, 3) := by decide +kernel
theorem dX4_readThing_91 : decode cX4_readThing 91 = .ok (.iastore, 1) := by decide +kernel
theorem dX4_readThing_92 : decode cX4_readThing 92 = .ok (.aload_n 0, 1) := by decide +kernel
theorem dX4_readThing_93 : decode cX4_readThing 93 = .ok (.getfield 12, 3) := by decide +kernel
theorem dX4_readThing_96 : decode cX4_readThing 96 = .ok (.dup, 1) := by decide +kernel
theorem dX4_readThing_97 : decode cX4_readThing 97 = .ok (.getfield 30, 3) := by decide +kernel
theorem dX4_readThing_100 : decode cX4_readThing 100 = .ok (.iconst 1, 1) := by decide +kernel
theorem dX4_readThing_101 : decode cX4_readThing 101 = .ok (.iadd, 1) := by decide +kernel
theorem dX4_readThing_102 : decode cX4_readThing 102 = .ok (.putfield 30, 3) := by decide +kernel
theorem dX4_readThing_105 : decode cX4_readThing 105 = .ok (.aload_n 0, 1) := by decide +kernel
theorem dX4_readThing_106 : decode cX4_readThing 106 = .ok (.invokevirtual 74, 3) := by decide +kernel
theorem dX4_readThing_109 : decode cX4_readThing 109 = .ok (.return_, 1) := by decide +kernel
theorem dX4_readStage_0 : decode cX4_readStage 0 = .ok (.aload_n 0, 1) := by decide +kernel
theorem dX4_readStage_1 : decode cX4_readStage 1 = .ok (.getfield 22, 3) := by decide +kernel
theorem dX4_readStage_4 : decode cX4_readStage 4 = .ok (.invokevirtual 60, 3) := by decide +kernel
theorem dX4_readStage_7 : decode cX4_readStage 7 = .ok (.aload_n 0, 1) := by decide +kernel
theorem dX4_readStage_8 : decode cX4_readStage 8 = .ok (.getfield 12, 3) := by decide +kernel
theorem dX4_readStage_11 : decode cX4_readStage 11 = .ok (.getfield 92, 3) := by decide +kernel
theorem dX4_readStage_14 : decode cX4_readStage 14 = .ok (.iload_n 1, 1) := by decide +kernel
theorem dX4_readStage_15 : decode cX4_readStage 15 = .ok (.aload_n 0, 1) := by decide +kernel
theorem dX4_readStage_16 : decode cX4_readStage 16 = .ok (.iconst 1, 1) := by decide +kernel
theorem dX4_readStage_17 : decode cX4_readStage 17 = .ok (.bipush 20, 2) := by decide +kernel
theorem dX4_readStage_19 : decode cX4_readStage 19 = .ok (.invokevirtual 67, 3) := by decide +kernel
theorem dX4_readStage_22 : decode cX4_readStage 22 = .ok (.iastore, 1) := by decide +kernel
theorem dX4_readStage_23 : decode cX4_readStage 23 = .ok (.aload_n 0, 1) := by decide +kernel
theorem dX4_readStage_24 : decode cX4_readStage 24 = .ok (.getfield 12, 3) := by decide +kernel
theorem dX4_readStage_27 : decode cX4_readStage 27 = .ok (.getfield 95, 3) := by decide +kernel
theorem dX4_readStage_30 : decode cX4_readStage 30 = .ok (.iload_n 1, 1) := by decide +kernel
theorem dX4_readStage_31 : decode cX4_readStage 31 = .ok (.aload_n 0, 1) := by decide +kernel
theorem dX4_readStage_32 : decode cX4_readStage 32 = .ok (.iconst 0, 1) := by decide +kernel
theorem dX4_readStage_33 : decode cX4_readStage 33 = .ok (.iconst 1, 1) := by decide +kernel
theorem dX4_readStage_34 : decode cX4_readStage 34 = .ok (.invokevirtual 67, 3) := by decide +kernel
theorem dX4_readStage_37 : decode cX4_readStage 37 = .ok (.iastore, 1) := by decide +kernel
theorem dX4_readStage_38 : decode cX4_readStage 38 = .ok (.aload_n 0, 1) := by decide +kernel
theorem dX4_readStage_39 : decode cX4_readStage 39 = .ok (.getfield 12, 3) := by decide +kernel
theorem dX4_readStage_42 : decode cX4_readStage 42 = .ok (.getfield 98, 3) := by decide +kernel
theorem dX4_readStage_45 : decode cX4_readStage 45 = .ok (.iload_n 1, 1) := by decide +kernel
theorem dX4_readStage_46 : decode cX4_readStage 46 = .ok (.aload_n 0, 1) := by decide +kernel
theorem dX4_readStage_47 : decode cX4_readStage 47 = .ok (.iconst 0, 1) := by decide +kernel
theorem dX4_readStage_48 : decode cX4_readStage 48 = .ok (.iconst 1, 1) := by decide +kernel
theorem dX4_readStage_49 : decode cX4_readStage 49 = .ok (.invokevirtual 67, 3) := by decide +kernel
theorem dX4_readStage_52 : decode cX4_readStage 52 = .ok (.iastore, 1) := by decide +kernel
theorem dX4_readStage_53 : decode cX4_readStage 53 = .ok (.aload_n 0, 1) := by decide +kernel
theorem dX4_readStage_54 : decode cX4_readStage 54 = .ok (.getfield 12, 3) := by decide +kernel
theorem dX4_readStage_57 : decode cX4_readStage 57 = .ok (.dup, 1) := by decide +kernel
theorem dX4_readStage_58 : decode cX4_readStage 58 = .ok (.getfield 33, 3) := by decide +kernel
theorem dX4_readStage_61 : decode cX4_readStage 61 = .ok (.iconst 1, 1) := by decide +kernel
theorem dX4_readStage_62 : decode cX4_readStage 62 = .ok (.iadd, 1) := by decide +kernel
theorem dX4_readStage_63 : decode cX4_readStage 63 = .ok (.putfield 33, 3) := by decide +kernel
theorem dX4_readStage_66 : decode cX4_readStage 66 = .ok (.aload_n 0, 1) := by decide +kernel
theorem dX4_readStage_67 : decode cX4_readStage 67 = .ok (.invokevirtual 74, 3) := by decide +kernel
theorem dX4_readStage_70 : decode cX4_readStage 70 = .ok (.return_, 1) := by decide +kernel
theorem dX4_number_0 : decode cX4_number 0 = .ok (.aload_n 0, 1) := by decide +kernel
theorem dX4_number_1 : decode cX4_number 1 = .ok (.getfield 18, 3) := by decide +kernel
theorem dX4_number_4 : decode cX4_number 4 = .ok (.ifCond .ne 29, 3) := by decide +kernel
theorem dX4_number_7 : decode cX4_number 7 = .ok (.aload_n 0, 1) := by decide +kernel
theorem dX4_number_8 : decode cX4_number 8 = .ok (.getfield 22, 3) := by decide +kernel
theorem dX4_number_11 : decode cX4_number 11 = .ok (.getfield 41, 3) := by decide +kernel
theorem dX4_number_14 : decode cX4_number 14 = .ok (.iconst 2, 1) := by decide +kernel
theorem dX4_number_15 : decode cX4_number 15 = .ok (.if_icmp .ne 18, 3) := by decide +kernel
theorem dX4_number_18 : decode cX4_number 18 = .ok (.aload_n 0, 1) := by decide +kernel
theorem dX4_number_19 : decode cX4_number 19 = .ok (.getfield 22, 3) := by decide +kernel
theorem dX4_number_22 : decode cX4_number 22 = .ok (.getfield 47, 3) := by decide +kernel
theorem dX4_number_25 : decode cX4_number 25 = .ok (.iload_n 1, 1) := by decide +kernel
theorem dX4_number_26 : decode cX4_number 26 = .ok (.iload_n 2, 1) := by decide +kernel
theorem dX4_number_27 : decode cX4_number 27 = .ok (.invokestatic 101, 3) := by decide +kernel
theorem dX4_number_30 : decode cX4_number 30 = .ok (.ifCond .ne 10, 3) := by decide +kernel
theorem dX4_number_33 : decode cX4_number 33 = .ok (.aload_n 0, 1) := by decide +kernel
theorem dX4_number_34 : decode cX4_number 34 = .ok (.iconst 1, 1) := by decide +kernel
theorem dX4_number_35 : decode cX4_number 35 = .ok (.putfield 18, 3) := by decide +kernel
theorem dX4_number_38 : decode cX4_number 38 = .ok (.iconst 0, 1) := by decide +kernel
theorem dX4_number_39 : decode cX4_number 39 = .ok (.ireturn, 1) := by decide +kernel
theorem dX4_number_40 : decode cX4_number 40 = .ok (.aload_n 0, 1) := by decide +kernel
theorem dX4_number_41 : decode cX4_number 41 = .ok (.getfield 22, 3) := by decide +kernel
theorem dX4_number_44 : decode cX4_number 44 = .ok (.getfield 47, 3) := by decide +kernel
theorem dX4_number_47 : decode cX4_number 47 = .ok (.istore_n 3, 1) := by decide +kernel
theorem dX4_number_48 : decode cX4_number 48 = .ok (.aload_n 0, 1) := by decide +kernel
theorem dX4_number_49 : decode cX4_number 49 = .ok (.getfield 22, 3) := by decide +kernel
theorem dX4_number_52 : decode cX4_number 52 = .ok (.invokevirtual 60, 3) := by decide +kernel
theorem dX4_number_55 : decode cX4_number 55 = .ok (.iload_n 3, 1) := by decide +kernel
theorem dX4_number_56 : decode cX4_number 56 = .ok (.ireturn, 1) := by decide +kernel
theorem dX4_endItem_0 : decode cX4_endItem 0 = .ok (.aload_n 0, 1) := by decide +kernel
theorem dX4_endItem_1 : decode cX4_endItem 1 = .ok (.getfield 18, 3) := by decide +kernel
theorem dX4_endItem_4 : decode cX4_endItem 4 = .ok (.ifCond .ne 14, 3) := by decide +kernel
theorem dX4_endItem_7 : decode cX4_endItem 7 = .ok (.aload_n 0, 1) := by decide +kernel
theorem dX4_endItem_8 : decode cX4_endItem 8 = .ok (.getfield 22, 3) := by decide +kernel
theorem dX4_endItem_11 : decode cX4_endItem 11 = .ok (.getfield 41, 3) := by decide +kernel
theorem dX4_endItem_14 : decode cX4_endItem 14 = .ok (.iconst 3, 1) := by decide +kernel
theorem dX4_endItem_15 : decode cX4_endItem 15 = .ok (.if_icmp .eq 11, 3) := by decide +kernel
theorem dX4_endItem_18 : decode cX4_endItem 18 = .ok (.aload_n 0, 1) := by decide +kernel
theorem dX4_endItem_19 : decode cX4_endItem 19 = .ok (.iconst 1, 1) := by decide +kernel
theorem dX4_endItem_20 : decode cX4_endItem 20 = .ok (.putfield 18, 3) := by decide +kernel
theorem dX4_endItem_23 : decode cX4_endItem 23 = .ok (.goto 10, 3) := by decide +kernel
theorem dX4_endItem_26 : decode cX4_endItem 26 = .ok (.aload_n 0, 1) := by decide +kernel
theorem dX4_endItem_27 : decode cX4_endItem 27 = .ok (.getfield 22, 3) := by decide +kernel
theorem dX4_endItem_30 : decode cX4_endItem 30 = .ok (.invokevirtual 60, 3) := by decide +kernel
theorem dX4_endItem_33 : decode cX4_endItem 33 = .ok (.return_, 1) := by decide +kernel
theorem dX5_init_0 : decode cX5_init 0 = .ok (.aload_n 0, 1) := by decide +kernel
theorem dX5_init_1 : decode cX5_init 1 = .ok (.invokespecial 3, 3) := by decide +kernel
theorem dX5_init_4 : decode cX5_init 4 = .ok (.aload_n 0, 1) := by decide +kernel
theorem dX5_init_5 : decode cX5_init 5 = .ok (.iconst 0, 1) := by decide +kernel
theorem dX5_init_6 : decode cX5_init 6 = .ok (.putfield 9, 3) := by decide +kernel
theorem dX5_init_9 : decode cX5_init 9 = .ok (.aload_n 0, 1) := by decide +kernel
theorem dX5_init_10 : decode cX5_init 10 = .ok (.iconst 4, 1) := by decide +kernel
theorem dX5_init_11 : decode cX5_init 11 = .ok (.newarray .int, 2) := by decide +kernel
theorem dX5_init_13 : decode cX5_init 13 = .ok (.putfield 15, 3) := by decide +kernel
theorem dX5_init_16 : decode cX5_init 16 = .ok (.aload_n 0, 1) := by decide +kernel
theorem dX5_init_17 : decode cX5_init 17 = .ok (.iconst 4, 1) := by decide +kernel
theorem dX5_init_18 : decode cX5_init 18 = .ok (.newarray .int, 2) := by decide +kernel
theorem dX5_init_20 : decode cX5_init 20 = .ok (.putfield 19, 3) := by decide +kernel
theorem dX5_init_23 : decode cX5_init 23 = .ok (.aload_n 0, 1) := by decide +kernel
theorem dX5_init_24 : decode cX5_init 24 = .ok (.iconst 0, 1) := by decide +kernel
theorem dX5_init_25 : decode cX5_init 25 = .ok (.putfield 22, 3) := by decide +kernel
theorem dX5_init_28 : decode cX5_init 28 = .ok (.aload_n 0, 1) := by decide +kernel
theorem dX5_init_29 : decode cX5_init 29 = .ok (.bipush 7, 2) := by decide +kernel
theorem dX5_init_31 : decode cX5_init 31 = .ok (.newarray .int, 2) := by decide +kernel
theorem dX5_init_33 : decode cX5_init 33 = .ok (.putfield 25, 3) := by decide +kernel
theorem dX5_init_36 : decode cX5_init 36 = .ok (.aload_n 0, 1) := by decide +kernel
theorem dX5_init_37 : decode cX5_init 37 = .ok (.bipush 7, 2) := by decide +kernel
theorem dX5_init_39 : decode cX5_init 39 = .ok (.newarray .int, 2) := by decide +kernel
theorem dX5_init_41 : decode cX5_init 41 = .ok (.putfield 28, 3) := by decide +kernel
theorem dX5_init_44 : decode cX5_init 44 = .ok (.aload_n 0, 1) := by decide +kernel
theorem dX5_init_45 : decode cX5_init 45 = .ok (.bipush 7, 2) := by decide +kernel
theorem dX5_init_47 : decode cX5_init 47 = .ok (.newarray .int, 2) := by decide +kernel
theorem dX5_init_49 : decode cX5_init 49 = .ok (.putfield 31, 3) := by decide +kernel
theorem dX5_init_52 : decode cX5_init 52 = .ok (.aload_n 0, 1) := by decide +kernel
theorem dX5_init_53 : decode cX5_init 53 = .ok (.bipush 7, 2) := by decide +kernel
theorem dX5_init_55 : decode cX5_init 55 = .ok (.newarray .int, 2) := by decide +kernel
theorem dX5_init_57 : decode cX5_init 57 = .ok (.putfield 34, 3) := by decide +kernel
theorem dX5_init_60 : decode cX5_init 60 = .ok (.aload_n 0, 1) := by decide +kernel
theorem dX5_init_61 : decode cX5_init 61 = .ok (.bipush 7, 2) := by decide +kernel
theorem dX5_init_63 : decode cX5_init 63 = .ok (.newarray .int, 2) := by decide +kernel
theorem dX5_init_65 : decode cX5_init 65 = .ok (.putfield 37, 3) := by decide +kernel
theorem dX5_init_68 : decode cX5_init 68 = .ok (.aload_n 0, 1) := by decide +kernel
theorem dX5_init_69 : decode cX5_init 69 = .ok (.iconst 0, 1) := by decide +kernel
theorem dX5_init_70 : decode cX5_init 70 = .ok (.putfield 40, 3) := by decide +kernel
theorem dX5_init_73 : decode cX5_init 73 = .ok (.aload_n 0, 1) := by decide +kernel
theorem dX5_init_74 : decode cX5_init 74 = .ok (.bipush 8, 2) := by decide +kernel
theorem dX5_init_76 : decode cX5_init 76 = .ok (.newarray .int, 2) := by decide +kernel
theorem dX5_init_78 : decode cX5_init 78 = .ok (.putfield 43, 3) := by decide +kernel
theorem dX5_init_81 : decode cX5_init 81 = .ok (.aload_n 0, 1) := by decide +kernel
theorem dX5_init_82 : decode cX5_init 82 = .ok (.bipush 8, 2) := by decide +kernel
theorem dX5_init_84 : decode cX5_init 84 = .ok (.newarray .int, 2) := by decide +kernel
theorem dX5_init_86 : decode cX5_init 86 = .ok (.putfield 46, 3) := by decide +kernel
theorem dX5_init_89 : decode cX5_init 89 = .ok (.aload_n 0, 1) := by decide +kernel
theorem dX5_init_90 : decode cX5_init 90 = .ok (.bipush 8, 2) := by decide +kernel
theorem dX5_init_92 : decode cX5_init 92 = .ok (.newarray .int, 2) := by decide +kernel
theorem dX5_init_94 : decode cX5_init 94 = .ok (.putfield 49, 3) := by decide +kernel
theorem dX5_init_97 : decode cX5_init 97 = .ok (.return_, 1) := by decide +kernel
theorem dX5_copyFrom_0 : decode cX5_copyFrom 0 = .ok (.aload_n 0, 1) := by decide +kernel
theorem dX5_copyFrom_1 : decode cX5_copyFrom 1 = .ok (.aload_n 1, 1) := by decide +kernel
theorem dX5_copyFrom_2 : decode cX5_copyFrom 2 = .ok (.getfield 9, 3) := by decide +kernel
theorem dX5_copyFrom_5 : decode cX5_copyFrom 5 = .ok (.putfield 9, 3) := by decide +kernel
theorem dX5_copyFrom_8 : decode cX5_copyFrom 8 = .ok (.aload_n 1, 1) := by decide +kernel
theorem dX5_copyFrom_9 : decode cX5_copyFrom 9 = .ok (.getfield 15, 3) := by decide +kernel
theorem dX5_copyFrom_12 : decode cX5_copyFrom 12 = .ok (.iconst 0, 1) := by decide +kernel
theorem dX5_copyFrom_13 : decode cX5_copyFrom 13 = .ok (.aload_n 0, 1) := by decide +kernel
theorem dX5_copyFrom_14 : decode cX5_copyFrom 14 = .ok (.getfield 15, 3) := by decide +kernel
theorem dX5_copyFrom_17 : decode cX5_copyFrom 17 = .ok (.iconst 0, 1) := by decide +kernel
theorem dX5_copyFrom_18 : decode cX5_copyFrom 18 = .ok (.iconst 4, 1) := by decide +kernel
theorem dX5_copyFrom_19 : decode cX5_copyFrom 19 = .ok (.invokestatic 52, 3) := by decide +kernel
theorem dX5_copyFrom_22 : decode cX5_copyFrom 22 = .ok (.aload_n 1, 1) := by decide +kernel
theorem dX5_copyFrom_23 : decode cX5_copyFrom 23 = .ok (.getfield 19, 3) := by decide +kernel
theorem dX5_copyFrom_26 : decode cX5_copyFrom 26 = .ok (.iconst 0, 1) := by decide +kernel
theorem dX5_copyFrom_27 : decode cX5_copyFrom 27 = .ok (.aload_n 0, 1) := by decide +kernel
theorem dX5_copyFrom_28 : decode cX5_copyFrom 28 = .ok (.getfield 19, 3) := by decide +kernel
theorem dX5_copyFrom_31 : decode cX5_copyFrom 31 = .ok (.iconst 0, 1) := by decide +kernel
theorem dX5_copyFrom_32 : decode cX5_copyFrom 32 = .ok (.iconst 4, 1) := by decide +kernel
theorem dX5_copyFrom_33 : decode cX5_copyFrom 33 = .ok (.invokestatic 52, 3) := by decide +kernel
theorem dX5_copyFrom_36 : decode cX5_copyFrom 36 = .ok (.aload_n 0, 1) := by decide +kernel
theorem dX5_copyFrom_37 : decode cX5_copyFrom 37 = .ok (.aload_n 1, 1) := by decide +kernel
theorem dX5_copyFrom_38 : decode cX5_copyFrom 38 = .ok (.getfield 22, 3) := by decide +kernel
theorem dX5_copyFrom_41 : decode cX5_copyFrom 41 = .ok (.putfield 22, 3) := by decide +kernel
theorem dX5_copyFrom_44 : decode cX5_copyFrom 44 = .ok (.aload_n 1, 1) := by decide +kernel
theorem dX5_copyFrom_45 : decode cX5_copyFrom 45 = .ok (.getfield 25, 3) := by decide +kernel
theorem dX5_copyFrom_48 : decode cX5_copyFrom 48 = .ok (.iconst 0, 1) := by decide +kernel
theorem dX5_copyFrom_49 : decode cX5_copyFrom 49 = .ok (.aload_n 0, 1) := by decide +kernel
theorem dX5_copyFrom_50 : decode cX5_copyFrom 50 = .ok (.getfield 25, 3) := by decide +kernel
theorem dX5_copyFrom_53 : decode cX5_copyFrom 53 = .ok (.iconst 0, 1) := by decide +kernel
theorem dX5_copyFrom_54 : decode cX5_copyFrom 54 = .ok (.bipush 7, 2) := by decide +kernel
theorem dX5_copyFrom_56 : decode cX5_copyFrom 56 = .ok (.invokestatic 52, 3) := by decide +kernel
theorem dX5_copyFrom_59 : decode cX5_copyFrom 59 = .ok (.aload_n 1, 1) := by decide +kernel
theorem dX5_copyFrom_60 : decode cX5_copyFrom 60 = .ok (.getfield 28, 3) := by decide +kernel
theorem dX5_copyFrom_63 : decode cX5_copyFrom 63 = .ok (.iconst 0, 1) := by decide +kernel
theorem dX5_copyFrom_64 : decode cX5_copyFrom 64 = .ok (.aload_n 0, 1) := by decide +kernel
theorem dX5_copyFrom_65 : decode cX5_copyFrom 65 = .ok (.getfield 28, 3) := by decide +kernel
theorem dX5_copyFrom_68 : decode cX5_copyFrom 68 = .ok (.iconst 0, 1) := by decide +kernel
theorem dX5_copyFrom_69 : decode cX5_copyFrom 69 = .ok (.bipush 7, 2) := by decide +kernel
theorem dX5_copyFrom_71 : decode cX5_copyFrom 71 = .ok (.invokestatic 52, 3) := by decide +kernel
theorem dX5_copyFrom_74 : decode cX5_copyFrom 74 = .ok (.aload_n 1, 1) := by decide +kernel
theorem dX5_copyFrom_75 : decode cX5_copyFrom 75 = .ok (.getfield 31, 3) := by decide +kernel
theorem dX5_copyFrom_78 : decode cX5_copyFrom 78 = .ok (.iconst 0, 1) := by decide +kernel
theorem dX5_copyFrom_79 : decode cX5_copyFrom 79 = .ok (.aload_n 0, 1) := by decide +kernel
theorem dX5_copyFrom_80 : decode cX5_copyFrom 80 = .ok (.getfield 31, 3) := by decide +kernel
theorem dX5_copyFrom_83 : decode cX5_copyFrom 83 = .ok (.iconst 0, 1) := by decide +kernel
theorem dX5_copyFrom_84 : decode cX5_copyFrom 84 = .ok (.bipush 7, 2) := by decide +kernel
theorem dX5_copyFrom_86 : decode cX5_copyFrom 86 = .ok (.invokestatic 52, 3) := by decide +kernel
theorem dX5_copyFrom_89 : decode cX5_copyFrom 89 = .ok (.aload_n 1, 1) := by decide +kernel
theorem dX5_copyFrom_90 : decode cX5_copyFrom 90 = .ok (.getfield 34, 3) := by decide +kernel
theorem dX5_copyFrom_93 : decode cX5_copyFrom 93 = .ok (.iconst 0, 1) := by decide +kernel
theorem dX5_copyFrom_94 : decode cX5_copyFrom 94 = .ok (.aload_n 0, 1) := by decide +kernel
theorem dX5_copyFrom_95 : decode cX5_copyFrom 95 = .ok (.getfield 34, 3) := by decide +kernel
theorem dX5_copyFrom_98 : decode cX5_copyFrom 98 = .ok (.iconst 0, 1) := by decide +kernel
theorem dX5_copyFrom_99 : decode cX5_copyFrom 99 = .ok (.bipush 7, 2) := by decide +kernel
theorem dX5_copyFrom_101 : decode cX5_copyFrom 101 = .ok (.invokestatic 52, 3) := by decide +kernel
theorem dX5_copyFrom_104 : decode cX5_copyFrom 104 = .ok (.aload_n 1, 1) := by decide +kernel
theorem dX5_copyFrom_105 : decode cX5_copyFrom 105 = .ok (.getfield 37, 3) := by decide +kernel
theorem dX5_copyFrom_108 : decode cX5_copyFrom 108 = .ok (.iconst 0, 1) := by decide +kernel
theorem dX5_copyFrom_109 : decode cX5_copyFrom 109 = .ok (.aload_n 0, 1) := by decide +kernel
theorem dX5_copyFrom_110 : decode cX5_copyFrom 110 = .ok (.getfield 37, 3) := by decide +kernel
theorem dX5_copyFrom_113 : decode cX5_copyFrom 113 = .ok (.iconst 0, 1) := by decide +kernel
theorem dX5_copyFrom_114 : decode cX5_copyFrom 114 = .ok (.bipush 7, 2) := by decide +kernel
theorem dX5_copyFrom_116 : decode cX5_copyFrom 116 = .ok (.invokestatic 52, 3) := by decide +kernel
theorem dX5_copyFrom_119 : decode cX5_copyFrom 119 = .ok (.aload_n 0, 1) := by decide +kernel
theorem dX5_copyFrom_120 : decode cX5_copyFrom 120 = .ok (.aload_n 1, 1) := by decide +kernel
theorem dX5_copyFrom_121 : decode cX5_copyFrom 121 = .ok (.getfield 40, 3) := by decide +kernel
theorem dX5_copyFrom_124 : decode cX5_copyFrom 124 = .ok (.putfield 40, 3) := by decide +kernel
theorem dX5_copyFrom_127 : decode cX5_copyFrom 127 = .ok (.aload_n 1, 1) := by decide +kernel
theorem dX5_copyFrom_128 : decode cX5_copyFrom 128 = .ok (.getfield 43, 3) := by decide +kernel
theorem dX5_copyFrom_131 : decode cX5_copyFrom 131 = .ok (.iconst 0, 1) := by decide +kernel
theorem dX5_copyFrom_132 : decode cX5_copyFrom 132 = .ok (.aload_n 0, 1) := by decide +kernel
theorem dX5_copyFrom_133 : decode cX5_copyFrom 133 = .ok (.getfield 43, 3) := by decide +kernel
theorem dX5_copyFrom_136 : decode cX5_copyFrom 136 = .ok (.iconst 0, 1) := by decide +kernel
theorem dX5_copyFrom_137 : decode cX5_copyFrom 137 = .ok (.bipush 8, 2) := by decide +kernel
theorem dX5_copyFrom_139 : decode cX5_copyFrom 139 = .ok (.invokestatic 52, 3) := by decide +kernel
theorem dX5_copyFrom_142 : decode cX5_copyFrom 142 = .ok (.aload_n 1, 1) := by decide +kernel
theorem dX5_copyFrom_143 : decode cX5_copyFrom 143 = .ok (.getfield 46, 3) := by decide +kernel
theorem dX5_copyFrom_146 : decode cX5_copyFrom 146 = .ok (.iconst 0, 1) := by decide +kernel
theorem dX5_copyFrom_147 : decode cX5_copyFrom 147 = .ok (.aload_n 0, 1) := by decide +kernel
theorem dX5_copyFrom_148 : decode cX5_copyFrom 148 = .ok (.getfield 46, 3) := by decide +kernel
theorem dX5_copyFrom_151 : decode cX5_copyFrom 151 = .ok (.iconst 0, 1) := by decide +kernel
theorem dX5_copyFrom_152 : decode cX5_copyFrom 152 = .ok (.bipush 8, 2) := by decide +kernel
theorem dX5_copyFrom_154 : decode cX5_copyFrom 154 = .ok (.invokestatic 52, 3) := by decide +kernel
theorem dX5_copyFrom_157 : decode cX5_copyFrom 157 = .ok (.aload_n 1, 1) := by decide +kernel
theorem dX5_copyFrom_158 : decode cX5_copyFrom 158 = .ok (.getfield 49, 3) := by decide +kernel
theorem dX5_copyFrom_161 : decode cX5_copyFrom 161 = .ok (.iconst 0, 1) := by decide +kernel
theorem dX5_copyFrom_162 : decode cX5_copyFrom 162 = .ok (.aload_n 0, 1) := by decide +kernel
theorem dX5_copyFrom_163 : decode cX5_copyFrom 163 = .ok (.getfield 49, 3) := by decide +kernel
theorem dX5_copyFrom_166 : decode cX5_copyFrom 166 = .ok (.iconst 0, 1) := by decide +kernel
theorem dX5_copyFrom_167 : decode cX5_copyFrom 167 = .ok (.bipush 8, 2) := by decide +kernel
theorem dX5_copyFrom_169 : decode cX5_copyFrom 169 = .ok (.invokestatic 52, 3) := by decide +kernel
theorem dX5_copyFrom_172 : decode cX5_copyFrom 172 = .ok (.return_, 1) := by decide +kernel
theorem dX5_rains_0 : decode cX5_rains 0 = .ok (.iload_n 1, 1) := by decide +kernel
theorem dX5_rains_1 : decode cX5_rains 1 = .ok (.ifCond .lt 25, 3) := by decide +kernel
theorem dX5_rains_4 : decode cX5_rains 4 = .ok (.iload_n 1, 1) := by decide +kernel
theorem dX5_rains_5 : decode cX5_rains 5 = .ok (.aload_n 0, 1) := by decide +kernel
theorem dX5_rains_6 : decode cX5_rains 6 = .ok (.getfield 40, 3) := by decide +kernel
theorem dX5_rains_9 : decode cX5_rains 9 = .ok (.if_icmp .ge 17, 3) := by decide +kernel
theorem dX5_rains_12 : decode cX5_rains 12 = .ok (.aload_n 0, 1) := by decide +kernel
theorem dX5_rains_13 : decode cX5_rains 13 = .ok (.getfield 46, 3) := by decide +kernel
theorem dX5_rains_16 : decode cX5_rains 16 = .ok (.iload_n 1, 1) := by decide +kernel
theorem dX5_rains_17 : decode cX5_rains 17 = .ok (.iaload, 1) := by decide +kernel
theorem dX5_rains_18 : decode cX5_rains 18 = .ok (.iconst 1, 1) := by decide +kernel
theorem dX5_rains_19 : decode cX5_rains 19 = .ok (.if_icmp .ne 7, 3) := by decide +kernel
theorem dX5_rains_22 : decode cX5_rains 22 = .ok (.iconst 1, 1) := by decide +kernel
theorem dX5_rains_23 : decode cX5_rains 23 = .ok (.goto 4, 3) := by decide +kernel
theorem dX5_rains_26 : decode cX5_rains 26 = .ok (.iconst 0, 1) := by decide +kernel
theorem dX5_rains_27 : decode cX5_rains 27 = .ok (.ireturn, 1) := by decide +kernel
theorem dX6_init_0 : decode cX6_init 0 = .ok (.aload_n 0, 1) := by decide +kernel
theorem dX6_init_1 : decode cX6_init 1 = .ok (.invokespecial 3, 3) := by decide +kernel
theorem dX6_init_4 : decode cX6_init 4 = .ok (.aload_n 0, 1) := by decide +kernel
theorem dX6_init_5 : decode cX6_init 5 = .ok (.sipush 200, 3) := by decide +kernel
theorem dX6_init_8 : decode cX6_init 8 = .ok (.newarray .int, 2) := by decide +kernel
theorem dX6_init_10 : decode cX6_init 10 = .ok (.putfield 9, 3) := by decide +kernel
theorem dX6_init_13 : decode cX6_init 13 = .ok (.aload_n 0, 1) := by decide +kernel
theorem dX6_init_14 : decode cX6_init 14 = .ok (.iconst 0, 1) := by decide +kernel
theorem dX6_init_15 : decode cX6_init 15 = .ok (.putfield 15, 3) := by decide +kernel
theorem dX6_init_18 : decode cX6_init 18 = .ok (.aload_n 0, 1) := by decide +kernel
theorem dX6_init_19 : decode cX6_init 19 = .ok (.iconst 0, 1) := by decide +kernel
theorem dX6_init_20 : decode cX6_init 20 = .ok (.putfield 19, 3) := by decide +kernel
theorem dX6_init_23 : decode cX6_init 23 = .ok (.aload_n 0, 1) := by decide +kernel
theorem dX6_init_24 : decode cX6_init 24 = .ok (.iconst 0, 1) := by decide +kernel
theorem dX6_init_25 : decode cX6_init 25 = .ok (.putfield 22, 3) := by decide +kernel
theorem dX6_init_28 : decode cX6_init 28 = .ok (.aload_n 0, 1) := by decide +kernel
theorem dX6_init_29 : decode cX6_init 29 = .ok (.iconst 0, 1) := by decide +kernel
theorem dX6_init_30 : decode cX6_init 30 = .ok (.putfield 25, 3) := by decide +kernel
theorem dX6_init_33 : decode cX6_init 33 = .ok (.aload_n 0, 1) := by decide +kernel
theorem dX6_init_34 : decode cX6_init 34 = .ok (.iconst 0, 1) := by decide +kernel
theorem dX6_init_35 : decode cX6_init 35 = .ok (.putfield 28, 3) := by decide +kernel
theorem dX6_init_38 : decode cX6_init 38 = .ok (.return_, 1) := by decide +kernel
theorem dX6_takes_0 : decode cX6_takes 0 = .ok (.aload_n 0, 1) := by decide +kernel
theorem dX6_takes_1 : decode cX6_takes 1 = .ok (.getfield 15, 3) := by decide +kernel
theorem dX6_takes_4 : decode cX6_takes 4 = .ok (.sipush 200, 3) := by decide +kernel
theorem dX6_takes_7 : decode cX6_takes 7 = .ok (.if_icmp .lt 5, 3) := by decide +kernel
theorem dX6_takes_10 : decode cX6_takes 10 = .ok (.iconst 0, 1) := by decide +kernel
theorem dX6_takes_11 : decode cX6_takes 11 = .ok (.ireturn, 1) := by decide +kernel
theorem dX6_takes_12 : decode cX6_takes 12 = .ok (.aload_n 0, 1) := by decide +kernel
theorem dX6_takes_13 : decode cX6_takes 13 = .ok (.getfield 9, 3) := by decide +kernel
theorem dX6_takes_16 : decode cX6_takes 16 = .ok (.aload_n 0, 1) := by decide +kernel
theorem dX6_takes_17 : decode cX6_takes 17 = .ok (.getfield 15, 3) := by decide +kernel
theorem dX6_takes_20 : decode cX6_takes 20 = .ok (.iload_n 1, 1) := by decide +kernel
theorem dX6_takes_21 : decode cX6_takes 21 = .ok (.iastore, 1) := by decide +kernel
theorem dX6_takes_22 : decode cX6_takes 22 = .ok (.aload_n 0, 1) := by decide +kernel
theorem dX6_takes_23 : decode cX6_takes 23 = .ok (.dup, 1) := by decide +kernel
theorem dX6_takes_24 : decode cX6_takes 24 = .ok (.getfield 15, 3) := by decide +kernel
theorem dX6_takes_27 : decode cX6_takes 27 = .ok (.iconst 1, 1) := by decide +kernel
theorem dX6_takes_28 : decode cX6_takes 28 = .ok (.iadd, 1) := by decide +kernel
theorem dX6_takes_29 : decode cX6_takes 29 = .ok (.putfield 15, 3) := by decide +kernel
theorem dX6_takes_32 : decode cX6_takes 32 = .ok (.iconst 1, 1) := by decide +kernel
theorem dX6_takes_33 : decode cX6_takes 33 = .ok (.ireturn, 1) := by decide +kernel
theorem dX6_toFirstToken_0 : decode cX6_toFirstToken 0 = .ok (.aload_n 0, 1) := by decide +kernel
theorem dX6_toFirstToken_1 : decode cX6_toFirstToken 1 = .ok (.iconst 0, 1) := by decide +kernel
theorem dX6_toFirstToken_2 : decode cX6_toFirstToken 2 = .ok (.putfield 25, 3) := by decide +kernel
theorem dX6_toFirstToken_5 : decode cX6_toFirstToken 5 = .ok (.aload_n 0, 1) := by decide +kernel
theorem dX6_toFirstToken_6 : decode cX6_toFirstToken 6 = .ok (.invokevirtual 31, 3) := by decide +kernel
theorem dX6_toFirstToken_9 : decode cX6_toFirstToken 9 = .ok (.return_, 1) := by decide +kernel
theorem dX6_toNextToken_0 : decode cX6_toNextToken 0 = .ok (.aload_n 0, 1) := by decide +kernel
theorem dX6_toNextToken_1 : decode cX6_toNextToken 1 = .ok (.aload_n 0, 1) := by decide +kernel
theorem dX6_toNextToken_2 : decode cX6_toNextToken 2 = .ok (.getfield 25, 3) := by decide +kernel
theorem dX6_toNextToken_5 : decode cX6_toNextToken 5 = .ok (.putfield 22, 3) := by decide +kernel
theorem dX6_toNextToken_8 : decode cX6_toNextToken 8 = .ok (.aload_n 0, 1) := by decide +kernel
theorem dX6_toNextToken_9 : decode cX6_toNextToken 9 = .ok (.getfield 22, 3) := by decide +kernel
theorem dX6_toNextToken_12 : decode cX6_toNextToken 12 = .ok (.aload_n 0, 1) := by decide +kernel
theorem dX6_toNextToken_13 : decode cX6_toNextToken 13 = .ok (.getfield 15, 3) := by decide +kernel
theorem dX6_toNextToken_16 : decode cX6_toNextToken 16 = .ok (.if_icmp .ge 30, 3) := by decide +kernel
theorem dX6_toNextToken_19 : decode cX6_toNextToken 19 = .ok (.aload_n 0, 1) := by decide +kernel
theorem dX6_toNextToken_20 : decode cX6_toNextToken 20 = .ok (.getfield 9, 3) := by decide +kernel
theorem dX6_toNextToken_23 : decode cX6_toNextToken 23 = .ok (.aload_n 0, 1) := by decide +kernel
theorem dX6_toNextToken_24 : decode cX6_toNextToken 24 = .ok (.getfield 22, 3) := by decide +kernel
theorem dX6_toNextToken_27 : decode cX6_toNextToken 27 = .ok (.iaload, 1) := by decide +kernel
theorem dX6_toNextToken_28 : decode cX6_toNextToken 28 = .ok (.bipush 32, 2) := by decide +kernel
theorem dX6_toNextToken_30 : decode cX6_toNextToken 30 = .ok (.if_icmp .ne 16, 3) := by decide +kernel
theorem dX6_toNextToken_33 : decode cX6_toNextToken 33 = .ok (.aload_n 0, 1) := by decide +kernel
theorem dX6_toNextToken_34 : decode cX6_toNextToken 34 = .ok (.dup, 1) := by decide +kernel
theorem dX6_toNextToken_35 : decode cX6_toNextToken 35 = .ok (.getfield 22, 3) := by decide +kernel
theorem dX6_toNextToken_38 : decode cX6_toNextToken 38 = .ok (.iconst 1, 1) := by decide +kernel
theorem dX6_toNextToken_39 : decode cX6_toNextToken 39 = .ok (.iadd, 1) := by decide +kernel
theorem dX6_toNextToken_40 : decode cX6_toNextToken 40 = .ok (.putfield 22, 3) := by decide +kernel
theorem dX6_toNextToken_43 : decode cX6_toNextToken 43 = .ok (.goto (-35), 3) := by decide +kernel
theorem dX6_toNextToken_46 : decode cX6_toNextToken 46 = .ok (.aload_n 0, 1) := by decide +kernel
theorem dX6_toNextToken_47 : decode cX6_toNextToken 47 = .ok (.aload_n 0, 1) := by decide +kernel
theorem dX6_toNextToken_48 : decode cX6_toNextToken 48 = .ok (.getfield 22, 3) := by decide +kernel
theorem dX6_toNextToken_51 : decode cX6_toNextToken 51 = .ok (.putfield 25, 3) := by decide +kernel
theorem dX6_toNextToken_54 : decode cX6_toNextToken 54 = .ok (.aload_n 0, 1) := by decide +kernel
theorem dX6_toNextToken_55 : decode cX6_toNextToken 55 = .ok (.iconst 0, 1) := by decide +kernel
theorem dX6_toNextToken_56 : decode cX6_toNextToken 56 = .ok (.putfield 28, 3) := by decide +kernel
theorem dX6_toNextToken_59 : decode cX6_toNextToken 59 = .ok (.aload_n 0, 1) := by decide +kernel
theorem dX6_toNextToken_60 : decode cX6_toNextToken 60 = .ok (.getfield 22, 3) := by decide +kernel
theorem dX6_toNextToken_63 : decode cX6_toNextToken 63 = .ok (.aload_n 0, 1) := by decide +kernel
theorem dX6_toNextToken_64 : decode cX6_toNextToken 64 = .ok (.getfield 15, 3) := by decide +kernel
theorem dX6_toNextToken_67 : decode cX6_toNextToken 67 = .ok (.if_icmp .lt 11, 3) := by decide +kernel
theorem dX6_toNextToken_70 : decode cX6_toNextToken 70 = .ok (.aload_n 0, 1) := by decide +kernel
theorem dX6_toNextToken_71 : decode cX6_toNextToken 71 = .ok (.iconst 0, 1) := by decide +kernel
theorem dX6_toNextToken_72 : decode cX6_toNextToken 72 = .ok (.putfield 19, 3) := by decide +kernel
theorem dX6_toNextToken_75 : decode cX6_toNextToken 75 = .ok (.goto 80, 3) := by decide +kernel
theorem dX6_toNextToken_78 : decode cX6_toNextToken 78 = .ok (.aload_n 0, 1) := by decide +kernel
theorem dX6_toNextToken_79 : decode cX6_toNextToken 79 = .ok (.getfield 9, 3) := by decide +kernel
theorem dX6_toNextToken_82 : decode cX6_toNextToken 82 = .ok (.aload_n 0, 1) := by decide +kernel
theorem dX6_toNextToken_83 : decode cX6_toNextToken 83 = .ok (.getfield 22, 3) := by decide +kernel
theorem dX6_toNextToken_86 : decode cX6_toNextToken 86 = .ok (.iaload, 1) := by decide +kernel
theorem dX6_toNextToken_87 : decode cX6_toNextToken 87 = .ok (.invokestatic 34, 3) := by decide +kernel
theorem dX6_toNextToken_90 : decode cX6_toNextToken 90 = .ok (.ifCond .eq 10, 3) := by decide +kernel
theorem dX6_toNextToken_93 : decode cX6_toNextToken 93 = .ok (.aload_n 0, 1) := by decide +kernel
theorem dX6_toNextToken_94 : decode cX6_toNextToken 94 = .ok (.invokevirtual 38, 3) := by decide +kernel
theorem dX6_toNextToken_97 : decode cX6_toNextToken 97 = .ok (.goto 58, 3) := by decide +kernel
theorem dX6_toNextToken_100 : decode cX6_toNextToken 100 = .ok (.aload_n 0, 1) := by decide +kernel
theorem dX6_toNextToken_101 : decode cX6_toNextToken 101 = .ok (.getfield 9, 3) := by decide +kernel
theorem dX6_toNextToken_104 : decode cX6_toNextToken 104 = .ok (.aload_n 0, 1) := by decide +kernel
theorem dX6_toNextToken_105 : decode cX6_toNextToken 105 = .ok (.getfield 22, 3) := by decide +kernel
theorem dX6_toNextToken_108 : decode cX6_toNextToken 108 = .ok (.iaload, 1) := by decide +kernel
theorem dX6_toNextToken_109 : decode cX6_toNextToken 109 = .ok (.invokestatic 41, 3) := by decide +kernel
theorem dX6_toNextToken_112 : decode cX6_toNextToken 112 = .ok (.ifCond .eq 10, 3) := by decide +kernel
theorem dX6_toNextToken_115 : decode cX6_toNextToken 115 = .ok (.aload_n 0, 1) := by decide +kernel
theorem dX6_toNextToken_116 : decode cX6_toNextToken 116 = .ok (.invokevirtual 44, 3) := by decide +kernel
theorem dX6_toNextToken_119 : decode cX6_toNextToken 119 = .ok (.goto 36, 3) := by decide +kernel
theorem dX6_toNextToken_122 : decode cX6_toNextToken 122 = .ok (.aload_n 0, 1) := by decide +kernel
theorem dX6_toNextToken_123 : decode cX6_toNextToken 123 = .ok (.aload_n 0, 1) := by decide +kernel
theorem dX6_toNextToken_124 : decode cX6_toNextToken 124 = .ok (.getfield 9, 3) := by decide +kernel
theorem dX6_toNextToken_127 : decode cX6_toNextToken 127 = .ok (.aload_n 0, 1) := by decide +kernel
theorem dX6_toNextToken_128 : decode cX6_toNextToken 128 = .ok (.getfield 22, 3) := by decide +kernel
theorem dX6_toNextToken_131 : decode cX6_toNextToken 131 = .ok (.iaload, 1) := by decide +kernel
theorem dX6_toNextToken_132 : decode cX6_toNextToken 132 = .ok (.bipush 59, 2) := by decide +kernel
theorem dX6_toNextToken_134 : decode cX6_toNextToken 134 = .ok (.if_icmp .ne 7, 3) := by decide +kernel
theorem dX6_toNextToken_137 : decode cX6_toNextToken 137 = .ok (.iconst 3, 1) := by decide +kernel
theorem dX6_toNextToken_138 : decode cX6_toNextToken 138 = .ok (.goto 4, 3) := by decide +kernel
theorem dX6_toNextToken_141 : decode cX6_toNextToken 141 = .ok (.iconst 4, 1) := by decide +kernel
theorem dX6_toNextToken_142 : decode cX6_toNextToken 142 = .ok (.putfield 19, 3) := by decide +kernel
theorem dX6_toNextToken_145 : decode cX6_toNextToken 145 = .ok (.aload_n 0, 1) := by decide +kernel
theorem dX6_toNextToken_146 : decode cX6_toNextToken 146 = .ok (.aload_n 0, 1) := by decide +kernel
theorem dX6_toNextToken_147 : decode cX6_toNextToken 147 = .ok (.getfield 22, 3) := by decide +kernel
theorem dX6_toNextToken_150 : decode cX6_toNextToken 150 = .ok (.iconst 1, 1) := by decide +kernel
theorem dX6_toNextToken_151 : decode cX6_toNextToken 151 = .ok (.iadd, 1) := by decide +kernel
theorem dX6_toNextToken_152 : decode cX6_toNextToken 152 = .ok (.putfield 25, 3) := by decide +kernel
theorem dX6_toNextToken_155 : decode cX6_toNextToken 155 = .ok (.return_, 1) := by decide +kernel
theorem dX6_readLetters_0 : decode cX6_readLetters 0 = .ok (.aload_n 0, 1) := by decide +kernel
theorem dX6_readLetters_1 : decode cX6_readLetters 1 = .ok (.getfield 25, 3) := by decide +kernel
theorem dX6_readLetters_4 : decode cX6_readLetters 4 = .ok (.aload_n 0, 1) := by decide +kernel
theorem dX6_readLetters_5 : decode cX6_readLetters 5 = .ok (.getfield 15, 3) := by decide +kernel
theorem dX6_readLetters_8 : decode cX6_readLetters 8 = .ok (.if_icmp .ge 31, 3) := by decide +kernel
theorem dX6_readLetters_11 : decode cX6_readLetters 11 = .ok (.aload_n 0, 1) := by decide +kernel
theorem dX6_readLetters_12 : decode cX6_readLetters 12 = .ok (.getfield 9, 3) := by decide +kernel
theorem dX6_readLetters_15 : decode cX6_readLetters 15 = .ok (.aload_n 0, 1) := by decide +kernel
theorem dX6_readLetters_16 : decode cX6_readLetters 16 = .ok (.getfield 25, 3) := by decide +kernel
theorem dX6_readLetters_19 : decode cX6_readLetters 19 = .ok (.iaload, 1) := by decide +kernel
theorem dX6_readLetters_20 : decode cX6_readLetters 20 = .ok (.invokestatic 34, 3) := by decide +kernel
theorem dX6_readLetters_23 : decode cX6_readLetters 23 = .ok (.ifCond .eq 16, 3) := by decide +kernel
theorem dX6_readLetters_26 : decode cX6_readLetters 26 = .ok (.aload_n 0, 1) := by decide +kernel
theorem dX6_readLetters_27 : decode cX6_readLetters 27 = .ok (.dup, 1) := by decide +kernel
theorem dX6_readLetters_28 : decode cX6_readLetters 28 = .ok (.getfield 25, 3) := by decide +kernel
theorem dX6_readLetters_31 : decode cX6_readLetters 31 = .ok (.iconst 1, 1) := by decide +kernel
theorem dX6_readLetters_32 : decode cX6_readLetters 32 = .ok (.iadd, 1) := by decide +kernel
theorem dX6_readLetters_33 : decode cX6_readLetters 33 = .ok (.putfield 25, 3) := by decide +kernel
theorem dX6_readLetters_36 : decode cX6_readLetters 36 = .ok (.goto (-36), 3) := by decide +kernel
theorem dX6_readLetters_39 : decode cX6_readLetters 39 = .ok (.aload_n 0, 1) := by decide +kernel
theorem dX6_readLetters_40 : decode cX6_readLetters 40 = .ok (.iconst 1, 1) := by decide +kernel
theorem dX6_readLetters_41 : decode cX6_readLetters 41 = .ok (.putfield 19, 3) := by decide +kernel
theorem dX6_readLetters_44 : decode cX6_readLetters 44 = .ok (.aload_n 0, 1) := by decide +kernel
theorem dX6_readLetters_45 : decode cX6_readLetters 45 = .ok (.aload_n 0, 1) := by decide +kernel
theorem dX6_readLetters_46 : decode cX6_readLetters 46 = .ok (.getfield 25, 3) := by decide +kernel
theorem dX6_readLetters_49 : decode cX6_readLetters 49 = .ok (.aload_n 0, 1) := by decide +kernel
theorem dX6_readLetters_50 : decode cX6_readLetters 50 = .ok (.getfield 22, 3) := by decide +kernel
theorem dX6_readLetters_53 : decode cX6_readLetters 53 = .ok (.isub, 1) := by decide +kernel
theorem dX6_readLetters_54 : decode cX6_readLetters 54 = .ok (.iconst 1, 1) := by decide +kernel
theorem dX6_readLetters_55 : decode cX6_readLetters 55 = .ok (.if_icmp .ne 15, 3) := by decide +kernel
theorem dX6_readLetters_58 : decode cX6_readLetters 58 = .ok (.aload_n 0, 1) := by decide +kernel
theorem dX6_readLetters_59 : decode cX6_readLetters 59 = .ok (.getfield 9, 3) := by decide +kernel
theorem dX6_readLetters_62 : decode cX6_readLetters 62 = .ok (.aload_n 0, 1) := by decide +kernel
theorem dX6_readLetters_63 : decode cX6_readLetters 63 = .ok (.getfield 22, 3) := by decide +kernel
theorem dX6_readLetters_66 : decode cX6_readLetters 66 = .ok (.iaload, 1) := by decide +kernel
theorem dX6_readLetters_67 : decode cX6_readLetters 67 = .ok (.goto 4, 3) := by decide +kernel
theorem dX6_readLetters_70 : decode cX6_readLetters 70 = .ok (.iconst 0, 1) := by decide +kernel
theorem dX6_readLetters_71 : decode cX6_readLetters 71 = .ok (.putfield 28, 3) := by decide +kernel
theorem dX6_readLetters_74 : decode cX6_readLetters 74 = .ok (.return_, 1) := by decide +kernel
theorem dX6_readNumber_0 : decode cX6_readNumber 0 = .ok (.aload_n 0, 1) := by decide +kernel
theorem dX6_readNumber_1 : decode cX6_readNumber 1 = .ok (.getfield 25, 3) := by decide +kernel
theorem dX6_readNumber_4 : decode cX6_readNumber 4 = .ok (.aload_n 0, 1) := by decide +kernel
theorem dX6_readNumber_5 : decode cX6_readNumber 5 = .ok (.getfield 15, 3) := by decide +kernel
theorem dX6_readNumber_8 : decode cX6_readNumber 8 = .ok (.if_icmp .ge 71, 3) := by decide +kernel
theorem dX6_readNumber_11 : decode cX6_readNumber 11 = .ok (.aload_n 0, 1) := by decide +kernel
theorem dX6_readNumber_12 : decode cX6_readNumber 12 = .ok (.getfield 9, 3) := by decide +kernel
theorem dX6_readNumber_15 : decode cX6_readNumber 15 = .ok (.aload_n 0, 1) := by decide +kernel
theorem dX6_readNumber_16 : decode cX6_readNumber 16 = .ok (.getfield 25, 3) := by decide +kernel
theorem dX6_readNumber_19 : decode cX6_readNumber 19 = .ok (.iaload, 1) := by decide +kernel
theorem dX6_readNumber_20 : decode cX6_readNumber 20 = .ok (.invokestatic 41, 3) := by decide +kernel
theorem dX6_readNumber_23 : decode cX6_readNumber 23 = .ok (.ifCond .eq 56, 3) := by decide +kernel
theorem dX6_readNumber_26 : decode cX6_readNumber 26 = .ok (.aload_n 0, 1) := by decide +kernel
theorem dX6_readNumber_27 : decode cX6_readNumber 27 = .ok (.aload_n 0, 1) := by decide +kernel
theorem dX6_readNumber_28 : decode cX6_readNumber 28 = .ok (.getfield 28, 3) := by decide +kernel
theorem dX6_readNumber_31 : decode cX6_readNumber 31 = .ok (.bipush 99, 2) := by decide +kernel
theorem dX6_readNumber_33 : decode cX6_readNumber 33 = .ok (.if_icmp .le 10, 3) := by decide +kernel
theorem dX6_readNumber_36 : decode cX6_readNumber 36 = .ok (.aload_n 0, 1) := by decide +kernel
theorem dX6_readNumber_37 : decode cX6_readNumber 37 = .ok (.getfield 28, 3) := by decide +kernel
theorem dX6_readNumber_40 : decode cX6_readNumber 40 = .ok (.goto 23, 3) := by decide +kernel
theorem dX6_readNumber_43 : decode cX6_readNumber 43 = .ok (.bipush 10, 2) := by decide +kernel
theorem dX6_readNumber_45 : decode cX6_readNumber 45 = .ok (.aload_n 0, 1) := by decide +kernel
theorem dX6_readNumber_46 : decode cX6_readNumber 46 = .ok (.getfield 28, 3) := by decide +kernel
theorem dX6_readNumber_49 : decode cX6_readNumber 49 = .ok (.imul, 1) := by decide +kernel
theorem dX6_readNumber_50 : decode cX6_readNumber 50 = .ok (.aload_n 0, 1) := by decide +kernel
theorem dX6_readNumber_51 : decode cX6_readNumber 51 = .ok (.getfield 9, 3) := by decide +kernel
theorem dX6_readNumber_54 : decode cX6_readNumber 54 = .ok (.aload_n 0, 1) := by decide +kernel
theorem dX6_readNumber_55 : decode cX6_readNumber 55 = .ok (.getfield 25, 3) := by decide +kernel
theorem dX6_readNumber_58 : decode cX6_readNumber 58 = .ok (.iaload, 1) := by decide +kernel
theorem dX6_readNumber_59 : decode cX6_readNumber 59 = .ok (.iadd, 1) := by decide +kernel
theorem dX6_readNumber_60 : decode cX6_readNumber 60 = .ok (.bipush 48, 2) := by decide +kernel
theorem dX6_readNumber_62 : decode cX6_readNumber 62 = .ok (.isub, 1) := by decide +kernel
theorem dX6_readNumber_63 : decode cX6_readNumber 63 = .ok (.putfield 28, 3) := by decide +kernel
theorem dX6_readNumber_66 : decode cX6_readNumber 66 = .ok (.aload_n 0, 1) := by decide +kernel
theorem dX6_readNumber_67 : decode cX6_readNumber 67 = .ok (.dup, 1) := by decide +kernel
theorem dX6_readNumber_68 : decode cX6_readNumber 68 = .ok (.getfield 25, 3) := by decide +kernel
theorem dX6_readNumber_71 : decode cX6_readNumber 71 = .ok (.iconst 1, 1) := by decide +kernel
theorem dX6_readNumber_72 : decode cX6_readNumber 72 = .ok (.iadd, 1) := by decide +kernel
theorem dX6_readNumber_73 : decode cX6_readNumber 73 = .ok (.putfield 25, 3) := by decide +kernel
theorem dX6_readNumber_76 : decode cX6_readNumber 76 = .ok (.goto (-76), 3) := by decide +kernel
theorem dX6_readNumber_79 : decode cX6_readNumber 79 = .ok (.aload_n 0, 1) := by decide +kernel
theorem dX6_readNumber_80 : decode cX6_readNumber 80 = .ok (.getfield 9, 3) := by decide +kernel
theorem dX6_readNumber_83 : decode cX6_readNumber 83 = .ok (.aload_n 0, 1) := by decide +kernel
theorem dX6_readNumber_84 : decode cX6_readNumber 84 = .ok (.getfield 22, 3) := by decide +kernel
theorem dX6_readNumber_87 : decode cX6_readNumber 87 = .ok (.iaload, 1) := by decide +kernel
theorem dX6_readNumber_88 : decode cX6_readNumber 88 = .ok (.bipush 48, 2) := by decide +kernel
theorem dX6_readNumber_90 : decode cX6_readNumber 90 = .ok (.if_icmp .ne 20, 3) := by decide +kernel
theorem dX6_readNumber_93 : decode cX6_readNumber 93 = .ok (.aload_n 0, 1) := by decide +kernel
theorem dX6_readNumber_94 : decode cX6_readNumber 94 = .ok (.getfield 25, 3) := by decide +kernel
theorem dX6_readNumber_97 : decode cX6_readNumber 97 = .ok (.aload_n 0, 1) := by decide +kernel
theorem dX6_readNumber_98 : decode cX6_readNumber 98 = .ok (.getfield 22, 3) := by decide +kernel
theorem dX6_readNumber_101 : decode cX6_readNumber 101 = .ok (.isub, 1) := by decide +kernel
theorem dX6_readNumber_102 : decode cX6_readNumber 102 = .ok (.iconst 1, 1) := by decide +kernel
theorem dX6_readNumber_103 : decode cX6_readNumber 103 = .ok (.if_icmp .le 7, 3) := by decide +kernel
theorem dX6_readNumber_106 : decode cX6_readNumber 106 = .ok (.iconst 1, 1) := by decide +kernel
theorem dX6_readNumber_107 : decode cX6_readNumber 107 = .ok (.goto 4, 3) := by decide +kernel
theorem dX6_readNumber_110 : decode cX6_readNumber 110 = .ok (.iconst 0, 1) := by decide +kernel
theorem dX6_readNumber_111 : decode cX6_readNumber 111 = .ok (.istore_n 1, 1) := by decide +kernel
theorem dX6_readNumber_112 : decode cX6_readNumber 112 = .ok (.aload_n 0, 1) := by decide +kernel
theorem dX6_readNumber_113 : decode cX6_readNumber 113 = .ok (.aload_n 0, 1) := by decide +kernel
theorem dX6_readNumber_114 : decode cX6_readNumber 114 = .ok (.getfield 28, 3) := by decide +kernel
theorem dX6_readNumber_117 : decode cX6_readNumber 117 = .ok (.bipush 99, 2) := by decide +kernel
theorem dX6_readNumber_119 : decode cX6_readNumber 119 = .ok (.if_icmp .gt 7, 3) := by decide +kernel
theorem dX6_readNumber_122 : decode cX6_readNumber 122 = .ok (.iload_n 1, 1) := by decide +kernel
theorem dX6_readNumber_123 : decode cX6_readNumber 123 = .ok (.ifCond .eq 7, 3) := by decide +kernel
theorem dX6_readNumber_126 : decode cX6_readNumber 126 = .ok (.iconst 4, 1) := by decide +kernel
theorem dX6_readNumber_127 : decode cX6_readNumber 127 = .ok (.goto 4, 3) := by decide +kernel
theorem dX6_readNumber_130 : decode cX6_readNumber 130 = .ok (.iconst 2, 1) := by decide +kernel
theorem dX6_readNumber_131 : decode cX6_readNumber 131 = .ok (.putfield 19, 3) := by decide +kernel
theorem dX6_readNumber_134 : decode cX6_readNumber 134 = .ok (.return_, 1) := by decide +kernel
theorem dX6_isLetter_0 : decode cX6_isLetter 0 = .ok (.iload_n 0, 1) := by decide +kernel
theorem dX6_isLetter_1 : decode cX6_isLetter 1 = .ok (.bipush 97, 2) := by decide +kernel
theorem dX6_isLetter_3 : decode cX6_isLetter 3 = .ok (.if_icmp .lt 13, 3) := by decide +kernel
theorem dX6_isLetter_6 : decode cX6_isLetter 6 = .ok (.iload_n 0, 1) := by decide +kernel
theorem dX6_isLetter_7 : decode cX6_isLetter 7 = .ok (.bipush 122, 2) := by decide +kernel
theorem dX6_isLetter_9 : decode cX6_isLetter 9 = .ok (.if_icmp .gt 7, 3) := by decide +kernel
theorem dX6_isLetter_12 : decode cX6_isLetter 12 = .ok (.iconst 1, 1) := by decide +kernel
theorem dX6_isLetter_13 : decode cX6_isLetter 13 = .ok (.goto 4, 3) := by decide +kernel
theorem dX6_isLetter_16 : decode cX6_isLetter 16 = .ok (.iconst 0, 1) := by decide +kernel
theorem dX6_isLetter_17 : decode cX6_isLetter 17 = .ok (.ireturn, 1) := by decide +kernel
theorem dX6_isDigit_0 : decode cX6_isDigit 0 = .ok (.iload_n 0, 1) := by decide +kernel
theorem dX6_isDigit_1 : decode cX6_isDigit 1 = .ok (.bipush 48, 2) := by decide +kernel
theorem dX6_isDigit_3 : decode cX6_isDigit 3 = .ok (.if_icmp .lt 13, 3) := by decide +kernel
theorem dX6_isDigit_6 : decode cX6_isDigit 6 = .ok (.iload_n 0, 1) := by decide +kernel
theorem dX6_isDigit_7 : decode cX6_isDigit 7 = .ok (.bipush 57, 2) := by decide +kernel
theorem dX6_isDigit_9 : decode cX6_isDigit 9 = .ok (.if_icmp .gt 7, 3) := by decide +kernel
theorem dX6_isDigit_12 : decode cX6_isDigit 12 = .ok (.iconst 1, 1) := by decide +kernel
theorem dX6_isDigit_13 : decode cX6_isDigit 13 = .ok (.goto 4, 3) := by decide +kernel
theorem dX6_isDigit_16 : decode cX6_isDigit 16 = .ok (.iconst 0, 1) := by decide +kernel
theorem dX6_isDigit_17 : decode cX6_isDigit 17 = .ok (.ireturn, 1) := by decide +kernel
theorem dX7_init_0 : decode cX7_init 0 = .ok (.aload_n 0, 1) := by decide +kernel
theorem dX7_init_1 : decode cX7_init 1 = .ok (.invokespecial 3, 3) := by decide +kernel
theorem dX7_init_4 : decode cX7_init 4 = .ok (.aload_n 0, 1) := by decide +kernel
theorem dX7_init_5 : decode cX7_init 5 = .ok (.iconst 0, 1) := by decide +kernel
theorem dX7_init_6 : decode cX7_init 6 = .ok (.putfield 9, 3) := by decide +kernel
theorem dX7_init_9 : decode cX7_init 9 = .ok (.aload_n 0, 1) := by decide +kernel
theorem dX7_init_10 : decode cX7_init 10 = .ok (.iconst 0, 1) := by decide +kernel
theorem dX7_init_11 : decode cX7_init 11 = .ok (.putfield 15, 3) := by decide +kernel
theorem dX7_init_14 : decode cX7_init 14 = .ok (.aload_n 0, 1) := by decide +kernel
theorem dX7_init_15 : decode cX7_init 15 = .ok (.iconst 0, 1) := by decide +kernel
theorem dX7_init_16 : decode cX7_init 16 = .ok (.putfield 18, 3) := by decide +kernel
theorem dX7_init_19 : decode cX7_init 19 = .ok (.aload_n 0, 1) := by decide +kernel
theorem dX7_init_20 : decode cX7_init 20 = .ok (.bipush 7, 2) := by decide +kernel
theorem dX7_init_22 : decode cX7_init 22 = .ok (.newarray .int, 2) := by decide +kernel
theorem dX7_init_24 : decode cX7_init 24 = .ok (.putfield 21, 3) := by decide +kernel
theorem dX7_init_27 : decode cX7_init 27 = .ok (.aload_n 0, 1) := by decide +kernel
theorem dX7_init_28 : decode cX7_init 28 = .ok (.iconst 4, 1) := by decide +kernel
theorem dX7_init_29 : decode cX7_init 29 = .ok (.newarray .int, 2) := by decide +kernel
theorem dX7_init_31 : decode cX7_init 31 = .ok (.putfield 25, 3) := by decide +kernel
theorem dX7_init_34 : decode cX7_init 34 = .ok (.aload_n 0, 1) := by decide +kernel
theorem dX7_init_35 : decode cX7_init 35 = .ok (.iconst 0, 1) := by decide +kernel
theorem dX7_init_36 : decode cX7_init 36 = .ok (.putfield 28, 3) := by decide +kernel
theorem dX7_init_39 : decode cX7_init 39 = .ok (.aload_n 0, 1) := by decide +kernel
theorem dX7_init_40 : decode cX7_init 40 = .ok (.aload_n 1, 1) := by decide +kernel
theorem dX7_init_41 : decode cX7_init 41 = .ok (.putfield 31, 3) := by decide +kernel
theorem dX7_init_44 : decode cX7_init 44 = .ok (.aload_n 0, 1) := by decide +kernel
theorem dX7_init_45 : decode cX7_init 45 = .ok (.new 35, 3) := by decide +kernel
theorem dX7_init_48 : decode cX7_init 48 = .ok (.dup, 1) := by decide +kernel
theorem dX7_init_49 : decode cX7_init 49 = .ok (.aload_n 1, 1) := by decide +kernel
theorem dX7_init_50 : decode cX7_init 50 = .ok (.invokespecial 37, 3) := by decide +kernel
theorem dX7_init_53 : decode cX7_init 53 = .ok (.putfield 40, 3) := by decide +kernel
theorem dX7_init_56 : decode cX7_init 56 = .ok (.return_, 1) := by decide +kernel
theorem dX7_wake_0 : decode cX7_wake 0 = .ok (.aload_n 1, 1) := by decide +kernel
theorem dX7_wake_1 : decode cX7_wake 1 = .ok (.invokevirtual 44, 3) := by decide +kernel
theorem dX7_wake_4 : decode cX7_wake 4 = .ok (.ifCond .ne 5, 3) := by decide +kernel
theorem dX7_wake_7 : decode cX7_wake 7 = .ok (.iconst 0, 1) := by decide +kernel
theorem dX7_wake_8 : decode cX7_wake 8 = .ok (.ireturn, 1) := by decide +kernel
theorem dX7_wake_9 : decode cX7_wake 9 = .ok (.aload_n 0, 1) := by decide +kernel
theorem dX7_wake_10 : decode cX7_wake 10 = .ok (.getfield 40, 3) := by decide +kernel
theorem dX7_wake_13 : decode cX7_wake 13 = .ok (.aload_n 1, 1) := by decide +kernel
theorem dX7_wake_14 : decode cX7_wake 14 = .ok (.invokevirtual 48, 3) := by decide +kernel
theorem dX7_wake_17 : decode cX7_wake 17 = .ok (.aload_n 0, 1) := by decide +kernel
theorem dX7_wake_18 : decode cX7_wake 18 = .ok (.getfield 31, 3) := by decide +kernel
theorem dX7_wake_21 : decode cX7_wake 21 = .ok (.aload_n 0, 1) := by decide +kernel
theorem dX7_wake_22 : decode cX7_wake 22 = .ok (.getfield 40, 3) := by decide +kernel
theorem dX7_wake_25 : decode cX7_wake 25 = .ok (.getfield 52, 3) := by decide +kernel
theorem dX7_wake_28 : decode cX7_wake 28 = .ok (.invokevirtual 55, 3) := by decide +kernel
theorem dX7_wake_31 : decode cX7_wake 31 = .ok (.ifCond .eq 10, 3) := by decide +kernel
theorem dX7_wake_34 : decode cX7_wake 34 = .ok (.aload_n 0, 1) := by decide +kernel
theorem dX7_wake_35 : decode cX7_wake 35 = .ok (.getfield 40, 3) := by decide +kernel
theorem dX7_wake_38 : decode cX7_wake 38 = .ok (.invokevirtual 61, 3) := by decide +kernel
theorem dX7_wake_41 : decode cX7_wake 41 = .ok (.aload_n 0, 1) := by decide +kernel
theorem dX7_wake_42 : decode cX7_wake 42 = .ok (.aload_n 0, 1) := by decide +kernel
theorem dX7_wake_43 : decode cX7_wake 43 = .ok (.getfield 31, 3) := by decide +kernel
theorem dX7_wake_46 : decode cX7_wake 46 = .ok (.getfield 64, 3) := by decide +kernel
theorem dX7_wake_49 : decode cX7_wake 49 = .ok (.aload_n 0, 1) := by decide +kernel
theorem dX7_wake_50 : decode cX7_wake 50 = .ok (.getfield 40, 3) := by decide +kernel
theorem dX7_wake_53 : decode cX7_wake 53 = .ok (.getfield 52, 3) := by decide +kernel
theorem dX7_wake_56 : decode cX7_wake 56 = .ok (.iaload, 1) := by decide +kernel
theorem dX7_wake_57 : decode cX7_wake 57 = .ok (.putfield 9, 3) := by decide +kernel
theorem dX7_wake_60 : decode cX7_wake 60 = .ok (.iconst 1, 1) := by decide +kernel
theorem dX7_wake_61 : decode cX7_wake 61 = .ok (.ireturn, 1) := by decide +kernel
theorem dX7_findSoonest_0 : decode cX7_findSoonest 0 = .ok (.aload_n 0, 1) := by decide +kernel
theorem dX7_findSoonest_1 : decode cX7_findSoonest 1 = .ok (.aload_n 1, 1) := by decide +kernel
theorem dX7_findSoonest_2 : decode cX7_findSoonest 2 = .ok (.invokevirtual 66, 3) := by decide +kernel
theorem dX7_findSoonest_5 : decode cX7_findSoonest 5 = .ok (.ifCond .ne 5, 3) := by decide +kernel
theorem dX7_findSoonest_8 : decode cX7_findSoonest 8 = .ok (.iconst 0, 1) := by decide +kernel
theorem dX7_findSoonest_9 : decode cX7_findSoonest 9 = .ok (.ireturn, 1) := by decide +kernel
theorem dX7_findSoonest_10 : decode cX7_findSoonest 10 = .ok (.aload_n 0, 1) := by decide +kernel
theorem dX7_findSoonest_11 : decode cX7_findSoonest 11 = .ok (.ldc 70, 2) := by decide +kernel
theorem dX7_findSoonest_13 : decode cX7_findSoonest 13 = .ok (.putfield 15, 3) := by decide +kernel
theorem dX7_findSoonest_16 : decode cX7_findSoonest 16 = .ok (.aload_n 0, 1) := by decide +kernel
theorem dX7_findSoonest_17 : decode cX7_findSoonest 17 = .ok (.ldc 70, 2) := by decide +kernel
theorem dX7_findSoonest_19 : decode cX7_findSoonest 19 = .ok (.putfield 18, 3) := by decide +kernel
theorem dX7_findSoonest_22 : decode cX7_findSoonest 22 = .ok (.aload_n 0, 1) := by decide +kernel
theorem dX7_findSoonest_23 : decode cX7_findSoonest 23 = .ok (.iconst 0, 1) := by decide +kernel
theorem dX7_findSoonest_24 : decode cX7_findSoonest 24 = .ok (.putfield 28, 3) := by decide +kernel
theorem dX7_findSoonest_27 : decode cX7_findSoonest 27 = .ok (.iconst 0, 1) := by decide +kernel
theorem dX7_findSoonest_28 : decode cX7_findSoonest 28 = .ok (.istore_n 2, 1) := by decide +kernel
theorem dX7_findSoonest_29 : decode cX7_findSoonest 29 = .ok (.iload_n 2, 1) := by decide +kernel
theorem dX7_findSoonest_30 : decode cX7_findSoonest 30 = .ok (.aload_n 0, 1) := by decide +kernel
theorem dX7_findSoonest_31 : decode cX7_findSoonest 31 = .ok (.getfield 31, 3) := by decide +kernel
theorem dX7_findSoonest_34 : decode cX7_findSoonest 34 = .ok (.getfield 71, 3) := by decide +kernel
theorem dX7_findSoonest_37 : decode cX7_findSoonest 37 = .ok (.if_icmp .ge 41, 3) := by decide +kernel
theorem dX7_findSoonest_40 : decode cX7_findSoonest 40 = .ok (.aload_n 0, 1) := by decide +kernel
theorem dX7_findSoonest_41 : decode cX7_findSoonest 41 = .ok (.dup, 1) := by decide +kernel
theorem dX7_findSoonest_42 : decode cX7_findSoonest 42 = .ok (.getfield 28, 3) := by decide +kernel
theorem dX7_findSoonest_45 : decode cX7_findSoonest 45 = .ok (.aload_n 0, 1) := by decide +kernel
theorem dX7_findSoonest_46 : decode cX7_findSoonest 46 = .ok (.getfield 40, 3) := by decide +kernel
theorem dX7_findSoonest_49 : decode cX7_findSoonest 49 = .ok (.iload_n 2, 1) := by decide +kernel
theorem dX7_findSoonest_50 : decode cX7_findSoonest 50 = .ok (.invokevirtual 74, 3) := by decide +kernel
theorem dX7_findSoonest_53 : decode cX7_findSoonest 53 = .ok (.ifCond .eq 14, 3) := by decide +kernel
theorem dX7_findSoonest_56 : decode cX7_findSoonest 56 = .ok (.aload_n 0, 1) := by decide +kernel
theorem dX7_findSoonest_57 : decode cX7_findSoonest 57 = .ok (.getfield 40, 3) := by decide +kernel
theorem dX7_findSoonest_60 : decode cX7_findSoonest 60 = .ok (.iload_n 2, 1) := by decide +kernel
theorem dX7_findSoonest_61 : decode cX7_findSoonest 61 = .ok (.invokevirtual 77, 3) := by decide +kernel
theorem dX7_findSoonest_64 : decode cX7_findSoonest 64 = .ok (.goto 4, 3) := by decide +kernel
theorem dX7_findSoonest_67 : decode cX7_findSoonest 67 = .ok (.iconst 0, 1) := by decide +kernel
theorem dX7_findSoonest_68 : decode cX7_findSoonest 68 = .ok (.iadd, 1) := by decide +kernel
theorem dX7_findSoonest_69 : decode cX7_findSoonest 69 = .ok (.putfield 28, 3) := by decide +kernel
theorem dX7_findSoonest_72 : decode cX7_findSoonest 72 = .ok (.iinc 2 1, 3) := by decide +kernel
theorem dX7_findSoonest_75 : decode cX7_findSoonest 75 = .ok (.goto (-46), 3) := by decide +kernel
theorem dX7_findSoonest_78 : decode cX7_findSoonest 78 = .ok (.iconst 0, 1) := by decide +kernel
theorem dX7_findSoonest_79 : decode cX7_findSoonest 79 = .ok (.istore_n 2, 1) := by decide +kernel
theorem dX7_findSoonest_80 : decode cX7_findSoonest 80 = .ok (.iconst 0, 1) := by decide +kernel
theorem dX7_findSoonest_81 : decode cX7_findSoonest 81 = .ok (.istore_n 3, 1) := by decide +kernel
theorem dX7_findSoonest_82 : decode cX7_findSoonest 82 = .ok (.iload_n 3, 1) := by decide +kernel
theorem dX7_findSoonest_83 : decode cX7_findSoonest 83 = .ok (.aload_n 0, 1) := by decide +kernel
theorem dX7_findSoonest_84 : decode cX7_findSoonest 84 = .ok (.getfield 31, 3) := by decide +kernel
theorem dX7_findSoonest_87 : decode cX7_findSoonest 87 = .ok (.getfield 81, 3) := by decide +kernel
theorem dX7_findSoonest_90 : decode cX7_findSoonest 90 = .ok (.if_icmp .ge 34, 3) := by decide +kernel
theorem dX7_findSoonest_93 : decode cX7_findSoonest 93 = .ok (.aload_n 0, 1) := by decide +kernel
theorem dX7_findSoonest_94 : decode cX7_findSoonest 94 = .ok (.getfield 25, 3) := by decide +kernel
theorem dX7_findSoonest_97 : decode cX7_findSoonest 97 = .ok (.iload_n 3, 1) := by decide +kernel
theorem dX7_findSoonest_98 : decode cX7_findSoonest 98 = .ok (.iconst 0, 1) := by decide +kernel
theorem dX7_findSoonest_99 : decode cX7_findSoonest 99 = .ok (.iastore, 1) := by decide +kernel
theorem dX7_findSoonest_100 : decode cX7_findSoonest 100 = .ok (.iload_n 2, 1) := by decide +kernel
theorem dX7_findSoonest_101 : decode cX7_findSoonest 101 = .ok (.aload_n 0, 1) := by decide +kernel
theorem dX7_findSoonest_102 : decode cX7_findSoonest 102 = .ok (.getfield 40, 3) := by decide +kernel
theorem dX7_findSoonest_105 : decode cX7_findSoonest 105 = .ok (.iload_n 3, 1) := by decide +kernel
theorem dX7_findSoonest_106 : decode cX7_findSoonest 106 = .ok (.iconst 0, 1) := by decide +kernel
theorem dX7_findSoonest_107 : decode cX7_findSoonest 107 = .ok (.aload_n 0, 1) := by decide +kernel
theorem dX7_findSoonest_108 : decode cX7_findSoonest 108 = .ok (.getfield 9, 3) := by decide +kernel
theorem dX7_findSoonest_111 : decode cX7_findSoonest 111 = .ok (.invokevirtual 84, 3) := by decide +kernel
theorem dX7_findSoonest_114 : decode cX7_findSoonest 114 = .ok (.invokestatic 88, 3) := by decide +kernel
theorem dX7_findSoonest_117 : decode cX7_findSoonest 117 = .ok (.istore_n 2, 1) := by decide +kernel
theorem dX7_findSoonest_118 : decode cX7_findSoonest 118 = .ok (.iinc 3 1, 3) := by decide +kernel
theorem dX7_findSoonest_121 : decode cX7_findSoonest 121 = .ok (.goto (-39), 3) := by decide +kernel
theorem dX7_findSoonest_124 : decode cX7_findSoonest 124 = .ok (.aload_n 0, 1) := by decide +kernel
theorem dX7_findSoonest_125 : decode cX7_findSoonest 125 = .ok (.iconst 0, 1) := by decide +kernel
theorem dX7_findSoonest_126 : decode cX7_findSoonest 126 = .ok (.iload_n 2, 1) := by decide +kernel
theorem dX7_findSoonest_127 : decode cX7_findSoonest 127 = .ok (.invokevirtual 94, 3) := by decide +kernel
theorem dX7_findSoonest_130 : decode cX7_findSoonest 130 = .ok (.iconst 1, 1) := by decide +kernel
theorem dX7_findSoonest_131 : decode cX7_findSoonest 131 = .ok (.ireturn, 1) := by decide +kernel
theorem dX7_place_0 : decode cX7_place 0 = .ok (.iload_n 1, 1) := by decide +kernel
theorem dX7_place_1 : decode cX7_place 1 = .ok (.aload_n 0, 1) := by decide +kernel
theorem dX7_place_2 : decode cX7_place 2 = .ok (.getfield 31, 3) := by decide +kernel
theorem dX7_place_5 : decode cX7_place 5 = .ok (.getfield 71, 3) := by decide +kernel
theorem dX7_place_8 : decode cX7_place 8 = .ok (.if_icmp .ge 9, 3) := by decide +kernel
theorem dX7_place_11 : decode cX7_place 11 = .ok (.iload_n 1, 1) := by decide +kernel
theorem dX7_place_12 : decode cX7_place 12 = .ok (.bipush 7, 2) := by decide +kernel
theorem dX7_place_14 : decode cX7_place 14 = .ok (.if_icmp .lt 9, 3) := by decide +kernel
theorem dX7_place_17 : decode cX7_place 17 = .ok (.aload_n 0, 1) := by decide +kernel
theorem dX7_place_18 : decode cX7_place 18 = .ok (.iload_n 2, 1) := by decide +kernel
theorem dX7_place_19 : decode cX7_place 19 = .ok (.invokevirtual 98, 3) := by decide +kernel
theorem dX7_place_22 : decode cX7_place 22 = .ok (.return_, 1) := by decide +kernel
theorem dX7_place_23 : decode cX7_place 23 = .ok (.aload_n 0, 1) := by decide +kernel
theorem dX7_place_24 : decode cX7_place 24 = .ok (.getfield 40, 3) := by decide +kernel
theorem dX7_place_27 : decode cX7_place 27 = .ok (.iload_n 1, 1) := by decide +kernel
theorem dX7_place_28 : decode cX7_place 28 = .ok (.invokevirtual 74, 3) := by decide +kernel
theorem dX7_place_31 : decode cX7_place 31 = .ok (.ifCond .ne 12, 3) := by decide +kernel
theorem dX7_place_34 : decode cX7_place 34 = .ok (.aload_n 0, 1) := by decide +kernel
theorem dX7_place_35 : decode cX7_place 35 = .ok (.iload_n 1, 1) := by decide +kernel
theorem dX7_place_36 : decode cX7_place 36 = .ok (.iconst 1, 1) := by decide +kernel
theorem dX7_place_37 : decode cX7_place 37 = .ok (.iadd, 1) := by decide +kernel
theorem dX7_place_38 : decode cX7_place 38 = .ok (.iload_n 2, 1) := by decide +kernel
theorem dX7_place_39 : decode cX7_place 39 = .ok (.invokevirtual 94, 3) := by decide +kernel
theorem dX7_place_42 : decode cX7_place 42 = .ok (.return_, 1) := by decide +kernel
theorem dX7_place_43 : decode cX7_place 43 = .ok (.aload_n 0, 1) := by decide +kernel
theorem dX7_place_44 : decode cX7_place 44 = .ok (.getfield 40, 3) := by decide +kernel
theorem dX7_place_47 : decode cX7_place 47 = .ok (.iload_n 1, 1) := by decide +kernel
theorem dX7_place_48 : decode cX7_place 48 = .ok (.invokevirtual 77, 3) := by decide +kernel
theorem dX7_place_51 : decode cX7_place 51 = .ok (.istore_n 3, 1) := by decide +kernel
theorem dX7_place_52 : decode cX7_place 52 = .ok (.iconst 0, 1) := by decide +kernel
theorem dX7_place_53 : decode cX7_place 53 = .ok (.istore 4, 2) := by decide +kernel
theorem dX7_place_55 : decode cX7_place 55 = .ok (.iload 4, 2) := by decide +kernel
theorem dX7_place_57 : decode cX7_place 57 = .ok (.aload_n 0, 1) := by decide +kernel
theorem dX7_place_58 : decode cX7_place 58 = .ok (.getfield 31, 3) := by decide +kernel
theorem dX7_place_61 : decode cX7_place 61 = .ok (.getfield 81, 3) := by decide +kernel
theorem dX7_place_64 : decode cX7_place 64 = .ok (.if_icmp .ge 93, 3) := by decide +kernel
theorem dX7_place_67 : decode cX7_place 67 = .ok (.aload_n 0, 1) := by decide +kernel
theorem dX7_place_68 : decode cX7_place 68 = .ok (.getfield 40, 3) := by decide +kernel
theorem dX7_place_71 : decode cX7_place 71 = .ok (.getfield 102, 3) := by decide +kernel
theorem dX7_place_74 : decode cX7_place 74 = .ok (.iload_n 1, 1) := by decide +kernel
theorem dX7_place_75 : decode cX7_place 75 = .ok (.iload 4, 2) := by decide +kernel
theorem dX7_place_77 : decode cX7_place 77 = .ok (.iastore, 1) := by decide +kernel
theorem dX7_place_78 : decode cX7_place 78 = .ok (.aload_n 0, 1) := by decide +kernel
theorem dX7_place_79 : decode cX7_place 79 = .ok (.getfield 25, 3) := by decide +kernel
theorem dX7_place_82 : decode cX7_place 82 = .ok (.iload 4, 2) := by decide +kernel
theorem dX7_place_84 : decode cX7_place 84 = .ok (.dup2, 1) := by decide +kernel
theorem dX7_place_85 : decode cX7_place 85 = .ok (.iaload, 1) := by decide +kernel
theorem dX7_place_86 : decode cX7_place 86 = .ok (.iload_n 3, 1) := by decide +kernel
theorem dX7_place_87 : decode cX7_place 87 = .ok (.iadd, 1) := by decide +kernel
theorem dX7_place_88 : decode cX7_place 88 = .ok (.iastore, 1) := by decide +kernel
theorem dX7_place_89 : decode cX7_place 89 = .ok (.iload_n 2, 1) := by decide +kernel
theorem dX7_place_90 : decode cX7_place 90 = .ok (.aload_n 0, 1) := by decide +kernel
theorem dX7_place_91 : decode cX7_place 91 = .ok (.getfield 40, 3) := by decide +kernel
theorem dX7_place_94 : decode cX7_place 94 = .ok (.iload 4, 2) := by decide +kernel
theorem dX7_place_96 : decode cX7_place 96 = .ok (.aload_n 0, 1) := by decide +kernel
theorem dX7_place_97 : decode cX7_place 97 = .ok (.getfield 25, 3) := by decide +kernel
theorem dX7_place_100 : decode cX7_place 100 = .ok (.iload 4, 2) := by decide +kernel
theorem dX7_place_102 : decode cX7_place 102 = .ok (.iaload, 1) := by decide +kernel
theorem dX7_place_103 : decode cX7_place 103 = .ok (.aload_n 0, 1) := by decide +kernel
theorem dX7_place_104 : decode cX7_place 104 = .ok (.getfield 9, 3) := by decide +kernel
theorem dX7_place_107 : decode cX7_place 107 = .ok (.invokevirtual 84, 3) := by decide +kernel
theorem dX7_place_110 : decode cX7_place 110 = .ok (.invokestatic 88, 3) := by decide +kernel
theorem dX7_place_113 : decode cX7_place 113 = .ok (.istore 5, 2) := by decide +kernel
theorem dX7_place_115 : decode cX7_place 115 = .ok (.aload_n 0, 1) := by decide +kernel
theorem dX7_place_116 : decode cX7_place 116 = .ok (.iload 5, 2) := by decide +kernel
theorem dX7_place_118 : decode cX7_place 118 = .ok (.aload_n 0, 1) := by decide +kernel
theorem dX7_place_119 : decode cX7_place 119 = .ok (.getfield 25, 3) := by decide +kernel
theorem dX7_place_122 : decode cX7_place 122 = .ok (.iload 4, 2) := by decide +kernel
theorem dX7_place_124 : decode cX7_place 124 = .ok (.iaload, 1) := by decide +kernel
theorem dX7_place_125 : decode cX7_place 125 = .ok (.invokevirtual 105, 3) := by decide +kernel
theorem dX7_place_128 : decode cX7_place 128 = .ok (.ifCond .eq 12, 3) := by decide +kernel
theorem dX7_place_131 : decode cX7_place 131 = .ok (.aload_n 0, 1) := by decide +kernel
theorem dX7_place_132 : decode cX7_place 132 = .ok (.iload_n 1, 1) := by decide +kernel
theorem dX7_place_133 : decode cX7_place 133 = .ok (.iconst 1, 1) := by decide +kernel
theorem dX7_place_134 : decode cX7_place 134 = .ok (.iadd, 1) := by decide +kernel
theorem dX7_place_135 : decode cX7_place 135 = .ok (.iload 5, 2) := by decide +kernel
theorem dX7_place_137 : decode cX7_place 137 = .ok (.invokevirtual 94, 3) := by decide +kernel
theorem dX7_place_140 : decode cX7_place 140 = .ok (.aload_n 0, 1) := by decide +kernel
theorem dX7_place_141 : decode cX7_place 141 = .ok (.getfield 25, 3) := by decide +kernel
theorem dX7_place_144 : decode cX7_place 144 = .ok (.iload 4, 2) := by decide +kernel
theorem dX7_place_146 : decode cX7_place 146 = .ok (.dup2, 1) := by decide +kernel
theorem dX7_place_147 : decode cX7_place 147 = .ok (.iaload, 1) := by decide +kernel
theorem dX7_place_148 : decode cX7_place 148 = .ok (.iload_n 3, 1) := by decide +kernel
theorem dX7_place_149 : decode cX7_place 149 = .ok (.isub, 1) := by decide +kernel
theorem dX7_place_150 : decode cX7_place 150 = .ok (.iastore, 1) := by decide +kernel
theorem dX7_place_151 : decode cX7_place 151 = .ok (.iinc 4 1, 3) := by decide +kernel
theorem dX7_place_154 : decode cX7_place 154 = .ok (.goto (-99), 3) := by decide +kernel
theorem dX7_place_157 : decode cX7_place 157 = .ok (.return_, 1) := by decide +kernel
theorem dX7_canBeBetter_0 : decode cX7_canBeBetter 0 = .ok (.iload_n 1, 1) := by decide +kernel
theorem dX7_canBeBetter_1 : decode cX7_canBeBetter 1 = .ok (.aload_n 0, 1) := by decide +kernel
theorem dX7_canBeBetter_2 : decode cX7_canBeBetter 2 = .ok (.getfield 15, 3) := by decide +kernel
theorem dX7_canBeBetter_5 : decode cX7_canBeBetter 5 = .ok (.if_icmp .lt 42, 3) := by decide +kernel
theorem dX7_canBeBetter_8 : decode cX7_canBeBetter 8 = .ok (.iload_n 1, 1) := by decide +kernel
theorem dX7_canBeBetter_9 : decode cX7_canBeBetter 9 = .ok (.aload_n 0, 1) := by decide +kernel
theorem dX7_canBeBetter_10 : decode cX7_canBeBetter 10 = .ok (.getfield 15, 3) := by decide +kernel
theorem dX7_canBeBetter_13 : decode cX7_canBeBetter 13 = .ok (.if_icmp .ne 38, 3) := by decide +kernel
theorem dX7_canBeBetter_16 : decode cX7_canBeBetter 16 = .ok (.aload_n 0, 1) := by decide +kernel
theorem dX7_canBeBetter_17 : decode cX7_canBeBetter 17 = .ok (.getfield 31, 3) := by decide +kernel
theorem dX7_canBeBetter_20 : decode cX7_canBeBetter 20 = .ok (.getfield 81, 3) := by decide +kernel
theorem dX7_canBeBetter_23 : decode cX7_canBeBetter 23 = .ok (.ifCond .le 28, 3) := by decide +kernel
theorem dX7_canBeBetter_26 : decode cX7_canBeBetter 26 = .ok (.iload_n 2, 1) := by decide +kernel
theorem dX7_canBeBetter_27 : decode cX7_canBeBetter 27 = .ok (.aload_n 0, 1) := by decide +kernel
theorem dX7_canBeBetter_28 : decode cX7_canBeBetter 28 = .ok (.getfield 28, 3) := by decide +kernel
theorem dX7_canBeBetter_31 : decode cX7_canBeBetter 31 = .ok (.aload_n 0, 1) := by decide +kernel
theorem dX7_canBeBetter_32 : decode cX7_canBeBetter 32 = .ok (.getfield 31, 3) := by decide +kernel
theorem dX7_canBeBetter_35 : decode cX7_canBeBetter 35 = .ok (.getfield 81, 3) := by decide +kernel
theorem dX7_canBeBetter_38 : decode cX7_canBeBetter 38 = .ok (.idiv, 1) := by decide +kernel
theorem dX7_canBeBetter_39 : decode cX7_canBeBetter 39 = .ok (.isub, 1) := by decide +kernel
theorem dX7_canBeBetter_40 : decode cX7_canBeBetter 40 = .ok (.aload_n 0, 1) := by decide +kernel
theorem dX7_canBeBetter_41 : decode cX7_canBeBetter 41 = .ok (.getfield 18, 3) := by decide +kernel
theorem dX7_canBeBetter_44 : decode cX7_canBeBetter 44 = .ok (.if_icmp .ge 7, 3) := by decide +kernel
theorem dX7_canBeBetter_47 : decode cX7_canBeBetter 47 = .ok (.iconst 1, 1) := by decide +kernel
theorem dX7_canBeBetter_48 : decode cX7_canBeBetter 48 = .ok (.goto 4, 3) := by decide +kernel
theorem dX7_canBeBetter_51 : decode cX7_canBeBetter 51 = .ok (.iconst 0, 1) := by decide +kernel
theorem dX7_canBeBetter_52 : decode cX7_canBeBetter 52 = .ok (.ireturn, 1) := by decide +kernel
theorem dX7_judge_0 : decode cX7_judge 0 = .ok (.iconst 0, 1) := by decide +kernel
theorem dX7_judge_1 : decode cX7_judge 1 = .ok (.istore_n 2, 1) := by decide +kernel
theorem dX7_judge_2 : decode cX7_judge 2 = .ok (.ldc 70, 2) := by decide +kernel
theorem dX7_judge_4 : decode cX7_judge 4 = .ok (.istore_n 3, 1) := by decide +kernel
theorem dX7_judge_5 : decode cX7_judge 5 = .ok (.iconst 0, 1) := by decide +kernel
theorem dX7_judge_6 : decode cX7_judge 6 = .ok (.istore 4, 2) := by decide +kernel
theorem dX7_judge_8 : decode cX7_judge 8 = .ok (.iload 4, 2) := by decide +kernel
theorem dX7_judge_10 : decode cX7_judge 10 = .ok (.aload_n 0, 1) := by decide +kernel
theorem dX7_judge_11 : decode cX7_judge 11 = .ok (.getfield 31, 3) := by decide +kernel
theorem dX7_judge_14 : decode cX7_judge 14 = .ok (.getfield 81, 3) := by decide +kernel
theorem dX7_judge_17 : decode cX7_judge 17 = .ok (.if_icmp .ge 33, 3) := by decide +kernel
theorem dX7_judge_20 : decode cX7_judge 20 = .ok (.iload_n 2, 1) := by decide +kernel
theorem dX7_judge_21 : decode cX7_judge 21 = .ok (.aload_n 0, 1) := by decide +kernel
theorem dX7_judge_22 : decode cX7_judge 22 = .ok (.getfield 25, 3) := by decide +kernel
theorem dX7_judge_25 : decode cX7_judge 25 = .ok (.iload 4, 2) := by decide +kernel
theorem dX7_judge_27 : decode cX7_judge 27 = .ok (.iaload, 1) := by decide +kernel
theorem dX7_judge_28 : decode cX7_judge 28 = .ok (.invokestatic 88, 3) := by decide +kernel
theorem dX7_judge_31 : decode cX7_judge 31 = .ok (.istore_n 2, 1) := by decide +kernel
theorem dX7_judge_32 : decode cX7_judge 32 = .ok (.iload_n 3, 1) := by decide +kernel
theorem dX7_judge_33 : decode cX7_judge 33 = .ok (.aload_n 0, 1) := by decide +kernel
theorem dX7_judge_34 : decode cX7_judge 34 = .ok (.getfield 25, 3) := by decide +kernel
theorem dX7_judge_37 : decode cX7_judge 37 = .ok (.iload 4, 2) := by decide +kernel
theorem dX7_judge_39 : decode cX7_judge 39 = .ok (.iaload, 1) := by decide +kernel
theorem dX7_judge_40 : decode cX7_judge 40 = .ok (.invokestatic 109, 3) := by decide +kernel
theorem dX7_judge_43 : decode cX7_judge 43 = .ok (.istore_n 3, 1) := by decide +kernel
theorem dX7_judge_44 : decode cX7_judge 44 = .ok (.iinc 4 1, 3) := by decide +kernel
theorem dX7_judge_47 : decode cX7_judge 47 = .ok (.goto (-39), 3) := by decide +kernel
theorem dX7_judge_50 : decode cX7_judge 50 = .ok (.iload_n 1, 1) := by decide +kernel
theorem dX7_judge_51 : decode cX7_judge 51 = .ok (.aload_n 0, 1) := by decide +kernel
theorem dX7_judge_52 : decode cX7_judge 52 = .ok (.getfield 15, 3) := by decide +kernel
theorem dX7_judge_55 : decode cX7_judge 55 = .ok (.if_icmp .lt 21, 3) := by decide +kernel
theorem dX7_judge_58 : decode cX7_judge 58 = .ok (.iload_n 1, 1) := by decide +kernel
theorem dX7_judge_59 : decode cX7_judge 59 = .ok (.aload_n 0, 1) := by decide +kernel
theorem dX7_judge_60 : decode cX7_judge 60 = .ok (.getfield 15, 3) := by decide +kernel
theorem dX7_judge_63 : decode cX7_judge 63 = .ok (.if_icmp .ne 43, 3) := by decide +kernel
theorem dX7_judge_66 : decode cX7_judge 66 = .ok (.iload_n 2, 1) := by decide +kernel
theorem dX7_judge_67 : decode cX7_judge 67 = .ok (.iload_n 3, 1) := by decide +kernel
theorem dX7_judge_68 : decode cX7_judge 68 = .ok (.isub, 1) := by decide +kernel
theorem dX7_judge_69 : decode cX7_judge 69 = .ok (.aload_n 0, 1) := by decide +kernel
theorem dX7_judge_70 : decode cX7_judge 70 = .ok (.getfield 18, 3) := by decide +kernel
theorem dX7_judge_73 : decode cX7_judge 73 = .ok (.if_icmp .ge 33, 3) := by decide +kernel
theorem dX7_judge_76 : decode cX7_judge 76 = .ok (.aload_n 0, 1) := by decide +kernel
theorem dX7_judge_77 : decode cX7_judge 77 = .ok (.iload_n 1, 1) := by decide +kernel
theorem dX7_judge_78 : decode cX7_judge 78 = .ok (.putfield 15, 3) := by decide +kernel
theorem dX7_judge_81 : decode cX7_judge 81 = .ok (.aload_n 0, 1) := by decide +kernel
theorem dX7_judge_82 : decode cX7_judge 82 = .ok (.iload_n 2, 1) := by decide +kernel
theorem dX7_judge_83 : decode cX7_judge 83 = .ok (.iload_n 3, 1) := by decide +kernel
theorem dX7_judge_84 : decode cX7_judge 84 = .ok (.isub, 1) := by decide +kernel
theorem dX7_judge_85 : decode cX7_judge 85 = .ok (.putfield 18, 3) := by decide +kernel
theorem dX7_judge_88 : decode cX7_judge 88 = .ok (.aload_n 0, 1) := by decide +kernel
theorem dX7_judge_89 : decode cX7_judge 89 = .ok (.getfield 40, 3) := by decide +kernel
theorem dX7_judge_92 : decode cX7_judge 92 = .ok (.getfield 102, 3) := by decide +kernel
theorem dX7_judge_95 : decode cX7_judge 95 = .ok (.iconst 0, 1) := by decide +kernel
theorem dX7_judge_96 : decode cX7_judge 96 = .ok (.aload_n 0, 1) := by decide +kernel
theorem dX7_judge_97 : decode cX7_judge 97 = .ok (.getfield 21, 3) := by decide +kernel
theorem dX7_judge_100 : decode cX7_judge 100 = .ok (.iconst 0, 1) := by decide +kernel
theorem dX7_judge_101 : decode cX7_judge 101 = .ok (.bipush 7, 2) := by decide +kernel
theorem dX7_judge_103 : decode cX7_judge 103 = .ok (.invokestatic 112, 3) := by decide +kernel
theorem dX7_judge_106 : decode cX7_judge 106 = .ok (.return_, 1) := by decide +kernel
theorem dX7_bestGift_0 : decode cX7_bestGift 0 = .ok (.aload_n 0, 1) := by decide +kernel
theorem dX7_bestGift_1 : decode cX7_bestGift 1 = .ok (.aload_n 1, 1) := by decide +kernel
theorem dX7_bestGift_2 : decode cX7_bestGift 2 = .ok (.invokevirtual 66, 3) := by decide +kernel
theorem dX7_bestGift_5 : decode cX7_bestGift 5 = .ok (.ifCond .ne 6, 3) := by decide +kernel
theorem dX7_bestGift_8 : decode cX7_bestGift 8 = .ok (.bipush (-9), 2) := by decide +kernel
theorem dX7_bestGift_10 : decode cX7_bestGift 10 = .ok (.ireturn, 1) := by decide +kernel
theorem dX7_bestGift_11 : decode cX7_bestGift 11 = .ok (.aload_n 0, 1) := by decide +kernel
theorem dX7_bestGift_12 : decode cX7_bestGift 12 = .ok (.getfield 40, 3) := by decide +kernel
theorem dX7_bestGift_15 : decode cX7_bestGift 15 = .ok (.aload_n 0, 1) := by decide +kernel
theorem dX7_bestGift_16 : decode cX7_bestGift 16 = .ok (.getfield 9, 3) := by decide +kernel
theorem dX7_bestGift_19 : decode cX7_bestGift 19 = .ok (.invokevirtual 118, 3) := by decide +kernel
theorem dX7_bestGift_22 : decode cX7_bestGift 22 = .ok (.istore_n 2, 1) := by decide +kernel
theorem dX7_bestGift_23 : decode cX7_bestGift 23 = .ok (.bipush (-9), 2) := by decide +kernel
theorem dX7_bestGift_25 : decode cX7_bestGift 25 = .ok (.istore_n 3, 1) := by decide +kernel
theorem dX7_bestGift_26 : decode cX7_bestGift 26 = .ok (.iconst 0, 1) := by decide +kernel
theorem dX7_bestGift_27 : decode cX7_bestGift 27 = .ok (.istore 4, 2) := by decide +kernel
theorem dX7_bestGift_29 : decode cX7_bestGift 29 = .ok (.iload 4, 2) := by decide +kernel
theorem dX7_bestGift_31 : decode cX7_bestGift 31 = .ok (.aload_n 0, 1) := by decide +kernel
theorem dX7_bestGift_32 : decode cX7_bestGift 32 = .ok (.getfield 31, 3) := by decide +kernel
theorem dX7_bestGift_35 : decode cX7_bestGift 35 = .ok (.getfield 71, 3) := by decide +kernel
theorem dX7_bestGift_38 : decode cX7_bestGift 38 = .ok (.if_icmp .ge 101, 3) := by decide +kernel
theorem dX7_bestGift_41 : decode cX7_bestGift 41 = .ok (.iconst 0, 1) := by decide +kernel
theorem dX7_bestGift_42 : decode cX7_bestGift 42 = .ok (.istore 5, 2) := by decide +kernel
theorem dX7_bestGift_44 : decode cX7_bestGift 44 = .ok (.iload 5, 2) := by decide +kernel
theorem dX7_bestGift_46 : decode cX7_bestGift 46 = .ok (.aload_n 0, 1) := by decide +kernel
theorem dX7_bestGift_47 : decode cX7_bestGift 47 = .ok (.getfield 31, 3) := by decide +kernel
theorem dX7_bestGift_50 : decode cX7_bestGift 50 = .ok (.getfield 81, 3) := by decide +kernel
theorem dX7_bestGift_53 : decode cX7_bestGift 53 = .ok (.if_icmp .ge 63, 3) := by decide +kernel
theorem dX7_bestGift_56 : decode cX7_bestGift 56 = .ok (.aload_n 1, 1) := by decide +kernel
theorem dX7_bestGift_57 : decode cX7_bestGift 57 = .ok (.iload 4, 2) := by decide +kernel
theorem dX7_bestGift_59 : decode cX7_bestGift 59 = .ok (.iload 5, 2) := by decide +kernel
theorem dX7_bestGift_61 : decode cX7_bestGift 61 = .ok (.invokevirtual 121, 3) := by decide +kernel
theorem dX7_bestGift_64 : decode cX7_bestGift 64 = .ok (.ifCond .eq 46, 3) := by decide +kernel
theorem dX7_bestGift_67 : decode cX7_bestGift 67 = .ok (.aload_n 0, 1) := by decide +kernel
theorem dX7_bestGift_68 : decode cX7_bestGift 68 = .ok (.getfield 40, 3) := by decide +kernel
theorem dX7_bestGift_71 : decode cX7_bestGift 71 = .ok (.getfield 102, 3) := by decide +kernel
theorem dX7_bestGift_74 : decode cX7_bestGift 74 = .ok (.iload 4, 2) := by decide +kernel
theorem dX7_bestGift_76 : decode cX7_bestGift 76 = .ok (.iload 5, 2) := by decide +kernel
theorem dX7_bestGift_78 : decode cX7_bestGift 78 = .ok (.iastore, 1) := by decide +kernel
theorem dX7_bestGift_79 : decode cX7_bestGift 79 = .ok (.aload_n 0, 1) := by decide +kernel
theorem dX7_bestGift_80 : decode cX7_bestGift 80 = .ok (.getfield 40, 3) := by decide +kernel
theorem dX7_bestGift_83 : decode cX7_bestGift 83 = .ok (.aload_n 0, 1) := by decide +kernel
theorem dX7_bestGift_84 : decode cX7_bestGift 84 = .ok (.getfield 9, 3) := by decide +kernel
theorem dX7_bestGift_87 : decode cX7_bestGift 87 = .ok (.invokevirtual 118, 3) := by decide +kernel
theorem dX7_bestGift_90 : decode cX7_bestGift 90 = .ok (.istore 6, 2) := by decide +kernel
theorem dX7_bestGift_92 : decode cX7_bestGift 92 = .ok (.iload 6, 2) := by decide +kernel
theorem dX7_bestGift_94 : decode cX7_bestGift 94 = .ok (.iload_n 2, 1) := by decide +kernel
theorem dX7_bestGift_95 : decode cX7_bestGift 95 = .ok (.if_icmp .ge 15, 3) := by decide +kernel
theorem dX7_bestGift_98 : decode cX7_bestGift 98 = .ok (.iload 6, 2) := by decide +kernel
theorem dX7_bestGift_100 : decode cX7_bestGift 100 = .ok (.istore_n 2, 1) := by decide +kernel
theorem dX7_bestGift_101 : decode cX7_bestGift 101 = .ok (.bipush 10, 2) := by decide +kernel
theorem dX7_bestGift_103 : decode cX7_bestGift 103 = .ok (.iload 4, 2) := by decide +kernel
theorem dX7_bestGift_105 : decode cX7_bestGift 105 = .ok (.imul, 1) := by decide +kernel
theorem dX7_bestGift_106 : decode cX7_bestGift 106 = .ok (.iload 5, 2) := by decide +kernel
theorem dX7_bestGift_108 : decode cX7_bestGift 108 = .ok (.iadd, 1) := by decide +kernel
theorem dX7_bestGift_109 : decode cX7_bestGift 109 = .ok (.istore_n 3, 1) := by decide +kernel
theorem dX7_bestGift_110 : decode cX7_bestGift 110 = .ok (.iinc 5 1, 3) := by decide +kernel
theorem dX7_bestGift_113 : decode cX7_bestGift 113 = .ok (.goto (-69), 3) := by decide +kernel
theorem dX7_bestGift_116 : decode cX7_bestGift 116 = .ok (.aload_n 0, 1) := by decide +kernel
theorem dX7_bestGift_117 : decode cX7_bestGift 117 = .ok (.getfield 40, 3) := by decide +kernel
theorem dX7_bestGift_120 : decode cX7_bestGift 120 = .ok (.getfield 102, 3) := by decide +kernel
theorem dX7_bestGift_123 : decode cX7_bestGift 123 = .ok (.iload 4, 2) := by decide +kernel
theorem dX7_bestGift_125 : decode cX7_bestGift 125 = .ok (.aload_n 1, 1) := by decide +kernel
theorem dX7_bestGift_126 : decode cX7_bestGift 126 = .ok (.getfield 102, 3) := by decide +kernel
theorem dX7_bestGift_129 : decode cX7_bestGift 129 = .ok (.iload 4, 2) := by decide +kernel
theorem dX7_bestGift_131 : decode cX7_bestGift 131 = .ok (.iaload, 1) := by decide +kernel
theorem dX7_bestGift_132 : decode cX7_bestGift 132 = .ok (.iastore, 1) := by decide +kernel
theorem dX7_bestGift_133 : decode cX7_bestGift 133 = .ok (.iinc 4 1, 3) := by decide +kernel
theorem dX7_bestGift_136 : decode cX7_bestGift 136 = .ok (.goto (-107), 3) := by decide +kernel
theorem dX7_bestGift_139 : decode cX7_bestGift 139 = .ok (.iload_n 3, 1) := by decide +kernel
theorem dX7_bestGift_140 : decode cX7_bestGift 140 = .ok (.ireturn, 1) := by decide +kernel
theorem dX7_lightestSet_0 : decode cX7_lightestSet 0 = .ok (.aload_n 0, 1) := by decide +kernel
theorem dX7_lightestSet_1 : decode cX7_lightestSet 1 = .ok (.aload_n 1, 1) := by decide +kernel
theorem dX7_lightestSet_2 : decode cX7_lightestSet 2 = .ok (.invokevirtual 66, 3) := by decide +kernel
theorem dX7_lightestSet_5 : decode cX7_lightestSet 5 = .ok (.ifCond .ne 6, 3) := by decide +kernel
theorem dX7_lightestSet_8 : decode cX7_lightestSet 8 = .ok (.bipush (-9), 2) := by decide +kernel
theorem dX7_lightestSet_10 : decode cX7_lightestSet 10 = .ok (.ireturn, 1) := by decide +kernel
theorem dX7_lightestSet_11 : decode cX7_lightestSet 11 = .ok (.ldc 70, 2) := by decide +kernel
theorem dX7_lightestSet_13 : decode cX7_lightestSet 13 = .ok (.istore_n 3, 1) := by decide +kernel
theorem dX7_lightestSet_14 : decode cX7_lightestSet 14 = .ok (.bipush (-9), 2) := by decide +kernel
theorem dX7_lightestSet_16 : decode cX7_lightestSet 16 = .ok (.istore 4, 2) := by decide +kernel
theorem dX7_lightestSet_18 : decode cX7_lightestSet 18 = .ok (.iconst 0, 1) := by decide +kernel
theorem dX7_lightestSet_19 : decode cX7_lightestSet 19 = .ok (.istore 5, 2) := by decide +kernel
theorem dX7_lightestSet_21 : decode cX7_lightestSet 21 = .ok (.iload 5, 2) := by decide +kernel
theorem dX7_lightestSet_23 : decode cX7_lightestSet 23 = .ok (.iconst 1, 1) := by decide +kernel
theorem dX7_lightestSet_24 : decode cX7_lightestSet 24 = .ok (.aload_n 0, 1) := by decide +kernel
theorem dX7_lightestSet_25 : decode cX7_lightestSet 25 = .ok (.getfield 31, 3) := by decide +kernel
theorem dX7_lightestSet_28 : decode cX7_lightestSet 28 = .ok (.getfield 71, 3) := by decide +kernel
theorem dX7_lightestSet_31 : decode cX7_lightestSet 31 = .ok (.ishl, 1) := by decide +kernel
theorem dX7_lightestSet_32 : decode cX7_lightestSet 32 = .ok (.if_icmp .ge 41, 3) := by decide +kernel
theorem dX7_lightestSet_35 : decode cX7_lightestSet 35 = .ok (.aload_n 1, 1) := by decide +kernel
theorem dX7_lightestSet_36 : decode cX7_lightestSet 36 = .ok (.iload 5, 2) := by decide +kernel
theorem dX7_lightestSet_38 : decode cX7_lightestSet 38 = .ok (.invokevirtual 124, 3) := by decide +kernel
theorem dX7_lightestSet_41 : decode cX7_lightestSet 41 = .ok (.istore 6, 2) := by decide +kernel
theorem dX7_lightestSet_43 : decode cX7_lightestSet 43 = .ok (.iload 6, 2) := by decide +kernel
theorem dX7_lightestSet_45 : decode cX7_lightestSet 45 = .ok (.iload_n 3, 1) := by decide +kernel
theorem dX7_lightestSet_46 : decode cX7_lightestSet 46 = .ok (.if_icmp .ge 21, 3) := by decide +kernel
theorem dX7_lightestSet_49 : decode cX7_lightestSet 49 = .ok (.aload_n 0, 1) := by decide +kernel
theorem dX7_lightestSet_50 : decode cX7_lightestSet 50 = .ok (.aload_n 1, 1) := by decide +kernel
theorem dX7_lightestSet_51 : decode cX7_lightestSet 51 = .ok (.iload 5, 2) := by decide +kernel
theorem dX7_lightestSet_53 : decode cX7_lightestSet 53 = .ok (.iload_n 2, 1) := by decide +kernel
theorem dX7_lightestSet_54 : decode cX7_lightestSet 54 = .ok (.invokevirtual 127, 3) := by decide +kernel
theorem dX7_lightestSet_57 : decode cX7_lightestSet 57 = .ok (.ifCond .eq 10, 3) := by decide +kernel
theorem dX7_lightestSet_60 : decode cX7_lightestSet 60 = .ok (.iload 6, 2) := by decide +kernel
theorem dX7_lightestSet_62 : decode cX7_lightestSet 62 = .ok (.istore_n 3, 1) := by decide +kernel
theorem dX7_lightestSet_63 : decode cX7_lightestSet 63 = .ok (.iload 5, 2) := by decide +kernel
theorem dX7_lightestSet_65 : decode cX7_lightestSet 65 = .ok (.istore 4, 2) := by decide +kernel
theorem dX7_lightestSet_67 : decode cX7_lightestSet 67 = .ok (.iinc 5 1, 3) := by decide +kernel
theorem dX7_lightestSet_70 : decode cX7_lightestSet 70 = .ok (.goto (-49), 3) := by decide +kernel
theorem dX7_lightestSet_73 : decode cX7_lightestSet 73 = .ok (.iload 4, 2) := by decide +kernel
theorem dX7_lightestSet_75 : decode cX7_lightestSet 75 = .ok (.ireturn, 1) := by decide +kernel
theorem dX7_isQuickWithout_0 : decode cX7_isQuickWithout 0 = .ok (.iconst 0, 1) := by decide +kernel
theorem dX7_isQuickWithout_1 : decode cX7_isQuickWithout 1 = .ok (.istore 4, 2) := by decide +kernel
theorem dX7_isQuickWithout_3 : decode cX7_isQuickWithout 3 = .ok (.iload 4, 2) := by decide +kernel
theorem dX7_isQuickWithout_5 : decode cX7_isQuickWithout 5 = .ok (.aload_n 0, 1) := by decide +kernel
theorem dX7_isQuickWithout_6 : decode cX7_isQuickWithout 6 = .ok (.getfield 31, 3) := by decide +kernel
theorem dX7_isQuickWithout_9 : decode cX7_isQuickWithout 9 = .ok (.getfield 71, 3) := by decide +kernel
theorem dX7_isQuickWithout_12 : decode cX7_isQuickWithout 12 = .ok (.if_icmp .ge 83, 3) := by decide +kernel
theorem dX7_isQuickWithout_15 : decode cX7_isQuickWithout 15 = .ok (.iload_n 2, 1) := by decide +kernel
theorem dX7_isQuickWithout_16 : decode cX7_isQuickWithout 16 = .ok (.iload 4, 2) := by decide +kernel
theorem dX7_isQuickWithout_18 : decode cX7_isQuickWithout 18 = .ok (.ishr, 1) := by decide +kernel
theorem dX7_isQuickWithout_19 : decode cX7_isQuickWithout 19 = .ok (.iconst 1, 1) := by decide +kernel
theorem dX7_isQuickWithout_20 : decode cX7_isQuickWithout 20 = .ok (.iand, 1) := by decide +kernel
theorem dX7_isQuickWithout_21 : decode cX7_isQuickWithout 21 = .ok (.iconst 1, 1) := by decide +kernel
theorem dX7_isQuickWithout_22 : decode cX7_isQuickWithout 22 = .ok (.if_icmp .ne 7, 3) := by decide +kernel
theorem dX7_isQuickWithout_25 : decode cX7_isQuickWithout 25 = .ok (.iconst 1, 1) := by decide +kernel
theorem dX7_isQuickWithout_26 : decode cX7_isQuickWithout 26 = .ok (.goto 4, 3) := by decide +kernel
theorem dX7_isQuickWithout_29 : decode cX7_isQuickWithout 29 = .ok (.iconst 0, 1) := by decide +kernel
theorem dX7_isQuickWithout_30 : decode cX7_isQuickWithout 30 = .ok (.istore 5, 2) := by decide +kernel
theorem dX7_isQuickWithout_32 : decode cX7_isQuickWithout 32 = .ok (.iload 5, 2) := by decide +kernel
theorem dX7_isQuickWithout_34 : decode cX7_isQuickWithout 34 = .ok (.ifCond .eq 28, 3) := by decide +kernel
theorem dX7_isQuickWithout_37 : decode cX7_isQuickWithout 37 = .ok (.aload_n 0, 1) := by decide +kernel
theorem dX7_isQuickWithout_38 : decode cX7_isQuickWithout 38 = .ok (.getfield 31, 3) := by decide +kernel
theorem dX7_isQuickWithout_41 : decode cX7_isQuickWithout 41 = .ok (.getfield 131, 3) := by decide +kernel
theorem dX7_isQuickWithout_44 : decode cX7_isQuickWithout 44 = .ok (.iload 4, 2) := by decide +kernel
theorem dX7_isQuickWithout_46 : decode cX7_isQuickWithout 46 = .ok (.iaload, 1) := by decide +kernel
theorem dX7_isQuickWithout_47 : decode cX7_isQuickWithout 47 = .ok (.iconst 1, 1) := by decide +kernel
theorem dX7_isQuickWithout_48 : decode cX7_isQuickWithout 48 = .ok (.if_icmp .eq 12, 3) := by decide +kernel
theorem dX7_isQuickWithout_51 : decode cX7_isQuickWithout 51 = .ok (.aload_n 1, 1) := by decide +kernel
theorem dX7_isQuickWithout_52 : decode cX7_isQuickWithout 52 = .ok (.iload 4, 2) := by decide +kernel
theorem dX7_isQuickWithout_54 : decode cX7_isQuickWithout 54 = .ok (.invokevirtual 74, 3) := by decide +kernel
theorem dX7_isQuickWithout_57 : decode cX7_isQuickWithout 57 = .ok (.ifCond .ne 5, 3) := by decide +kernel
theorem dX7_isQuickWithout_60 : decode cX7_isQuickWithout 60 = .ok (.iconst 0, 1) := by decide +kernel
theorem dX7_isQuickWithout_61 : decode cX7_isQuickWithout 61 = .ok (.ireturn, 1) := by decide +kernel
theorem dX7_isQuickWithout_62 : decode cX7_isQuickWithout 62 = .ok (.aload_n 0, 1) := by decide +kernel
theorem dX7_isQuickWithout_63 : decode cX7_isQuickWithout 63 = .ok (.getfield 40, 3) := by decide +kernel
theorem dX7_isQuickWithout_66 : decode cX7_isQuickWithout 66 = .ok (.getfield 102, 3) := by decide +kernel
theorem dX7_isQuickWithout_69 : decode cX7_isQuickWithout 69 = .ok (.iload 4, 2) := by decide +kernel
theorem dX7_isQuickWithout_71 : decode cX7_isQuickWithout 71 = .ok (.iload 5, 2) := by decide +kernel
theorem dX7_isQuickWithout_73 : decode cX7_isQuickWithout 73 = .ok (.ifCond .eq 8, 3) := by decide +kernel
theorem dX7_isQuickWithout_76 : decode cX7_isQuickWithout 76 = .ok (.bipush 9, 2) := by decide +kernel
theorem dX7_isQuickWithout_78 : decode cX7_isQuickWithout 78 = .ok (.goto 10, 3) := by decide +kernel
theorem dX7_isQuickWithout_81 : decode cX7_isQuickWithout 81 = .ok (.aload_n 1, 1) := by decide +kernel
theorem dX7_isQuickWithout_82 : decode cX7_isQuickWithout 82 = .ok (.getfield 102, 3) := by decide +kernel
theorem dX7_isQuickWithout_85 : decode cX7_isQuickWithout 85 = .ok (.iload 4, 2) := by decide +kernel
theorem dX7_isQuickWithout_87 : decode cX7_isQuickWithout 87 = .ok (.iaload, 1) := by decide +kernel
theorem dX7_isQuickWithout_88 : decode cX7_isQuickWithout 88 = .ok (.iastore, 1) := by decide +kernel
theorem dX7_isQuickWithout_89 : decode cX7_isQuickWithout 89 = .ok (.iinc 4 1, 3) := by decide +kernel
theorem dX7_isQuickWithout_92 : decode cX7_isQuickWithout 92 = .ok (.goto (-89), 3) := by decide +kernel
theorem dX7_isQuickWithout_95 : decode cX7_isQuickWithout 95 = .ok (.aload_n 0, 1) := by decide +kernel
theorem dX7_isQuickWithout_96 : decode cX7_isQuickWithout 96 = .ok (.getfield 40, 3) := by decide +kernel
theorem dX7_isQuickWithout_99 : decode cX7_isQuickWithout 99 = .ok (.aload_n 0, 1) := by decide +kernel
theorem dX7_isQuickWithout_100 : decode cX7_isQuickWithout 100 = .ok (.getfield 9, 3) := by decide +kernel
theorem dX7_isQuickWithout_103 : decode cX7_isQuickWithout 103 = .ok (.invokevirtual 118, 3) := by decide +kernel
theorem dX7_isQuickWithout_106 : decode cX7_isQuickWithout 106 = .ok (.iload_n 3, 1) := by decide +kernel
theorem dX7_isQuickWithout_107 : decode cX7_isQuickWithout 107 = .ok (.if_icmp .gt 7, 3) := by decide +kernel
theorem dX7_isQuickWithout_110 : decode cX7_isQuickWithout 110 = .ok (.iconst 1, 1) := by decide +kernel
theorem dX7_isQuickWithout_111 : decode cX7_isQuickWithout 111 = .ok (.goto 4, 3) := by decide +kernel
theorem dX7_isQuickWithout_114 : decode cX7_isQuickWithout 114 = .ok (.iconst 0, 1) := by decide +kernel
theorem dX7_isQuickWithout_115 : decode cX7_isQuickWithout 115 = .ok (.ireturn, 1) := by decide +kernel
theorem dX8_init_0 : decode cX8_init 0 = .ok (.aload_n 0, 1) := by decide +kernel
theorem dX8_init_1 : decode cX8_init 1 = .ok (.invokespecial 1, 3) := by decide +kernel
theorem dX8_init_4 : decode cX8_init 4 = .ok (.aload_n 0, 1) := by decide +kernel
theorem dX8_init_5 : decode cX8_init 5 = .ok (.new 7, 3) := by decide +kernel
theorem dX8_init_8 : decode cX8_init 8 = .ok (.dup, 1) := by decide +kernel
theorem dX8_init_9 : decode cX8_init 9 = .ok (.invokespecial 9, 3) := by decide +kernel
theorem dX8_init_12 : decode cX8_init 12 = .ok (.putfield 10, 3) := by decide +kernel
theorem dX8_init_15 : decode cX8_init 15 = .ok (.aload_n 0, 1) := by decide +kernel
theorem dX8_init_16 : decode cX8_init 16 = .ok (.new 16, 3) := by decide +kernel
theorem dX8_init_19 : decode cX8_init 19 = .ok (.dup, 1) := by decide +kernel
theorem dX8_init_20 : decode cX8_init 20 = .ok (.invokespecial 18, 3) := by decide +kernel
theorem dX8_init_23 : decode cX8_init 23 = .ok (.putfield 19, 3) := by decide +kernel
theorem dX8_init_26 : decode cX8_init 26 = .ok (.aload_n 0, 1) := by decide +kernel
theorem dX8_init_27 : decode cX8_init 27 = .ok (.new 23, 3) := by decide +kernel
theorem dX8_init_30 : decode cX8_init 30 = .ok (.dup, 1) := by decide +kernel
theorem dX8_init_31 : decode cX8_init 31 = .ok (.aload_n 0, 1) := by decide +kernel
theorem dX8_init_32 : decode cX8_init 32 = .ok (.getfield 10, 3) := by decide +kernel
theorem dX8_init_35 : decode cX8_init 35 = .ok (.invokespecial 25, 3) := by decide +kernel
theorem dX8_init_38 : decode cX8_init 38 = .ok (.putfield 28, 3) := by decide +kernel
theorem dX8_init_41 : decode cX8_init 41 = .ok (.aload_n 0, 1) := by decide +kernel
theorem dX8_init_42 : decode cX8_init 42 = .ok (.new 32, 3) := by decide +kernel
theorem dX8_init_45 : decode cX8_init 45 = .ok (.dup, 1) := by decide +kernel
theorem dX8_init_46 : decode cX8_init 46 = .ok (.aload_n 0, 1) := by decide +kernel
theorem dX8_init_47 : decode cX8_init 47 = .ok (.getfield 19, 3) := by decide +kernel
theorem dX8_init_50 : decode cX8_init 50 = .ok (.invokespecial 34, 3) := by decide +kernel
theorem dX8_init_53 : decode cX8_init 53 = .ok (.putfield 37, 3) := by decide +kernel
theorem dX8_init_56 : decode cX8_init 56 = .ok (.aload_n 0, 1) := by decide +kernel
theorem dX8_init_57 : decode cX8_init 57 = .ok (.aload_n 0, 1) := by decide +kernel
theorem dX8_init_58 : decode cX8_init 58 = .ok (.getfield 37, 3) := by decide +kernel
theorem dX8_init_61 : decode cX8_init 61 = .ok (.getfield 41, 3) := by decide +kernel
theorem dX8_init_64 : decode cX8_init 64 = .ok (.putfield 45, 3) := by decide +kernel
theorem dX8_init_67 : decode cX8_init 67 = .ok (.aload_n 0, 1) := by decide +kernel
theorem dX8_init_68 : decode cX8_init 68 = .ok (.iconst 2, 1) := by decide +kernel
theorem dX8_init_69 : decode cX8_init 69 = .ok (.anewarray 32, 3) := by decide +kernel
theorem dX8_init_72 : decode cX8_init 72 = .ok (.putfield 46, 3) := by decide +kernel
theorem dX8_init_75 : decode cX8_init 75 = .ok (.aload_n 0, 1) := by decide +kernel
theorem dX8_init_76 : decode cX8_init 76 = .ok (.iconst 2, 1) := by decide +kernel
theorem dX8_init_77 : decode cX8_init 77 = .ok (.newarray .boolean, 2) := by decide +kernel
theorem dX8_init_79 : decode cX8_init 79 = .ok (.putfield 50, 3) := by decide +kernel
theorem dX8_init_82 : decode cX8_init 82 = .ok (.aload_n 0, 1) := by decide +kernel
theorem dX8_init_83 : decode cX8_init 83 = .ok (.new 54, 3) := by decide +kernel
theorem dX8_init_86 : decode cX8_init 86 = .ok (.dup, 1) := by decide +kernel
theorem dX8_init_87 : decode cX8_init 87 = .ok (.aload_n 0, 1) := by decide +kernel
theorem dX8_init_88 : decode cX8_init 88 = .ok (.getfield 19, 3) := by decide +kernel
theorem dX8_init_91 : decode cX8_init 91 = .ok (.invokespecial 56, 3) := by decide +kernel
theorem dX8_init_94 : decode cX8_init 94 = .ok (.putfield 57, 3) := by decide +kernel
theorem dX8_init_97 : decode cX8_init 97 = .ok (.aload_n 0, 1) := by decide +kernel
theorem dX8_init_98 : decode cX8_init 98 = .ok (.new 61, 3) := by decide +kernel
theorem dX8_init_101 : decode cX8_init 101 = .ok (.dup, 1) := by decide +kernel
theorem dX8_init_102 : decode cX8_init 102 = .ok (.aload_n 0, 1) := by decide +kernel
theorem dX8_init_103 : decode cX8_init 103 = .ok (.getfield 19, 3) := by decide +kernel
theorem dX8_init_106 : decode cX8_init 106 = .ok (.invokespecial 63, 3) := by decide +kernel
theorem dX8_init_109 : decode cX8_init 109 = .ok (.putfield 64, 3) := by decide +kernel
theorem dX8_init_112 : decode cX8_init 112 = .ok (.aload_n 0, 1) := by decide +kernel
theorem dX8_init_113 : decode cX8_init 113 = .ok (.new 68, 3) := by decide +kernel
theorem dX8_init_116 : decode cX8_init 116 = .ok (.dup, 1) := by decide +kernel
theorem dX8_init_117 : decode cX8_init 117 = .ok (.aload_n 0, 1) := by decide +kernel
theorem dX8_init_118 : decode cX8_init 118 = .ok (.getfield 19, 3) := by decide +kernel
theorem dX8_init_121 : decode cX8_init 121 = .ok (.invokespecial 70, 3) := by decide +kernel
theorem dX8_init_124 : decode cX8_init 124 = .ok (.putfield 71, 3) := by decide +kernel
theorem dX8_init_127 : decode cX8_init 127 = .ok (.aload_n 0, 1) := by decide +kernel
theorem dX8_init_128 : decode cX8_init 128 = .ok (.lconst 0, 1) := by decide +kernel
theorem dX8_init_129 : decode cX8_init 129 = .ok (.putfield 75, 3) := by decide +kernel
theorem dX8_init_132 : decode cX8_init 132 = .ok (.iconst 0, 1) := by decide +kernel
theorem dX8_init_133 : decode cX8_init 133 = .ok (.istore_n 1, 1) := by decide +kernel
theorem dX8_init_134 : decode cX8_init 134 = .ok (.iload_n 1, 1) := by decide +kernel
theorem dX8_init_135 : decode cX8_init 135 = .ok (.iconst 2, 1) := by decide +kernel
theorem dX8_init_136 : decode cX8_init 136 = .ok (.if_icmp .ge 26, 3) := by decide +kernel
theorem dX8_init_139 : decode cX8_init 139 = .ok (.aload_n 0, 1) := by decide +kernel
theorem dX8_init_140 : decode cX8_init 140 = .ok (.getfield 46, 3) := by decide +kernel
theorem dX8_init_143 : decode cX8_init 143 = .ok (.iload_n 1, 1) := by decide +kernel
theorem dX8_init_144 : decode cX8_init 144 = .ok (.new 32, 3) := by decide +kernel
theorem dX8_init_147 : decode cX8_init 147 = .ok (.dup, 1) := by decide +kernel
theorem dX8_init_148 : decode cX8_init 148 = .ok (.aload_n 0, 1) := by decide +kernel
theorem dX8_init_149 : decode cX8_init 149 = .ok (.getfield 19, 3) := by decide +kernel
theorem dX8_init_152 : decode cX8_init 152 = .ok (.invokespecial 34, 3) := by decide +kernel
theorem dX8_init_155 : decode cX8_init 155 = .ok (.aastore, 1) := by decide +kernel
theorem dX8_init_156 : decode cX8_init 156 = .ok (.iinc 1 1, 3) := by decide +kernel
theorem dX8_init_159 : decode cX8_init 159 = .ok (.goto (-25), 3) := by decide +kernel
theorem dX8_init_162 : decode cX8_init 162 = .ok (.return_, 1) := by decide +kernel
theorem dX8_type_0 : decode cX8_type 0 = .ok (.iload_n 1, 1) := by decide +kernel
theorem dX8_type_1 : decode cX8_type 1 = .ok (.iconst 0, 1) := by decide +kernel
theorem dX8_type_2 : decode cX8_type 2 = .ok (.sipush 255, 3) := by decide +kernel
theorem dX8_type_5 : decode cX8_type 5 = .ok (.invokestatic 79, 3) := by decide +kernel
theorem dX8_type_8 : decode cX8_type 8 = .ok (.ifCond .ne 5, 3) := by decide +kernel
theorem dX8_type_11 : decode cX8_type 11 = .ok (.iconst (-1), 1) := by decide +kernel
theorem dX8_type_12 : decode cX8_type 12 = .ok (.ireturn, 1) := by decide +kernel
theorem dX8_type_13 : decode cX8_type 13 = .ok (.aload_n 0, 1) := by decide +kernel
theorem dX8_type_14 : decode cX8_type 14 = .ok (.getfield 10, 3) := by decide +kernel
theorem dX8_type_17 : decode cX8_type 17 = .ok (.iload_n 1, 1) := by decide +kernel
theorem dX8_type_18 : decode cX8_type 18 = .ok (.invokevirtual 83, 3) := by decide +kernel
theorem dX8_type_21 : decode cX8_type 21 = .ok (.ifCond .eq 13, 3) := by decide +kernel
theorem dX8_type_24 : decode cX8_type 24 = .ok (.aload_n 0, 1) := by decide +kernel
theorem dX8_type_25 : decode cX8_type 25 = .ok (.getfield 10, 3) := by decide +kernel
theorem dX8_type_28 : decode cX8_type 28 = .ok (.getfield 87, 3) := by decide +kernel
theorem dX8_type_31 : decode cX8_type 31 = .ok (.goto 5, 3) := by decide +kernel
theorem dX8_type_34 : decode cX8_type 34 = .ok (.bipush (-3), 2) := by decide +kernel
theorem dX8_type_36 : decode cX8_type 36 = .ok (.ireturn, 1) := by decide +kernel
theorem dX8_clear_0 : decode cX8_clear 0 = .ok (.aload_n 0, 1) := by decide +kernel
theorem dX8_clear_1 : decode cX8_clear 1 = .ok (.getfield 10, 3) := by decide +kernel
theorem dX8_clear_4 : decode cX8_clear 4 = .ok (.getfield 87, 3) := by decide +kernel
theorem dX8_clear_7 : decode cX8_clear 7 = .ok (.istore_n 1, 1) := by decide +kernel
theorem dX8_clear_8 : decode cX8_clear 8 = .ok (.aload_n 0, 1) := by decide +kernel
theorem dX8_clear_9 : decode cX8_clear 9 = .ok (.getfield 10, 3) := by decide +kernel
theorem dX8_clear_12 : decode cX8_clear 12 = .ok (.iconst 0, 1) := by decide +kernel
theorem dX8_clear_13 : decode cX8_clear 13 = .ok (.putfield 87, 3) := by decide +kernel
theorem dX8_clear_16 : decode cX8_clear 16 = .ok (.iload_n 1, 1) := by decide +kernel
theorem dX8_clear_17 : decode cX8_clear 17 = .ok (.ireturn, 1) := by decide +kernel
theorem dX8_way_0 : decode cX8_way 0 = .ok (.aload_n 0, 1) := by decide +kernel
theorem dX8_way_1 : decode cX8_way 1 = .ok (.getfield 28, 3) := by decide +kernel
theorem dX8_way_4 : decode cX8_way 4 = .ok (.invokevirtual 91, 3) := by decide +kernel
theorem dX8_way_7 : decode cX8_way 7 = .ok (.istore_n 1, 1) := by decide +kernel
theorem dX8_way_8 : decode cX8_way 8 = .ok (.iload_n 1, 1) := by decide +kernel
theorem dX8_way_9 : decode cX8_way 9 = .ok (.ifCond .ge 14, 3) := by decide +kernel
theorem dX8_way_12 : decode cX8_way 12 = .ok (.bipush (-10), 2) := by decide +kernel
theorem dX8_way_14 : decode cX8_way 14 = .ok (.aload_n 0, 1) := by decide +kernel
theorem dX8_way_15 : decode cX8_way 15 = .ok (.getfield 10, 3) := by decide +kernel
theorem dX8_way_18 : decode cX8_way 18 = .ok (.getfield 95, 3) := by decide +kernel
theorem dX8_way_21 : decode cX8_way 21 = .ok (.isub, 1) := by decide +kernel
theorem dX8_way_22 : decode cX8_way 22 = .ok (.ireturn, 1) := by decide +kernel
theorem dX8_way_23 : decode cX8_way 23 = .ok (.aload_n 0, 1) := by decide +kernel
theorem dX8_way_24 : decode cX8_way 24 = .ok (.getfield 19, 3) := by decide +kernel
theorem dX8_way_27 : decode cX8_way 27 = .ok (.aload_n 0, 1) := by decide +kernel
theorem dX8_way_28 : decode cX8_way 28 = .ok (.getfield 28, 3) := by decide +kernel
theorem dX8_way_31 : decode cX8_way 31 = .ok (.getfield 98, 3) := by decide +kernel
theorem dX8_way_34 : decode cX8_way 34 = .ok (.invokevirtual 101, 3) := by decide +kernel
theorem dX8_way_37 : decode cX8_way 37 = .ok (.aload_n 0, 1) := by decide +kernel
theorem dX8_way_38 : decode cX8_way 38 = .ok (.getfield 10, 3) := by decide +kernel
theorem dX8_way_41 : decode cX8_way 41 = .ok (.iconst 0, 1) := by decide +kernel
theorem dX8_way_42 : decode cX8_way 42 = .ok (.putfield 87, 3) := by decide +kernel
theorem dX8_way_45 : decode cX8_way 45 = .ok (.aload_n 0, 1) := by decide +kernel
theorem dX8_way_46 : decode cX8_way 46 = .ok (.getfield 37, 3) := by decide +kernel
theorem dX8_way_49 : decode cX8_way 49 = .ok (.invokevirtual 104, 3) := by decide +kernel
theorem dX8_way_52 : decode cX8_way 52 = .ok (.aload_n 0, 1) := by decide +kernel
theorem dX8_way_53 : decode cX8_way 53 = .ok (.getfield 71, 3) := by decide +kernel
theorem dX8_way_56 : decode cX8_way 56 = .ok (.iconst 0, 1) := by decide +kernel
theorem dX8_way_57 : decode cX8_way 57 = .ok (.putfield 107, 3) := by decide +kernel
theorem dX8_way_60 : decode cX8_way 60 = .ok (.iconst 0, 1) := by decide +kernel
theorem dX8_way_61 : decode cX8_way 61 = .ok (.istore_n 2, 1) := by decide +kernel
theorem dX8_way_62 : decode cX8_way 62 = .ok (.iload_n 2, 1) := by decide +kernel
theorem dX8_way_63 : decode cX8_way 63 = .ok (.iconst 2, 1) := by decide +kernel
theorem dX8_way_64 : decode cX8_way 64 = .ok (.if_icmp .ge 16, 3) := by decide +kernel
theorem dX8_way_67 : decode cX8_way 67 = .ok (.aload_n 0, 1) := by decide +kernel
theorem dX8_way_68 : decode cX8_way 68 = .ok (.getfield 50, 3) := by decide +kernel
theorem dX8_way_71 : decode cX8_way 71 = .ok (.iload_n 2, 1) := by decide +kernel
theorem dX8_way_72 : decode cX8_way 72 = .ok (.iconst 0, 1) := by decide +kernel
theorem dX8_way_73 : decode cX8_way 73 = .ok (.bastore, 1) := by decide +kernel
theorem dX8_way_74 : decode cX8_way 74 = .ok (.iinc 2 1, 3) := by decide +kernel
theorem dX8_way_77 : decode cX8_way 77 = .ok (.goto (-15), 3) := by decide +kernel
theorem dX8_way_80 : decode cX8_way 80 = .ok (.iload_n 1, 1) := by decide +kernel
theorem dX8_way_81 : decode cX8_way 81 = .ok (.ireturn, 1) := by decide +kernel
theorem dX8_walker_0 : decode cX8_walker 0 = .ok (.aload_n 0, 1) := by decide +kernel
theorem dX8_walker_1 : decode cX8_walker 1 = .ok (.iload_n 1, 1) := by decide +kernel
theorem dX8_walker_2 : decode cX8_walker 2 = .ok (.invokevirtual 110, 3) := by decide +kernel
theorem dX8_walker_5 : decode cX8_walker 5 = .ok (.ifCond .ne 5, 3) := by decide +kernel
theorem dX8_walker_8 : decode cX8_walker 8 = .ok (.iconst (-1), 1) := by decide +kernel
theorem dX8_walker_9 : decode cX8_walker 9 = .ok (.ireturn, 1) := by decide +kernel
theorem dX8_walker_10 : decode cX8_walker 10 = .ok (.iload_n 2, 1) := by decide +kernel
theorem dX8_walker_11 : decode cX8_walker 11 = .ok (.tableswitch 102 0 5 #[37, 47, 57, 67, 76, 93], 37) := by decide +kernel
theorem dX8_walker_48 : decode cX8_walker 48 = .ok (.aload_n 0, 1) := by decide +kernel
theorem dX8_walker_49 : decode cX8_walker 49 = .ok (.getfield 19, 3) := by decide +kernel
theorem dX8_walker_52 : decode cX8_walker 52 = .ok (.getfield 113, 3) := by decide +kernel
theorem dX8_walker_55 : decode cX8_walker 55 = .ok (.iload_n 1, 1) := by decide +kernel
theorem dX8_walker_56 : decode cX8_walker 56 = .ok (.iaload, 1) := by decide +kernel
theorem dX8_walker_57 : decode cX8_walker 57 = .ok (.ireturn, 1) := by decide +kernel
theorem dX8_walker_58 : decode cX8_walker 58 = .ok (.aload_n 0, 1) := by decide +kernel
theorem dX8_walker_59 : decode cX8_walker 59 = .ok (.getfield 19, 3) := by decide +kernel
theorem dX8_walker_62 : decode cX8_walker 62 = .ok (.getfield 117, 3) := by decide +kernel
theorem dX8_walker_65 : decode cX8_walker 65 = .ok (.iload_n 1, 1) := by decide +kernel
theorem dX8_walker_66 : decode cX8_walker 66 = .ok (.iaload, 1) := by decide +kernel
theorem dX8_walker_67 : decode cX8_walker 67 = .ok (.ireturn, 1) := by decide +kernel
theorem dX8_walker_68 : decode cX8_walker 68 = .ok (.aload_n 0, 1) := by decide +kernel
theorem dX8_walker_69 : decode cX8_walker 69 = .ok (.getfield 45, 3) := by decide +kernel
theorem dX8_walker_72 : decode cX8_walker 72 = .ok (.getfield 120, 3) := by decide +kernel
theorem dX8_walker_75 : decode cX8_walker 75 = .ok (.iload_n 1, 1) := by decide +kernel
theorem dX8_walker_76 : decode cX8_walker 76 = .ok (.iaload, 1) := by decide +kernel
theorem dX8_walker_77 : decode cX8_walker 77 = .ok (.ireturn, 1) := by decide +kernel
theorem dX8_walker_78 : decode cX8_walker 78 = .ok (.aload_n 0, 1) := by decide +kernel
theorem dX8_walker_79 : decode cX8_walker 79 = .ok (.getfield 45, 3) := by decide +kernel
theorem dX8_walker_82 : decode cX8_walker 82 = .ok (.iload_n 1, 1) := by decide +kernel
theorem dX8_walker_83 : decode cX8_walker 83 = .ok (.invokevirtual 125, 3) := by decide +kernel
theorem dX8_walker_86 : decode cX8_walker 86 = .ok (.ireturn, 1) := by decide +kernel
theorem dX8_walker_87 : decode cX8_walker 87 = .ok (.aload_n 0, 1) := by decide +kernel
theorem dX8_walker_88 : decode cX8_walker 88 = .ok (.getfield 45, 3) := by decide +kernel
theorem dX8_walker_91 : decode cX8_walker 91 = .ok (.iload_n 1, 1) := by decide +kernel
theorem dX8_walker_92 : decode cX8_walker 92 = .ok (.aload_n 0, 1) := by decide +kernel
theorem dX8_walker_93 : decode cX8_walker 93 = .ok (.getfield 45, 3) := by decide +kernel
theorem dX8_walker_96 : decode cX8_walker 96 = .ok (.iload_n 1, 1) := by decide +kernel
theorem dX8_walker_97 : decode cX8_walker 97 = .ok (.invokevirtual 125, 3) := by decide +kernel
theorem dX8_walker_100 : decode cX8_walker 100 = .ok (.invokevirtual 129, 3) := by decide +kernel
theorem dX8_walker_103 : decode cX8_walker 103 = .ok (.ireturn, 1) := by decide +kernel
theorem dX8_walker_104 : decode cX8_walker 104 = .ok (.aload_n 0, 1) := by decide +kernel
theorem dX8_walker_105 : decode cX8_walker 105 = .ok (.getfield 45, 3) := by decide +kernel
theorem dX8_walker_108 : decode cX8_walker 108 = .ok (.iload_n 1, 1) := by decide +kernel
theorem dX8_walker_109 : decode cX8_walker 109 = .ok (.invokevirtual 133, 3) := by decide +kernel
theorem dX8_walker_112 : decode cX8_walker 112 = .ok (.ireturn, 1) := by decide +kernel
theorem dX8_walker_113 : decode cX8_walker 113 = .ok (.iconst (-1), 1) := by decide +kernel
theorem dX8_walker_114 : decode cX8_walker 114 = .ok (.ireturn, 1) := by decide +kernel
theorem dX8_thing_0 : decode cX8_thing 0 = .ok (.aload_n 0, 1) := by decide +kernel
theorem dX8_thing_1 : decode cX8_thing 1 = .ok (.iload_n 1, 1) := by decide +kernel
theorem dX8_thing_2 : decode cX8_thing 2 = .ok (.invokevirtual 136, 3) := by decide +kernel
theorem dX8_thing_5 : decode cX8_thing 5 = .ok (.ifCond .ne 5, 3) := by decide +kernel
theorem dX8_thing_8 : decode cX8_thing 8 = .ok (.iconst (-1), 1) := by decide +kernel
theorem dX8_thing_9 : decode cX8_thing 9 = .ok (.ireturn, 1) := by decide +kernel
theorem dX8_thing_10 : decode cX8_thing 10 = .ok (.iload_n 2, 1) := by decide +kernel
theorem dX8_thing_11 : decode cX8_thing 11 = .ok (.tableswitch 131 0 7 #[45, 55, 65, 75, 85, 95, 105, 122], 45) := by decide +kernel
theorem dX8_thing_56 : decode cX8_thing 56 = .ok (.aload_n 0, 1) := by decide +kernel
theorem dX8_thing_57 : decode cX8_thing 57 = .ok (.getfield 19, 3) := by decide +kernel
theorem dX8_thing_60 : decode cX8_thing 60 = .ok (.getfield 139, 3) := by decide +kernel
theorem dX8_thing_63 : decode cX8_thing 63 = .ok (.iload_n 1, 1) := by decide +kernel
theorem dX8_thing_64 : decode cX8_thing 64 = .ok (.iaload, 1) := by decide +kernel
theorem dX8_thing_65 : decode cX8_thing 65 = .ok (.ireturn, 1) := by decide +kernel
theorem dX8_thing_66 : decode cX8_thing 66 = .ok (.aload_n 0, 1) := by decide +kernel
theorem dX8_thing_67 : decode cX8_thing 67 = .ok (.getfield 19, 3) := by decide +kernel
theorem dX8_thing_70 : decode cX8_thing 70 = .ok (.getfield 142, 3) := by decide +kernel
theorem dX8_thing_73 : decode cX8_thing 73 = .ok (.iload_n 1, 1) := by decide +kernel
theorem dX8_thing_74 : decode cX8_thing 74 = .ok (.iaload, 1) := by decide +kernel
theorem dX8_thing_75 : decode cX8_thing 75 = .ok (.ireturn, 1) := by decide +kernel
theorem dX8_thing_76 : decode cX8_thing 76 = .ok (.aload_n 0, 1) := by decide +kernel
theorem dX8_thing_77 : decode cX8_thing 77 = .ok (.getfield 19, 3) := by decide +kernel
theorem dX8_thing_80 : decode cX8_thing 80 = .ok (.getfield 145, 3) := by decide +kernel
theorem dX8_thing_83 : decode cX8_thing 83 = .ok (.iload_n 1, 1) := by decide +kernel
theorem dX8_thing_84 : decode cX8_thing 84 = .ok (.iaload, 1) := by decide +kernel
theorem dX8_thing_85 : decode cX8_thing 85 = .ok (.ireturn, 1) := by decide +kernel
theorem dX8_thing_86 : decode cX8_thing 86 = .ok (.aload_n 0, 1) := by decide +kernel
theorem dX8_thing_87 : decode cX8_thing 87 = .ok (.getfield 19, 3) := by decide +kernel
theorem dX8_thing_90 : decode cX8_thing 90 = .ok (.getfield 148, 3) := by decide +kernel
theorem dX8_thing_93 : decode cX8_thing 93 = .ok (.iload_n 1, 1) := by decide +kernel
theorem dX8_thing_94 : decode cX8_thing 94 = .ok (.iaload, 1) := by decide +kernel
theorem dX8_thing_95 : decode cX8_thing 95 = .ok (.ireturn, 1) := by decide +kernel
theorem dX8_thing_96 : decode cX8_thing 96 = .ok (.aload_n 0, 1) := by decide +kernel
theorem dX8_thing_97 : decode cX8_thing 97 = .ok (.getfield 45, 3) := by decide +kernel
theorem dX8_thing_100 : decode cX8_thing 100 = .ok (.getfield 151, 3) := by decide +kernel
theorem dX8_thing_103 : decode cX8_thing 103 = .ok (.iload_n 1, 1) := by decide +kernel
theorem dX8_thing_104 : decode cX8_thing 104 = .ok (.iaload, 1) := by decide +kernel
theorem dX8_thing_105 : decode cX8_thing 105 = .ok (.ireturn, 1) := by decide +kernel
theorem dX8_thing_106 : decode cX8_thing 106 = .ok (.aload_n 0, 1) := by decide +kernel
theorem dX8_thing_107 : decode cX8_thing 107 = .ok (.getfield 45, 3) := by decide +kernel
theorem dX8_thing_110 : decode cX8_thing 110 = .ok (.getfield 154, 3) := by decide +kernel
theorem dX8_thing_113 : decode cX8_thing 113 = .ok (.iload_n 1, 1) := by decide +kernel
theorem dX8_thing_114 : decode cX8_thing 114 = .ok (.iaload, 1) := by decide +kernel
theorem dX8_thing_115 : decode cX8_thing 115 = .ok (.ireturn, 1) := by decide +kernel
theorem dX8_thing_116 : decode cX8_thing 116 = .ok (.aload_n 0, 1) := by decide +kernel
theorem dX8_thing_117 : decode cX8_thing 117 = .ok (.getfield 45, 3) := by decide +kernel
theorem dX8_thing_120 : decode cX8_thing 120 = .ok (.iload_n 1, 1) := by decide +kernel
theorem dX8_thing_121 : decode cX8_thing 121 = .ok (.invokevirtual 157, 3) := by decide +kernel
theorem dX8_thing_124 : decode cX8_thing 124 = .ok (.ifCond .eq 7, 3) := by decide +kernel
theorem dX8_thing_127 : decode cX8_thing 127 = .ok (.iconst 1, 1) := by decide +kernel
theorem dX8_thing_128 : decode cX8_thing 128 = .ok (.goto 4, 3) := by decide +kernel
theorem dX8_thing_131 : decode cX8_thing 131 = .ok (.iconst 0, 1) := by decide +kernel
theorem dX8_thing_132 : decode cX8_thing 132 = .ok (.ireturn, 1) := by decide +kernel
theorem dX8_thing_133 : decode cX8_thing 133 = .ok (.aload_n 0, 1) := by decide +kernel
theorem dX8_thing_134 : decode cX8_thing 134 = .ok (.getfield 45, 3) := by decide +kernel
theorem dX8_thing_137 : decode cX8_thing 137 = .ok (.iload_n 1, 1) := by decide +kernel
theorem dX8_thing_138 : decode cX8_thing 138 = .ok (.invokevirtual 160, 3) := by decide +kernel
theorem dX8_thing_141 : decode cX8_thing 141 = .ok (.ireturn, 1) := by decide +kernel
theorem dX8_thing_142 : decode cX8_thing 142 = .ok (.iconst (-1), 1) := by decide +kernel
theorem dX8_thing_143 : decode cX8_thing 143 = .ok (.ireturn, 1) := by decide +kernel
theorem dX8_stage_0 : decode cX8_stage 0 = .ok (.iload_n 1, 1) := by decide +kernel
theorem dX8_stage_1 : decode cX8_stage 1 = .ok (.iconst 0, 1) := by decide +kernel
theorem dX8_stage_2 : decode cX8_stage 2 = .ok (.aload_n 0, 1) := by decide +kernel
theorem dX8_stage_3 : decode cX8_stage 3 = .ok (.getfield 19, 3) := by decide +kernel
theorem dX8_stage_6 : decode cX8_stage 6 = .ok (.getfield 163, 3) := by decide +kernel
theorem dX8_stage_9 : decode cX8_stage 9 = .ok (.iconst 1, 1) := by decide +kernel
theorem dX8_stage_10 : decode cX8_stage 10 = .ok (.isub, 1) := by decide +kernel
theorem dX8_stage_11 : decode cX8_stage 11 = .ok (.invokestatic 79, 3) := by decide +kernel
theorem dX8_stage_14 : decode cX8_stage 14 = .ok (.ifCond .ne 5, 3) := by decide +kernel
theorem dX8_stage_17 : decode cX8_stage 17 = .ok (.iconst (-1), 1) := by decide +kernel
theorem dX8_stage_18 : decode cX8_stage 18 = .ok (.ireturn, 1) := by decide +kernel
theorem dX8_stage_19 : decode cX8_stage 19 = .ok (.iload_n 2, 1) := by decide +kernel
theorem dX8_stage_20 : decode cX8_stage 20 = .ok (.tableswitch 58 0 2 #[28, 38, 48], 28) := by decide +kernel
theorem dX8_stage_48 : decode cX8_stage 48 = .ok (.aload_n 0, 1) := by decide +kernel
theorem dX8_stage_49 : decode cX8_stage 49 = .ok (.getfield 19, 3) := by decide +kernel
theorem dX8_stage_52 : decode cX8_stage 52 = .ok (.getfield 166, 3) := by decide +kernel
theorem dX8_stage_55 : decode cX8_stage 55 = .ok (.iload_n 1, 1) := by decide +kernel
theorem dX8_stage_56 : decode cX8_stage 56 = .ok (.iaload, 1) := by decide +kernel
theorem dX8_stage_57 : decode cX8_stage 57 = .ok (.ireturn, 1) := by decide +kernel
theorem dX8_stage_58 : decode cX8_stage 58 = .ok (.aload_n 0, 1) := by decide +kernel
theorem dX8_stage_59 : decode cX8_stage 59 = .ok (.getfield 19, 3) := by decide +kernel
theorem dX8_stage_62 : decode cX8_stage 62 = .ok (.getfield 168, 3) := by decide +kernel
theorem dX8_stage_65 : decode cX8_stage 65 = .ok (.iload_n 1, 1) := by decide +kernel
theorem dX8_stage_66 : decode cX8_stage 66 = .ok (.iaload, 1) := by decide +kernel
theorem dX8_stage_67 : decode cX8_stage 67 = .ok (.ireturn, 1) := by decide +kernel
theorem dX8_stage_68 : decode cX8_stage 68 = .ok (.aload_n 0, 1) := by decide +kernel
theorem dX8_stage_69 : decode cX8_stage 69 = .ok (.getfield 19, 3) := by decide +kernel
theorem dX8_stage_72 : decode cX8_stage 72 = .ok (.getfield 171, 3) := by decide +kernel
theorem dX8_stage_75 : decode cX8_stage 75 = .ok (.iload_n 1, 1) := by decide +kernel
theorem dX8_stage_76 : decode cX8_stage 76 = .ok (.iaload, 1) := by decide +kernel
theorem dX8_stage_77 : decode cX8_stage 77 = .ok (.ireturn, 1) := by decide +kernel
theorem dX8_stage_78 : decode cX8_stage 78 = .ok (.iconst (-1), 1) := by decide +kernel
theorem dX8_stage_79 : decode cX8_stage 79 = .ok (.ireturn, 1) := by decide +kernel
theorem dX8_gives_0 : decode cX8_gives 0 = .ok (.aload_n 0, 1) := by decide +kernel
theorem dX8_gives_1 : decode cX8_gives 1 = .ok (.iload_n 1, 1) := by decide +kernel
theorem dX8_gives_2 : decode cX8_gives 2 = .ok (.invokevirtual 136, 3) := by decide +kernel
theorem dX8_gives_5 : decode cX8_gives 5 = .ok (.ifCond .eq 11, 3) := by decide +kernel
theorem dX8_gives_8 : decode cX8_gives 8 = .ok (.aload_n 0, 1) := by decide +kernel
theorem dX8_gives_9 : decode cX8_gives 9 = .ok (.iload_n 2, 1) := by decide +kernel
theorem dX8_gives_10 : decode cX8_gives 10 = .ok (.invokevirtual 110, 3) := by decide +kernel
theorem dX8_gives_13 : decode cX8_gives 13 = .ok (.ifCond .ne 5, 3) := by decide +kernel
theorem dX8_gives_16 : decode cX8_gives 16 = .ok (.iconst (-1), 1) := by decide +kernel
theorem dX8_gives_17 : decode cX8_gives 17 = .ok (.ireturn, 1) := by decide +kernel
theorem dX8_gives_18 : decode cX8_gives 18 = .ok (.aload_n 0, 1) := by decide +kernel
theorem dX8_gives_19 : decode cX8_gives 19 = .ok (.getfield 45, 3) := by decide +kernel
theorem dX8_gives_22 : decode cX8_gives 22 = .ok (.iload_n 1, 1) := by decide +kernel
theorem dX8_gives_23 : decode cX8_gives 23 = .ok (.iload_n 2, 1) := by decide +kernel
theorem dX8_gives_24 : decode cX8_gives 24 = .ok (.invokevirtual 174, 3) := by decide +kernel
theorem dX8_gives_27 : decode cX8_gives 27 = .ok (.ifCond .ne 6, 3) := by decide +kernel
theorem dX8_gives_30 : decode cX8_gives 30 = .ok (.bipush (-2), 2) := by decide +kernel
theorem dX8_gives_32 : decode cX8_gives 32 = .ok (.ireturn, 1) := by decide +kernel
theorem dX8_gives_33 : decode cX8_gives 33 = .ok (.aload_n 0, 1) := by decide +kernel
theorem dX8_gives_34 : decode cX8_gives 34 = .ok (.getfield 37, 3) := by decide +kernel
theorem dX8_gives_37 : decode cX8_gives 37 = .ok (.invokevirtual 178, 3) := by decide +kernel
theorem dX8_gives_40 : decode cX8_gives 40 = .ok (.aload_n 0, 1) := by decide +kernel
theorem dX8_gives_41 : decode cX8_gives 41 = .ok (.getfield 45, 3) := by decide +kernel
theorem dX8_gives_44 : decode cX8_gives 44 = .ok (.getfield 151, 3) := by decide +kernel
theorem dX8_gives_47 : decode cX8_gives 47 = .ok (.iload_n 1, 1) := by decide +kernel
theorem dX8_gives_48 : decode cX8_gives 48 = .ok (.iaload, 1) := by decide +kernel
theorem dX8_gives_49 : decode cX8_gives 49 = .ok (.istore_n 3, 1) := by decide +kernel
theorem dX8_gives_50 : decode cX8_gives 50 = .ok (.aload_n 0, 1) := by decide +kernel
theorem dX8_gives_51 : decode cX8_gives 51 = .ok (.getfield 45, 3) := by decide +kernel
theorem dX8_gives_54 : decode cX8_gives 54 = .ok (.getfield 151, 3) := by decide +kernel
theorem dX8_gives_57 : decode cX8_gives 57 = .ok (.iload_n 1, 1) := by decide +kernel
theorem dX8_gives_58 : decode cX8_gives 58 = .ok (.iload_n 2, 1) := by decide +kernel
theorem dX8_gives_59 : decode cX8_gives 59 = .ok (.iastore, 1) := by decide +kernel
theorem dX8_gives_60 : decode cX8_gives 60 = .ok (.aload_n 0, 1) := by decide +kernel
theorem dX8_gives_61 : decode cX8_gives 61 = .ok (.getfield 45, 3) := by decide +kernel
theorem dX8_gives_64 : decode cX8_gives 64 = .ok (.dup, 1) := by decide +kernel
theorem dX8_gives_65 : decode cX8_gives 65 = .ok (.getfield 181, 3) := by decide +kernel
theorem dX8_gives_68 : decode cX8_gives 68 = .ok (.iconst 1, 1) := by decide +kernel
theorem dX8_gives_69 : decode cX8_gives 69 = .ok (.iadd, 1) := by decide +kernel
theorem dX8_gives_70 : decode cX8_gives 70 = .ok (.putfield 181, 3) := by decide +kernel
theorem dX8_gives_73 : decode cX8_gives 73 = .ok (.iload_n 3, 1) := by decide +kernel
theorem dX8_gives_74 : decode cX8_gives 74 = .ok (.ireturn, 1) := by decide +kernel
theorem dX8_leaves_0 : decode cX8_leaves 0 = .ok (.aload_n 0, 1) := by decide +kernel
theorem dX8_leaves_1 : decode cX8_leaves 1 = .ok (.iload_n 1, 1) := by decide +kernel
theorem dX8_leaves_2 : decode cX8_leaves 2 = .ok (.invokevirtual 136, 3) := by decide +kernel
theorem dX8_leaves_5 : decode cX8_leaves 5 = .ok (.ifCond .ne 5, 3) := by decide +kernel
theorem dX8_leaves_8 : decode cX8_leaves 8 = .ok (.iconst (-1), 1) := by decide +kernel
theorem dX8_leaves_9 : decode cX8_leaves 9 = .ok (.ireturn, 1) := by decide +kernel
theorem dX8_leaves_10 : decode cX8_leaves 10 = .ok (.aload_n 0, 1) := by decide +kernel
theorem dX8_leaves_11 : decode cX8_leaves 11 = .ok (.getfield 45, 3) := by decide +kernel
theorem dX8_leaves_14 : decode cX8_leaves 14 = .ok (.iload_n 1, 1) := by decide +kernel
theorem dX8_leaves_15 : decode cX8_leaves 15 = .ok (.invokevirtual 184, 3) := by decide +kernel
theorem dX8_leaves_18 : decode cX8_leaves 18 = .ok (.ifCond .eq 13, 3) := by decide +kernel
theorem dX8_leaves_21 : decode cX8_leaves 21 = .ok (.aload_n 0, 1) := by decide +kernel
theorem dX8_leaves_22 : decode cX8_leaves 22 = .ok (.getfield 45, 3) := by decide +kernel
theorem dX8_leaves_25 : decode cX8_leaves 25 = .ok (.invokevirtual 187, 3) := by decide +kernel
theorem dX8_leaves_28 : decode cX8_leaves 28 = .ok (.ifCond .ne 6, 3) := by decide +kernel
theorem dX8_leaves_31 : decode cX8_leaves 31 = .ok (.bipush (-2), 2) := by decide +kernel
theorem dX8_leaves_33 : decode cX8_leaves 33 = .ok (.ireturn, 1) := by decide +kernel
theorem dX8_leaves_34 : decode cX8_leaves 34 = .ok (.aload_n 0, 1) := by decide +kernel
theorem dX8_leaves_35 : decode cX8_leaves 35 = .ok (.getfield 37, 3) := by decide +kernel
theorem dX8_leaves_38 : decode cX8_leaves 38 = .ok (.invokevirtual 178, 3) := by decide +kernel
theorem dX8_leaves_41 : decode cX8_leaves 41 = .ok (.aload_n 0, 1) := by decide +kernel
theorem dX8_leaves_42 : decode cX8_leaves 42 = .ok (.getfield 45, 3) := by decide +kernel
theorem dX8_leaves_45 : decode cX8_leaves 45 = .ok (.getfield 151, 3) := by decide +kernel
theorem dX8_leaves_48 : decode cX8_leaves 48 = .ok (.iload_n 1, 1) := by decide +kernel
theorem dX8_leaves_49 : decode cX8_leaves 49 = .ok (.iaload, 1) := by decide +kernel
theorem dX8_leaves_50 : decode cX8_leaves 50 = .ok (.istore_n 2, 1) := by decide +kernel
theorem dX8_leaves_51 : decode cX8_leaves 51 = .ok (.aload_n 0, 1) := by decide +kernel
theorem dX8_leaves_52 : decode cX8_leaves 52 = .ok (.getfield 45, 3) := by decide +kernel
theorem dX8_leaves_55 : decode cX8_leaves 55 = .ok (.getfield 151, 3) := by decide +kernel
theorem dX8_leaves_58 : decode cX8_leaves 58 = .ok (.iload_n 1, 1) := by decide +kernel
theorem dX8_leaves_59 : decode cX8_leaves 59 = .ok (.bipush 9, 2) := by decide +kernel
theorem dX8_leaves_61 : decode cX8_leaves 61 = .ok (.iastore, 1) := by decide +kernel
theorem dX8_leaves_62 : decode cX8_leaves 62 = .ok (.iload_n 2, 1) := by decide +kernel
theorem dX8_leaves_63 : decode cX8_leaves 63 = .ok (.ireturn, 1) := by decide +kernel
theorem dX8_goes_0 : decode cX8_goes 0 = .ok (.aload_n 0, 1) := by decide +kernel
theorem dX8_goes_1 : decode cX8_goes 1 = .ok (.getfield 45, 3) := by decide +kernel
theorem dX8_goes_4 : decode cX8_goes 4 = .ok (.invokevirtual 191, 3) := by decide +kernel
theorem dX8_goes_7 : decode cX8_goes 7 = .ok (.ifCond .ne 6, 3) := by decide +kernel
theorem dX8_goes_10 : decode cX8_goes 10 = .ok (.bipush (-2), 2) := by decide +kernel
theorem dX8_goes_12 : decode cX8_goes 12 = .ok (.ireturn, 1) := by decide +kernel
theorem dX8_goes_13 : decode cX8_goes 13 = .ok (.aload_n 0, 1) := by decide +kernel
theorem dX8_goes_14 : decode cX8_goes 14 = .ok (.getfield 37, 3) := by decide +kernel
theorem dX8_goes_17 : decode cX8_goes 17 = .ok (.invokevirtual 178, 3) := by decide +kernel
theorem dX8_goes_20 : decode cX8_goes 20 = .ok (.aload_n 0, 1) := by decide +kernel
theorem dX8_goes_21 : decode cX8_goes 21 = .ok (.getfield 45, 3) := by decide +kernel
theorem dX8_goes_24 : decode cX8_goes 24 = .ok (.getfield 194, 3) := by decide +kernel
theorem dX8_goes_27 : decode cX8_goes 27 = .ok (.istore_n 1, 1) := by decide +kernel
theorem dX8_goes_28 : decode cX8_goes 28 = .ok (.aload_n 0, 1) := by decide +kernel
theorem dX8_goes_29 : decode cX8_goes 29 = .ok (.getfield 45, 3) := by decide +kernel
theorem dX8_goes_32 : decode cX8_goes 32 = .ok (.aload_n 0, 1) := by decide +kernel
theorem dX8_goes_33 : decode cX8_goes 33 = .ok (.getfield 19, 3) := by decide +kernel
theorem dX8_goes_36 : decode cX8_goes 36 = .ok (.aload_n 0, 1) := by decide +kernel
theorem dX8_goes_37 : decode cX8_goes 37 = .ok (.getfield 45, 3) := by decide +kernel
theorem dX8_goes_40 : decode cX8_goes 40 = .ok (.getfield 197, 3) := by decide +kernel
theorem dX8_goes_43 : decode cX8_goes 43 = .ok (.invokevirtual 200, 3) := by decide +kernel
theorem dX8_goes_46 : decode cX8_goes 46 = .ok (.invokevirtual 203, 3) := by decide +kernel
theorem dX8_goes_49 : decode cX8_goes 49 = .ok (.aload_n 0, 1) := by decide +kernel
theorem dX8_goes_50 : decode cX8_goes 50 = .ok (.getfield 45, 3) := by decide +kernel
theorem dX8_goes_53 : decode cX8_goes 53 = .ok (.getfield 194, 3) := by decide +kernel
theorem dX8_goes_56 : decode cX8_goes 56 = .ok (.iload_n 1, 1) := by decide +kernel
theorem dX8_goes_57 : decode cX8_goes 57 = .ok (.isub, 1) := by decide +kernel
theorem dX8_goes_58 : decode cX8_goes 58 = .ok (.ireturn, 1) := by decide +kernel
theorem dX8_undo_0 : decode cX8_undo 0 = .ok (.aload_n 0, 1) := by decide +kernel
theorem dX8_undo_1 : decode cX8_undo 1 = .ok (.getfield 37, 3) := by decide +kernel
theorem dX8_undo_4 : decode cX8_undo 4 = .ok (.invokevirtual 207, 3) := by decide +kernel
theorem dX8_undo_7 : decode cX8_undo 7 = .ok (.ifCond .eq 13, 3) := by decide +kernel
theorem dX8_undo_10 : decode cX8_undo 10 = .ok (.aload_n 0, 1) := by decide +kernel
theorem dX8_undo_11 : decode cX8_undo 11 = .ok (.getfield 37, 3) := by decide +kernel
theorem dX8_undo_14 : decode cX8_undo 14 = .ok (.getfield 210, 3) := by decide +kernel
theorem dX8_undo_17 : decode cX8_undo 17 = .ok (.goto 5, 3) := by decide +kernel
theorem dX8_undo_20 : decode cX8_undo 20 = .ok (.bipush (-2), 2) := by decide +kernel
theorem dX8_undo_22 : decode cX8_undo 22 = .ok (.ireturn, 1) := by decide +kernel
theorem dX8_now_0 : decode cX8_now 0 = .ok (.iload_n 1, 1) := by decide +kernel
theorem dX8_now_1 : decode cX8_now 1 = .ok (.tableswitch 121 0 7 #[47, 55, 63, 71, 87, 96, 105, 113], 47) := by decide +kernel
theorem dX8_now_48 : decode cX8_now 48 = .ok (.aload_n 0, 1) := by decide +kernel
theorem dX8_now_49 : decode cX8_now 49 = .ok (.getfield 45, 3) := by decide +kernel
theorem dX8_now_52 : decode cX8_now 52 = .ok (.getfield 197, 3) := by decide +kernel
theorem dX8_now_55 : decode cX8_now 55 = .ok (.ireturn, 1) := by decide +kernel
theorem dX8_now_56 : decode cX8_now 56 = .ok (.aload_n 0, 1) := by decide +kernel
theorem dX8_now_57 : decode cX8_now 57 = .ok (.getfield 45, 3) := by decide +kernel
theorem dX8_now_60 : decode cX8_now 60 = .ok (.getfield 194, 3) := by decide +kernel
theorem dX8_now_63 : decode cX8_now 63 = .ok (.ireturn, 1) := by decide +kernel
theorem dX8_now_64 : decode cX8_now 64 = .ok (.aload_n 0, 1) := by decide +kernel
theorem dX8_now_65 : decode cX8_now 65 = .ok (.getfield 45, 3) := by decide +kernel
theorem dX8_now_68 : decode cX8_now 68 = .ok (.getfield 213, 3) := by decide +kernel
theorem dX8_now_71 : decode cX8_now 71 = .ok (.ireturn, 1) := by decide +kernel
theorem dX8_now_72 : decode cX8_now 72 = .ok (.aload_n 0, 1) := by decide +kernel
theorem dX8_now_73 : decode cX8_now 73 = .ok (.getfield 45, 3) := by decide +kernel
theorem dX8_now_76 : decode cX8_now 76 = .ok (.invokevirtual 187, 3) := by decide +kernel
theorem dX8_now_79 : decode cX8_now 79 = .ok (.ifCond .eq 7, 3) := by decide +kernel
theorem dX8_now_82 : decode cX8_now 82 = .ok (.iconst 1, 1) := by decide +kernel
theorem dX8_now_83 : decode cX8_now 83 = .ok (.goto 4, 3) := by decide +kernel
theorem dX8_now_86 : decode cX8_now 86 = .ok (.iconst 0, 1) := by decide +kernel
theorem dX8_now_87 : decode cX8_now 87 = .ok (.ireturn, 1) := by decide +kernel
theorem dX8_now_88 : decode cX8_now 88 = .ok (.aload_n 0, 1) := by decide +kernel
theorem dX8_now_89 : decode cX8_now 89 = .ok (.getfield 45, 3) := by decide +kernel
theorem dX8_now_92 : decode cX8_now 92 = .ok (.iconst 0, 1) := by decide +kernel
theorem dX8_now_93 : decode cX8_now 93 = .ok (.invokevirtual 216, 3) := by decide +kernel
theorem dX8_now_96 : decode cX8_now 96 = .ok (.ireturn, 1) := by decide +kernel
theorem dX8_now_97 : decode cX8_now 97 = .ok (.aload_n 0, 1) := by decide +kernel
theorem dX8_now_98 : decode cX8_now 98 = .ok (.getfield 45, 3) := by decide +kernel
theorem dX8_now_101 : decode cX8_now 101 = .ok (.iconst 1, 1) := by decide +kernel
theorem dX8_now_102 : decode cX8_now 102 = .ok (.invokevirtual 216, 3) := by decide +kernel
theorem dX8_now_105 : decode cX8_now 105 = .ok (.ireturn, 1) := by decide +kernel
theorem dX8_now_106 : decode cX8_now 106 = .ok (.aload_n 0, 1) := by decide +kernel
theorem dX8_now_107 : decode cX8_now 107 = .ok (.getfield 45, 3) := by decide +kernel
theorem dX8_now_110 : decode cX8_now 110 = .ok (.invokevirtual 220, 3) := by decide +kernel
theorem dX8_now_113 : decode cX8_now 113 = .ok (.ireturn, 1) := by decide +kernel
theorem dX8_now_114 : decode cX8_now 114 = .ok (.aload_n 0, 1) := by decide +kernel
theorem dX8_now_115 : decode cX8_now 115 = .ok (.getfield 45, 3) := by decide +kernel
theorem dX8_now_118 : decode cX8_now 118 = .ok (.getfield 181, 3) := by decide +kernel
theorem dX8_now_121 : decode cX8_now 121 = .ok (.ireturn, 1) := by decide +kernel
theorem dX8_now_122 : decode cX8_now 122 = .ok (.iconst (-1), 1) := by decide +kernel
theorem dX8_now_123 : decode cX8_now 123 = .ok (.ireturn, 1) := by decide +kernel
theorem dX8_rest_0 : decode cX8_rest 0 = .ok (.iload_n 1, 1) := by decide +kernel
theorem dX8_rest_1 : decode cX8_rest 1 = .ok (.invokestatic 223, 3) := by decide +kernel
theorem dX8_rest_4 : decode cX8_rest 4 = .ok (.ifCond .ne 5, 3) := by decide +kernel
theorem dX8_rest_7 : decode cX8_rest 7 = .ok (.iconst (-1), 1) := by decide +kernel
theorem dX8_rest_8 : decode cX8_rest 8 = .ok (.ireturn, 1) := by decide +kernel
theorem dX8_rest_9 : decode cX8_rest 9 = .ok (.aload_n 0, 1) := by decide +kernel
theorem dX8_rest_10 : decode cX8_rest 10 = .ok (.getfield 64, 3) := by decide +kernel
theorem dX8_rest_13 : decode cX8_rest 13 = .ok (.aload_n 0, 1) := by decide +kernel
theorem dX8_rest_14 : decode cX8_rest 14 = .ok (.getfield 45, 3) := by decide +kernel
theorem dX8_rest_17 : decode cX8_rest 17 = .ok (.invokevirtual 226, 3) := by decide +kernel
theorem dX8_rest_20 : decode cX8_rest 20 = .ok (.astore_n 2, 1) := by decide +kernel
theorem dX8_rest_21 : decode cX8_rest 21 = .ok (.iload_n 1, 1) := by decide +kernel
theorem dX8_rest_22 : decode cX8_rest 22 = .ok (.ifCond .ne 10, 3) := by decide +kernel
theorem dX8_rest_25 : decode cX8_rest 25 = .ok (.aload_n 2, 1) := by decide +kernel
theorem dX8_rest_26 : decode cX8_rest 26 = .ok (.getfield 194, 3) := by decide +kernel
theorem dX8_rest_29 : decode cX8_rest 29 = .ok (.goto 7, 3) := by decide +kernel
theorem dX8_rest_32 : decode cX8_rest 32 = .ok (.aload_n 2, 1) := by decide +kernel
theorem dX8_rest_33 : decode cX8_rest 33 = .ok (.getfield 213, 3) := by decide +kernel
theorem dX8_rest_36 : decode cX8_rest 36 = .ok (.ireturn, 1) := by decide +kernel
theorem dX8_spent_0 : decode cX8_spent 0 = .ok (.iload_n 1, 1) := by decide +kernel
theorem dX8_spent_1 : decode cX8_spent 1 = .ok (.invokestatic 223, 3) := by decide +kernel
theorem dX8_spent_4 : decode cX8_spent 4 = .ok (.ifCond .ne 5, 3) := by decide +kernel
theorem dX8_spent_7 : decode cX8_spent 7 = .ok (.iconst (-1), 1) := by decide +kernel
theorem dX8_spent_8 : decode cX8_spent 8 = .ok (.ireturn, 1) := by decide +kernel
theorem dX8_spent_9 : decode cX8_spent 9 = .ok (.aload_n 0, 1) := by decide +kernel
theorem dX8_spent_10 : decode cX8_spent 10 = .ok (.getfield 64, 3) := by decide +kernel
theorem dX8_spent_13 : decode cX8_spent 13 = .ok (.aload_n 0, 1) := by decide +kernel
theorem dX8_spent_14 : decode cX8_spent 14 = .ok (.getfield 45, 3) := by decide +kernel
theorem dX8_spent_17 : decode cX8_spent 17 = .ok (.invokevirtual 230, 3) := by decide +kernel
theorem dX8_spent_20 : decode cX8_spent 20 = .ok (.ifCond .ne 6, 3) := by decide +kernel
theorem dX8_spent_23 : decode cX8_spent 23 = .ok (.bipush (-9), 2) := by decide +kernel
theorem dX8_spent_25 : decode cX8_spent 25 = .ok (.ireturn, 1) := by decide +kernel
theorem dX8_spent_26 : decode cX8_spent 26 = .ok (.iload_n 1, 1) := by decide +kernel
theorem dX8_spent_27 : decode cX8_spent 27 = .ok (.ifCond .ne 13, 3) := by decide +kernel
theorem dX8_spent_30 : decode cX8_spent 30 = .ok (.aload_n 0, 1) := by decide +kernel
theorem dX8_spent_31 : decode cX8_spent 31 = .ok (.getfield 64, 3) := by decide +kernel
theorem dX8_spent_34 : decode cX8_spent 34 = .ok (.getfield 234, 3) := by decide +kernel
theorem dX8_spent_37 : decode cX8_spent 37 = .ok (.goto 10, 3) := by decide +kernel
theorem dX8_spent_40 : decode cX8_spent 40 = .ok (.aload_n 0, 1) := by decide +kernel
theorem dX8_spent_41 : decode cX8_spent 41 = .ok (.getfield 64, 3) := by decide +kernel
theorem dX8_spent_44 : decode cX8_spent 44 = .ok (.getfield 237, 3) := by decide +kernel
theorem dX8_spent_47 : decode cX8_spent 47 = .ok (.ireturn, 1) := by decide +kernel
theorem dX8_soonest_0 : decode cX8_soonest 0 = .ok (.iload_n 1, 1) := by decide +kernel
theorem dX8_soonest_1 : decode cX8_soonest 1 = .ok (.bipush (-2), 2) := by decide +kernel
theorem dX8_soonest_3 : decode cX8_soonest 3 = .ok (.aload_n 0, 1) := by decide +kernel
theorem dX8_soonest_4 : decode cX8_soonest 4 = .ok (.getfield 19, 3) := by decide +kernel
theorem dX8_soonest_7 : decode cX8_soonest 7 = .ok (.getfield 240, 3) := by decide +kernel
theorem dX8_soonest_10 : decode cX8_soonest 10 = .ok (.iconst 1, 1) := by decide +kernel
theorem dX8_soonest_11 : decode cX8_soonest 11 = .ok (.isub, 1) := by decide +kernel
theorem dX8_soonest_12 : decode cX8_soonest 12 = .ok (.invokestatic 79, 3) := by decide +kernel
theorem dX8_soonest_15 : decode cX8_soonest 15 = .ok (.ifCond .ne 5, 3) := by decide +kernel
theorem dX8_soonest_18 : decode cX8_soonest 18 = .ok (.iconst (-1), 1) := by decide +kernel
theorem dX8_soonest_19 : decode cX8_soonest 19 = .ok (.ireturn, 1) := by decide +kernel
theorem dX8_soonest_20 : decode cX8_soonest 20 = .ok (.aload_n 0, 1) := by decide +kernel
theorem dX8_soonest_21 : decode cX8_soonest 21 = .ok (.getfield 19, 3) := by decide +kernel
theorem dX8_soonest_24 : decode cX8_soonest 24 = .ok (.getfield 243, 3) := by decide +kernel
theorem dX8_soonest_27 : decode cX8_soonest 27 = .ok (.ifCond .eq 17, 3) := by decide +kernel
theorem dX8_soonest_30 : decode cX8_soonest 30 = .ok (.aload_n 0, 1) := by decide +kernel
theorem dX8_soonest_31 : decode cX8_soonest 31 = .ok (.getfield 57, 3) := by decide +kernel
theorem dX8_soonest_34 : decode cX8_soonest 34 = .ok (.aload_n 0, 1) := by decide +kernel
theorem dX8_soonest_35 : decode cX8_soonest 35 = .ok (.getfield 45, 3) := by decide +kernel
theorem dX8_soonest_38 : decode cX8_soonest 38 = .ok (.invokevirtual 246, 3) := by decide +kernel
theorem dX8_soonest_41 : decode cX8_soonest 41 = .ok (.ifCond .ne 6, 3) := by decide +kernel
theorem dX8_soonest_44 : decode cX8_soonest 44 = .ok (.bipush (-9), 2) := by decide +kernel
theorem dX8_soonest_46 : decode cX8_soonest 46 = .ok (.ireturn, 1) := by decide +kernel
theorem dX8_soonest_47 : decode cX8_soonest 47 = .ok (.iload_n 1, 1) := by decide +kernel
theorem dX8_soonest_48 : decode cX8_soonest 48 = .ok (.iconst (-1), 1) := by decide +kernel
theorem dX8_soonest_49 : decode cX8_soonest 49 = .ok (.if_icmp .ne 11, 3) := by decide +kernel
theorem dX8_soonest_52 : decode cX8_soonest 52 = .ok (.aload_n 0, 1) := by decide +kernel
theorem dX8_soonest_53 : decode cX8_soonest 53 = .ok (.getfield 57, 3) := by decide +kernel
theorem dX8_soonest_56 : decode cX8_soonest 56 = .ok (.getfield 249, 3) := by decide +kernel
theorem dX8_soonest_59 : decode cX8_soonest 59 = .ok (.ireturn, 1) := by decide +kernel
theorem dX8_soonest_60 : decode cX8_soonest 60 = .ok (.iload_n 1, 1) := by decide +kernel
theorem dX8_soonest_61 : decode cX8_soonest 61 = .ok (.bipush (-2), 2) := by decide +kernel
theorem dX8_soonest_63 : decode cX8_soonest 63 = .ok (.if_icmp .ne 13, 3) := by decide +kernel
theorem dX8_soonest_66 : decode cX8_soonest 66 = .ok (.aload_n 0, 1) := by decide +kernel
theorem dX8_soonest_67 : decode cX8_soonest 67 = .ok (.getfield 57, 3) := by decide +kernel
theorem dX8_soonest_70 : decode cX8_soonest 70 = .ok (.getfield 252, 3) := by decide +kernel
theorem dX8_soonest_73 : decode cX8_soonest 73 = .ok (.goto 12, 3) := by decide +kernel
theorem dX8_soonest_76 : decode cX8_soonest 76 = .ok (.aload_n 0, 1) := by decide +kernel
theorem dX8_soonest_77 : decode cX8_soonest 77 = .ok (.getfield 57, 3) := by decide +kernel
theorem dX8_soonest_80 : decode cX8_soonest 80 = .ok (.getfield 255, 3) := by decide +kernel
theorem dX8_soonest_83 : decode cX8_soonest 83 = .ok (.iload_n 1, 1) := by decide +kernel
theorem dX8_soonest_84 : decode cX8_soonest 84 = .ok (.iaload, 1) := by decide +kernel
theorem dX8_soonest_85 : decode cX8_soonest 85 = .ok (.ireturn, 1) := by decide +kernel
theorem dX8_helps_0 : decode cX8_helps 0 = .ok (.aload_n 0, 1) := by decide +kernel
theorem dX8_helps_1 : decode cX8_helps 1 = .ok (.getfield 57, 3) := by decide +kernel
theorem dX8_helps_4 : decode cX8_helps 4 = .ok (.aload_n 0, 1) := by decide +kernel
theorem dX8_helps_5 : decode cX8_helps 5 = .ok (.getfield 45, 3) := by decide +kernel
theorem dX8_helps_8 : decode cX8_helps 8 = .ok (.invokevirtual 258, 3) := by decide +kernel
theorem dX8_helps_11 : decode cX8_helps 11 = .ok (.ireturn, 1) := by decide +kernel
theorem dX8_leave_0 : decode cX8_leave 0 = .ok (.iload_n 1, 1) := by decide +kernel
theorem dX8_leave_1 : decode cX8_leave 1 = .ok (.iconst 0, 1) := by decide +kernel
theorem dX8_leave_2 : decode cX8_leave 2 = .ok (.sipush 999, 3) := by decide +kernel
theorem dX8_leave_5 : decode cX8_leave 5 = .ok (.invokestatic 79, 3) := by decide +kernel
theorem dX8_leave_8 : decode cX8_leave 8 = .ok (.ifCond .eq 10, 3) := by decide +kernel
theorem dX8_leave_11 : decode cX8_leave 11 = .ok (.iload_n 2, 1) := by decide +kernel
theorem dX8_leave_12 : decode cX8_leave 12 = .ok (.invokestatic 223, 3) := by decide +kernel
theorem dX8_leave_15 : decode cX8_leave 15 = .ok (.ifCond .ne 5, 3) := by decide +kernel
theorem dX8_leave_18 : decode cX8_leave 18 = .ok (.iconst (-1), 1) := by decide +kernel
theorem dX8_leave_19 : decode cX8_leave 19 = .ok (.ireturn, 1) := by decide +kernel
theorem dX8_leave_20 : decode cX8_leave 20 = .ok (.aload_n 0, 1) := by decide +kernel
theorem dX8_leave_21 : decode cX8_leave 21 = .ok (.getfield 57, 3) := by decide +kernel
theorem dX8_leave_24 : decode cX8_leave 24 = .ok (.aload_n 0, 1) := by decide +kernel
theorem dX8_leave_25 : decode cX8_leave 25 = .ok (.getfield 45, 3) := by decide +kernel
theorem dX8_leave_28 : decode cX8_leave 28 = .ok (.iload_n 1, 1) := by decide +kernel
theorem dX8_leave_29 : decode cX8_leave 29 = .ok (.invokevirtual 262, 3) := by decide +kernel
theorem dX8_leave_32 : decode cX8_leave 32 = .ok (.istore_n 3, 1) := by decide +kernel
theorem dX8_leave_33 : decode cX8_leave 33 = .ok (.iload_n 3, 1) := by decide +kernel
theorem dX8_leave_34 : decode cX8_leave 34 = .ok (.bipush (-9), 2) := by decide +kernel
theorem dX8_leave_36 : decode cX8_leave 36 = .ok (.if_icmp .eq 7, 3) := by decide +kernel
theorem dX8_leave_39 : decode cX8_leave 39 = .ok (.iload_n 2, 1) := by decide +kernel
theorem dX8_leave_40 : decode cX8_leave 40 = .ok (.ifCond .ne 7, 3) := by decide +kernel
theorem dX8_leave_43 : decode cX8_leave 43 = .ok (.iload_n 3, 1) := by decide +kernel
theorem dX8_leave_44 : decode cX8_leave 44 = .ok (.goto 11, 3) := by decide +kernel
theorem dX8_leave_47 : decode cX8_leave 47 = .ok (.aload_n 0, 1) := by decide +kernel
theorem dX8_leave_48 : decode cX8_leave 48 = .ok (.getfield 45, 3) := by decide +kernel
theorem dX8_leave_51 : decode cX8_leave 51 = .ok (.iload_n 3, 1) := by decide +kernel
theorem dX8_leave_52 : decode cX8_leave 52 = .ok (.invokevirtual 266, 3) := by decide +kernel
theorem dX8_leave_55 : decode cX8_leave 55 = .ok (.ireturn, 1) := by decide +kernel
theorem dX8_eat_0 : decode cX8_eat 0 = .ok (.iload_n 1, 1) := by decide +kernel
theorem dX8_eat_1 : decode cX8_eat 1 = .ok (.invokestatic 223, 3) := by decide +kernel
theorem dX8_eat_4 : decode cX8_eat 4 = .ok (.ifCond .ne 5, 3) := by decide +kernel
theorem dX8_eat_7 : decode cX8_eat 7 = .ok (.iconst (-1), 1) := by decide +kernel
theorem dX8_eat_8 : decode cX8_eat 8 = .ok (.ireturn, 1) := by decide +kernel
theorem dX8_eat_9 : decode cX8_eat 9 = .ok (.aload_n 0, 1) := by decide +kernel
theorem dX8_eat_10 : decode cX8_eat 10 = .ok (.getfield 64, 3) := by decide +kernel
theorem dX8_eat_13 : decode cX8_eat 13 = .ok (.aload_n 0, 1) := by decide +kernel
theorem dX8_eat_14 : decode cX8_eat 14 = .ok (.getfield 45, 3) := by decide +kernel
theorem dX8_eat_17 : decode cX8_eat 17 = .ok (.invokevirtual 269, 3) := by decide +kernel
theorem dX8_eat_20 : decode cX8_eat 20 = .ok (.iload_n 1, 1) := by decide +kernel
theorem dX8_eat_21 : decode cX8_eat 21 = .ok (.ifCond .ne 13, 3) := by decide +kernel
theorem dX8_eat_24 : decode cX8_eat 24 = .ok (.aload_n 0, 1) := by decide +kernel
theorem dX8_eat_25 : decode cX8_eat 25 = .ok (.getfield 64, 3) := by decide +kernel
theorem dX8_eat_28 : decode cX8_eat 28 = .ok (.getfield 273, 3) := by decide +kernel
theorem dX8_eat_31 : decode cX8_eat 31 = .ok (.goto 10, 3) := by decide +kernel
theorem dX8_eat_34 : decode cX8_eat 34 = .ok (.aload_n 0, 1) := by decide +kernel
theorem dX8_eat_35 : decode cX8_eat 35 = .ok (.getfield 64, 3) := by decide +kernel
theorem dX8_eat_38 : decode cX8_eat 38 = .ok (.getfield 276, 3) := by decide +kernel
theorem dX8_eat_41 : decode cX8_eat 41 = .ok (.ireturn, 1) := by decide +kernel
theorem dX8_truly_0 : decode cX8_truly 0 = .ok (.aload_n 0, 1) := by decide +kernel
theorem dX8_truly_1 : decode cX8_truly 1 = .ok (.iload_n 1, 1) := by decide +kernel
theorem dX8_truly_2 : decode cX8_truly 2 = .ok (.iload_n 2, 1) := by decide +kernel
theorem dX8_truly_3 : decode cX8_truly 3 = .ok (.iload_n 3, 1) := by decide +kernel
theorem dX8_truly_4 : decode cX8_truly 4 = .ok (.invokevirtual 277, 3) := by decide +kernel
theorem dX8_truly_7 : decode cX8_truly 7 = .ok (.ifCond .eq 11, 3) := by decide +kernel
theorem dX8_truly_10 : decode cX8_truly 10 = .ok (.iload 4, 2) := by decide +kernel
theorem dX8_truly_12 : decode cX8_truly 12 = .ok (.invokestatic 223, 3) := by decide +kernel
theorem dX8_truly_15 : decode cX8_truly 15 = .ok (.ifCond .ne 5, 3) := by decide +kernel
theorem dX8_truly_18 : decode cX8_truly 18 = .ok (.iconst (-1), 1) := by decide +kernel
theorem dX8_truly_19 : decode cX8_truly 19 = .ok (.ireturn, 1) := by decide +kernel
theorem dX8_truly_20 : decode cX8_truly 20 = .ok (.bipush (-9), 2) := by decide +kernel
theorem dX8_truly_22 : decode cX8_truly 22 = .ok (.istore 5, 2) := by decide +kernel
theorem dX8_truly_24 : decode cX8_truly 24 = .ok (.iconst 0, 1) := by decide +kernel
theorem dX8_truly_25 : decode cX8_truly 25 = .ok (.istore 6, 2) := by decide +kernel
theorem dX8_truly_27 : decode cX8_truly 27 = .ok (.iload 6, 2) := by decide +kernel
theorem dX8_truly_29 : decode cX8_truly 29 = .ok (.bipush 99, 2) := by decide +kernel
theorem dX8_truly_31 : decode cX8_truly 31 = .ok (.if_icmp .gt 41, 3) := by decide +kernel
theorem dX8_truly_34 : decode cX8_truly 34 = .ok (.aload_n 0, 1) := by decide +kernel
theorem dX8_truly_35 : decode cX8_truly 35 = .ok (.getfield 45, 3) := by decide +kernel
theorem dX8_truly_38 : decode cX8_truly 38 = .ok (.iload_n 1, 1) := by decide +kernel
theorem dX8_truly_39 : decode cX8_truly 39 = .ok (.iload 6, 2) := by decide +kernel
theorem dX8_truly_41 : decode cX8_truly 41 = .ok (.iload_n 2, 1) := by decide +kernel
theorem dX8_truly_42 : decode cX8_truly 42 = .ok (.invokevirtual 280, 3) := by decide +kernel
theorem dX8_truly_45 : decode cX8_truly 45 = .ok (.iload_n 3, 1) := by decide +kernel
theorem dX8_truly_46 : decode cX8_truly 46 = .ok (.if_icmp .ne 20, 3) := by decide +kernel
theorem dX8_truly_49 : decode cX8_truly 49 = .ok (.iload 5, 2) := by decide +kernel
theorem dX8_truly_51 : decode cX8_truly 51 = .ok (.bipush (-9), 2) := by decide +kernel
theorem dX8_truly_53 : decode cX8_truly 53 = .ok (.if_icmp .eq 9, 3) := by decide +kernel
theorem dX8_truly_56 : decode cX8_truly 56 = .ok (.iload 4, 2) := by decide +kernel
theorem dX8_truly_58 : decode cX8_truly 58 = .ok (.iconst 1, 1) := by decide +kernel
theorem dX8_truly_59 : decode cX8_truly 59 = .ok (.if_icmp .ne 7, 3) := by decide +kernel
theorem dX8_truly_62 : decode cX8_truly 62 = .ok (.iload 6, 2) := by decide +kernel
theorem dX8_truly_64 : decode cX8_truly 64 = .ok (.istore 5, 2) := by decide +kernel
theorem dX8_truly_66 : decode cX8_truly 66 = .ok (.iinc 6 1, 3) := by decide +kernel
theorem dX8_truly_69 : decode cX8_truly 69 = .ok (.goto (-42), 3) := by decide +kernel
theorem dX8_truly_72 : decode cX8_truly 72 = .ok (.iload 5, 2) := by decide +kernel
theorem dX8_truly_74 : decode cX8_truly 74 = .ok (.ireturn, 1) := by decide +kernel
theorem dX8_odds_0 : decode cX8_odds 0 = .ok (.iload_n 1, 1) := by decide +kernel
theorem dX8_odds_1 : decode cX8_odds 1 = .ok (.iconst 0, 1) := by decide +kernel
theorem dX8_odds_2 : decode cX8_odds 2 = .ok (.bipush 10, 2) := by decide +kernel
theorem dX8_odds_4 : decode cX8_odds 4 = .ok (.invokestatic 79, 3) := by decide +kernel
theorem dX8_odds_7 : decode cX8_odds 7 = .ok (.ifCond .eq 21, 3) := by decide +kernel
theorem dX8_odds_10 : decode cX8_odds 10 = .ok (.iload_n 2, 1) := by decide +kernel
theorem dX8_odds_11 : decode cX8_odds 11 = .ok (.iconst 0, 1) := by decide +kernel
theorem dX8_odds_12 : decode cX8_odds 12 = .ok (.sipush 9999, 3) := by decide +kernel
theorem dX8_odds_15 : decode cX8_odds 15 = .ok (.invokestatic 79, 3) := by decide +kernel
theorem dX8_odds_18 : decode cX8_odds 18 = .ok (.ifCond .eq 10, 3) := by decide +kernel
theorem dX8_odds_21 : decode cX8_odds 21 = .ok (.iload_n 3, 1) := by decide +kernel
theorem dX8_odds_22 : decode cX8_odds 22 = .ok (.invokestatic 223, 3) := by decide +kernel
theorem dX8_odds_25 : decode cX8_odds 25 = .ok (.ifCond .ne 7, 3) := by decide +kernel
theorem dX8_odds_28 : decode cX8_odds 28 = .ok (.ldc2_w 284, 3) := by decide +kernel
theorem dX8_odds_31 : decode cX8_odds 31 = .ok (.lreturn, 1) := by decide +kernel
theorem dX8_odds_32 : decode cX8_odds 32 = .ok (.aload_n 0, 1) := by decide +kernel
theorem dX8_odds_33 : decode cX8_odds 33 = .ok (.getfield 64, 3) := by decide +kernel
theorem dX8_odds_36 : decode cX8_odds 36 = .ok (.aload_n 0, 1) := by decide +kernel
theorem dX8_odds_37 : decode cX8_odds 37 = .ok (.getfield 45, 3) := by decide +kernel
theorem dX8_odds_40 : decode cX8_odds 40 = .ok (.iload_n 1, 1) := by decide +kernel
theorem dX8_odds_41 : decode cX8_odds 41 = .ok (.iload_n 2, 1) := by decide +kernel
theorem dX8_odds_42 : decode cX8_odds 42 = .ok (.invokevirtual 286, 3) := by decide +kernel
theorem dX8_odds_45 : decode cX8_odds 45 = .ok (.iload_n 3, 1) := by decide +kernel
theorem dX8_odds_46 : decode cX8_odds 46 = .ok (.ifCond .ne 13, 3) := by decide +kernel
theorem dX8_odds_49 : decode cX8_odds 49 = .ok (.aload_n 0, 1) := by decide +kernel
theorem dX8_odds_50 : decode cX8_odds 50 = .ok (.getfield 64, 3) := by decide +kernel
theorem dX8_odds_53 : decode cX8_odds 53 = .ok (.getfield 290, 3) := by decide +kernel
theorem dX8_odds_56 : decode cX8_odds 56 = .ok (.goto 10, 3) := by decide +kernel
theorem dX8_odds_59 : decode cX8_odds 59 = .ok (.aload_n 0, 1) := by decide +kernel
theorem dX8_odds_60 : decode cX8_odds 60 = .ok (.getfield 64, 3) := by decide +kernel
theorem dX8_odds_63 : decode cX8_odds 63 = .ok (.getfield 293, 3) := by decide +kernel
theorem dX8_odds_66 : decode cX8_odds 66 = .ok (.lreturn, 1) := by decide +kernel
theorem dX8_book_0 : decode cX8_book 0 = .ok (.aload_n 0, 1) := by decide +kernel
theorem dX8_book_1 : decode cX8_book 1 = .ok (.iload_n 1, 1) := by decide +kernel
theorem dX8_book_2 : decode cX8_book 2 = .ok (.iload_n 2, 1) := by decide +kernel
theorem dX8_book_3 : decode cX8_book 3 = .ok (.iload_n 3, 1) := by decide +kernel
theorem dX8_book_4 : decode cX8_book 4 = .ok (.invokevirtual 277, 3) := by decide +kernel
theorem dX8_book_7 : decode cX8_book 7 = .ok (.ifCond .ne 5, 3) := by decide +kernel
theorem dX8_book_10 : decode cX8_book 10 = .ok (.iconst (-1), 1) := by decide +kernel
theorem dX8_book_11 : decode cX8_book 11 = .ok (.ireturn, 1) := by decide +kernel
theorem dX8_book_12 : decode cX8_book 12 = .ok (.aload_n 0, 1) := by decide +kernel
theorem dX8_book_13 : decode cX8_book 13 = .ok (.getfield 71, 3) := by decide +kernel
theorem dX8_book_16 : decode cX8_book 16 = .ok (.iload_n 1, 1) := by decide +kernel
theorem dX8_book_17 : decode cX8_book 17 = .ok (.iload_n 2, 1) := by decide +kernel
theorem dX8_book_18 : decode cX8_book 18 = .ok (.iload_n 3, 1) := by decide +kernel
theorem dX8_book_19 : decode cX8_book 19 = .ok (.invokevirtual 296, 3) := by decide +kernel
theorem dX8_book_22 : decode cX8_book 22 = .ok (.ifCond .eq 13, 3) := by decide +kernel
theorem dX8_book_25 : decode cX8_book 25 = .ok (.aload_n 0, 1) := by decide +kernel
theorem dX8_book_26 : decode cX8_book 26 = .ok (.getfield 71, 3) := by decide +kernel
theorem dX8_book_29 : decode cX8_book 29 = .ok (.getfield 107, 3) := by decide +kernel
theorem dX8_book_32 : decode cX8_book 32 = .ok (.goto 5, 3) := by decide +kernel
theorem dX8_book_35 : decode cX8_book 35 = .ok (.bipush (-3), 2) := by decide +kernel
theorem dX8_book_37 : decode cX8_book 37 = .ok (.ireturn, 1) := by decide +kernel
theorem dX8_burn_0 : decode cX8_burn 0 = .ok (.aload_n 0, 1) := by decide +kernel
theorem dX8_burn_1 : decode cX8_burn 1 = .ok (.getfield 71, 3) := by decide +kernel
theorem dX8_burn_4 : decode cX8_burn 4 = .ok (.getfield 107, 3) := by decide +kernel
theorem dX8_burn_7 : decode cX8_burn 7 = .ok (.istore_n 1, 1) := by decide +kernel
theorem dX8_burn_8 : decode cX8_burn 8 = .ok (.aload_n 0, 1) := by decide +kernel
theorem dX8_burn_9 : decode cX8_burn 9 = .ok (.getfield 71, 3) := by decide +kernel
theorem dX8_burn_12 : decode cX8_burn 12 = .ok (.iconst 0, 1) := by decide +kernel
theorem dX8_burn_13 : decode cX8_burn 13 = .ok (.putfield 107, 3) := by decide +kernel
theorem dX8_burn_16 : decode cX8_burn 16 = .ok (.iload_n 1, 1) := by decide +kernel
theorem dX8_burn_17 : decode cX8_burn 17 = .ok (.ireturn, 1) := by decide +kernel
theorem dX8_sacks_0 : decode cX8_sacks 0 = .ok (.iload_n 1, 1) := by decide +kernel
theorem dX8_sacks_1 : decode cX8_sacks 1 = .ok (.invokestatic 223, 3) := by decide +kernel
theorem dX8_sacks_4 : decode cX8_sacks 4 = .ok (.ifCond .ne 5, 3) := by decide +kernel
theorem dX8_sacks_7 : decode cX8_sacks 7 = .ok (.iconst (-1), 1) := by decide +kernel
theorem dX8_sacks_8 : decode cX8_sacks 8 = .ok (.ireturn, 1) := by decide +kernel
theorem dX8_sacks_9 : decode cX8_sacks 9 = .ok (.aload_n 0, 1) := by decide +kernel
theorem dX8_sacks_10 : decode cX8_sacks 10 = .ok (.getfield 71, 3) := by decide +kernel
theorem dX8_sacks_13 : decode cX8_sacks 13 = .ok (.aload_n 0, 1) := by decide +kernel
theorem dX8_sacks_14 : decode cX8_sacks 14 = .ok (.getfield 45, 3) := by decide +kernel
theorem dX8_sacks_17 : decode cX8_sacks 17 = .ok (.invokevirtual 298, 3) := by decide +kernel
theorem dX8_sacks_20 : decode cX8_sacks 20 = .ok (.iload_n 1, 1) := by decide +kernel
theorem dX8_sacks_21 : decode cX8_sacks 21 = .ok (.ifCond .ne 13, 3) := by decide +kernel
theorem dX8_sacks_24 : decode cX8_sacks 24 = .ok (.aload_n 0, 1) := by decide +kernel
theorem dX8_sacks_25 : decode cX8_sacks 25 = .ok (.getfield 71, 3) := by decide +kernel
theorem dX8_sacks_28 : decode cX8_sacks 28 = .ok (.getfield 301, 3) := by decide +kernel
theorem dX8_sacks_31 : decode cX8_sacks 31 = .ok (.goto 10, 3) := by decide +kernel
theorem dX8_sacks_34 : decode cX8_sacks 34 = .ok (.aload_n 0, 1) := by decide +kernel
theorem dX8_sacks_35 : decode cX8_sacks 35 = .ok (.getfield 71, 3) := by decide +kernel
theorem dX8_sacks_38 : decode cX8_sacks 38 = .ok (.getfield 304, 3) := by decide +kernel
theorem dX8_sacks_41 : decode cX8_sacks 41 = .ok (.ireturn, 1) := by decide +kernel
theorem dX8_mark_0 : decode cX8_mark 0 = .ok (.aload_n 0, 1) := by decide +kernel
theorem dX8_mark_1 : decode cX8_mark 1 = .ok (.iload_n 2, 1) := by decide +kernel
theorem dX8_mark_2 : decode cX8_mark 2 = .ok (.invokevirtual 136, 3) := by decide +kernel
theorem dX8_mark_5 : decode cX8_mark 5 = .ok (.ifCond .ne 7, 3) := by decide +kernel
theorem dX8_mark_8 : decode cX8_mark 8 = .ok (.ldc_w 307, 3) := by decide +kernel
theorem dX8_mark_11 : decode cX8_mark 11 = .ok (.ireturn, 1) := by decide +kernel
theorem dX8_mark_12 : decode cX8_mark 12 = .ok (.iload_n 1, 1) := by decide +kernel
theorem dX8_mark_13 : decode cX8_mark 13 = .ok (.tableswitch 75 0 5 #[39, 45, 51, 57, 63, 69], 39) := by decide +kernel
theorem dX8_mark_52 : decode cX8_mark 52 = .ok (.aload_n 0, 1) := by decide +kernel
theorem dX8_mark_53 : decode cX8_mark 53 = .ok (.iload_n 2, 1) := by decide +kernel
theorem dX8_mark_54 : decode cX8_mark 54 = .ok (.invokevirtual 308, 3) := by decide +kernel
theorem dX8_mark_57 : decode cX8_mark 57 = .ok (.ireturn, 1) := by decide +kernel
theorem dX8_mark_58 : decode cX8_mark 58 = .ok (.aload_n 0, 1) := by decide +kernel
theorem dX8_mark_59 : decode cX8_mark 59 = .ok (.iload_n 2, 1) := by decide +kernel
theorem dX8_mark_60 : decode cX8_mark 60 = .ok (.invokevirtual 311, 3) := by decide +kernel
theorem dX8_mark_63 : decode cX8_mark 63 = .ok (.ireturn, 1) := by decide +kernel
theorem dX8_mark_64 : decode cX8_mark 64 = .ok (.aload_n 0, 1) := by decide +kernel
theorem dX8_mark_65 : decode cX8_mark 65 = .ok (.iload_n 2, 1) := by decide +kernel
theorem dX8_mark_66 : decode cX8_mark 66 = .ok (.invokevirtual 314, 3) := by decide +kernel
theorem dX8_mark_69 : decode cX8_mark 69 = .ok (.ireturn, 1) := by decide +kernel
theorem dX8_mark_70 : decode cX8_mark 70 = .ok (.aload_n 0, 1) := by decide +kernel
theorem dX8_mark_71 : decode cX8_mark 71 = .ok (.iload_n 2, 1) := by decide +kernel
theorem dX8_mark_72 : decode cX8_mark 72 = .ok (.invokevirtual 317, 3) := by decide +kernel
theorem dX8_mark_75 : decode cX8_mark 75 = .ok (.ireturn, 1) := by decide +kernel
theorem dX8_mark_76 : decode cX8_mark 76 = .ok (.aload_n 0, 1) := by decide +kernel
theorem dX8_mark_77 : decode cX8_mark 77 = .ok (.iload_n 2, 1) := by decide +kernel
theorem dX8_mark_78 : decode cX8_mark 78 = .ok (.invokevirtual 320, 3) := by decide +kernel
theorem dX8_mark_81 : decode cX8_mark 81 = .ok (.ireturn, 1) := by decide +kernel
theorem dX8_mark_82 : decode cX8_mark 82 = .ok (.aload_n 0, 1) := by decide +kernel
theorem dX8_mark_83 : decode cX8_mark 83 = .ok (.iload_n 2, 1) := by decide +kernel
theorem dX8_mark_84 : decode cX8_mark 84 = .ok (.invokevirtual 323, 3) := by decide +kernel
theorem dX8_mark_87 : decode cX8_mark 87 = .ok (.ireturn, 1) := by decide +kernel
theorem dX8_mark_88 : decode cX8_mark 88 = .ok (.ldc_w 307, 3) := by decide +kernel
theorem dX8_mark_91 : decode cX8_mark 91 = .ok (.ireturn, 1) := by decide +kernel
theorem dX8_keep_0 : decode cX8_keep 0 = .ok (.iload_n 1, 1) := by decide +kernel
theorem dX8_keep_1 : decode cX8_keep 1 = .ok (.iconst 0, 1) := by decide +kernel
theorem dX8_keep_2 : decode cX8_keep 2 = .ok (.iconst 1, 1) := by decide +kernel
theorem dX8_keep_3 : decode cX8_keep 3 = .ok (.invokestatic 79, 3) := by decide +kernel
theorem dX8_keep_6 : decode cX8_keep 6 = .ok (.ifCond .ne 5, 3) := by decide +kernel
theorem dX8_keep_9 : decode cX8_keep 9 = .ok (.iconst (-1), 1) := by decide +kernel
theorem dX8_keep_10 : decode cX8_keep 10 = .ok (.ireturn, 1) := by decide +kernel
theorem dX8_keep_11 : decode cX8_keep 11 = .ok (.aload_n 0, 1) := by decide +kernel
theorem dX8_keep_12 : decode cX8_keep 12 = .ok (.getfield 46, 3) := by decide +kernel
theorem dX8_keep_15 : decode cX8_keep 15 = .ok (.iload_n 1, 1) := by decide +kernel
theorem dX8_keep_16 : decode cX8_keep 16 = .ok (.aaload, 1) := by decide +kernel
theorem dX8_keep_17 : decode cX8_keep 17 = .ok (.aload_n 0, 1) := by decide +kernel
theorem dX8_keep_18 : decode cX8_keep 18 = .ok (.getfield 37, 3) := by decide +kernel
theorem dX8_keep_21 : decode cX8_keep 21 = .ok (.invokevirtual 326, 3) := by decide +kernel
theorem dX8_keep_24 : decode cX8_keep 24 = .ok (.aload_n 0, 1) := by decide +kernel
theorem dX8_keep_25 : decode cX8_keep 25 = .ok (.getfield 50, 3) := by decide +kernel
theorem dX8_keep_28 : decode cX8_keep 28 = .ok (.iload_n 1, 1) := by decide +kernel
theorem dX8_keep_29 : decode cX8_keep 29 = .ok (.iconst 1, 1) := by decide +kernel
theorem dX8_keep_30 : decode cX8_keep 30 = .ok (.bastore, 1) := by decide +kernel
theorem dX8_keep_31 : decode cX8_keep 31 = .ok (.aload_n 0, 1) := by decide +kernel
theorem dX8_keep_32 : decode cX8_keep 32 = .ok (.getfield 45, 3) := by decide +kernel
theorem dX8_keep_35 : decode cX8_keep 35 = .ok (.getfield 197, 3) := by decide +kernel
theorem dX8_keep_38 : decode cX8_keep 38 = .ok (.ireturn, 1) := by decide +kernel
theorem dX8_back_0 : decode cX8_back 0 = .ok (.iload_n 1, 1) := by decide +kernel
theorem dX8_back_1 : decode cX8_back 1 = .ok (.iconst 0, 1) := by decide +kernel
theorem dX8_back_2 : decode cX8_back 2 = .ok (.iconst 1, 1) := by decide +kernel
theorem dX8_back_3 : decode cX8_back 3 = .ok (.invokestatic 79, 3) := by decide +kernel
theorem dX8_back_6 : decode cX8_back 6 = .ok (.ifCond .ne 5, 3) := by decide +kernel
theorem dX8_back_9 : decode cX8_back 9 = .ok (.iconst (-1), 1) := by decide +kernel
theorem dX8_back_10 : decode cX8_back 10 = .ok (.ireturn, 1) := by decide +kernel
theorem dX8_back_11 : decode cX8_back 11 = .ok (.aload_n 0, 1) := by decide +kernel
theorem dX8_back_12 : decode cX8_back 12 = .ok (.getfield 50, 3) := by decide +kernel
theorem dX8_back_15 : decode cX8_back 15 = .ok (.iload_n 1, 1) := by decide +kernel
theorem dX8_back_16 : decode cX8_back 16 = .ok (.baload, 1) := by decide +kernel
theorem dX8_back_17 : decode cX8_back 17 = .ok (.ifCond .ne 6, 3) := by decide +kernel
theorem dX8_back_20 : decode cX8_back 20 = .ok (.bipush (-2), 2) := by decide +kernel
theorem dX8_back_22 : decode cX8_back 22 = .ok (.ireturn, 1) := by decide +kernel
theorem dX8_back_23 : decode cX8_back 23 = .ok (.aload_n 0, 1) := by decide +kernel
theorem dX8_back_24 : decode cX8_back 24 = .ok (.getfield 37, 3) := by decide +kernel
theorem dX8_back_27 : decode cX8_back 27 = .ok (.aload_n 0, 1) := by decide +kernel
theorem dX8_back_28 : decode cX8_back 28 = .ok (.getfield 46, 3) := by decide +kernel
theorem dX8_back_31 : decode cX8_back 31 = .ok (.iload_n 1, 1) := by decide +kernel
theorem dX8_back_32 : decode cX8_back 32 = .ok (.aaload, 1) := by decide +kernel
theorem dX8_back_33 : decode cX8_back 33 = .ok (.invokevirtual 326, 3) := by decide +kernel
theorem dX8_back_36 : decode cX8_back 36 = .ok (.aload_n 0, 1) := by decide +kernel
theorem dX8_back_37 : decode cX8_back 37 = .ok (.getfield 45, 3) := by decide +kernel
theorem dX8_back_40 : decode cX8_back 40 = .ok (.getfield 197, 3) := by decide +kernel
theorem dX8_back_43 : decode cX8_back 43 = .ok (.ireturn, 1) := by decide +kernel
theorem dX8_count_0 : decode cX8_count 0 = .ok (.iload_n 1, 1) := by decide +kernel
theorem dX8_count_1 : decode cX8_count 1 = .ok (.tableswitch 87 0 5 #[39, 47, 55, 63, 71, 79], 39) := by decide +kernel
theorem dX8_count_40 : decode cX8_count 40 = .ok (.aload_n 0, 1) := by decide +kernel
theorem dX8_count_41 : decode cX8_count 41 = .ok (.getfield 19, 3) := by decide +kernel
theorem dX8_count_44 : decode cX8_count 44 = .ok (.getfield 243, 3) := by decide +kernel
theorem dX8_count_47 : decode cX8_count 47 = .ok (.ireturn, 1) := by decide +kernel
theorem dX8_count_48 : decode cX8_count 48 = .ok (.aload_n 0, 1) := by decide +kernel
theorem dX8_count_49 : decode cX8_count 49 = .ok (.getfield 19, 3) := by decide +kernel
theorem dX8_count_52 : decode cX8_count 52 = .ok (.getfield 240, 3) := by decide +kernel
theorem dX8_count_55 : decode cX8_count 55 = .ok (.ireturn, 1) := by decide +kernel
theorem dX8_count_56 : decode cX8_count 56 = .ok (.aload_n 0, 1) := by decide +kernel
theorem dX8_count_57 : decode cX8_count 57 = .ok (.getfield 19, 3) := by decide +kernel
theorem dX8_count_60 : decode cX8_count 60 = .ok (.getfield 163, 3) := by decide +kernel
theorem dX8_count_63 : decode cX8_count 63 = .ok (.ireturn, 1) := by decide +kernel
theorem dX8_count_64 : decode cX8_count 64 = .ok (.aload_n 0, 1) := by decide +kernel
theorem dX8_count_65 : decode cX8_count 65 = .ok (.getfield 71, 3) := by decide +kernel
theorem dX8_count_68 : decode cX8_count 68 = .ok (.getfield 107, 3) := by decide +kernel
theorem dX8_count_71 : decode cX8_count 71 = .ok (.ireturn, 1) := by decide +kernel
theorem dX8_count_72 : decode cX8_count 72 = .ok (.aload_n 0, 1) := by decide +kernel
theorem dX8_count_73 : decode cX8_count 73 = .ok (.getfield 37, 3) := by decide +kernel
theorem dX8_count_76 : decode cX8_count 76 = .ok (.getfield 210, 3) := by decide +kernel
theorem dX8_count_79 : decode cX8_count 79 = .ok (.ireturn, 1) := by decide +kernel
theorem dX8_count_80 : decode cX8_count 80 = .ok (.aload_n 0, 1) := by decide +kernel
theorem dX8_count_81 : decode cX8_count 81 = .ok (.getfield 10, 3) := by decide +kernel
theorem dX8_count_84 : decode cX8_count 84 = .ok (.getfield 87, 3) := by decide +kernel
theorem dX8_count_87 : decode cX8_count 87 = .ok (.ireturn, 1) := by decide +kernel
theorem dX8_count_88 : decode cX8_count 88 = .ok (.iconst (-1), 1) := by decide +kernel
theorem dX8_count_89 : decode cX8_count 89 = .ok (.ireturn, 1) := by decide +kernel
theorem dX8_trace_0 : decode cX8_trace 0 = .ok (.aload_n 0, 1) := by decide +kernel
theorem dX8_trace_1 : decode cX8_trace 1 = .ok (.getfield 75, 3) := by decide +kernel
theorem dX8_trace_4 : decode cX8_trace 4 = .ok (.lreturn, 1) := by decide +kernel
theorem dX8_asLoad_0 : decode cX8_asLoad 0 = .ok (.aload_n 0, 1) := by decide +kernel
theorem dX8_asLoad_1 : decode cX8_asLoad 1 = .ok (.dup, 1) := by decide +kernel
theorem dX8_asLoad_2 : decode cX8_asLoad 2 = .ok (.getfield 75, 3) := by decide +kernel
theorem dX8_asLoad_5 : decode cX8_asLoad 5 = .ok (.lconst 1, 1) := by decide +kernel
theorem dX8_asLoad_6 : decode cX8_asLoad 6 = .ok (.ladd, 1) := by decide +kernel
theorem dX8_asLoad_7 : decode cX8_asLoad 7 = .ok (.putfield 75, 3) := by decide +kernel
theorem dX8_asLoad_10 : decode cX8_asLoad 10 = .ok (.aload_n 0, 1) := by decide +kernel
theorem dX8_asLoad_11 : decode cX8_asLoad 11 = .ok (.getfield 45, 3) := by decide +kernel
theorem dX8_asLoad_14 : decode cX8_asLoad 14 = .ok (.iload_n 1, 1) := by decide +kernel
theorem dX8_asLoad_15 : decode cX8_asLoad 15 = .ok (.invokevirtual 160, 3) := by decide +kernel
theorem dX8_asLoad_18 : decode cX8_asLoad 18 = .ok (.ireturn, 1) := by decide +kernel
theorem dX8_asHeavy_0 : decode cX8_asHeavy 0 = .ok (.aload_n 0, 1) := by decide +kernel
theorem dX8_asHeavy_1 : decode cX8_asHeavy 1 = .ok (.dup, 1) := by decide +kernel
theorem dX8_asHeavy_2 : decode cX8_asHeavy 2 = .ok (.getfield 75, 3) := by decide +kernel
theorem dX8_asHeavy_5 : decode cX8_asHeavy 5 = .ok (.ldc2_w 329, 3) := by decide +kernel
theorem dX8_asHeavy_8 : decode cX8_asHeavy 8 = .ok (.ladd, 1) := by decide +kernel
theorem dX8_asHeavy_9 : decode cX8_asHeavy 9 = .ok (.putfield 75, 3) := by decide +kernel
theorem dX8_asHeavy_12 : decode cX8_asHeavy 12 = .ok (.aload_n 0, 1) := by decide +kernel
theorem dX8_asHeavy_13 : decode cX8_asHeavy 13 = .ok (.iload_n 1, 1) := by decide +kernel
theorem dX8_asHeavy_14 : decode cX8_asHeavy 14 = .ok (.invokevirtual 308, 3) := by decide +kernel
theorem dX8_asHeavy_17 : decode cX8_asHeavy 17 = .ok (.aload_n 0, 1) := by decide +kernel
theorem dX8_asHeavy_18 : decode cX8_asHeavy 18 = .ok (.getfield 19, 3) := by decide +kernel
theorem dX8_asHeavy_21 : decode cX8_asHeavy 21 = .ok (.getfield 142, 3) := by decide +kernel
theorem dX8_asHeavy_24 : decode cX8_asHeavy 24 = .ok (.iload_n 1, 1) := by decide +kernel
theorem dX8_asHeavy_25 : decode cX8_asHeavy 25 = .ok (.iaload, 1) := by decide +kernel
theorem dX8_asHeavy_26 : decode cX8_asHeavy 26 = .ok (.iadd, 1) := by decide +kernel
theorem dX8_asHeavy_27 : decode cX8_asHeavy 27 = .ok (.ireturn, 1) := by decide +kernel
theorem dX8_asLight_0 : decode cX8_asLight 0 = .ok (.aload_n 0, 1) := by decide +kernel
theorem dX8_asLight_1 : decode cX8_asLight 1 = .ok (.dup, 1) := by decide +kernel
theorem dX8_asLight_2 : decode cX8_asLight 2 = .ok (.getfield 75, 3) := by decide +kernel
theorem dX8_asLight_5 : decode cX8_asLight 5 = .ok (.ldc2_w 331, 3) := by decide +kernel
theorem dX8_asLight_8 : decode cX8_asLight 8 = .ok (.ladd, 1) := by decide +kernel
theorem dX8_asLight_9 : decode cX8_asLight 9 = .ok (.putfield 75, 3) := by decide +kernel
theorem dX8_asLight_12 : decode cX8_asLight 12 = .ok (.aload_n 0, 1) := by decide +kernel
theorem dX8_asLight_13 : decode cX8_asLight 13 = .ok (.iload_n 1, 1) := by decide +kernel
theorem dX8_asLight_14 : decode cX8_asLight 14 = .ok (.invokevirtual 308, 3) := by decide +kernel
theorem dX8_asLight_17 : decode cX8_asLight 17 = .ok (.aload_n 0, 1) := by decide +kernel
theorem dX8_asLight_18 : decode cX8_asLight 18 = .ok (.getfield 19, 3) := by decide +kernel
theorem dX8_asLight_21 : decode cX8_asLight 21 = .ok (.getfield 139, 3) := by decide +kernel
theorem dX8_asLight_24 : decode cX8_asLight 24 = .ok (.iload_n 1, 1) := by decide +kernel
theorem dX8_asLight_25 : decode cX8_asLight 25 = .ok (.iaload, 1) := by decide +kernel
theorem dX8_asLight_26 : decode cX8_asLight 26 = .ok (.isub, 1) := by decide +kernel
theorem dX8_asLight_27 : decode cX8_asLight 27 = .ok (.ireturn, 1) := by decide +kernel
theorem dX8_asDamp_0 : decode cX8_asDamp 0 = .ok (.aload_n 0, 1) := by decide +kernel
theorem dX8_asDamp_1 : decode cX8_asDamp 1 = .ok (.dup, 1) := by decide +kernel
theorem dX8_asDamp_2 : decode cX8_asDamp 2 = .ok (.getfield 75, 3) := by decide +kernel
theorem dX8_asDamp_5 : decode cX8_asDamp 5 = .ok (.ldc2_w 333, 3) := by decide +kernel
theorem dX8_asDamp_8 : decode cX8_asDamp 8 = .ok (.ladd, 1) := by decide +kernel
theorem dX8_asDamp_9 : decode cX8_asDamp 9 = .ok (.putfield 75, 3) := by decide +kernel
theorem dX8_asDamp_12 : decode cX8_asDamp 12 = .ok (.aload_n 0, 1) := by decide +kernel
theorem dX8_asDamp_13 : decode cX8_asDamp 13 = .ok (.iload_n 1, 1) := by decide +kernel
theorem dX8_asDamp_14 : decode cX8_asDamp 14 = .ok (.invokevirtual 311, 3) := by decide +kernel
theorem dX8_asDamp_17 : decode cX8_asDamp 17 = .ok (.iconst 2, 1) := by decide +kernel
theorem dX8_asDamp_18 : decode cX8_asDamp 18 = .ok (.imul, 1) := by decide +kernel
theorem dX8_asDamp_19 : decode cX8_asDamp 19 = .ok (.ireturn, 1) := by decide +kernel
theorem dX8_asEaten_0 : decode cX8_asEaten 0 = .ok (.aload_n 0, 1) := by decide +kernel
theorem dX8_asEaten_1 : decode cX8_asEaten 1 = .ok (.dup, 1) := by decide +kernel
theorem dX8_asEaten_2 : decode cX8_asEaten 2 = .ok (.getfield 75, 3) := by decide +kernel
theorem dX8_asEaten_5 : decode cX8_asEaten 5 = .ok (.ldc2_w 335, 3) := by decide +kernel
theorem dX8_asEaten_8 : decode cX8_asEaten 8 = .ok (.ladd, 1) := by decide +kernel
theorem dX8_asEaten_9 : decode cX8_asEaten 9 = .ok (.putfield 75, 3) := by decide +kernel
theorem dX8_asEaten_12 : decode cX8_asEaten 12 = .ok (.aload_n 0, 1) := by decide +kernel
theorem dX8_asEaten_13 : decode cX8_asEaten 13 = .ok (.iload_n 1, 1) := by decide +kernel
theorem dX8_asEaten_14 : decode cX8_asEaten 14 = .ok (.invokevirtual 314, 3) := by decide +kernel
theorem dX8_asEaten_17 : decode cX8_asEaten 17 = .ok (.aload_n 0, 1) := by decide +kernel
theorem dX8_asEaten_18 : decode cX8_asEaten 18 = .ok (.getfield 45, 3) := by decide +kernel
theorem dX8_asEaten_21 : decode cX8_asEaten 21 = .ok (.getfield 197, 3) := by decide +kernel
theorem dX8_asEaten_24 : decode cX8_asEaten 24 = .ok (.iadd, 1) := by decide +kernel
theorem dX8_asEaten_25 : decode cX8_asEaten 25 = .ok (.ireturn, 1) := by decide +kernel
theorem dX8_asSilent_0 : decode cX8_asSilent 0 = .ok (.aload_n 0, 1) := by decide +kernel
theorem dX8_asSilent_1 : decode cX8_asSilent 1 = .ok (.dup, 1) := by decide +kernel
theorem dX8_asSilent_2 : decode cX8_asSilent 2 = .ok (.getfield 75, 3) := by decide +kernel
theorem dX8_asSilent_5 : decode cX8_asSilent 5 = .ok (.ldc2_w 337, 3) := by decide +kernel
theorem dX8_asSilent_8 : decode cX8_asSilent 8 = .ok (.ladd, 1) := by decide +kernel
theorem dX8_asSilent_9 : decode cX8_asSilent 9 = .ok (.putfield 75, 3) := by decide +kernel
theorem dX8_asSilent_12 : decode cX8_asSilent 12 = .ok (.aload_n 0, 1) := by decide +kernel
theorem dX8_asSilent_13 : decode cX8_asSilent 13 = .ok (.iload_n 1, 1) := by decide +kernel
theorem dX8_asSilent_14 : decode cX8_asSilent 14 = .ok (.invokevirtual 308, 3) := by decide +kernel
theorem dX8_asSilent_17 : decode cX8_asSilent 17 = .ok (.aload_n 0, 1) := by decide +kernel
theorem dX8_asSilent_18 : decode cX8_asSilent 18 = .ok (.getfield 45, 3) := by decide +kernel
theorem dX8_asSilent_21 : decode cX8_asSilent 21 = .ok (.getfield 181, 3) := by decide +kernel
theorem dX8_asSilent_24 : decode cX8_asSilent 24 = .ok (.iadd, 1) := by decide +kernel
theorem dX8_asSilent_25 : decode cX8_asSilent 25 = .ok (.ireturn, 1) := by decide +kernel
theorem dX8_isWalker_0 : decode cX8_isWalker 0 = .ok (.iload_n 1, 1) := by decide +kernel
theorem dX8_isWalker_1 : decode cX8_isWalker 1 = .ok (.iconst 0, 1) := by decide +kernel
theorem dX8_isWalker_2 : decode cX8_isWalker 2 = .ok (.aload_n 0, 1) := by decide +kernel
theorem dX8_isWalker_3 : decode cX8_isWalker 3 = .ok (.getfield 19, 3) := by decide +kernel
theorem dX8_isWalker_6 : decode cX8_isWalker 6 = .ok (.getfield 243, 3) := by decide +kernel
theorem dX8_isWalker_9 : decode cX8_isWalker 9 = .ok (.iconst 1, 1) := by decide +kernel
theorem dX8_isWalker_10 : decode cX8_isWalker 10 = .ok (.isub, 1) := by decide +kernel
theorem dX8_isWalker_11 : decode cX8_isWalker 11 = .ok (.invokestatic 79, 3) := by decide +kernel
theorem dX8_isWalker_14 : decode cX8_isWalker 14 = .ok (.ireturn, 1) := by decide +kernel
theorem dX8_isThing_0 : decode cX8_isThing 0 = .ok (.iload_n 1, 1) := by decide +kernel
theorem dX8_isThing_1 : decode cX8_isThing 1 = .ok (.iconst 0, 1) := by decide +kernel
theorem dX8_isThing_2 : decode cX8_isThing 2 = .ok (.aload_n 0, 1) := by decide +kernel
theorem dX8_isThing_3 : decode cX8_isThing 3 = .ok (.getfield 19, 3) := by decide +kernel
theorem dX8_isThing_6 : decode cX8_isThing 6 = .ok (.getfield 240, 3) := by decide +kernel
theorem dX8_isThing_9 : decode cX8_isThing 9 = .ok (.iconst 1, 1) := by decide +kernel
theorem dX8_isThing_10 : decode cX8_isThing 10 = .ok (.isub, 1) := by decide +kernel
theorem dX8_isThing_11 : decode cX8_isThing 11 = .ok (.invokestatic 79, 3) := by decide +kernel
theorem dX8_isThing_14 : decode cX8_isThing 14 = .ok (.ireturn, 1) := by decide +kernel
theorem dX8_isLine_0 : decode cX8_isLine 0 = .ok (.aload_n 0, 1) := by decide +kernel
theorem dX8_isLine_1 : decode cX8_isLine 1 = .ok (.iload_n 1, 1) := by decide +kernel
theorem dX8_isLine_2 : decode cX8_isLine 2 = .ok (.invokevirtual 110, 3) := by decide +kernel
theorem dX8_isLine_5 : decode cX8_isLine 5 = .ok (.ifCond .eq 28, 3) := by decide +kernel
theorem dX8_isLine_8 : decode cX8_isLine 8 = .ok (.iload_n 2, 1) := by decide +kernel
theorem dX8_isLine_9 : decode cX8_isLine 9 = .ok (.iconst 1, 1) := by decide +kernel
theorem dX8_isLine_10 : decode cX8_isLine 10 = .ok (.bipush 20, 2) := by decide +kernel
theorem dX8_isLine_12 : decode cX8_isLine 12 = .ok (.invokestatic 79, 3) := by decide +kernel
theorem dX8_isLine_15 : decode cX8_isLine 15 = .ok (.ifCond .eq 18, 3) := by decide +kernel
theorem dX8_isLine_18 : decode cX8_isLine 18 = .ok (.iload_n 3, 1) := by decide +kernel
theorem dX8_isLine_19 : decode cX8_isLine 19 = .ok (.iconst 1, 1) := by decide +kernel
theorem dX8_isLine_20 : decode cX8_isLine 20 = .ok (.sipush 999, 3) := by decide +kernel
theorem dX8_isLine_23 : decode cX8_isLine 23 = .ok (.invokestatic 79, 3) := by decide +kernel
theorem dX8_isLine_26 : decode cX8_isLine 26 = .ok (.ifCond .eq 7, 3) := by decide +kernel
theorem dX8_isLine_29 : decode cX8_isLine 29 = .ok (.iconst 1, 1) := by decide +kernel
theorem dX8_isLine_30 : decode cX8_isLine 30 = .ok (.goto 4, 3) := by decide +kernel
theorem dX8_isLine_33 : decode cX8_isLine 33 = .ok (.iconst 0, 1) := by decide +kernel
theorem dX8_isLine_34 : decode cX8_isLine 34 = .ok (.ireturn, 1) := by decide +kernel
theorem dX8_isEither_0 : decode cX8_isEither 0 = .ok (.iload_n 0, 1) := by decide +kernel
theorem dX8_isEither_1 : decode cX8_isEither 1 = .ok (.ifCond .eq 8, 3) := by decide +kernel
theorem dX8_isEither_4 : decode cX8_isEither 4 = .ok (.iload_n 0, 1) := by decide +kernel
theorem dX8_isEither_5 : decode cX8_isEither 5 = .ok (.iconst 1, 1) := by decide +kernel
theorem dX8_isEither_6 : decode cX8_isEither 6 = .ok (.if_icmp .ne 7, 3) := by decide +kernel
theorem dX8_isEither_9 : decode cX8_isEither 9 = .ok (.iconst 1, 1) := by decide +kernel
theorem dX8_isEither_10 : decode cX8_isEither 10 = .ok (.goto 4, 3) := by decide +kernel
theorem dX8_isEither_13 : decode cX8_isEither 13 = .ok (.iconst 0, 1) := by decide +kernel
theorem dX8_isEither_14 : decode cX8_isEither 14 = .ok (.ireturn, 1) := by decide +kernel
theorem dX8_isWithin_0 : decode cX8_isWithin 0 = .ok (.iload_n 0, 1) := by decide +kernel
theorem dX8_isWithin_1 : decode cX8_isWithin 1 = .ok (.iload_n 1, 1) := by decide +kernel
theorem dX8_isWithin_2 : decode cX8_isWithin 2 = .ok (.if_icmp .lt 12, 3) := by decide +kernel
theorem dX8_isWithin_5 : decode cX8_isWithin 5 = .ok (.iload_n 0, 1) := by decide +kernel
theorem dX8_isWithin_6 : decode cX8_isWithin 6 = .ok (.iload_n 2, 1) := by decide +kernel
theorem dX8_isWithin_7 : decode cX8_isWithin 7 = .ok (.if_icmp .gt 7, 3) := by decide +kernel
theorem dX8_isWithin_10 : decode cX8_isWithin 10 = .ok (.iconst 1, 1) := by decide +kernel
theorem dX8_isWithin_11 : decode cX8_isWithin 11 = .ok (.goto 4, 3) := by decide +kernel
theorem dX8_isWithin_14 : decode cX8_isWithin 14 = .ok (.iconst 0, 1) := by decide +kernel
theorem dX8_isWithin_15 : decode cX8_isWithin 15 = .ok (.ireturn, 1) := by decide +kernel
theorem dX9_init_0 : decode cX9_init 0 = .ok (.aload_n 0, 1) := by decide +kernel
theorem dX9_init_1 : decode cX9_init 1 = .ok (.invokespecial 1, 3) := by decide +kernel
theorem dX9_init_4 : decode cX9_init 4 = .ok (.aload_n 0, 1) := by decide +kernel
theorem dX9_init_5 : decode cX9_init 5 = .ok (.sipush 200, 3) := by decide +kernel
theorem dX9_init_8 : decode cX9_init 8 = .ok (.newarray .int, 2) := by decide +kernel
theorem dX9_init_10 : decode cX9_init 10 = .ok (.putfield 7, 3) := by decide +kernel
theorem dX9_init_13 : decode cX9_init 13 = .ok (.aload_n 0, 1) := by decide +kernel
theorem dX9_init_14 : decode cX9_init 14 = .ok (.bipush 71, 2) := by decide +kernel
theorem dX9_init_16 : decode cX9_init 16 = .ok (.newarray .int, 2) := by decide +kernel
theorem dX9_init_18 : decode cX9_init 18 = .ok (.putfield 13, 3) := by decide +kernel
theorem dX9_init_21 : decode cX9_init 21 = .ok (.aload_n 0, 1) := by decide +kernel
theorem dX9_init_22 : decode cX9_init 22 = .ok (.bipush 71, 2) := by decide +kernel
theorem dX9_init_24 : decode cX9_init 24 = .ok (.newarray .int, 2) := by decide +kernel
theorem dX9_init_26 : decode cX9_init 26 = .ok (.putfield 16, 3) := by decide +kernel
theorem dX9_init_29 : decode cX9_init 29 = .ok (.aload_n 0, 1) := by decide +kernel
theorem dX9_init_30 : decode cX9_init 30 = .ok (.sipush 320, 3) := by decide +kernel
theorem dX9_init_33 : decode cX9_init 33 = .ok (.newarray .int, 2) := by decide +kernel
theorem dX9_init_35 : decode cX9_init 35 = .ok (.putfield 19, 3) := by decide +kernel
theorem dX9_init_38 : decode cX9_init 38 = .ok (.aload_n 0, 1) := by decide +kernel
theorem dX9_init_39 : decode cX9_init 39 = .ok (.sipush 640, 3) := by decide +kernel
theorem dX9_init_42 : decode cX9_init 42 = .ok (.newarray .int, 2) := by decide +kernel
theorem dX9_init_44 : decode cX9_init 44 = .ok (.putfield 22, 3) := by decide +kernel
theorem dX9_init_47 : decode cX9_init 47 = .ok (.aload_n 0, 1) := by decide +kernel
theorem dX9_init_48 : decode cX9_init 48 = .ok (.iconst 2, 1) := by decide +kernel
theorem dX9_init_49 : decode cX9_init 49 = .ok (.newarray .boolean, 2) := by decide +kernel
theorem dX9_init_51 : decode cX9_init 51 = .ok (.putfield 25, 3) := by decide +kernel
theorem dX9_init_54 : decode cX9_init 54 = .ok (.aload_n 0, 1) := by decide +kernel
theorem dX9_init_55 : decode cX9_init 55 = .ok (.bipush 18, 2) := by decide +kernel
theorem dX9_init_57 : decode cX9_init 57 = .ok (.newarray .int, 2) := by decide +kernel
theorem dX9_init_59 : decode cX9_init 59 = .ok (.putfield 29, 3) := by decide +kernel
theorem dX9_init_62 : decode cX9_init 62 = .ok (.aload_n 0, 1) := by decide +kernel
theorem dX9_init_63 : decode cX9_init 63 = .ok (.bipush 7, 2) := by decide +kernel
theorem dX9_init_65 : decode cX9_init 65 = .ok (.newarray .int, 2) := by decide +kernel
theorem dX9_init_67 : decode cX9_init 67 = .ok (.putfield 32, 3) := by decide +kernel
theorem dX9_init_70 : decode cX9_init 70 = .ok (.aload_n 0, 1) := by decide +kernel
theorem dX9_init_71 : decode cX9_init 71 = .ok (.iconst 4, 1) := by decide +kernel
theorem dX9_init_72 : decode cX9_init 72 = .ok (.newarray .int, 2) := by decide +kernel
theorem dX9_init_74 : decode cX9_init 74 = .ok (.putfield 35, 3) := by decide +kernel
theorem dX9_init_77 : decode cX9_init 77 = .ok (.aload_n 0, 1) := by decide +kernel
theorem dX9_init_78 : decode cX9_init 78 = .ok (.bipush 29, 2) := by decide +kernel
theorem dX9_init_80 : decode cX9_init 80 = .ok (.newarray .int, 2) := by decide +kernel
theorem dX9_init_82 : decode cX9_init 82 = .ok (.putfield 38, 3) := by decide +kernel
theorem dX9_init_85 : decode cX9_init 85 = .ok (.aload_n 0, 1) := by decide +kernel
theorem dX9_init_86 : decode cX9_init 86 = .ok (.invokevirtual 41, 3) := by decide +kernel
theorem dX9_init_89 : decode cX9_init 89 = .ok (.pop, 1) := by decide +kernel
theorem dX9_init_90 : decode cX9_init 90 = .ok (.aload_n 0, 1) := by decide +kernel
theorem dX9_init_91 : decode cX9_init 91 = .ok (.invokevirtual 45, 3) := by decide +kernel
theorem dX9_init_94 : decode cX9_init 94 = .ok (.return_, 1) := by decide +kernel
theorem dX9_in_0 : decode cX9_in 0 = .ok (.iload_n 0, 1) := by decide +kernel
theorem dX9_in_1 : decode cX9_in 1 = .ok (.iload_n 1, 1) := by decide +kernel
theorem dX9_in_2 : decode cX9_in 2 = .ok (.if_icmp .lt 12, 3) := by decide +kernel
theorem dX9_in_5 : decode cX9_in 5 = .ok (.iload_n 0, 1) := by decide +kernel
theorem dX9_in_6 : decode cX9_in 6 = .ok (.iload_n 2, 1) := by decide +kernel
theorem dX9_in_7 : decode cX9_in 7 = .ok (.if_icmp .gt 7, 3) := by decide +kernel
theorem dX9_in_10 : decode cX9_in 10 = .ok (.iconst 1, 1) := by decide +kernel
theorem dX9_in_11 : decode cX9_in 11 = .ok (.goto 4, 3) := by decide +kernel
theorem dX9_in_14 : decode cX9_in 14 = .ok (.iconst 0, 1) := by decide +kernel
theorem dX9_in_15 : decode cX9_in 15 = .ok (.ireturn, 1) := by decide +kernel
theorem dX9_isWalker_0 : decode cX9_isWalker 0 = .ok (.iload_n 1, 1) := by decide +kernel
theorem dX9_isWalker_1 : decode cX9_isWalker 1 = .ok (.iconst 0, 1) := by decide +kernel
theorem dX9_isWalker_2 : decode cX9_isWalker 2 = .ok (.aload_n 0, 1) := by decide +kernel
theorem dX9_isWalker_3 : decode cX9_isWalker 3 = .ok (.getfield 13, 3) := by decide +kernel
theorem dX9_isWalker_6 : decode cX9_isWalker 6 = .ok (.iconst 0, 1) := by decide +kernel
theorem dX9_isWalker_7 : decode cX9_isWalker 7 = .ok (.iaload, 1) := by decide +kernel
theorem dX9_isWalker_8 : decode cX9_isWalker 8 = .ok (.iconst 1, 1) := by decide +kernel
theorem dX9_isWalker_9 : decode cX9_isWalker 9 = .ok (.isub, 1) := by decide +kernel
theorem dX9_isWalker_10 : decode cX9_isWalker 10 = .ok (.invokestatic 48, 3) := by decide +kernel
theorem dX9_isWalker_13 : decode cX9_isWalker 13 = .ok (.ireturn, 1) := by decide +kernel
theorem dX9_isThing_0 : decode cX9_isThing 0 = .ok (.iload_n 1, 1) := by decide +kernel
theorem dX9_isThing_1 : decode cX9_isThing 1 = .ok (.iconst 0, 1) := by decide +kernel
theorem dX9_isThing_2 : decode cX9_isThing 2 = .ok (.aload_n 0, 1) := by decide +kernel
theorem dX9_isThing_3 : decode cX9_isThing 3 = .ok (.getfield 13, 3) := by decide +kernel
theorem dX9_isThing_6 : decode cX9_isThing 6 = .ok (.iconst 1, 1) := by decide +kernel
theorem dX9_isThing_7 : decode cX9_isThing 7 = .ok (.iaload, 1) := by decide +kernel
theorem dX9_isThing_8 : decode cX9_isThing 8 = .ok (.iconst 1, 1) := by decide +kernel
theorem dX9_isThing_9 : decode cX9_isThing 9 = .ok (.isub, 1) := by decide +kernel
theorem dX9_isThing_10 : decode cX9_isThing 10 = .ok (.invokestatic 48, 3) := by decide +kernel
theorem dX9_isThing_13 : decode cX9_isThing 13 = .ok (.ireturn, 1) := by decide +kernel
theorem dX9_type_0 : decode cX9_type 0 = .ok (.iload_n 1, 1) := by decide +kernel
theorem dX9_type_1 : decode cX9_type 1 = .ok (.iconst 0, 1) := by decide +kernel
theorem dX9_type_2 : decode cX9_type 2 = .ok (.sipush 255, 3) := by decide +kernel
theorem dX9_type_5 : decode cX9_type 5 = .ok (.invokestatic 48, 3) := by decide +kernel
theorem dX9_type_8 : decode cX9_type 8 = .ok (.ifCond .ne 5, 3) := by decide +kernel
theorem dX9_type_11 : decode cX9_type 11 = .ok (.iconst (-1), 1) := by decide +kernel
theorem dX9_type_12 : decode cX9_type 12 = .ok (.ireturn, 1) := by decide +kernel
theorem dX9_type_13 : decode cX9_type 13 = .ok (.aload_n 0, 1) := by decide +kernel
theorem dX9_type_14 : decode cX9_type 14 = .ok (.getfield 52, 3) := by decide +kernel
theorem dX9_type_17 : decode cX9_type 17 = .ok (.sipush 200, 3) := by decide +kernel
theorem dX9_type_20 : decode cX9_type 20 = .ok (.if_icmp .ne 6, 3) := by decide +kernel
theorem dX9_type_23 : decode cX9_type 23 = .ok (.bipush (-3), 2) := by decide +kernel
theorem dX9_type_25 : decode cX9_type 25 = .ok (.ireturn, 1) := by decide +kernel
theorem dX9_type_26 : decode cX9_type 26 = .ok (.aload_n 0, 1) := by decide +kernel
theorem dX9_type_27 : decode cX9_type 27 = .ok (.getfield 7, 3) := by decide +kernel
theorem dX9_type_30 : decode cX9_type 30 = .ok (.aload_n 0, 1) := by decide +kernel
theorem dX9_type_31 : decode cX9_type 31 = .ok (.getfield 52, 3) := by decide +kernel
theorem dX9_type_34 : decode cX9_type 34 = .ok (.iload_n 1, 1) := by decide +kernel
theorem dX9_type_35 : decode cX9_type 35 = .ok (.iastore, 1) := by decide +kernel
theorem dX9_type_36 : decode cX9_type 36 = .ok (.aload_n 0, 1) := by decide +kernel
theorem dX9_type_37 : decode cX9_type 37 = .ok (.dup, 1) := by decide +kernel
theorem dX9_type_38 : decode cX9_type 38 = .ok (.getfield 52, 3) := by decide +kernel
theorem dX9_type_41 : decode cX9_type 41 = .ok (.iconst 1, 1) := by decide +kernel
theorem dX9_type_42 : decode cX9_type 42 = .ok (.iadd, 1) := by decide +kernel
theorem dX9_type_43 : decode cX9_type 43 = .ok (.putfield 52, 3) := by decide +kernel
theorem dX9_type_46 : decode cX9_type 46 = .ok (.aload_n 0, 1) := by decide +kernel
theorem dX9_type_47 : decode cX9_type 47 = .ok (.getfield 52, 3) := by decide +kernel
theorem dX9_type_50 : decode cX9_type 50 = .ok (.ireturn, 1) := by decide +kernel
theorem dX9_clear_0 : decode cX9_clear 0 = .ok (.aload_n 0, 1) := by decide +kernel
theorem dX9_clear_1 : decode cX9_clear 1 = .ok (.getfield 52, 3) := by decide +kernel
theorem dX9_clear_4 : decode cX9_clear 4 = .ok (.istore_n 1, 1) := by decide +kernel
theorem dX9_clear_5 : decode cX9_clear 5 = .ok (.aload_n 0, 1) := by decide +kernel
theorem dX9_clear_6 : decode cX9_clear 6 = .ok (.iconst 0, 1) := by decide +kernel
theorem dX9_clear_7 : decode cX9_clear 7 = .ok (.putfield 52, 3) := by decide +kernel
theorem dX9_clear_10 : decode cX9_clear 10 = .ok (.iload_n 1, 1) := by decide +kernel
theorem dX9_clear_11 : decode cX9_clear 11 = .ok (.ireturn, 1) := by decide +kernel
theorem dX9_byteAt_0 : decode cX9_byteAt 0 = .ok (.iload_n 1, 1) := by decide +kernel
theorem dX9_byteAt_1 : decode cX9_byteAt 1 = .ok (.aload_n 0, 1) := by decide +kernel
theorem dX9_byteAt_2 : decode cX9_byteAt 2 = .ok (.getfield 52, 3) := by decide +kernel
theorem dX9_byteAt_5 : decode cX9_byteAt 5 = .ok (.if_icmp .ge 12, 3) := by decide +kernel
theorem dX9_byteAt_8 : decode cX9_byteAt 8 = .ok (.aload_n 0, 1) := by decide +kernel
theorem dX9_byteAt_9 : decode cX9_byteAt 9 = .ok (.getfield 7, 3) := by decide +kernel
theorem dX9_byteAt_12 : decode cX9_byteAt 12 = .ok (.iload_n 1, 1) := by decide +kernel
theorem dX9_byteAt_13 : decode cX9_byteAt 13 = .ok (.iaload, 1) := by decide +kernel
theorem dX9_byteAt_14 : decode cX9_byteAt 14 = .ok (.goto 4, 3) := by decide +kernel
theorem dX9_byteAt_17 : decode cX9_byteAt 17 = .ok (.iconst (-1), 1) := by decide +kernel
theorem dX9_byteAt_18 : decode cX9_byteAt 18 = .ok (.ireturn, 1) := by decide +kernel
theorem dX9_isLetter_0 : decode cX9_isLetter 0 = .ok (.iload_n 0, 1) := by decide +kernel
theorem dX9_isLetter_1 : decode cX9_isLetter 1 = .ok (.bipush 97, 2) := by decide +kernel
theorem dX9_isLetter_3 : decode cX9_isLetter 3 = .ok (.bipush 122, 2) := by decide +kernel
theorem dX9_isLetter_5 : decode cX9_isLetter 5 = .ok (.invokestatic 48, 3) := by decide +kernel
theorem dX9_isLetter_8 : decode cX9_isLetter 8 = .ok (.ireturn, 1) := by decide +kernel
theorem dX9_isDigit_0 : decode cX9_isDigit 0 = .ok (.iload_n 0, 1) := by decide +kernel
theorem dX9_isDigit_1 : decode cX9_isDigit 1 = .ok (.bipush 48, 2) := by decide +kernel
theorem dX9_isDigit_3 : decode cX9_isDigit 3 = .ok (.bipush 57, 2) := by decide +kernel
theorem dX9_isDigit_5 : decode cX9_isDigit 5 = .ok (.invokestatic 48, 3) := by decide +kernel
theorem dX9_isDigit_8 : decode cX9_isDigit 8 = .ok (.ireturn, 1) := by decide +kernel
theorem dX9_token_0 : decode cX9_token 0 = .ok (.aload_n 0, 1) := by decide +kernel
theorem dX9_token_1 : decode cX9_token 1 = .ok (.aload_n 0, 1) := by decide +kernel
theorem dX9_token_2 : decode cX9_token 2 = .ok (.getfield 56, 3) := by decide +kernel
theorem dX9_token_5 : decode cX9_token 5 = .ok (.invokevirtual 59, 3) := by decide +kernel
theorem dX9_token_8 : decode cX9_token 8 = .ok (.bipush 32, 2) := by decide +kernel
theorem dX9_token_10 : decode cX9_token 10 = .ok (.if_icmp .ne 16, 3) := by decide +kernel
theorem dX9_token_13 : decode cX9_token 13 = .ok (.aload_n 0, 1) := by decide +kernel
theorem dX9_token_14 : decode cX9_token 14 = .ok (.dup, 1) := by decide +kernel
theorem dX9_token_15 : decode cX9_token 15 = .ok (.getfield 56, 3) := by decide +kernel
theorem dX9_token_18 : decode cX9_token 18 = .ok (.iconst 1, 1) := by decide +kernel
theorem dX9_token_19 : decode cX9_token 19 = .ok (.iadd, 1) := by decide +kernel
theorem dX9_token_20 : decode cX9_token 20 = .ok (.putfield 56, 3) := by decide +kernel
theorem dX9_token_23 : decode cX9_token 23 = .ok (.goto (-23), 3) := by decide +kernel
theorem dX9_token_26 : decode cX9_token 26 = .ok (.aload_n 0, 1) := by decide +kernel
theorem dX9_token_27 : decode cX9_token 27 = .ok (.aload_n 0, 1) := by decide +kernel
theorem dX9_token_28 : decode cX9_token 28 = .ok (.getfield 56, 3) := by decide +kernel
theorem dX9_token_31 : decode cX9_token 31 = .ok (.putfield 63, 3) := by decide +kernel
theorem dX9_token_34 : decode cX9_token 34 = .ok (.aload_n 0, 1) := by decide +kernel
theorem dX9_token_35 : decode cX9_token 35 = .ok (.aload_n 0, 1) := by decide +kernel
theorem dX9_token_36 : decode cX9_token 36 = .ok (.getfield 56, 3) := by decide +kernel
theorem dX9_token_39 : decode cX9_token 39 = .ok (.invokevirtual 59, 3) := by decide +kernel
theorem dX9_token_42 : decode cX9_token 42 = .ok (.istore_n 1, 1) := by decide +kernel
theorem dX9_token_43 : decode cX9_token 43 = .ok (.aload_n 0, 1) := by decide +kernel
theorem dX9_token_44 : decode cX9_token 44 = .ok (.iload_n 1, 1) := by decide +kernel
theorem dX9_token_45 : decode cX9_token 45 = .ok (.ifCond .ge 7, 3) := by decide +kernel
theorem dX9_token_48 : decode cX9_token 48 = .ok (.iconst 0, 1) := by decide +kernel
theorem dX9_token_49 : decode cX9_token 49 = .ok (.goto 36, 3) := by decide +kernel
theorem dX9_token_52 : decode cX9_token 52 = .ok (.iload_n 1, 1) := by decide +kernel
theorem dX9_token_53 : decode cX9_token 53 = .ok (.invokestatic 66, 3) := by decide +kernel
theorem dX9_token_56 : decode cX9_token 56 = .ok (.ifCond .eq 7, 3) := by decide +kernel
theorem dX9_token_59 : decode cX9_token 59 = .ok (.iconst 1, 1) := by decide +kernel
theorem dX9_token_60 : decode cX9_token 60 = .ok (.goto 25, 3) := by decide +kernel
theorem dX9_token_63 : decode cX9_token 63 = .ok (.iload_n 1, 1) := by decide +kernel
theorem dX9_token_64 : decode cX9_token 64 = .ok (.invokestatic 70, 3) := by decide +kernel
theorem dX9_token_67 : decode cX9_token 67 = .ok (.ifCond .eq 7, 3) := by decide +kernel
theorem dX9_token_70 : decode cX9_token 70 = .ok (.iconst 2, 1) := by decide +kernel
theorem dX9_token_71 : decode cX9_token 71 = .ok (.goto 14, 3) := by decide +kernel
theorem dX9_token_74 : decode cX9_token 74 = .ok (.iload_n 1, 1) := by decide +kernel
theorem dX9_token_75 : decode cX9_token 75 = .ok (.bipush 59, 2) := by decide +kernel
theorem dX9_token_77 : decode cX9_token 77 = .ok (.if_icmp .ne 7, 3) := by decide +kernel
theorem dX9_token_80 : decode cX9_token 80 = .ok (.iconst 3, 1) := by decide +kernel
theorem dX9_token_81 : decode cX9_token 81 = .ok (.goto 4, 3) := by decide +kernel
theorem dX9_token_84 : decode cX9_token 84 = .ok (.iconst 4, 1) := by decide +kernel
theorem dX9_token_85 : decode cX9_token 85 = .ok (.putfield 73, 3) := by decide +kernel
theorem dX9_token_88 : decode cX9_token 88 = .ok (.aload_n 0, 1) := by decide +kernel
theorem dX9_token_89 : decode cX9_token 89 = .ok (.iload_n 1, 1) := by decide +kernel
theorem dX9_token_90 : decode cX9_token 90 = .ok (.putfield 76, 3) := by decide +kernel
theorem dX9_token_93 : decode cX9_token 93 = .ok (.aload_n 0, 1) := by decide +kernel
theorem dX9_token_94 : decode cX9_token 94 = .ok (.getfield 73, 3) := by decide +kernel
theorem dX9_token_97 : decode cX9_token 97 = .ok (.ifCond .eq 13, 3) := by decide +kernel
theorem dX9_token_100 : decode cX9_token 100 = .ok (.aload_n 0, 1) := by decide +kernel
theorem dX9_token_101 : decode cX9_token 101 = .ok (.dup, 1) := by decide +kernel
theorem dX9_token_102 : decode cX9_token 102 = .ok (.getfield 56, 3) := by decide +kernel
theorem dX9_token_105 : decode cX9_token 105 = .ok (.iconst 1, 1) := by decide +kernel
theorem dX9_token_106 : decode cX9_token 106 = .ok (.iadd, 1) := by decide +kernel
theorem dX9_token_107 : decode cX9_token 107 = .ok (.putfield 56, 3) := by decide +kernel
theorem dX9_token_110 : decode cX9_token 110 = .ok (.aload_n 0, 1) := by decide +kernel
theorem dX9_token_111 : decode cX9_token 111 = .ok (.getfield 73, 3) := by decide +kernel
theorem dX9_token_114 : decode cX9_token 114 = .ok (.iconst 1, 1) := by decide +kernel
theorem dX9_token_115 : decode cX9_token 115 = .ok (.if_icmp .ne 35, 3) := by decide +kernel
theorem dX9_token_118 : decode cX9_token 118 = .ok (.aload_n 0, 1) := by decide +kernel
theorem dX9_token_119 : decode cX9_token 119 = .ok (.aload_n 0, 1) := by decide +kernel
theorem dX9_token_120 : decode cX9_token 120 = .ok (.getfield 56, 3) := by decide +kernel
theorem dX9_token_123 : decode cX9_token 123 = .ok (.invokevirtual 59, 3) := by decide +kernel
theorem dX9_token_126 : decode cX9_token 126 = .ok (.invokestatic 66, 3) := by decide +kernel
theorem dX9_token_129 : decode cX9_token 129 = .ok (.ifCond .eq 21, 3) := by decide +kernel
theorem dX9_token_132 : decode cX9_token 132 = .ok (.aload_n 0, 1) := by decide +kernel
theorem dX9_token_133 : decode cX9_token 133 = .ok (.iconst 0, 1) := by decide +kernel
theorem dX9_token_134 : decode cX9_token 134 = .ok (.putfield 76, 3) := by decide +kernel
theorem dX9_token_137 : decode cX9_token 137 = .ok (.aload_n 0, 1) := by decide +kernel
theorem dX9_token_138 : decode cX9_token 138 = .ok (.dup, 1) := by decide +kernel
theorem dX9_token_139 : decode cX9_token 139 = .ok (.getfield 56, 3) := by decide +kernel
theorem dX9_token_142 : decode cX9_token 142 = .ok (.iconst 1, 1) := by decide +kernel
theorem dX9_token_143 : decode cX9_token 143 = .ok (.iadd, 1) := by decide +kernel
theorem dX9_token_144 : decode cX9_token 144 = .ok (.putfield 56, 3) := by decide +kernel
theorem dX9_token_147 : decode cX9_token 147 = .ok (.goto (-37), 3) := by decide +kernel
theorem dX9_token_150 : decode cX9_token 150 = .ok (.aload_n 0, 1) := by decide +kernel
theorem dX9_token_151 : decode cX9_token 151 = .ok (.getfield 73, 3) := by decide +kernel
theorem dX9_token_154 : decode cX9_token 154 = .ok (.iconst 2, 1) := by decide +kernel
theorem dX9_token_155 : decode cX9_token 155 = .ok (.if_icmp .ne 83, 3) := by decide +kernel
theorem dX9_token_158 : decode cX9_token 158 = .ok (.aload_n 0, 1) := by decide +kernel
theorem dX9_token_159 : decode cX9_token 159 = .ok (.iload_n 1, 1) := by decide +kernel
theorem dX9_token_160 : decode cX9_token 160 = .ok (.bipush 48, 2) := by decide +kernel
theorem dX9_token_162 : decode cX9_token 162 = .ok (.isub, 1) := by decide +kernel
theorem dX9_token_163 : decode cX9_token 163 = .ok (.putfield 76, 3) := by decide +kernel
theorem dX9_token_166 : decode cX9_token 166 = .ok (.aload_n 0, 1) := by decide +kernel
theorem dX9_token_167 : decode cX9_token 167 = .ok (.aload_n 0, 1) := by decide +kernel
theorem dX9_token_168 : decode cX9_token 168 = .ok (.getfield 56, 3) := by decide +kernel
theorem dX9_token_171 : decode cX9_token 171 = .ok (.invokevirtual 59, 3) := by decide +kernel
theorem dX9_token_174 : decode cX9_token 174 = .ok (.invokestatic 70, 3) := by decide +kernel
theorem dX9_token_177 : decode cX9_token 177 = .ok (.ifCond .eq 61, 3) := by decide +kernel
theorem dX9_token_180 : decode cX9_token 180 = .ok (.aload_n 0, 1) := by decide +kernel
theorem dX9_token_181 : decode cX9_token 181 = .ok (.iload_n 1, 1) := by decide +kernel
theorem dX9_token_182 : decode cX9_token 182 = .ok (.bipush 48, 2) := by decide +kernel
theorem dX9_token_184 : decode cX9_token 184 = .ok (.if_icmp .eq 12, 3) := by decide +kernel
theorem dX9_token_187 : decode cX9_token 187 = .ok (.aload_n 0, 1) := by decide +kernel
theorem dX9_token_188 : decode cX9_token 188 = .ok (.getfield 76, 3) := by decide +kernel
theorem dX9_token_191 : decode cX9_token 191 = .ok (.bipush 99, 2) := by decide +kernel
theorem dX9_token_193 : decode cX9_token 193 = .ok (.if_icmp .le 9, 3) := by decide +kernel
theorem dX9_token_196 : decode cX9_token 196 = .ok (.sipush 1000, 3) := by decide +kernel
theorem dX9_token_199 : decode cX9_token 199 = .ok (.goto 23, 3) := by decide +kernel
theorem dX9_token_202 : decode cX9_token 202 = .ok (.bipush 10, 2) := by decide +kernel
theorem dX9_token_204 : decode cX9_token 204 = .ok (.aload_n 0, 1) := by decide +kernel
theorem dX9_token_205 : decode cX9_token 205 = .ok (.getfield 76, 3) := by decide +kernel
theorem dX9_token_208 : decode cX9_token 208 = .ok (.imul, 1) := by decide +kernel
theorem dX9_token_209 : decode cX9_token 209 = .ok (.aload_n 0, 1) := by decide +kernel
theorem dX9_token_210 : decode cX9_token 210 = .ok (.getfield 7, 3) := by decide +kernel
theorem dX9_token_213 : decode cX9_token 213 = .ok (.aload_n 0, 1) := by decide +kernel
theorem dX9_token_214 : decode cX9_token 214 = .ok (.getfield 56, 3) := by decide +kernel
theorem dX9_token_217 : decode cX9_token 217 = .ok (.iaload, 1) := by decide +kernel
theorem dX9_token_218 : decode cX9_token 218 = .ok (.iadd, 1) := by decide +kernel
theorem dX9_token_219 : decode cX9_token 219 = .ok (.bipush 48, 2) := by decide +kernel
theorem dX9_token_221 : decode cX9_token 221 = .ok (.isub, 1) := by decide +kernel
theorem dX9_token_222 : decode cX9_token 222 = .ok (.putfield 76, 3) := by decide +kernel
theorem dX9_token_225 : decode cX9_token 225 = .ok (.aload_n 0, 1) := by decide +kernel
theorem dX9_token_226 : decode cX9_token 226 = .ok (.dup, 1) := by decide +kernel
theorem dX9_token_227 : decode cX9_token 227 = .ok (.getfield 56, 3) := by decide +kernel
theorem dX9_token_230 : decode cX9_token 230 = .ok (.iconst 1, 1) := by decide +kernel
theorem dX9_token_231 : decode cX9_token 231 = .ok (.iadd, 1) := by decide +kernel
theorem dX9_token_232 : decode cX9_token 232 = .ok (.putfield 56, 3) := by decide +kernel
theorem dX9_token_235 : decode cX9_token 235 = .ok (.goto (-69), 3) := by decide +kernel
theorem dX9_token_238 : decode cX9_token 238 = .ok (.return_, 1) := by decide +kernel
theorem dX9_number_0 : decode cX9_number 0 = .ok (.aload_n 0, 1) := by decide +kernel
theorem dX9_number_1 : decode cX9_number 1 = .ok (.invokevirtual 79, 3) := by decide +kernel
theorem dX9_number_4 : decode cX9_number 4 = .ok (.aload_n 0, 1) := by decide +kernel
theorem dX9_number_5 : decode cX9_number 5 = .ok (.getfield 16, 3) := by decide +kernel
theorem dX9_number_8 : decode cX9_number 8 = .ok (.iload_n 1, 1) := by decide +kernel
theorem dX9_number_9 : decode cX9_number 9 = .ok (.aload_n 0, 1) := by decide +kernel
theorem dX9_number_10 : decode cX9_number 10 = .ok (.getfield 76, 3) := by decide +kernel
theorem dX9_number_13 : decode cX9_number 13 = .ok (.iastore, 1) := by decide +kernel
theorem dX9_number_14 : decode cX9_number 14 = .ok (.aload_n 0, 1) := by decide +kernel
theorem dX9_number_15 : decode cX9_number 15 = .ok (.getfield 73, 3) := by decide +kernel
theorem dX9_number_18 : decode cX9_number 18 = .ok (.iconst 2, 1) := by decide +kernel
theorem dX9_number_19 : decode cX9_number 19 = .ok (.if_icmp .ne 19, 3) := by decide +kernel
theorem dX9_number_22 : decode cX9_number 22 = .ok (.aload_n 0, 1) := by decide +kernel
theorem dX9_number_23 : decode cX9_number 23 = .ok (.getfield 76, 3) := by decide +kernel
theorem dX9_number_26 : decode cX9_number 26 = .ok (.iload_n 2, 1) := by decide +kernel
theorem dX9_number_27 : decode cX9_number 27 = .ok (.iload_n 3, 1) := by decide +kernel
theorem dX9_number_28 : decode cX9_number 28 = .ok (.invokestatic 48, 3) := by decide +kernel
theorem dX9_number_31 : decode cX9_number 31 = .ok (.ifCond .eq 7, 3) := by decide +kernel
theorem dX9_number_34 : decode cX9_number 34 = .ok (.iconst 1, 1) := by decide +kernel
theorem dX9_number_35 : decode cX9_number 35 = .ok (.goto 4, 3) := by decide +kernel
theorem dX9_number_38 : decode cX9_number 38 = .ok (.iconst 0, 1) := by decide +kernel
theorem dX9_number_39 : decode cX9_number 39 = .ok (.ireturn, 1) := by decide +kernel
theorem dX9_readsWalker_0 : decode cX9_readsWalker 0 = .ok (.aload_n 0, 1) := by decide +kernel
theorem dX9_readsWalker_1 : decode cX9_readsWalker 1 = .ok (.getfield 16, 3) := by decide +kernel
theorem dX9_readsWalker_4 : decode cX9_readsWalker 4 = .ok (.iconst 0, 1) := by decide +kernel
theorem dX9_readsWalker_5 : decode cX9_readsWalker 5 = .ok (.iaload, 1) := by decide +kernel
theorem dX9_readsWalker_6 : decode cX9_readsWalker 6 = .ok (.istore_n 1, 1) := by decide +kernel
theorem dX9_readsWalker_7 : decode cX9_readsWalker 7 = .ok (.iload_n 1, 1) := by decide +kernel
theorem dX9_readsWalker_8 : decode cX9_readsWalker 8 = .ok (.iconst 4, 1) := by decide +kernel
theorem dX9_readsWalker_9 : decode cX9_readsWalker 9 = .ok (.if_icmp .eq 29, 3) := by decide +kernel
theorem dX9_readsWalker_12 : decode cX9_readsWalker 12 = .ok (.aload_n 0, 1) := by decide +kernel
theorem dX9_readsWalker_13 : decode cX9_readsWalker 13 = .ok (.iconst 4, 1) := by decide +kernel
theorem dX9_readsWalker_14 : decode cX9_readsWalker 14 = .ok (.iload_n 1, 1) := by decide +kernel
theorem dX9_readsWalker_15 : decode cX9_readsWalker 15 = .ok (.iadd, 1) := by decide +kernel
theorem dX9_readsWalker_16 : decode cX9_readsWalker 16 = .ok (.iconst 1, 1) := by decide +kernel
theorem dX9_readsWalker_17 : decode cX9_readsWalker 17 = .ok (.bipush 40, 2) := by decide +kernel
theorem dX9_readsWalker_19 : decode cX9_readsWalker 19 = .ok (.invokevirtual 82, 3) := by decide +kernel
theorem dX9_readsWalker_22 : decode cX9_readsWalker 22 = .ok (.ifCond .eq 16, 3) := by decide +kernel
theorem dX9_readsWalker_25 : decode cX9_readsWalker 25 = .ok (.aload_n 0, 1) := by decide +kernel
theorem dX9_readsWalker_26 : decode cX9_readsWalker 26 = .ok (.bipush 8, 2) := by decide +kernel
theorem dX9_readsWalker_28 : decode cX9_readsWalker 28 = .ok (.iload_n 1, 1) := by decide +kernel
theorem dX9_readsWalker_29 : decode cX9_readsWalker 29 = .ok (.iadd, 1) := by decide +kernel
theorem dX9_readsWalker_30 : decode cX9_readsWalker 30 = .ok (.iconst 0, 1) := by decide +kernel
theorem dX9_readsWalker_31 : decode cX9_readsWalker 31 = .ok (.iconst 5, 1) := by decide +kernel
theorem dX9_readsWalker_32 : decode cX9_readsWalker 32 = .ok (.invokevirtual 82, 3) := by decide +kernel
theorem dX9_readsWalker_35 : decode cX9_readsWalker 35 = .ok (.ifCond .ne 5, 3) := by decide +kernel
theorem dX9_readsWalker_38 : decode cX9_readsWalker 38 = .ok (.iconst 0, 1) := by decide +kernel
theorem dX9_readsWalker_39 : decode cX9_readsWalker 39 = .ok (.ireturn, 1) := by decide +kernel
theorem dX9_readsWalker_40 : decode cX9_readsWalker 40 = .ok (.aload_n 0, 1) := by decide +kernel
theorem dX9_readsWalker_41 : decode cX9_readsWalker 41 = .ok (.getfield 16, 3) := by decide +kernel
theorem dX9_readsWalker_44 : decode cX9_readsWalker 44 = .ok (.iconst 0, 1) := by decide +kernel
theorem dX9_readsWalker_45 : decode cX9_readsWalker 45 = .ok (.dup2, 1) := by decide +kernel
theorem dX9_readsWalker_46 : decode cX9_readsWalker 46 = .ok (.iaload, 1) := by decide +kernel
theorem dX9_readsWalker_47 : decode cX9_readsWalker 47 = .ok (.iconst 1, 1) := by decide +kernel
theorem dX9_readsWalker_48 : decode cX9_readsWalker 48 = .ok (.iadd, 1) := by decide +kernel
theorem dX9_readsWalker_49 : decode cX9_readsWalker 49 = .ok (.iastore, 1) := by decide +kernel
theorem dX9_readsWalker_50 : decode cX9_readsWalker 50 = .ok (.iconst 1, 1) := by decide +kernel
theorem dX9_readsWalker_51 : decode cX9_readsWalker 51 = .ok (.ireturn, 1) := by decide +kernel
theorem dX9_readsThing_0 : decode cX9_readsThing 0 = .ok (.aload_n 0, 1) := by decide +kernel
theorem dX9_readsThing_1 : decode cX9_readsThing 1 = .ok (.getfield 16, 3) := by decide +kernel
theorem dX9_readsThing_4 : decode cX9_readsThing 4 = .ok (.iconst 1, 1) := by decide +kernel
theorem dX9_readsThing_5 : decode cX9_readsThing 5 = .ok (.iaload, 1) := by decide +kernel
theorem dX9_readsThing_6 : decode cX9_readsThing 6 = .ok (.istore_n 1, 1) := by decide +kernel
theorem dX9_readsThing_7 : decode cX9_readsThing 7 = .ok (.iload_n 1, 1) := by decide +kernel
theorem dX9_readsThing_8 : decode cX9_readsThing 8 = .ok (.bipush 7, 2) := by decide +kernel
theorem dX9_readsThing_10 : decode cX9_readsThing 10 = .ok (.if_icmp .eq 77, 3) := by decide +kernel
theorem dX9_readsThing_13 : decode cX9_readsThing 13 = .ok (.aload_n 0, 1) := by decide +kernel
theorem dX9_readsThing_14 : decode cX9_readsThing 14 = .ok (.bipush 12, 2) := by decide +kernel
theorem dX9_readsThing_16 : decode cX9_readsThing 16 = .ok (.iload_n 1, 1) := by decide +kernel
theorem dX9_readsThing_17 : decode cX9_readsThing 17 = .ok (.iadd, 1) := by decide +kernel
theorem dX9_readsThing_18 : decode cX9_readsThing 18 = .ok (.iconst 1, 1) := by decide +kernel
theorem dX9_readsThing_19 : decode cX9_readsThing 19 = .ok (.bipush 20, 2) := by decide +kernel
theorem dX9_readsThing_21 : decode cX9_readsThing 21 = .ok (.invokevirtual 82, 3) := by decide +kernel
theorem dX9_readsThing_24 : decode cX9_readsThing 24 = .ok (.ifCond .eq 63, 3) := by decide +kernel
theorem dX9_readsThing_27 : decode cX9_readsThing 27 = .ok (.aload_n 0, 1) := by decide +kernel
theorem dX9_readsThing_28 : decode cX9_readsThing 28 = .ok (.bipush 19, 2) := by decide +kernel
theorem dX9_readsThing_30 : decode cX9_readsThing 30 = .ok (.iload_n 1, 1) := by decide +kernel
theorem dX9_readsThing_31 : decode cX9_readsThing 31 = .ok (.iadd, 1) := by decide +kernel
theorem dX9_readsThing_32 : decode cX9_readsThing 32 = .ok (.iconst 0, 1) := by decide +kernel
theorem dX9_readsThing_33 : decode cX9_readsThing 33 = .ok (.bipush 9, 2) := by decide +kernel
theorem dX9_readsThing_35 : decode cX9_readsThing 35 = .ok (.invokevirtual 82, 3) := by decide +kernel
theorem dX9_readsThing_38 : decode cX9_readsThing 38 = .ok (.ifCond .eq 49, 3) := by decide +kernel
theorem dX9_readsThing_41 : decode cX9_readsThing 41 = .ok (.aload_n 0, 1) := by decide +kernel
theorem dX9_readsThing_42 : decode cX9_readsThing 42 = .ok (.bipush 26, 2) := by decide +kernel
theorem dX9_readsThing_44 : decode cX9_readsThing 44 = .ok (.iload_n 1, 1) := by decide +kernel
theorem dX9_readsThing_45 : decode cX9_readsThing 45 = .ok (.iadd, 1) := by decide +kernel
theorem dX9_readsThing_46 : decode cX9_readsThing 46 = .ok (.iconst 0, 1) := by decide +kernel
theorem dX9_readsThing_47 : decode cX9_readsThing 47 = .ok (.iconst 1, 1) := by decide +kernel
theorem dX9_readsThing_48 : decode cX9_readsThing 48 = .ok (.invokevirtual 82, 3) := by decide +kernel
theorem dX9_readsThing_51 : decode cX9_readsThing 51 = .ok (.ifCond .eq 36, 3) := by decide +kernel
theorem dX9_readsThing_54 : decode cX9_readsThing 54 = .ok (.aload_n 0, 1) := by decide +kernel
theorem dX9_readsThing_55 : decode cX9_readsThing 55 = .ok (.bipush 33, 2) := by decide +kernel
theorem dX9_readsThing_57 : decode cX9_readsThing 57 = .ok (.iload_n 1, 1) := by decide +kernel
theorem dX9_readsThing_58 : decode cX9_readsThing 58 = .ok (.iadd, 1) := by decide +kernel
theorem dX9_readsThing_59 : decode cX9_readsThing 59 = .ok (.iconst 0, 1) := by decide +kernel
theorem dX9_readsThing_60 : decode cX9_readsThing 60 = .ok (.iconst 3, 1) := by decide +kernel
theorem dX9_readsThing_61 : decode cX9_readsThing 61 = .ok (.invokevirtual 82, 3) := by decide +kernel
theorem dX9_readsThing_64 : decode cX9_readsThing 64 = .ok (.ifCond .eq 23, 3) := by decide +kernel
theorem dX9_readsThing_67 : decode cX9_readsThing 67 = .ok (.aload_n 0, 1) := by decide +kernel
theorem dX9_readsThing_68 : decode cX9_readsThing 68 = .ok (.bipush 40, 2) := by decide +kernel
theorem dX9_readsThing_70 : decode cX9_readsThing 70 = .ok (.iload_n 1, 1) := by decide +kernel
theorem dX9_readsThing_71 : decode cX9_readsThing 71 = .ok (.iadd, 1) := by decide +kernel
theorem dX9_readsThing_72 : decode cX9_readsThing 72 = .ok (.iconst 0, 1) := by decide +kernel
theorem dX9_readsThing_73 : decode cX9_readsThing 73 = .ok (.aload_n 0, 1) := by decide +kernel
theorem dX9_readsThing_74 : decode cX9_readsThing 74 = .ok (.getfield 16, 3) := by decide +kernel
theorem dX9_readsThing_77 : decode cX9_readsThing 77 = .ok (.iconst 0, 1) := by decide +kernel
theorem dX9_readsThing_78 : decode cX9_readsThing 78 = .ok (.iaload, 1) := by decide +kernel
theorem dX9_readsThing_79 : decode cX9_readsThing 79 = .ok (.iconst 1, 1) := by decide +kernel
theorem dX9_readsThing_80 : decode cX9_readsThing 80 = .ok (.isub, 1) := by decide +kernel
theorem dX9_readsThing_81 : decode cX9_readsThing 81 = .ok (.invokevirtual 82, 3) := by decide +kernel
theorem dX9_readsThing_84 : decode cX9_readsThing 84 = .ok (.ifCond .ne 5, 3) := by decide +kernel
theorem dX9_readsThing_87 : decode cX9_readsThing 87 = .ok (.iconst 0, 1) := by decide +kernel
theorem dX9_readsThing_88 : decode cX9_readsThing 88 = .ok (.ireturn, 1) := by decide +kernel
theorem dX9_readsThing_89 : decode cX9_readsThing 89 = .ok (.aload_n 0, 1) := by decide +kernel
theorem dX9_readsThing_90 : decode cX9_readsThing 90 = .ok (.getfield 16, 3) := by decide +kernel
theorem dX9_readsThing_93 : decode cX9_readsThing 93 = .ok (.iconst 1, 1) := by decide +kernel
theorem dX9_readsThing_94 : decode cX9_readsThing 94 = .ok (.dup2, 1) := by decide +kernel
theorem dX9_readsThing_95 : decode cX9_readsThing 95 = .ok (.iaload, 1) := by decide +kernel
theorem dX9_readsThing_96 : decode cX9_readsThing 96 = .ok (.iconst 1, 1) := by decide +kernel
theorem dX9_readsThing_97 : decode cX9_readsThing 97 = .ok (.iadd, 1) := by decide +kernel
theorem dX9_readsThing_98 : decode cX9_readsThing 98 = .ok (.iastore, 1) := by decide +kernel
theorem dX9_readsThing_99 : decode cX9_readsThing 99 = .ok (.iconst 1, 1) := by decide +kernel
theorem dX9_readsThing_100 : decode cX9_readsThing 100 = .ok (.ireturn, 1) := by decide +kernel
theorem dX9_readsStage_0 : decode cX9_readsStage 0 = .ok (.aload_n 0, 1) := by decide +kernel
theorem dX9_readsStage_1 : decode cX9_readsStage 1 = .ok (.getfield 16, 3) := by decide +kernel
theorem dX9_readsStage_4 : decode cX9_readsStage 4 = .ok (.iconst 2, 1) := by decide +kernel
theorem dX9_readsStage_5 : decode cX9_readsStage 5 = .ok (.iaload, 1) := by decide +kernel
theorem dX9_readsStage_6 : decode cX9_readsStage 6 = .ok (.istore_n 1, 1) := by decide +kernel
theorem dX9_readsStage_7 : decode cX9_readsStage 7 = .ok (.iload_n 1, 1) := by decide +kernel
theorem dX9_readsStage_8 : decode cX9_readsStage 8 = .ok (.bipush 8, 2) := by decide +kernel
theorem dX9_readsStage_10 : decode cX9_readsStage 10 = .ok (.if_icmp .eq 43, 3) := by decide +kernel
theorem dX9_readsStage_13 : decode cX9_readsStage 13 = .ok (.aload_n 0, 1) := by decide +kernel
theorem dX9_readsStage_14 : decode cX9_readsStage 14 = .ok (.bipush 47, 2) := by decide +kernel
theorem dX9_readsStage_16 : decode cX9_readsStage 16 = .ok (.iload_n 1, 1) := by decide +kernel
theorem dX9_readsStage_17 : decode cX9_readsStage 17 = .ok (.iadd, 1) := by decide +kernel
theorem dX9_readsStage_18 : decode cX9_readsStage 18 = .ok (.iconst 1, 1) := by decide +kernel
theorem dX9_readsStage_19 : decode cX9_readsStage 19 = .ok (.bipush 20, 2) := by decide +kernel
theorem dX9_readsStage_21 : decode cX9_readsStage 21 = .ok (.invokevirtual 82, 3) := by decide +kernel
theorem dX9_readsStage_24 : decode cX9_readsStage 24 = .ok (.ifCond .eq 29, 3) := by decide +kernel
theorem dX9_readsStage_27 : decode cX9_readsStage 27 = .ok (.aload_n 0, 1) := by decide +kernel
theorem dX9_readsStage_28 : decode cX9_readsStage 28 = .ok (.bipush 55, 2) := by decide +kernel
theorem dX9_readsStage_30 : decode cX9_readsStage 30 = .ok (.iload_n 1, 1) := by decide +kernel
theorem dX9_readsStage_31 : decode cX9_readsStage 31 = .ok (.iadd, 1) := by decide +kernel
theorem dX9_readsStage_32 : decode cX9_readsStage 32 = .ok (.iconst 0, 1) := by decide +kernel
theorem dX9_readsStage_33 : decode cX9_readsStage 33 = .ok (.iconst 1, 1) := by decide +kernel
theorem dX9_readsStage_34 : decode cX9_readsStage 34 = .ok (.invokevirtual 82, 3) := by decide +kernel
theorem dX9_readsStage_37 : decode cX9_readsStage 37 = .ok (.ifCond .eq 16, 3) := by decide +kernel
theorem dX9_readsStage_40 : decode cX9_readsStage 40 = .ok (.aload_n 0, 1) := by decide +kernel
theorem dX9_readsStage_41 : decode cX9_readsStage 41 = .ok (.bipush 63, 2) := by decide +kernel
theorem dX9_readsStage_43 : decode cX9_readsStage 43 = .ok (.iload_n 1, 1) := by decide +kernel
theorem dX9_readsStage_44 : decode cX9_readsStage 44 = .ok (.iadd, 1) := by decide +kernel
theorem dX9_readsStage_45 : decode cX9_readsStage 45 = .ok (.iconst 0, 1) := by decide +kernel
theorem dX9_readsStage_46 : decode cX9_readsStage 46 = .ok (.iconst 1, 1) := by decide +kernel
theorem dX9_readsStage_47 : decode cX9_readsStage 47 = .ok (.invokevirtual 82, 3) := by decide +kernel
theorem dX9_readsStage_50 : decode cX9_readsStage 50 = .ok (.ifCond .ne 5, 3) := by decide +kernel
theorem dX9_readsStage_53 : decode cX9_readsStage 53 = .ok (.iconst 0, 1) := by decide +kernel
theorem dX9_readsStage_54 : decode cX9_readsStage 54 = .ok (.ireturn, 1) := by decide +kernel
theorem dX9_readsStage_55 : decode cX9_readsStage 55 = .ok (.aload_n 0, 1) := by decide +kernel
theorem dX9_readsStage_56 : decode cX9_readsStage 56 = .ok (.getfield 16, 3) := by decide +kernel
theorem dX9_readsStage_59 : decode cX9_readsStage 59 = .ok (.iconst 2, 1) := by decide +kernel
theorem dX9_readsStage_60 : decode cX9_readsStage 60 = .ok (.dup2, 1) := by decide +kernel
theorem dX9_readsStage_61 : decode cX9_readsStage 61 = .ok (.iaload, 1) := by decide +kernel
theorem dX9_readsStage_62 : decode cX9_readsStage 62 = .ok (.iconst 1, 1) := by decide +kernel
theorem dX9_readsStage_63 : decode cX9_readsStage 63 = .ok (.iadd, 1) := by decide +kernel
theorem dX9_readsStage_64 : decode cX9_readsStage 64 = .ok (.iastore, 1) := by decide +kernel
theorem dX9_readsStage_65 : decode cX9_readsStage 65 = .ok (.iconst 1, 1) := by decide +kernel
theorem dX9_readsStage_66 : decode cX9_readsStage 66 = .ok (.ireturn, 1) := by decide +kernel
theorem dX9_readsItem_0 : decode cX9_readsItem 0 = .ok (.aload_n 0, 1) := by decide +kernel
theorem dX9_readsItem_1 : decode cX9_readsItem 1 = .ok (.getfield 73, 3) := by decide +kernel
theorem dX9_readsItem_4 : decode cX9_readsItem 4 = .ok (.iconst 1, 1) := by decide +kernel
theorem dX9_readsItem_5 : decode cX9_readsItem 5 = .ok (.if_icmp .ne 10, 3) := by decide +kernel
theorem dX9_readsItem_8 : decode cX9_readsItem 8 = .ok (.aload_n 0, 1) := by decide +kernel
theorem dX9_readsItem_9 : decode cX9_readsItem 9 = .ok (.getfield 76, 3) := by decide +kernel
theorem dX9_readsItem_12 : decode cX9_readsItem 12 = .ok (.goto 4, 3) := by decide +kernel
theorem dX9_readsItem_15 : decode cX9_readsItem 15 = .ok (.iconst 0, 1) := by decide +kernel
theorem dX9_readsItem_16 : decode cX9_readsItem 16 = .ok (.istore_n 1, 1) := by decide +kernel
theorem dX9_readsItem_17 : decode cX9_readsItem 17 = .ok (.iload_n 1, 1) := by decide +kernel
theorem dX9_readsItem_18 : decode cX9_readsItem 18 = .ok (.bipush 119, 2) := by decide +kernel
theorem dX9_readsItem_20 : decode cX9_readsItem 20 = .ok (.if_icmp .ne 10, 3) := by decide +kernel
theorem dX9_readsItem_23 : decode cX9_readsItem 23 = .ok (.aload_n 0, 1) := by decide +kernel
theorem dX9_readsItem_24 : decode cX9_readsItem 24 = .ok (.invokevirtual 85, 3) := by decide +kernel
theorem dX9_readsItem_27 : decode cX9_readsItem 27 = .ok (.goto 34, 3) := by decide +kernel
theorem dX9_readsItem_30 : decode cX9_readsItem 30 = .ok (.iload_n 1, 1) := by decide +kernel
theorem dX9_readsItem_31 : decode cX9_readsItem 31 = .ok (.bipush 116, 2) := by decide +kernel
theorem dX9_readsItem_33 : decode cX9_readsItem 33 = .ok (.if_icmp .ne 10, 3) := by decide +kernel
theorem dX9_readsItem_36 : decode cX9_readsItem 36 = .ok (.aload_n 0, 1) := by decide +kernel
theorem dX9_readsItem_37 : decode cX9_readsItem 37 = .ok (.invokevirtual 88, 3) := by decide +kernel
theorem dX9_readsItem_40 : decode cX9_readsItem 40 = .ok (.goto 21, 3) := by decide +kernel
theorem dX9_readsItem_43 : decode cX9_readsItem 43 = .ok (.iload_n 1, 1) := by decide +kernel
theorem dX9_readsItem_44 : decode cX9_readsItem 44 = .ok (.bipush 115, 2) := by decide +kernel
theorem dX9_readsItem_46 : decode cX9_readsItem 46 = .ok (.if_icmp .ne 14, 3) := by decide +kernel
theorem dX9_readsItem_49 : decode cX9_readsItem 49 = .ok (.aload_n 0, 1) := by decide +kernel
theorem dX9_readsItem_50 : decode cX9_readsItem 50 = .ok (.invokevirtual 91, 3) := by decide +kernel
theorem dX9_readsItem_53 : decode cX9_readsItem 53 = .ok (.ifCond .eq 7, 3) := by decide +kernel
theorem dX9_readsItem_56 : decode cX9_readsItem 56 = .ok (.iconst 1, 1) := by decide +kernel
theorem dX9_readsItem_57 : decode cX9_readsItem 57 = .ok (.goto 4, 3) := by decide +kernel
theorem dX9_readsItem_60 : decode cX9_readsItem 60 = .ok (.iconst 0, 1) := by decide +kernel
theorem dX9_readsItem_61 : decode cX9_readsItem 61 = .ok (.ireturn, 1) := by decide +kernel
theorem dX9_reads_0 : decode cX9_reads 0 = .ok (.iconst 0, 1) := by decide +kernel
theorem dX9_reads_1 : decode cX9_reads 1 = .ok (.istore_n 1, 1) := by decide +kernel
theorem dX9_reads_2 : decode cX9_reads 2 = .ok (.iload_n 1, 1) := by decide +kernel
theorem dX9_reads_3 : decode cX9_reads 3 = .ok (.bipush 71, 2) := by decide +kernel
theorem dX9_reads_5 : decode cX9_reads 5 = .ok (.if_icmp .ge 16, 3) := by decide +kernel
theorem dX9_reads_8 : decode cX9_reads 8 = .ok (.aload_n 0, 1) := by decide +kernel
theorem dX9_reads_9 : decode cX9_reads 9 = .ok (.getfield 16, 3) := by decide +kernel
theorem dX9_reads_12 : decode cX9_reads 12 = .ok (.iload_n 1, 1) := by decide +kernel
theorem dX9_reads_13 : decode cX9_reads 13 = .ok (.iconst 0, 1) := by decide +kernel
theorem dX9_reads_14 : decode cX9_reads 14 = .ok (.iastore, 1) := by decide +kernel
theorem dX9_reads_15 : decode cX9_reads 15 = .ok (.iinc 1 1, 3) := by decide +kernel
theorem dX9_reads_18 : decode cX9_reads 18 = .ok (.goto (-16), 3) := by decide +kernel
theorem dX9_reads_21 : decode cX9_reads 21 = .ok (.aload_n 0, 1) := by decide +kernel
theorem dX9_reads_22 : decode cX9_reads 22 = .ok (.iconst 0, 1) := by decide +kernel
theorem dX9_reads_23 : decode cX9_reads 23 = .ok (.putfield 56, 3) := by decide +kernel
theorem dX9_reads_26 : decode cX9_reads 26 = .ok (.aload_n 0, 1) := by decide +kernel
theorem dX9_reads_27 : decode cX9_reads 27 = .ok (.invokevirtual 79, 3) := by decide +kernel
theorem dX9_reads_30 : decode cX9_reads 30 = .ok (.aload_n 0, 1) := by decide +kernel
theorem dX9_reads_31 : decode cX9_reads 31 = .ok (.getfield 73, 3) := by decide +kernel
theorem dX9_reads_34 : decode cX9_reads 34 = .ok (.ifCond .eq 43, 3) := by decide +kernel
theorem dX9_reads_37 : decode cX9_reads 37 = .ok (.aload_n 0, 1) := by decide +kernel
theorem dX9_reads_38 : decode cX9_reads 38 = .ok (.invokevirtual 94, 3) := by decide +kernel
theorem dX9_reads_41 : decode cX9_reads 41 = .ok (.ifCond .ne 5, 3) := by decide +kernel
theorem dX9_reads_44 : decode cX9_reads 44 = .ok (.iconst 0, 1) := by decide +kernel
theorem dX9_reads_45 : decode cX9_reads 45 = .ok (.ireturn, 1) := by decide +kernel
theorem dX9_reads_46 : decode cX9_reads 46 = .ok (.aload_n 0, 1) := by decide +kernel
theorem dX9_reads_47 : decode cX9_reads 47 = .ok (.invokevirtual 79, 3) := by decide +kernel
theorem dX9_reads_50 : decode cX9_reads 50 = .ok (.aload_n 0, 1) := by decide +kernel
theorem dX9_reads_51 : decode cX9_reads 51 = .ok (.getfield 73, 3) := by decide +kernel
theorem dX9_reads_54 : decode cX9_reads 54 = .ok (.iconst 3, 1) := by decide +kernel
theorem dX9_reads_55 : decode cX9_reads 55 = .ok (.if_icmp .eq 5, 3) := by decide +kernel
theorem dX9_reads_58 : decode cX9_reads 58 = .ok (.iconst 0, 1) := by decide +kernel
theorem dX9_reads_59 : decode cX9_reads 59 = .ok (.ireturn, 1) := by decide +kernel
theorem dX9_reads_60 : decode cX9_reads 60 = .ok (.aload_n 0, 1) := by decide +kernel
theorem dX9_reads_61 : decode cX9_reads 61 = .ok (.getfield 16, 3) := by decide +kernel
theorem dX9_reads_64 : decode cX9_reads 64 = .ok (.iconst 3, 1) := by decide +kernel
theorem dX9_reads_65 : decode cX9_reads 65 = .ok (.dup2, 1) := by decide +kernel
theorem dX9_reads_66 : decode cX9_reads 66 = .ok (.iaload, 1) := by decide +kernel
theorem dX9_reads_67 : decode cX9_reads 67 = .ok (.iconst 1, 1) := by decide +kernel
theorem dX9_reads_68 : decode cX9_reads 68 = .ok (.iadd, 1) := by decide +kernel
theorem dX9_reads_69 : decode cX9_reads 69 = .ok (.iastore, 1) := by decide +kernel
theorem dX9_reads_70 : decode cX9_reads 70 = .ok (.aload_n 0, 1) := by decide +kernel
theorem dX9_reads_71 : decode cX9_reads 71 = .ok (.invokevirtual 79, 3) := by decide +kernel
theorem dX9_reads_74 : decode cX9_reads 74 = .ok (.goto (-44), 3) := by decide +kernel
theorem dX9_reads_77 : decode cX9_reads 77 = .ok (.iconst 1, 1) := by decide +kernel
theorem dX9_reads_78 : decode cX9_reads 78 = .ok (.ireturn, 1) := by decide +kernel
theorem dX9_tells_0 : decode cX9_tells 0 = .ok (.iconst 0, 1) := by decide +kernel
theorem dX9_tells_1 : decode cX9_tells 1 = .ok (.istore_n 1, 1) := by decide +kernel
theorem dX9_tells_2 : decode cX9_tells 2 = .ok (.iload_n 1, 1) := by decide +kernel
theorem dX9_tells_3 : decode cX9_tells 3 = .ok (.bipush 71, 2) := by decide +kernel
theorem dX9_tells_5 : decode cX9_tells 5 = .ok (.if_icmp .ge 21, 3) := by decide +kernel
theorem dX9_tells_8 : decode cX9_tells 8 = .ok (.aload_n 0, 1) := by decide +kernel
theorem dX9_tells_9 : decode cX9_tells 9 = .ok (.getfield 13, 3) := by decide +kernel
theorem dX9_tells_12 : decode cX9_tells 12 = .ok (.iload_n 1, 1) := by decide +kernel
theorem dX9_tells_13 : decode cX9_tells 13 = .ok (.aload_n 0, 1) := by decide +kernel
theorem dX9_tells_14 : decode cX9_tells 14 = .ok (.getfield 16, 3) := by decide +kernel
theorem dX9_tells_17 : decode cX9_tells 17 = .ok (.iload_n 1, 1) := by decide +kernel
theorem dX9_tells_18 : decode cX9_tells 18 = .ok (.iaload, 1) := by decide +kernel
theorem dX9_tells_19 : decode cX9_tells 19 = .ok (.iastore, 1) := by decide +kernel
theorem dX9_tells_20 : decode cX9_tells 20 = .ok (.iinc 1 1, 3) := by decide +kernel
theorem dX9_tells_23 : decode cX9_tells 23 = .ok (.goto (-21), 3) := by decide +kernel
theorem dX9_tells_26 : decode cX9_tells 26 = .ok (.iconst 0, 1) := by decide +kernel
theorem dX9_tells_27 : decode cX9_tells 27 = .ok (.istore_n 1, 1) := by decide +kernel
theorem dX9_tells_28 : decode cX9_tells 28 = .ok (.iload_n 1, 1) := by decide +kernel
theorem dX9_tells_29 : decode cX9_tells 29 = .ok (.sipush 320, 3) := by decide +kernel
theorem dX9_tells_32 : decode cX9_tells 32 = .ok (.if_icmp .ge 16, 3) := by decide +kernel
theorem dX9_tells_35 : decode cX9_tells 35 = .ok (.aload_n 0, 1) := by decide +kernel
theorem dX9_tells_36 : decode cX9_tells 36 = .ok (.getfield 19, 3) := by decide +kernel
theorem dX9_tells_39 : decode cX9_tells 39 = .ok (.iload_n 1, 1) := by decide +kernel
theorem dX9_tells_40 : decode cX9_tells 40 = .ok (.iconst 0, 1) := by decide +kernel
theorem dX9_tells_41 : decode cX9_tells 41 = .ok (.iastore, 1) := by decide +kernel
theorem dX9_tells_42 : decode cX9_tells 42 = .ok (.iinc 1 1, 3) := by decide +kernel
theorem dX9_tells_45 : decode cX9_tells 45 = .ok (.goto (-17), 3) := by decide +kernel
theorem dX9_tells_48 : decode cX9_tells 48 = .ok (.iconst 0, 1) := by decide +kernel
theorem dX9_tells_49 : decode cX9_tells 49 = .ok (.istore_n 1, 1) := by decide +kernel
theorem dX9_tells_50 : decode cX9_tells 50 = .ok (.iload_n 1, 1) := by decide +kernel
theorem dX9_tells_51 : decode cX9_tells 51 = .ok (.bipush 7, 2) := by decide +kernel
theorem dX9_tells_53 : decode cX9_tells 53 = .ok (.if_icmp .ge 60, 3) := by decide +kernel
theorem dX9_tells_56 : decode cX9_tells 56 = .ok (.aload_n 0, 1) := by decide +kernel
theorem dX9_tells_57 : decode cX9_tells 57 = .ok (.getfield 19, 3) := by decide +kernel
theorem dX9_tells_60 : decode cX9_tells 60 = .ok (.bipush 8, 2) := by decide +kernel
theorem dX9_tells_62 : decode cX9_tells 62 = .ok (.iload_n 1, 1) := by decide +kernel
theorem dX9_tells_63 : decode cX9_tells 63 = .ok (.iadd, 1) := by decide +kernel
theorem dX9_tells_64 : decode cX9_tells 64 = .ok (.iload_n 1, 1) := by decide +kernel
theorem dX9_tells_65 : decode cX9_tells 65 = .ok (.aload_n 0, 1) := by decide +kernel
theorem dX9_tells_66 : decode cX9_tells 66 = .ok (.getfield 13, 3) := by decide +kernel
theorem dX9_tells_69 : decode cX9_tells 69 = .ok (.iconst 1, 1) := by decide +kernel
theorem dX9_tells_70 : decode cX9_tells 70 = .ok (.iaload, 1) := by decide +kernel
theorem dX9_tells_71 : decode cX9_tells 71 = .ok (.if_icmp .ge 15, 3) := by decide +kernel
theorem dX9_tells_74 : decode cX9_tells 74 = .ok (.aload_n 0, 1) := by decide +kernel
theorem dX9_tells_75 : decode cX9_tells 75 = .ok (.getfield 13, 3) := by decide +kernel
theorem dX9_tells_78 : decode cX9_tells 78 = .ok (.bipush 40, 2) := by decide +kernel
theorem dX9_tells_80 : decode cX9_tells 80 = .ok (.iload_n 1, 1) := by decide +kernel
theorem dX9_tells_81 : decode cX9_tells 81 = .ok (.iadd, 1) := by decide +kernel
theorem dX9_tells_82 : decode cX9_tells 82 = .ok (.iaload, 1) := by decide +kernel
theorem dX9_tells_83 : decode cX9_tells 83 = .ok (.goto 5, 3) := by decide +kernel
theorem dX9_tells_86 : decode cX9_tells 86 = .ok (.bipush 9, 2) := by decide +kernel
theorem dX9_tells_88 : decode cX9_tells 88 = .ok (.iastore, 1) := by decide +kernel
theorem dX9_tells_89 : decode cX9_tells 89 = .ok (.aload_n 0, 1) := by decide +kernel
theorem dX9_tells_90 : decode cX9_tells 90 = .ok (.getfield 19, 3) := by decide +kernel
theorem dX9_tells_93 : decode cX9_tells 93 = .ok (.bipush 15, 2) := by decide +kernel
theorem dX9_tells_95 : decode cX9_tells 95 = .ok (.iload_n 1, 1) := by decide +kernel
theorem dX9_tells_96 : decode cX9_tells 96 = .ok (.iadd, 1) := by decide +kernel
theorem dX9_tells_97 : decode cX9_tells 97 = .ok (.aload_n 0, 1) := by decide +kernel
theorem dX9_tells_98 : decode cX9_tells 98 = .ok (.getfield 13, 3) := by decide +kernel
theorem dX9_tells_101 : decode cX9_tells 101 = .ok (.bipush 12, 2) := by decide +kernel
theorem dX9_tells_103 : decode cX9_tells 103 = .ok (.iload_n 1, 1) := by decide +kernel
theorem dX9_tells_104 : decode cX9_tells 104 = .ok (.iadd, 1) := by decide +kernel
theorem dX9_tells_105 : decode cX9_tells 105 = .ok (.iaload, 1) := by decide +kernel
theorem dX9_tells_106 : decode cX9_tells 106 = .ok (.iastore, 1) := by decide +kernel
theorem dX9_tells_107 : decode cX9_tells 107 = .ok (.iinc 1 1, 3) := by decide +kernel
theorem dX9_tells_110 : decode cX9_tells 110 = .ok (.goto (-60), 3) := by decide +kernel
theorem dX9_tells_113 : decode cX9_tells 113 = .ok (.aload_n 0, 1) := by decide +kernel
theorem dX9_tells_114 : decode cX9_tells 114 = .ok (.iconst 0, 1) := by decide +kernel
theorem dX9_tells_115 : decode cX9_tells 115 = .ok (.putfield 97, 3) := by decide +kernel
theorem dX9_tells_118 : decode cX9_tells 118 = .ok (.aload_n 0, 1) := by decide +kernel
theorem dX9_tells_119 : decode cX9_tells 119 = .ok (.getfield 25, 3) := by decide +kernel
theorem dX9_tells_122 : decode cX9_tells 122 = .ok (.iconst 0, 1) := by decide +kernel
theorem dX9_tells_123 : decode cX9_tells 123 = .ok (.iconst 0, 1) := by decide +kernel
theorem dX9_tells_124 : decode cX9_tells 124 = .ok (.bastore, 1) := by decide +kernel
theorem dX9_tells_125 : decode cX9_tells 125 = .ok (.aload_n 0, 1) := by decide +kernel
theorem dX9_tells_126 : decode cX9_tells 126 = .ok (.getfield 25, 3) := by decide +kernel
theorem dX9_tells_129 : decode cX9_tells 129 = .ok (.iconst 1, 1) := by decide +kernel
theorem dX9_tells_130 : decode cX9_tells 130 = .ok (.iconst 0, 1) := by decide +kernel
theorem dX9_tells_131 : decode cX9_tells 131 = .ok (.bastore, 1) := by decide +kernel
theorem dX9_tells_132 : decode cX9_tells 132 = .ok (.return_, 1) := by decide +kernel
theorem dX9_way_0 : decode cX9_way 0 = .ok (.aload_n 0, 1) := by decide +kernel
theorem dX9_way_1 : decode cX9_way 1 = .ok (.invokevirtual 41, 3) := by decide +kernel
theorem dX9_way_4 : decode cX9_way 4 = .ok (.ifCond .ne 11, 3) := by decide +kernel
theorem dX9_way_7 : decode cX9_way 7 = .ok (.bipush (-10), 2) := by decide +kernel
theorem dX9_way_9 : decode cX9_way 9 = .ok (.aload_n 0, 1) := by decide +kernel
theorem dX9_way_10 : decode cX9_way 10 = .ok (.getfield 63, 3) := by decide +kernel
theorem dX9_way_13 : decode cX9_way 13 = .ok (.isub, 1) := by decide +kernel
theorem dX9_way_14 : decode cX9_way 14 = .ok (.ireturn, 1) := by decide +kernel
theorem dX9_way_15 : decode cX9_way 15 = .ok (.aload_n 0, 1) := by decide +kernel
theorem dX9_way_16 : decode cX9_way 16 = .ok (.invokevirtual 45, 3) := by decide +kernel
theorem dX9_way_19 : decode cX9_way 19 = .ok (.aload_n 0, 1) := by decide +kernel
theorem dX9_way_20 : decode cX9_way 20 = .ok (.iconst 0, 1) := by decide +kernel
theorem dX9_way_21 : decode cX9_way 21 = .ok (.putfield 52, 3) := by decide +kernel
theorem dX9_way_24 : decode cX9_way 24 = .ok (.aload_n 0, 1) := by decide +kernel
theorem dX9_way_25 : decode cX9_way 25 = .ok (.getfield 13, 3) := by decide +kernel
theorem dX9_way_28 : decode cX9_way 28 = .ok (.iconst 3, 1) := by decide +kernel
theorem dX9_way_29 : decode cX9_way 29 = .ok (.iaload, 1) := by decide +kernel
theorem dX9_way_30 : decode cX9_way 30 = .ok (.ireturn, 1) := by decide +kernel
theorem dX9_weighs_0 : decode cX9_weighs 0 = .ok (.aload_n 0, 1) := by decide +kernel
theorem dX9_weighs_1 : decode cX9_weighs 1 = .ok (.getfield 19, 3) := by decide +kernel
theorem dX9_weighs_4 : decode cX9_weighs 4 = .ok (.bipush 15, 2) := by decide +kernel
theorem dX9_weighs_6 : decode cX9_weighs 6 = .ok (.iload_n 1, 1) := by decide +kernel
theorem dX9_weighs_7 : decode cX9_weighs 7 = .ok (.iadd, 1) := by decide +kernel
theorem dX9_weighs_8 : decode cX9_weighs 8 = .ok (.iaload, 1) := by decide +kernel
theorem dX9_weighs_9 : decode cX9_weighs 9 = .ok (.aload_n 0, 1) := by decide +kernel
theorem dX9_weighs_10 : decode cX9_weighs 10 = .ok (.getfield 19, 3) := by decide +kernel
theorem dX9_weighs_13 : decode cX9_weighs 13 = .ok (.bipush 22, 2) := by decide +kernel
theorem dX9_weighs_15 : decode cX9_weighs 15 = .ok (.iload_n 1, 1) := by decide +kernel
theorem dX9_weighs_16 : decode cX9_weighs 16 = .ok (.iadd, 1) := by decide +kernel
theorem dX9_weighs_17 : decode cX9_weighs 17 = .ok (.iaload, 1) := by decide +kernel
theorem dX9_weighs_18 : decode cX9_weighs 18 = .ok (.iconst 1, 1) := by decide +kernel
theorem dX9_weighs_19 : decode cX9_weighs 19 = .ok (.if_icmp .ne 27, 3) := by decide +kernel
theorem dX9_weighs_22 : decode cX9_weighs 22 = .ok (.aload_n 0, 1) := by decide +kernel
theorem dX9_weighs_23 : decode cX9_weighs 23 = .ok (.getfield 19, 3) := by decide +kernel
theorem dX9_weighs_26 : decode cX9_weighs 26 = .ok (.bipush 15, 2) := by decide +kernel
theorem dX9_weighs_28 : decode cX9_weighs 28 = .ok (.iload_n 1, 1) := by decide +kernel
theorem dX9_weighs_29 : decode cX9_weighs 29 = .ok (.iadd, 1) := by decide +kernel
theorem dX9_weighs_30 : decode cX9_weighs 30 = .ok (.iaload, 1) := by decide +kernel
theorem dX9_weighs_31 : decode cX9_weighs 31 = .ok (.ifCond .le 15, 3) := by decide +kernel
theorem dX9_weighs_34 : decode cX9_weighs 34 = .ok (.aload_n 0, 1) := by decide +kernel
theorem dX9_weighs_35 : decode cX9_weighs 35 = .ok (.getfield 13, 3) := by decide +kernel
theorem dX9_weighs_38 : decode cX9_weighs 38 = .ok (.bipush 19, 2) := by decide +kernel
theorem dX9_weighs_40 : decode cX9_weighs 40 = .ok (.iload_n 1, 1) := by decide +kernel
theorem dX9_weighs_41 : decode cX9_weighs 41 = .ok (.iadd, 1) := by decide +kernel
theorem dX9_weighs_42 : decode cX9_weighs 42 = .ok (.iaload, 1) := by decide +kernel
theorem dX9_weighs_43 : decode cX9_weighs 43 = .ok (.goto 4, 3) := by decide +kernel
theorem dX9_weighs_46 : decode cX9_weighs 46 = .ok (.iconst 0, 1) := by decide +kernel
theorem dX9_weighs_47 : decode cX9_weighs 47 = .ok (.iadd, 1) := by decide +kernel
theorem dX9_weighs_48 : decode cX9_weighs 48 = .ok (.ireturn, 1) := by decide +kernel
theorem dX9_load_0 : decode cX9_load 0 = .ok (.iconst 0, 1) := by decide +kernel
theorem dX9_load_1 : decode cX9_load 1 = .ok (.istore_n 2, 1) := by decide +kernel
theorem dX9_load_2 : decode cX9_load 2 = .ok (.iconst 0, 1) := by decide +kernel
theorem dX9_load_3 : decode cX9_load 3 = .ok (.istore_n 3, 1) := by decide +kernel
theorem dX9_load_4 : decode cX9_load 4 = .ok (.iload_n 3, 1) := by decide +kernel
theorem dX9_load_5 : decode cX9_load 5 = .ok (.aload_n 0, 1) := by decide +kernel
theorem dX9_load_6 : decode cX9_load 6 = .ok (.getfield 13, 3) := by decide +kernel
theorem dX9_load_9 : decode cX9_load 9 = .ok (.iconst 1, 1) := by decide +kernel
theorem dX9_load_10 : decode cX9_load 10 = .ok (.iaload, 1) := by decide +kernel
theorem dX9_load_11 : decode cX9_load 11 = .ok (.if_icmp .ge 34, 3) := by decide +kernel
theorem dX9_load_14 : decode cX9_load 14 = .ok (.iload_n 2, 1) := by decide +kernel
theorem dX9_load_15 : decode cX9_load 15 = .ok (.aload_n 0, 1) := by decide +kernel
theorem dX9_load_16 : decode cX9_load 16 = .ok (.getfield 19, 3) := by decide +kernel
theorem dX9_load_19 : decode cX9_load 19 = .ok (.bipush 8, 2) := by decide +kernel
theorem dX9_load_21 : decode cX9_load 21 = .ok (.iload_n 3, 1) := by decide +kernel
theorem dX9_load_22 : decode cX9_load 22 = .ok (.iadd, 1) := by decide +kernel
theorem dX9_load_23 : decode cX9_load 23 = .ok (.iaload, 1) := by decide +kernel
theorem dX9_load_24 : decode cX9_load 24 = .ok (.iload_n 1, 1) := by decide +kernel
theorem dX9_load_25 : decode cX9_load 25 = .ok (.if_icmp .ne 11, 3) := by decide +kernel
theorem dX9_load_28 : decode cX9_load 28 = .ok (.aload_n 0, 1) := by decide +kernel
theorem dX9_load_29 : decode cX9_load 29 = .ok (.iload_n 3, 1) := by decide +kernel
theorem dX9_load_30 : decode cX9_load 30 = .ok (.invokevirtual 100, 3) := by decide +kernel
theorem dX9_load_33 : decode cX9_load 33 = .ok (.goto 4, 3) := by decide +kernel
theorem dX9_load_36 : decode cX9_load 36 = .ok (.iconst 0, 1) := by decide +kernel
theorem dX9_load_37 : decode cX9_load 37 = .ok (.iadd, 1) := by decide +kernel
theorem dX9_load_38 : decode cX9_load 38 = .ok (.istore_n 2, 1) := by decide +kernel
theorem dX9_load_39 : decode cX9_load 39 = .ok (.iinc 3 1, 3) := by decide +kernel
theorem dX9_load_42 : decode cX9_load 42 = .ok (.goto (-38), 3) := by decide +kernel
theorem dX9_load_45 : decode cX9_load 45 = .ok (.iload_n 2, 1) := by decide +kernel
theorem dX9_load_46 : decode cX9_load 46 = .ok (.ireturn, 1) := by decide +kernel
theorem dX9_force_0 : decode cX9_force 0 = .ok (.aload_n 0, 1) := by decide +kernel
theorem dX9_force_1 : decode cX9_force 1 = .ok (.getfield 13, 3) := by decide +kernel
theorem dX9_force_4 : decode cX9_force 4 = .ok (.iconst 4, 1) := by decide +kernel
theorem dX9_force_5 : decode cX9_force 5 = .ok (.iload_n 1, 1) := by decide +kernel
theorem dX9_force_6 : decode cX9_force 6 = .ok (.iadd, 1) := by decide +kernel
theorem dX9_force_7 : decode cX9_force 7 = .ok (.iaload, 1) := by decide +kernel
theorem dX9_force_8 : decode cX9_force 8 = .ok (.aload_n 0, 1) := by decide +kernel
theorem dX9_force_9 : decode cX9_force 9 = .ok (.getfield 19, 3) := by decide +kernel
theorem dX9_force_12 : decode cX9_force 12 = .ok (.iconst 4, 1) := by decide +kernel
theorem dX9_force_13 : decode cX9_force 13 = .ok (.iload_n 1, 1) := by decide +kernel
theorem dX9_force_14 : decode cX9_force 14 = .ok (.iadd, 1) := by decide +kernel
theorem dX9_force_15 : decode cX9_force 15 = .ok (.iaload, 1) := by decide +kernel
theorem dX9_force_16 : decode cX9_force 16 = .ok (.isub, 1) := by decide +kernel
theorem dX9_force_17 : decode cX9_force 17 = .ok (.ireturn, 1) := by decide +kernel
theorem dX9_pace_0 : decode cX9_pace 0 = .ok (.aload_n 0, 1) := by decide +kernel
theorem dX9_pace_1 : decode cX9_pace 1 = .ok (.iload_n 1, 1) := by decide +kernel
theorem dX9_pace_2 : decode cX9_pace 2 = .ok (.invokevirtual 103, 3) := by decide +kernel
theorem dX9_pace_5 : decode cX9_pace 5 = .ok (.iload_n 2, 1) := by decide +kernel
theorem dX9_pace_6 : decode cX9_pace 6 = .ok (.isub, 1) := by decide +kernel
theorem dX9_pace_7 : decode cX9_pace 7 = .ok (.bipush 10, 2) := by decide +kernel
theorem dX9_pace_9 : decode cX9_pace 9 = .ok (.iadd, 1) := by decide +kernel
theorem dX9_pace_10 : decode cX9_pace 10 = .ok (.istore_n 3, 1) := by decide +kernel
theorem dX9_pace_11 : decode cX9_pace 11 = .ok (.iload_n 3, 1) := by decide +kernel
theorem dX9_pace_12 : decode cX9_pace 12 = .ok (.iconst 1, 1) := by decide +kernel
theorem dX9_pace_13 : decode cX9_pace 13 = .ok (.if_icmp .ge 7, 3) := by decide +kernel
theorem dX9_pace_16 : decode cX9_pace 16 = .ok (.iconst 1, 1) := by decide +kernel
theorem dX9_pace_17 : decode cX9_pace 17 = .ok (.goto 15, 3) := by decide +kernel
theorem dX9_pace_20 : decode cX9_pace 20 = .ok (.iload_n 3, 1) := by decide +kernel
theorem dX9_pace_21 : decode cX9_pace 21 = .ok (.bipush 20, 2) := by decide +kernel
theorem dX9_pace_23 : decode cX9_pace 23 = .ok (.if_icmp .le 8, 3) := by decide +kernel
theorem dX9_pace_26 : decode cX9_pace 26 = .ok (.bipush 20, 2) := by decide +kernel
theorem dX9_pace_28 : decode cX9_pace 28 = .ok (.goto 4, 3) := by decide +kernel
theorem dX9_pace_31 : decode cX9_pace 31 = .ok (.iload_n 3, 1) := by decide +kernel
theorem dX9_pace_32 : decode cX9_pace 32 = .ok (.ireturn, 1) := by decide +kernel
theorem dX9_takes_0 : decode cX9_takes 0 = .ok (.bipush 60, 2) := by decide +kernel
theorem dX9_takes_2 : decode cX9_takes 2 = .ok (.iload_n 0, 1) := by decide +kernel
theorem dX9_takes_3 : decode cX9_takes 3 = .ok (.imul, 1) := by decide +kernel
theorem dX9_takes_4 : decode cX9_takes 4 = .ok (.iload_n 1, 1) := by decide +kernel
theorem dX9_takes_5 : decode cX9_takes 5 = .ok (.iadd, 1) := by decide +kernel
theorem dX9_takes_6 : decode cX9_takes 6 = .ok (.iconst 1, 1) := by decide +kernel
theorem dX9_takes_7 : decode cX9_takes 7 = .ok (.isub, 1) := by decide +kernel
theorem dX9_takes_8 : decode cX9_takes 8 = .ok (.iload_n 1, 1) := by decide +kernel
theorem dX9_takes_9 : decode cX9_takes 9 = .ok (.idiv, 1) := by decide +kernel
theorem dX9_takes_10 : decode cX9_takes 10 = .ok (.ireturn, 1) := by decide +kernel
theorem dX9_walker_0 : decode cX9_walker 0 = .ok (.aload_n 0, 1) := by decide +kernel
theorem dX9_walker_1 : decode cX9_walker 1 = .ok (.iload_n 1, 1) := by decide +kernel
theorem dX9_walker_2 : decode cX9_walker 2 = .ok (.invokevirtual 106, 3) := by decide +kernel
theorem dX9_walker_5 : decode cX9_walker 5 = .ok (.ifCond .eq 12, 3) := by decide +kernel
theorem dX9_walker_8 : decode cX9_walker 8 = .ok (.iload_n 2, 1) := by decide +kernel
theorem dX9_walker_9 : decode cX9_walker 9 = .ok (.iconst 0, 1) := by decide +kernel
theorem dX9_walker_10 : decode cX9_walker 10 = .ok (.iconst 5, 1) := by decide +kernel
theorem dX9_walker_11 : decode cX9_walker 11 = .ok (.invokestatic 48, 3) := by decide +kernel
theorem dX9_walker_14 : decode cX9_walker 14 = .ok (.ifCond .ne 5, 3) := by decide +kernel
theorem dX9_walker_17 : decode cX9_walker 17 = .ok (.iconst (-1), 1) := by decide +kernel
theorem dX9_walker_18 : decode cX9_walker 18 = .ok (.ireturn, 1) := by decide +kernel
theorem dX9_walker_19 : decode cX9_walker 19 = .ok (.iconst 0, 1) := by decide +kernel
theorem dX9_walker_20 : decode cX9_walker 20 = .ok (.istore_n 3, 1) := by decide +kernel
theorem dX9_walker_21 : decode cX9_walker 21 = .ok (.iconst 0, 1) := by decide +kernel
theorem dX9_walker_22 : decode cX9_walker 22 = .ok (.istore 4, 2) := by decide +kernel
theorem dX9_walker_24 : decode cX9_walker 24 = .ok (.iload 4, 2) := by decide +kernel
theorem dX9_walker_26 : decode cX9_walker 26 = .ok (.aload_n 0, 1) := by decide +kernel
theorem dX9_walker_27 : decode cX9_walker 27 = .ok (.getfield 13, 3) := by decide +kernel
theorem dX9_walker_30 : decode cX9_walker 30 = .ok (.iconst 1, 1) := by decide +kernel
theorem dX9_walker_31 : decode cX9_walker 31 = .ok (.iaload, 1) := by decide +kernel
theorem dX9_walker_32 : decode cX9_walker 32 = .ok (.if_icmp .ge 34, 3) := by decide +kernel
theorem dX9_walker_35 : decode cX9_walker 35 = .ok (.iload_n 3, 1) := by decide +kernel
theorem dX9_walker_36 : decode cX9_walker 36 = .ok (.aload_n 0, 1) := by decide +kernel
theorem dX9_walker_37 : decode cX9_walker 37 = .ok (.getfield 19, 3) := by decide +kernel
theorem dX9_walker_40 : decode cX9_walker 40 = .ok (.bipush 8, 2) := by decide +kernel
theorem dX9_walker_42 : decode cX9_walker 42 = .ok (.iload 4, 2) := by decide +kernel
theorem dX9_walker_44 : decode cX9_walker 44 = .ok (.iadd, 1) := by decide +kernel
theorem dX9_walker_45 : decode cX9_walker 45 = .ok (.iaload, 1) := by decide +kernel
theorem dX9_walker_46 : decode cX9_walker 46 = .ok (.iload_n 1, 1) := by decide +kernel
theorem dX9_walker_47 : decode cX9_walker 47 = .ok (.if_icmp .ne 10, 3) := by decide +kernel
theorem dX9_walker_50 : decode cX9_walker 50 = .ok (.iconst 1, 1) := by decide +kernel
theorem dX9_walker_51 : decode cX9_walker 51 = .ok (.iload 4, 2) := by decide +kernel
theorem dX9_walker_53 : decode cX9_walker 53 = .ok (.ishl, 1) := by decide +kernel
theorem dX9_walker_54 : decode cX9_walker 54 = .ok (.goto 4, 3) := by decide +kernel
theorem dX9_walker_57 : decode cX9_walker 57 = .ok (.iconst 0, 1) := by decide +kernel
theorem dX9_walker_58 : decode cX9_walker 58 = .ok (.ior, 1) := by decide +kernel
theorem dX9_walker_59 : decode cX9_walker 59 = .ok (.istore_n 3, 1) := by decide +kernel
theorem dX9_walker_60 : decode cX9_walker 60 = .ok (.iinc 4 1, 3) := by decide +kernel
theorem dX9_walker_63 : decode cX9_walker 63 = .ok (.goto (-39), 3) := by decide +kernel
theorem dX9_walker_66 : decode cX9_walker 66 = .ok (.iload_n 2, 1) := by decide +kernel
theorem dX9_walker_67 : decode cX9_walker 67 = .ok (.ifCond .ne 14, 3) := by decide +kernel
theorem dX9_walker_70 : decode cX9_walker 70 = .ok (.aload_n 0, 1) := by decide +kernel
theorem dX9_walker_71 : decode cX9_walker 71 = .ok (.getfield 13, 3) := by decide +kernel
theorem dX9_walker_74 : decode cX9_walker 74 = .ok (.iconst 4, 1) := by decide +kernel
theorem dX9_walker_75 : decode cX9_walker 75 = .ok (.iload_n 1, 1) := by decide +kernel
theorem dX9_walker_76 : decode cX9_walker 76 = .ok (.iadd, 1) := by decide +kernel
theorem dX9_walker_77 : decode cX9_walker 77 = .ok (.iaload, 1) := by decide +kernel
theorem dX9_walker_78 : decode cX9_walker 78 = .ok (.goto 68, 3) := by decide +kernel
theorem dX9_walker_81 : decode cX9_walker 81 = .ok (.iload_n 2, 1) := by decide +kernel
theorem dX9_walker_82 : decode cX9_walker 82 = .ok (.iconst 1, 1) := by decide +kernel
theorem dX9_walker_83 : decode cX9_walker 83 = .ok (.if_icmp .ne 15, 3) := by decide +kernel
theorem dX9_walker_86 : decode cX9_walker 86 = .ok (.aload_n 0, 1) := by decide +kernel
theorem dX9_walker_87 : decode cX9_walker 87 = .ok (.getfield 13, 3) := by decide +kernel
theorem dX9_walker_90 : decode cX9_walker 90 = .ok (.bipush 8, 2) := by decide +kernel
theorem dX9_walker_92 : decode cX9_walker 92 = .ok (.iload_n 1, 1) := by decide +kernel
theorem dX9_walker_93 : decode cX9_walker 93 = .ok (.iadd, 1) := by decide +kernel
theorem dX9_walker_94 : decode cX9_walker 94 = .ok (.iaload, 1) := by decide +kernel
theorem dX9_walker_95 : decode cX9_walker 95 = .ok (.goto 51, 3) := by decide +kernel
theorem dX9_walker_98 : decode cX9_walker 98 = .ok (.iload_n 2, 1) := by decide +kernel
theorem dX9_walker_99 : decode cX9_walker 99 = .ok (.iconst 2, 1) := by decide +kernel
theorem dX9_walker_100 : decode cX9_walker 100 = .ok (.if_icmp .ne 14, 3) := by decide +kernel
theorem dX9_walker_103 : decode cX9_walker 103 = .ok (.aload_n 0, 1) := by decide +kernel
theorem dX9_walker_104 : decode cX9_walker 104 = .ok (.getfield 19, 3) := by decide +kernel
theorem dX9_walker_107 : decode cX9_walker 107 = .ok (.iconst 4, 1) := by decide +kernel
theorem dX9_walker_108 : decode cX9_walker 108 = .ok (.iload_n 1, 1) := by decide +kernel
theorem dX9_walker_109 : decode cX9_walker 109 = .ok (.iadd, 1) := by decide +kernel
theorem dX9_walker_110 : decode cX9_walker 110 = .ok (.iaload, 1) := by decide +kernel
theorem dX9_walker_111 : decode cX9_walker 111 = .ok (.goto 35, 3) := by decide +kernel
theorem dX9_walker_114 : decode cX9_walker 114 = .ok (.iload_n 2, 1) := by decide +kernel
theorem dX9_walker_115 : decode cX9_walker 115 = .ok (.iconst 3, 1) := by decide +kernel
theorem dX9_walker_116 : decode cX9_walker 116 = .ok (.if_icmp .ne 11, 3) := by decide +kernel
theorem dX9_walker_119 : decode cX9_walker 119 = .ok (.aload_n 0, 1) := by decide +kernel
theorem dX9_walker_120 : decode cX9_walker 120 = .ok (.iload_n 1, 1) := by decide +kernel
theorem dX9_walker_121 : decode cX9_walker 121 = .ok (.invokevirtual 109, 3) := by decide +kernel
theorem dX9_walker_124 : decode cX9_walker 124 = .ok (.goto 22, 3) := by decide +kernel
theorem dX9_walker_127 : decode cX9_walker 127 = .ok (.iload_n 2, 1) := by decide +kernel
theorem dX9_walker_128 : decode cX9_walker 128 = .ok (.iconst 4, 1) := by decide +kernel
theorem dX9_walker_129 : decode cX9_walker 129 = .ok (.if_icmp .ne 16, 3) := by decide +kernel
theorem dX9_walker_132 : decode cX9_walker 132 = .ok (.aload_n 0, 1) := by decide +kernel
theorem dX9_walker_133 : decode cX9_walker 133 = .ok (.iload_n 1, 1) := by decide +kernel
theorem dX9_walker_134 : decode cX9_walker 134 = .ok (.aload_n 0, 1) := by decide +kernel
theorem dX9_walker_135 : decode cX9_walker 135 = .ok (.iload_n 1, 1) := by decide +kernel
theorem dX9_walker_136 : decode cX9_walker 136 = .ok (.invokevirtual 109, 3) := by decide +kernel
theorem dX9_walker_139 : decode cX9_walker 139 = .ok (.invokevirtual 112, 3) := by decide +kernel
theorem dX9_walker_142 : decode cX9_walker 142 = .ok (.goto 4, 3) := by decide +kernel
theorem dX9_walker_145 : decode cX9_walker 145 = .ok (.iload_n 3, 1) := by decide +kernel
theorem dX9_walker_146 : decode cX9_walker 146 = .ok (.ireturn, 1) := by decide +kernel
theorem dX9_thing_0 : decode cX9_thing 0 = .ok (.aload_n 0, 1) := by decide +kernel
theorem dX9_thing_1 : decode cX9_thing 1 = .ok (.iload_n 1, 1) := by decide +kernel
theorem dX9_thing_2 : decode cX9_thing 2 = .ok (.invokevirtual 116, 3) := by decide +kernel
theorem dX9_thing_5 : decode cX9_thing 5 = .ok (.ifCond .eq 13, 3) := by decide +kernel
theorem dX9_thing_8 : decode cX9_thing 8 = .ok (.iload_n 2, 1) := by decide +kernel
theorem dX9_thing_9 : decode cX9_thing 9 = .ok (.iconst 0, 1) := by decide +kernel
theorem dX9_thing_10 : decode cX9_thing 10 = .ok (.bipush 7, 2) := by decide +kernel
theorem dX9_thing_12 : decode cX9_thing 12 = .ok (.invokestatic 48, 3) := by decide +kernel
theorem dX9_thing_15 : decode cX9_thing 15 = .ok (.ifCond .ne 5, 3) := by decide +kernel
theorem dX9_thing_18 : decode cX9_thing 18 = .ok (.iconst (-1), 1) := by decide +kernel
theorem dX9_thing_19 : decode cX9_thing 19 = .ok (.ireturn, 1) := by decide +kernel
theorem dX9_thing_20 : decode cX9_thing 20 = .ok (.iload_n 2, 1) := by decide +kernel
theorem dX9_thing_21 : decode cX9_thing 21 = .ok (.iconst 4, 1) := by decide +kernel
theorem dX9_thing_22 : decode cX9_thing 22 = .ok (.if_icmp .ge 20, 3) := by decide +kernel
theorem dX9_thing_25 : decode cX9_thing 25 = .ok (.aload_n 0, 1) := by decide +kernel
theorem dX9_thing_26 : decode cX9_thing 26 = .ok (.getfield 13, 3) := by decide +kernel
theorem dX9_thing_29 : decode cX9_thing 29 = .ok (.bipush 12, 2) := by decide +kernel
theorem dX9_thing_31 : decode cX9_thing 31 = .ok (.bipush 7, 2) := by decide +kernel
theorem dX9_thing_33 : decode cX9_thing 33 = .ok (.iload_n 2, 1) := by decide +kernel
theorem dX9_thing_34 : decode cX9_thing 34 = .ok (.imul, 1) := by decide +kernel
theorem dX9_thing_35 : decode cX9_thing 35 = .ok (.iadd, 1) := by decide +kernel
theorem dX9_thing_36 : decode cX9_thing 36 = .ok (.iload_n 1, 1) := by decide +kernel
theorem dX9_thing_37 : decode cX9_thing 37 = .ok (.iadd, 1) := by decide +kernel
theorem dX9_thing_38 : decode cX9_thing 38 = .ok (.iaload, 1) := by decide +kernel
theorem dX9_thing_39 : decode cX9_thing 39 = .ok (.goto 33, 3) := by decide +kernel
theorem dX9_thing_42 : decode cX9_thing 42 = .ok (.iload_n 2, 1) := by decide +kernel
theorem dX9_thing_43 : decode cX9_thing 43 = .ok (.bipush 7, 2) := by decide +kernel
theorem dX9_thing_45 : decode cX9_thing 45 = .ok (.if_icmp .ne 11, 3) := by decide +kernel
theorem dX9_thing_48 : decode cX9_thing 48 = .ok (.aload_n 0, 1) := by decide +kernel
theorem dX9_thing_49 : decode cX9_thing 49 = .ok (.iload_n 1, 1) := by decide +kernel
theorem dX9_thing_50 : decode cX9_thing 50 = .ok (.invokevirtual 100, 3) := by decide +kernel
theorem dX9_thing_53 : decode cX9_thing 53 = .ok (.goto 19, 3) := by decide +kernel
theorem dX9_thing_56 : decode cX9_thing 56 = .ok (.aload_n 0, 1) := by decide +kernel
theorem dX9_thing_57 : decode cX9_thing 57 = .ok (.getfield 19, 3) := by decide +kernel
theorem dX9_thing_60 : decode cX9_thing 60 = .ok (.bipush 8, 2) := by decide +kernel
theorem dX9_thing_62 : decode cX9_thing 62 = .ok (.bipush 7, 2) := by decide +kernel
theorem dX9_thing_64 : decode cX9_thing 64 = .ok (.iload_n 2, 1) := by decide +kernel
theorem dX9_thing_65 : decode cX9_thing 65 = .ok (.iconst 4, 1) := by decide +kernel
theorem dX9_thing_66 : decode cX9_thing 66 = .ok (.isub, 1) := by decide +kernel
theorem dX9_thing_67 : decode cX9_thing 67 = .ok (.imul, 1) := by decide +kernel
theorem dX9_thing_68 : decode cX9_thing 68 = .ok (.iadd, 1) := by decide +kernel
theorem dX9_thing_69 : decode cX9_thing 69 = .ok (.iload_n 1, 1) := by decide +kernel
theorem dX9_thing_70 : decode cX9_thing 70 = .ok (.iadd, 1) := by decide +kernel
theorem dX9_thing_71 : decode cX9_thing 71 = .ok (.iaload, 1) := by decide +kernel
theorem dX9_thing_72 : decode cX9_thing 72 = .ok (.ireturn, 1) := by decide +kernel
theorem dX9_stage_0 : decode cX9_stage 0 = .ok (.iload_n 1, 1) := by decide +kernel
theorem dX9_stage_1 : decode cX9_stage 1 = .ok (.iconst 0, 1) := by decide +kernel
theorem dX9_stage_2 : decode cX9_stage 2 = .ok (.aload_n 0, 1) := by decide +kernel
theorem dX9_stage_3 : decode cX9_stage 3 = .ok (.getfield 13, 3) := by decide +kernel
theorem dX9_stage_6 : decode cX9_stage 6 = .ok (.iconst 2, 1) := by decide +kernel
theorem dX9_stage_7 : decode cX9_stage 7 = .ok (.iaload, 1) := by decide +kernel
theorem dX9_stage_8 : decode cX9_stage 8 = .ok (.iconst 1, 1) := by decide +kernel
theorem dX9_stage_9 : decode cX9_stage 9 = .ok (.isub, 1) := by decide +kernel
theorem dX9_stage_10 : decode cX9_stage 10 = .ok (.invokestatic 48, 3) := by decide +kernel
theorem dX9_stage_13 : decode cX9_stage 13 = .ok (.ifCond .eq 29, 3) := by decide +kernel
theorem dX9_stage_16 : decode cX9_stage 16 = .ok (.iload_n 2, 1) := by decide +kernel
theorem dX9_stage_17 : decode cX9_stage 17 = .ok (.iconst 0, 1) := by decide +kernel
theorem dX9_stage_18 : decode cX9_stage 18 = .ok (.iconst 2, 1) := by decide +kernel
theorem dX9_stage_19 : decode cX9_stage 19 = .ok (.invokestatic 48, 3) := by decide +kernel
theorem dX9_stage_22 : decode cX9_stage 22 = .ok (.ifCond .eq 20, 3) := by decide +kernel
theorem dX9_stage_25 : decode cX9_stage 25 = .ok (.aload_n 0, 1) := by decide +kernel
theorem dX9_stage_26 : decode cX9_stage 26 = .ok (.getfield 13, 3) := by decide +kernel
theorem dX9_stage_29 : decode cX9_stage 29 = .ok (.bipush 47, 2) := by decide +kernel
theorem dX9_stage_31 : decode cX9_stage 31 = .ok (.bipush 8, 2) := by decide +kernel
theorem dX9_stage_33 : decode cX9_stage 33 = .ok (.iload_n 2, 1) := by decide +kernel
theorem dX9_stage_34 : decode cX9_stage 34 = .ok (.imul, 1) := by decide +kernel
theorem dX9_stage_35 : decode cX9_stage 35 = .ok (.iadd, 1) := by decide +kernel
theorem dX9_stage_36 : decode cX9_stage 36 = .ok (.iload_n 1, 1) := by decide +kernel
theorem dX9_stage_37 : decode cX9_stage 37 = .ok (.iadd, 1) := by decide +kernel
theorem dX9_stage_38 : decode cX9_stage 38 = .ok (.iaload, 1) := by decide +kernel
theorem dX9_stage_39 : decode cX9_stage 39 = .ok (.goto 4, 3) := by decide +kernel
theorem dX9_stage_42 : decode cX9_stage 42 = .ok (.iconst (-1), 1) := by decide +kernel
theorem dX9_stage_43 : decode cX9_stage 43 = .ok (.ireturn, 1) := by decide +kernel
theorem dX9_keeps_0 : decode cX9_keeps 0 = .ok (.aload_n 0, 1) := by decide +kernel
theorem dX9_keeps_1 : decode cX9_keeps 1 = .ok (.getfield 19, 3) := by decide +kernel
theorem dX9_keeps_4 : decode cX9_keeps 4 = .ok (.bipush 29, 2) := by decide +kernel
theorem dX9_keeps_6 : decode cX9_keeps 6 = .ok (.iaload, 1) := by decide +kernel
theorem dX9_keeps_7 : decode cX9_keeps 7 = .ok (.bipush 10, 2) := by decide +kernel
theorem dX9_keeps_9 : decode cX9_keeps 9 = .ok (.if_icmp .ne 45, 3) := by decide +kernel
theorem dX9_keeps_12 : decode cX9_keeps 12 = .ok (.bipush 30, 2) := by decide +kernel
theorem dX9_keeps_14 : decode cX9_keeps 14 = .ok (.istore_n 1, 1) := by decide +kernel
theorem dX9_keeps_15 : decode cX9_keeps 15 = .ok (.iload_n 1, 1) := by decide +kernel
theorem dX9_keeps_16 : decode cX9_keeps 16 = .ok (.sipush 291, 3) := by decide +kernel
theorem dX9_keeps_19 : decode cX9_keeps 19 = .ok (.if_icmp .ge 24, 3) := by decide +kernel
theorem dX9_keeps_22 : decode cX9_keeps 22 = .ok (.aload_n 0, 1) := by decide +kernel
theorem dX9_keeps_23 : decode cX9_keeps 23 = .ok (.getfield 19, 3) := by decide +kernel
theorem dX9_keeps_26 : decode cX9_keeps 26 = .ok (.iload_n 1, 1) := by decide +kernel
theorem dX9_keeps_27 : decode cX9_keeps 27 = .ok (.aload_n 0, 1) := by decide +kernel
theorem dX9_keeps_28 : decode cX9_keeps 28 = .ok (.getfield 19, 3) := by decide +kernel
theorem dX9_keeps_31 : decode cX9_keeps 31 = .ok (.iload_n 1, 1) := by decide +kernel
theorem dX9_keeps_32 : decode cX9_keeps 32 = .ok (.bipush 29, 2) := by decide +kernel
theorem dX9_keeps_34 : decode cX9_keeps 34 = .ok (.iadd, 1) := by decide +kernel
theorem dX9_keeps_35 : decode cX9_keeps 35 = .ok (.iaload, 1) := by decide +kernel
theorem dX9_keeps_36 : decode cX9_keeps 36 = .ok (.iastore, 1) := by decide +kernel
theorem dX9_keeps_37 : decode cX9_keeps 37 = .ok (.iinc 1 1, 3) := by decide +kernel
theorem dX9_keeps_40 : decode cX9_keeps 40 = .ok (.goto (-25), 3) := by decide +kernel
theorem dX9_keeps_43 : decode cX9_keeps 43 = .ok (.aload_n 0, 1) := by decide +kernel
theorem dX9_keeps_44 : decode cX9_keeps 44 = .ok (.getfield 19, 3) := by decide +kernel
theorem dX9_keeps_47 : decode cX9_keeps 47 = .ok (.bipush 29, 2) := by decide +kernel
theorem dX9_keeps_49 : decode cX9_keeps 49 = .ok (.dup2, 1) := by decide +kernel
theorem dX9_keeps_50 : decode cX9_keeps 50 = .ok (.iaload, 1) := by decide +kernel
theorem dX9_keeps_51 : decode cX9_keeps 51 = .ok (.iconst 1, 1) := by decide +kernel
theorem dX9_keeps_52 : decode cX9_keeps 52 = .ok (.isub, 1) := by decide +kernel
theorem dX9_keeps_53 : decode cX9_keeps 53 = .ok (.iastore, 1) := by decide +kernel
theorem dX9_keeps_54 : decode cX9_keeps 54 = .ok (.bipush 30, 2) := by decide +kernel
theorem dX9_keeps_56 : decode cX9_keeps 56 = .ok (.bipush 29, 2) := by decide +kernel
theorem dX9_keeps_58 : decode cX9_keeps 58 = .ok (.aload_n 0, 1) := by decide +kernel
theorem dX9_keeps_59 : decode cX9_keeps 59 = .ok (.getfield 19, 3) := by decide +kernel
theorem dX9_keeps_62 : decode cX9_keeps 62 = .ok (.bipush 29, 2) := by decide +kernel
theorem dX9_keeps_64 : decode cX9_keeps 64 = .ok (.iaload, 1) := by decide +kernel
theorem dX9_keeps_65 : decode cX9_keeps 65 = .ok (.imul, 1) := by decide +kernel
theorem dX9_keeps_66 : decode cX9_keeps 66 = .ok (.iadd, 1) := by decide +kernel
theorem dX9_keeps_67 : decode cX9_keeps 67 = .ok (.istore_n 1, 1) := by decide +kernel
theorem dX9_keeps_68 : decode cX9_keeps 68 = .ok (.iconst 0, 1) := by decide +kernel
theorem dX9_keeps_69 : decode cX9_keeps 69 = .ok (.istore_n 2, 1) := by decide +kernel
theorem dX9_keeps_70 : decode cX9_keeps 70 = .ok (.iload_n 2, 1) := by decide +kernel
theorem dX9_keeps_71 : decode cX9_keeps 71 = .ok (.bipush 29, 2) := by decide +kernel
theorem dX9_keeps_73 : decode cX9_keeps 73 = .ok (.if_icmp .ge 23, 3) := by decide +kernel
theorem dX9_keeps_76 : decode cX9_keeps 76 = .ok (.aload_n 0, 1) := by decide +kernel
theorem dX9_keeps_77 : decode cX9_keeps 77 = .ok (.getfield 19, 3) := by decide +kernel
theorem dX9_keeps_80 : decode cX9_keeps 80 = .ok (.iload_n 1, 1) := by decide +kernel
theorem dX9_keeps_81 : decode cX9_keeps 81 = .ok (.iload_n 2, 1) := by decide +kernel
theorem dX9_keeps_82 : decode cX9_keeps 82 = .ok (.iadd, 1) := by decide +kernel
theorem dX9_keeps_83 : decode cX9_keeps 83 = .ok (.aload_n 0, 1) := by decide +kernel
theorem dX9_keeps_84 : decode cX9_keeps 84 = .ok (.getfield 19, 3) := by decide +kernel
theorem dX9_keeps_87 : decode cX9_keeps 87 = .ok (.iload_n 2, 1) := by decide +kernel
theorem dX9_keeps_88 : decode cX9_keeps 88 = .ok (.iaload, 1) := by decide +kernel
theorem dX9_keeps_89 : decode cX9_keeps 89 = .ok (.iastore, 1) := by decide +kernel
theorem dX9_keeps_90 : decode cX9_keeps 90 = .ok (.iinc 2 1, 3) := by decide +kernel
theorem dX9_keeps_93 : decode cX9_keeps 93 = .ok (.goto (-23), 3) := by decide +kernel
theorem dX9_keeps_96 : decode cX9_keeps 96 = .ok (.aload_n 0, 1) := by decide +kernel
theorem dX9_keeps_97 : decode cX9_keeps 97 = .ok (.getfield 19, 3) := by decide +kernel
theorem dX9_keeps_100 : decode cX9_keeps 100 = .ok (.bipush 29, 2) := by decide +kernel
theorem dX9_keeps_102 : decode cX9_keeps 102 = .ok (.dup2, 1) := by decide +kernel
theorem dX9_keeps_103 : decode cX9_keeps 103 = .ok (.iaload, 1) := by decide +kernel
theorem dX9_keeps_104 : decode cX9_keeps 104 = .ok (.iconst 1, 1) := by decide +kernel
theorem dX9_keeps_105 : decode cX9_keeps 105 = .ok (.iadd, 1) := by decide +kernel
theorem dX9_keeps_106 : decode cX9_keeps 106 = .ok (.iastore, 1) := by decide +kernel
theorem dX9_keeps_107 : decode cX9_keeps 107 = .ok (.return_, 1) := by decide +kernel
theorem dX9_gives_0 : decode cX9_gives 0 = .ok (.aload_n 0, 1) := by decide +kernel
theorem dX9_gives_1 : decode cX9_gives 1 = .ok (.iload_n 1, 1) := by decide +kernel
theorem dX9_gives_2 : decode cX9_gives 2 = .ok (.invokevirtual 116, 3) := by decide +kernel
theorem dX9_gives_5 : decode cX9_gives 5 = .ok (.ifCond .eq 11, 3) := by decide +kernel
theorem dX9_gives_8 : decode cX9_gives 8 = .ok (.aload_n 0, 1) := by decide +kernel
theorem dX9_gives_9 : decode cX9_gives 9 = .ok (.iload_n 2, 1) := by decide +kernel
theorem dX9_gives_10 : decode cX9_gives 10 = .ok (.invokevirtual 106, 3) := by decide +kernel
theorem dX9_gives_13 : decode cX9_gives 13 = .ok (.ifCond .ne 5, 3) := by decide +kernel
theorem dX9_gives_16 : decode cX9_gives 16 = .ok (.iconst (-1), 1) := by decide +kernel
theorem dX9_gives_17 : decode cX9_gives 17 = .ok (.ireturn, 1) := by decide +kernel
theorem dX9_gives_18 : decode cX9_gives 18 = .ok (.aload_n 0, 1) := by decide +kernel
theorem dX9_gives_19 : decode cX9_gives 19 = .ok (.getfield 19, 3) := by decide +kernel
theorem dX9_gives_22 : decode cX9_gives 22 = .ok (.bipush 8, 2) := by decide +kernel
theorem dX9_gives_24 : decode cX9_gives 24 = .ok (.iload_n 1, 1) := by decide +kernel
theorem dX9_gives_25 : decode cX9_gives 25 = .ok (.iadd, 1) := by decide +kernel
theorem dX9_gives_26 : decode cX9_gives 26 = .ok (.iaload, 1) := by decide +kernel
theorem dX9_gives_27 : decode cX9_gives 27 = .ok (.istore_n 3, 1) := by decide +kernel
theorem dX9_gives_28 : decode cX9_gives 28 = .ok (.iload_n 3, 1) := by decide +kernel
theorem dX9_gives_29 : decode cX9_gives 29 = .ok (.bipush 9, 2) := by decide +kernel
theorem dX9_gives_31 : decode cX9_gives 31 = .ok (.if_icmp .eq 8, 3) := by decide +kernel
theorem dX9_gives_34 : decode cX9_gives 34 = .ok (.iload_n 3, 1) := by decide +kernel
theorem dX9_gives_35 : decode cX9_gives 35 = .ok (.iload_n 2, 1) := by decide +kernel
theorem dX9_gives_36 : decode cX9_gives 36 = .ok (.if_icmp .ne 6, 3) := by decide +kernel
theorem dX9_gives_39 : decode cX9_gives 39 = .ok (.bipush (-2), 2) := by decide +kernel
theorem dX9_gives_41 : decode cX9_gives 41 = .ok (.ireturn, 1) := by decide +kernel
theorem dX9_gives_42 : decode cX9_gives 42 = .ok (.aload_n 0, 1) := by decide +kernel
theorem dX9_gives_43 : decode cX9_gives 43 = .ok (.invokevirtual 119, 3) := by decide +kernel
theorem dX9_gives_46 : decode cX9_gives 46 = .ok (.aload_n 0, 1) := by decide +kernel
theorem dX9_gives_47 : decode cX9_gives 47 = .ok (.getfield 19, 3) := by decide +kernel
theorem dX9_gives_50 : decode cX9_gives 50 = .ok (.bipush 8, 2) := by decide +kernel
theorem dX9_gives_52 : decode cX9_gives 52 = .ok (.iload_n 1, 1) := by decide +kernel
theorem dX9_gives_53 : decode cX9_gives 53 = .ok (.iadd, 1) := by decide +kernel
theorem dX9_gives_54 : decode cX9_gives 54 = .ok (.iload_n 2, 1) := by decide +kernel
theorem dX9_gives_55 : decode cX9_gives 55 = .ok (.iastore, 1) := by decide +kernel
theorem dX9_gives_56 : decode cX9_gives 56 = .ok (.aload_n 0, 1) := by decide +kernel
theorem dX9_gives_57 : decode cX9_gives 57 = .ok (.getfield 19, 3) := by decide +kernel
theorem dX9_gives_60 : decode cX9_gives 60 = .ok (.iconst 3, 1) := by decide +kernel
theorem dX9_gives_61 : decode cX9_gives 61 = .ok (.dup2, 1) := by decide +kernel
theorem dX9_gives_62 : decode cX9_gives 62 = .ok (.iaload, 1) := by decide +kernel
theorem dX9_gives_63 : decode cX9_gives 63 = .ok (.iconst 1, 1) := by decide +kernel
theorem dX9_gives_64 : decode cX9_gives 64 = .ok (.iadd, 1) := by decide +kernel
theorem dX9_gives_65 : decode cX9_gives 65 = .ok (.iastore, 1) := by decide +kernel
theorem dX9_gives_66 : decode cX9_gives 66 = .ok (.iload_n 3, 1) := by decide +kernel
theorem dX9_gives_67 : decode cX9_gives 67 = .ok (.ireturn, 1) := by decide +kernel
theorem dX9_isHut_0 : decode cX9_isHut 0 = .ok (.aload_n 0, 1) := by decide +kernel
theorem dX9_isHut_1 : decode cX9_isHut 1 = .ok (.getfield 19, 3) := by decide +kernel
theorem dX9_isHut_4 : decode cX9_isHut 4 = .ok (.iconst 0, 1) := by decide +kernel
theorem dX9_isHut_5 : decode cX9_isHut 5 = .ok (.iaload, 1) := by decide +kernel
theorem dX9_isHut_6 : decode cX9_isHut 6 = .ok (.ifCond .eq 23, 3) := by decide +kernel
theorem dX9_isHut_9 : decode cX9_isHut 9 = .ok (.aload_n 0, 1) := by decide +kernel
theorem dX9_isHut_10 : decode cX9_isHut 10 = .ok (.getfield 13, 3) := by decide +kernel
theorem dX9_isHut_13 : decode cX9_isHut 13 = .ok (.bipush 63, 2) := by decide +kernel
theorem dX9_isHut_15 : decode cX9_isHut 15 = .ok (.aload_n 0, 1) := by decide +kernel
theorem dX9_isHut_16 : decode cX9_isHut 16 = .ok (.getfield 19, 3) := by decide +kernel
theorem dX9_isHut_19 : decode cX9_isHut 19 = .ok (.iconst 0, 1) := by decide +kernel
theorem dX9_isHut_20 : decode cX9_isHut 20 = .ok (.iaload, 1) := by decide +kernel
theorem dX9_isHut_21 : decode cX9_isHut 21 = .ok (.iadd, 1) := by decide +kernel
theorem dX9_isHut_22 : decode cX9_isHut 22 = .ok (.iconst 1, 1) := by decide +kernel
theorem dX9_isHut_23 : decode cX9_isHut 23 = .ok (.isub, 1) := by decide +kernel
theorem dX9_isHut_24 : decode cX9_isHut 24 = .ok (.iaload, 1) := by decide +kernel
theorem dX9_isHut_25 : decode cX9_isHut 25 = .ok (.iconst 1, 1) := by decide +kernel
theorem dX9_isHut_26 : decode cX9_isHut 26 = .ok (.if_icmp .ne 7, 3) := by decide +kernel
theorem dX9_isHut_29 : decode cX9_isHut 29 = .ok (.iconst 1, 1) := by decide +kernel
theorem dX9_isHut_30 : decode cX9_isHut 30 = .ok (.goto 4, 3) := by decide +kernel
theorem dX9_isHut_33 : decode cX9_isHut 33 = .ok (.iconst 0, 1) := by decide +kernel
theorem dX9_isHut_34 : decode cX9_isHut 34 = .ok (.ireturn, 1) := by decide +kernel
theorem dX9_leaves_0 : decode cX9_leaves 0 = .ok (.aload_n 0, 1) := by decide +kernel
theorem dX9_leaves_1 : decode cX9_leaves 1 = .ok (.iload_n 1, 1) := by decide +kernel
theorem dX9_leaves_2 : decode cX9_leaves 2 = .ok (.invokevirtual 116, 3) := by decide +kernel
theorem dX9_leaves_5 : decode cX9_leaves 5 = .ok (.ifCond .ne 5, 3) := by decide +kernel
theorem dX9_leaves_8 : decode cX9_leaves 8 = .ok (.iconst (-1), 1) := by decide +kernel
theorem dX9_leaves_9 : decode cX9_leaves 9 = .ok (.ireturn, 1) := by decide +kernel
theorem dX9_leaves_10 : decode cX9_leaves 10 = .ok (.aload_n 0, 1) := by decide +kernel
theorem dX9_leaves_11 : decode cX9_leaves 11 = .ok (.getfield 19, 3) := by decide +kernel
theorem dX9_leaves_14 : decode cX9_leaves 14 = .ok (.bipush 8, 2) := by decide +kernel
theorem dX9_leaves_16 : decode cX9_leaves 16 = .ok (.iload_n 1, 1) := by decide +kernel
theorem dX9_leaves_17 : decode cX9_leaves 17 = .ok (.iadd, 1) := by decide +kernel
theorem dX9_leaves_18 : decode cX9_leaves 18 = .ok (.iaload, 1) := by decide +kernel
theorem dX9_leaves_19 : decode cX9_leaves 19 = .ok (.istore_n 2, 1) := by decide +kernel
theorem dX9_leaves_20 : decode cX9_leaves 20 = .ok (.iload_n 2, 1) := by decide +kernel
theorem dX9_leaves_21 : decode cX9_leaves 21 = .ok (.bipush 9, 2) := by decide +kernel
theorem dX9_leaves_23 : decode cX9_leaves 23 = .ok (.if_icmp .eq 10, 3) := by decide +kernel
theorem dX9_leaves_26 : decode cX9_leaves 26 = .ok (.aload_n 0, 1) := by decide +kernel
theorem dX9_leaves_27 : decode cX9_leaves 27 = .ok (.invokevirtual 122, 3) := by decide +kernel
theorem dX9_leaves_30 : decode cX9_leaves 30 = .ok (.ifCond .ne 6, 3) := by decide +kernel
theorem dX9_leaves_33 : decode cX9_leaves 33 = .ok (.bipush (-2), 2) := by decide +kernel
theorem dX9_leaves_35 : decode cX9_leaves 35 = .ok (.ireturn, 1) := by decide +kernel
theorem dX9_leaves_36 : decode cX9_leaves 36 = .ok (.aload_n 0, 1) := by decide +kernel
theorem dX9_leaves_37 : decode cX9_leaves 37 = .ok (.invokevirtual 119, 3) := by decide +kernel
theorem dX9_leaves_40 : decode cX9_leaves 40 = .ok (.aload_n 0, 1) := by decide +kernel
theorem dX9_leaves_41 : decode cX9_leaves 41 = .ok (.getfield 19, 3) := by decide +kernel
theorem dX9_leaves_44 : decode cX9_leaves 44 = .ok (.bipush 8, 2) := by decide +kernel
theorem dX9_leaves_46 : decode cX9_leaves 46 = .ok (.iload_n 1, 1) := by decide +kernel
theorem dX9_leaves_47 : decode cX9_leaves 47 = .ok (.iadd, 1) := by decide +kernel
theorem dX9_leaves_48 : decode cX9_leaves 48 = .ok (.bipush 9, 2) := by decide +kernel
theorem dX9_leaves_50 : decode cX9_leaves 50 = .ok (.iastore, 1) := by decide +kernel
theorem dX9_leaves_51 : decode cX9_leaves 51 = .ok (.iload_n 2, 1) := by decide +kernel
theorem dX9_leaves_52 : decode cX9_leaves 52 = .ok (.ireturn, 1) := by decide +kernel
theorem dX9_rains_0 : decode cX9_rains 0 = .ok (.iconst 0, 1) := by decide +kernel
theorem dX9_rains_1 : decode cX9_rains 1 = .ok (.istore_n 2, 1) := by decide +kernel
theorem dX9_rains_2 : decode cX9_rains 2 = .ok (.iload_n 2, 1) := by decide +kernel
theorem dX9_rains_3 : decode cX9_rains 3 = .ok (.aload_n 0, 1) := by decide +kernel
theorem dX9_rains_4 : decode cX9_rains 4 = .ok (.getfield 13, 3) := by decide +kernel
theorem dX9_rains_7 : decode cX9_rains 7 = .ok (.iconst 1, 1) := by decide +kernel
theorem dX9_rains_8 : decode cX9_rains 8 = .ok (.iaload, 1) := by decide +kernel
theorem dX9_rains_9 : decode cX9_rains 9 = .ok (.if_icmp .ge 49, 3) := by decide +kernel
theorem dX9_rains_12 : decode cX9_rains 12 = .ok (.aload_n 0, 1) := by decide +kernel
theorem dX9_rains_13 : decode cX9_rains 13 = .ok (.getfield 19, 3) := by decide +kernel
theorem dX9_rains_16 : decode cX9_rains 16 = .ok (.bipush 22, 2) := by decide +kernel
theorem dX9_rains_18 : decode cX9_rains 18 = .ok (.iload_n 2, 1) := by decide +kernel
theorem dX9_rains_19 : decode cX9_rains 19 = .ok (.iadd, 1) := by decide +kernel
theorem dX9_rains_20 : decode cX9_rains 20 = .ok (.iload_n 1, 1) := by decide +kernel
theorem dX9_rains_21 : decode cX9_rains 21 = .ok (.ifCond .eq 21, 3) := by decide +kernel
theorem dX9_rains_24 : decode cX9_rains 24 = .ok (.aload_n 0, 1) := by decide +kernel
theorem dX9_rains_25 : decode cX9_rains 25 = .ok (.getfield 19, 3) := by decide +kernel
theorem dX9_rains_28 : decode cX9_rains 28 = .ok (.bipush 8, 2) := by decide +kernel
theorem dX9_rains_30 : decode cX9_rains 30 = .ok (.iload_n 2, 1) := by decide +kernel
theorem dX9_rains_31 : decode cX9_rains 31 = .ok (.iadd, 1) := by decide +kernel
theorem dX9_rains_32 : decode cX9_rains 32 = .ok (.iaload, 1) := by decide +kernel
theorem dX9_rains_33 : decode cX9_rains 33 = .ok (.bipush 9, 2) := by decide +kernel
theorem dX9_rains_35 : decode cX9_rains 35 = .ok (.if_icmp .eq 7, 3) := by decide +kernel
theorem dX9_rains_38 : decode cX9_rains 38 = .ok (.iconst 1, 1) := by decide +kernel
theorem dX9_rains_39 : decode cX9_rains 39 = .ok (.goto 12, 3) := by decide +kernel
theorem dX9_rains_42 : decode cX9_rains 42 = .ok (.aload_n 0, 1) := by decide +kernel
theorem dX9_rains_43 : decode cX9_rains 43 = .ok (.getfield 19, 3) := by decide +kernel
theorem dX9_rains_46 : decode cX9_rains 46 = .ok (.bipush 22, 2) := by decide +kernel
theorem dX9_rains_48 : decode cX9_rains 48 = .ok (.iload_n 2, 1) := by decide +kernel
theorem dX9_rains_49 : decode cX9_rains 49 = .ok (.iadd, 1) := by decide +kernel
theorem dX9_rains_50 : decode cX9_rains 50 = .ok (.iaload, 1) := by decide +kernel
theorem dX9_rains_51 : decode cX9_rains 51 = .ok (.iastore, 1) := by decide +kernel
theorem dX9_rains_52 : decode cX9_rains 52 = .ok (.iinc 2 1, 3) := by decide +kernel
theorem dX9_rains_55 : decode cX9_rains 55 = .ok (.goto (-53), 3) := by decide +kernel
theorem dX9_rains_58 : decode cX9_rains 58 = .ok (.return_, 1) := by decide +kernel
theorem dX9_slowest_0 : decode cX9_slowest 0 = .ok (.iconst 0, 1) := by decide +kernel
theorem dX9_slowest_1 : decode cX9_slowest 1 = .ok (.istore_n 2, 1) := by decide +kernel
theorem dX9_slowest_2 : decode cX9_slowest 2 = .ok (.iconst 0, 1) := by decide +kernel
theorem dX9_slowest_3 : decode cX9_slowest 3 = .ok (.istore_n 3, 1) := by decide +kernel
theorem dX9_slowest_4 : decode cX9_slowest 4 = .ok (.iload_n 3, 1) := by decide +kernel
theorem dX9_slowest_5 : decode cX9_slowest 5 = .ok (.aload_n 0, 1) := by decide +kernel
theorem dX9_slowest_6 : decode cX9_slowest 6 = .ok (.getfield 13, 3) := by decide +kernel
theorem dX9_slowest_9 : decode cX9_slowest 9 = .ok (.iconst 0, 1) := by decide +kernel
theorem dX9_slowest_10 : decode cX9_slowest 10 = .ok (.iaload, 1) := by decide +kernel
theorem dX9_slowest_11 : decode cX9_slowest 11 = .ok (.if_icmp .ge 38, 3) := by decide +kernel
theorem dX9_slowest_14 : decode cX9_slowest 14 = .ok (.iload_n 1, 1) := by decide +kernel
theorem dX9_slowest_15 : decode cX9_slowest 15 = .ok (.aload_n 0, 1) := by decide +kernel
theorem dX9_slowest_16 : decode cX9_slowest 16 = .ok (.iload_n 3, 1) := by decide +kernel
theorem dX9_slowest_17 : decode cX9_slowest 17 = .ok (.aload_n 0, 1) := by decide +kernel
theorem dX9_slowest_18 : decode cX9_slowest 18 = .ok (.iload_n 3, 1) := by decide +kernel
theorem dX9_slowest_19 : decode cX9_slowest 19 = .ok (.invokevirtual 109, 3) := by decide +kernel
theorem dX9_slowest_22 : decode cX9_slowest 22 = .ok (.invokevirtual 112, 3) := by decide +kernel
theorem dX9_slowest_25 : decode cX9_slowest 25 = .ok (.invokestatic 125, 3) := by decide +kernel
theorem dX9_slowest_28 : decode cX9_slowest 28 = .ok (.istore 4, 2) := by decide +kernel
theorem dX9_slowest_30 : decode cX9_slowest 30 = .ok (.iload 4, 2) := by decide +kernel
theorem dX9_slowest_32 : decode cX9_slowest 32 = .ok (.iload_n 2, 1) := by decide +kernel
theorem dX9_slowest_33 : decode cX9_slowest 33 = .ok (.if_icmp .le 8, 3) := by decide +kernel
theorem dX9_slowest_36 : decode cX9_slowest 36 = .ok (.iload 4, 2) := by decide +kernel
theorem dX9_slowest_38 : decode cX9_slowest 38 = .ok (.goto 4, 3) := by decide +kernel
theorem dX9_slowest_41 : decode cX9_slowest 41 = .ok (.iload_n 2, 1) := by decide +kernel
theorem dX9_slowest_42 : decode cX9_slowest 42 = .ok (.istore_n 2, 1) := by decide +kernel
theorem dX9_slowest_43 : decode cX9_slowest 43 = .ok (.iinc 3 1, 3) := by decide +kernel
theorem dX9_slowest_46 : decode cX9_slowest 46 = .ok (.goto (-42), 3) := by decide +kernel
theorem dX9_slowest_49 : decode cX9_slowest 49 = .ok (.iload_n 2, 1) := by decide +kernel
theorem dX9_slowest_50 : decode cX9_slowest 50 = .ok (.ireturn, 1) := by decide +kernel
theorem dX9_plainOrder_0 : decode cX9_plainOrder 0 = .ok (.iconst 0, 1) := by decide +kernel
theorem dX9_plainOrder_1 : decode cX9_plainOrder 1 = .ok (.istore_n 1, 1) := by decide +kernel
theorem dX9_plainOrder_2 : decode cX9_plainOrder 2 = .ok (.iload_n 1, 1) := by decide +kernel
theorem dX9_plainOrder_3 : decode cX9_plainOrder 3 = .ok (.bipush 7, 2) := by decide +kernel
theorem dX9_plainOrder_5 : decode cX9_plainOrder 5 = .ok (.if_icmp .ge 16, 3) := by decide +kernel
theorem dX9_plainOrder_8 : decode cX9_plainOrder 8 = .ok (.aload_n 0, 1) := by decide +kernel
theorem dX9_plainOrder_9 : decode cX9_plainOrder 9 = .ok (.getfield 32, 3) := by decide +kernel
theorem dX9_plainOrder_12 : decode cX9_plainOrder 12 = .ok (.iload_n 1, 1) := by decide +kernel
theorem dX9_plainOrder_13 : decode cX9_plainOrder 13 = .ok (.iload_n 1, 1) := by decide +kernel
theorem dX9_plainOrder_14 : decode cX9_plainOrder 14 = .ok (.iastore, 1) := by decide +kernel
theorem dX9_plainOrder_15 : decode cX9_plainOrder 15 = .ok (.iinc 1 1, 3) := by decide +kernel
theorem dX9_plainOrder_18 : decode cX9_plainOrder 18 = .ok (.goto (-16), 3) := by decide +kernel
theorem dX9_plainOrder_21 : decode cX9_plainOrder 21 = .ok (.return_, 1) := by decide +kernel
theorem dX9_eats_0 : decode cX9_eats 0 = .ok (.iconst 2, 1) := by decide +kernel
theorem dX9_eats_1 : decode cX9_eats 1 = .ok (.aload_n 0, 1) := by decide +kernel
theorem dX9_eats_2 : decode cX9_eats 2 = .ok (.getfield 13, 3) := by decide +kernel
theorem dX9_eats_5 : decode cX9_eats 5 = .ok (.iconst 0, 1) := by decide +kernel
theorem dX9_eats_6 : decode cX9_eats 6 = .ok (.iaload, 1) := by decide +kernel
theorem dX9_eats_7 : decode cX9_eats 7 = .ok (.imul, 1) := by decide +kernel
theorem dX9_eats_8 : decode cX9_eats 8 = .ok (.istore_n 1, 1) := by decide +kernel
theorem dX9_eats_9 : decode cX9_eats 9 = .ok (.iconst 0, 1) := by decide +kernel
theorem dX9_eats_10 : decode cX9_eats 10 = .ok (.istore_n 2, 1) := by decide +kernel
theorem dX9_eats_11 : decode cX9_eats 11 = .ok (.iload_n 2, 1) := by decide +kernel
theorem dX9_eats_12 : decode cX9_eats 12 = .ok (.aload_n 0, 1) := by decide +kernel
theorem dX9_eats_13 : decode cX9_eats 13 = .ok (.getfield 13, 3) := by decide +kernel
theorem dX9_eats_16 : decode cX9_eats 16 = .ok (.iconst 1, 1) := by decide +kernel
theorem dX9_eats_17 : decode cX9_eats 17 = .ok (.iaload, 1) := by decide +kernel
theorem dX9_eats_18 : decode cX9_eats 18 = .ok (.if_icmp .ge 106, 3) := by decide +kernel
theorem dX9_eats_21 : decode cX9_eats 21 = .ok (.aload_n 0, 1) := by decide +kernel
theorem dX9_eats_22 : decode cX9_eats 22 = .ok (.getfield 32, 3) := by decide +kernel
theorem dX9_eats_25 : decode cX9_eats 25 = .ok (.iload_n 2, 1) := by decide +kernel
theorem dX9_eats_26 : decode cX9_eats 26 = .ok (.iaload, 1) := by decide +kernel
theorem dX9_eats_27 : decode cX9_eats 27 = .ok (.istore_n 3, 1) := by decide +kernel
theorem dX9_eats_28 : decode cX9_eats 28 = .ok (.aload_n 0, 1) := by decide +kernel
theorem dX9_eats_29 : decode cX9_eats 29 = .ok (.getfield 13, 3) := by decide +kernel
theorem dX9_eats_32 : decode cX9_eats 32 = .ok (.bipush 26, 2) := by decide +kernel
theorem dX9_eats_34 : decode cX9_eats 34 = .ok (.iload_n 3, 1) := by decide +kernel
theorem dX9_eats_35 : decode cX9_eats 35 = .ok (.iadd, 1) := by decide +kernel
theorem dX9_eats_36 : decode cX9_eats 36 = .ok (.iaload, 1) := by decide +kernel
theorem dX9_eats_37 : decode cX9_eats 37 = .ok (.iconst 1, 1) := by decide +kernel
theorem dX9_eats_38 : decode cX9_eats 38 = .ok (.if_icmp .ne 21, 3) := by decide +kernel
theorem dX9_eats_41 : decode cX9_eats 41 = .ok (.aload_n 0, 1) := by decide +kernel
theorem dX9_eats_42 : decode cX9_eats 42 = .ok (.getfield 19, 3) := by decide +kernel
theorem dX9_eats_45 : decode cX9_eats 45 = .ok (.bipush 8, 2) := by decide +kernel
theorem dX9_eats_47 : decode cX9_eats 47 = .ok (.iload_n 3, 1) := by decide +kernel
theorem dX9_eats_48 : decode cX9_eats 48 = .ok (.iadd, 1) := by decide +kernel
theorem dX9_eats_49 : decode cX9_eats 49 = .ok (.iaload, 1) := by decide +kernel
theorem dX9_eats_50 : decode cX9_eats 50 = .ok (.bipush 9, 2) := by decide +kernel
theorem dX9_eats_52 : decode cX9_eats 52 = .ok (.if_icmp .eq 7, 3) := by decide +kernel
theorem dX9_eats_55 : decode cX9_eats 55 = .ok (.iconst 1, 1) := by decide +kernel
theorem dX9_eats_56 : decode cX9_eats 56 = .ok (.goto 4, 3) := by decide +kernel
theorem dX9_eats_59 : decode cX9_eats 59 = .ok (.iconst 0, 1) := by decide +kernel
theorem dX9_eats_60 : decode cX9_eats 60 = .ok (.istore 4, 2) := by decide +kernel
theorem dX9_eats_62 : decode cX9_eats 62 = .ok (.iload 4, 2) := by decide +kernel
theorem dX9_eats_64 : decode cX9_eats 64 = .ok (.ifCond .ne 7, 3) := by decide +kernel
theorem dX9_eats_67 : decode cX9_eats 67 = .ok (.iconst 0, 1) := by decide +kernel
theorem dX9_eats_68 : decode cX9_eats 68 = .ok (.goto 29, 3) := by decide +kernel
theorem dX9_eats_71 : decode cX9_eats 71 = .ok (.aload_n 0, 1) := by decide +kernel
theorem dX9_eats_72 : decode cX9_eats 72 = .ok (.getfield 19, 3) := by decide +kernel
theorem dX9_eats_75 : decode cX9_eats 75 = .ok (.bipush 15, 2) := by decide +kernel
theorem dX9_eats_77 : decode cX9_eats 77 = .ok (.iload_n 3, 1) := by decide +kernel
theorem dX9_eats_78 : decode cX9_eats 78 = .ok (.iadd, 1) := by decide +kernel
theorem dX9_eats_79 : decode cX9_eats 79 = .ok (.iaload, 1) := by decide +kernel
theorem dX9_eats_80 : decode cX9_eats 80 = .ok (.iload_n 1, 1) := by decide +kernel
theorem dX9_eats_81 : decode cX9_eats 81 = .ok (.if_icmp .ge 15, 3) := by decide +kernel
theorem dX9_eats_84 : decode cX9_eats 84 = .ok (.aload_n 0, 1) := by decide +kernel
theorem dX9_eats_85 : decode cX9_eats 85 = .ok (.getfield 19, 3) := by decide +kernel
theorem dX9_eats_88 : decode cX9_eats 88 = .ok (.bipush 15, 2) := by decide +kernel
theorem dX9_eats_90 : decode cX9_eats 90 = .ok (.iload_n 3, 1) := by decide +kernel
theorem dX9_eats_91 : decode cX9_eats 91 = .ok (.iadd, 1) := by decide +kernel
theorem dX9_eats_92 : decode cX9_eats 92 = .ok (.iaload, 1) := by decide +kernel
theorem dX9_eats_93 : decode cX9_eats 93 = .ok (.goto 4, 3) := by decide +kernel
theorem dX9_eats_96 : decode cX9_eats 96 = .ok (.iload_n 1, 1) := by decide +kernel
theorem dX9_eats_97 : decode cX9_eats 97 = .ok (.istore 5, 2) := by decide +kernel
theorem dX9_eats_99 : decode cX9_eats 99 = .ok (.aload_n 0, 1) := by decide +kernel
theorem dX9_eats_100 : decode cX9_eats 100 = .ok (.getfield 19, 3) := by decide +kernel
theorem dX9_eats_103 : decode cX9_eats 103 = .ok (.bipush 15, 2) := by decide +kernel
theorem dX9_eats_105 : decode cX9_eats 105 = .ok (.iload_n 3, 1) := by decide +kernel
theorem dX9_eats_106 : decode cX9_eats 106 = .ok (.iadd, 1) := by decide +kernel
theorem dX9_eats_107 : decode cX9_eats 107 = .ok (.dup2, 1) := by decide +kernel
theorem dX9_eats_108 : decode cX9_eats 108 = .ok (.iaload, 1) := by decide +kernel
theorem dX9_eats_109 : decode cX9_eats 109 = .ok (.iload 5, 2) := by decide +kernel
theorem dX9_eats_111 : decode cX9_eats 111 = .ok (.isub, 1) := by decide +kernel
theorem dX9_eats_112 : decode cX9_eats 112 = .ok (.iastore, 1) := by decide +kernel
theorem dX9_eats_113 : decode cX9_eats 113 = .ok (.iload_n 1, 1) := by decide +kernel
theorem dX9_eats_114 : decode cX9_eats 114 = .ok (.iload 5, 2) := by decide +kernel
theorem dX9_eats_116 : decode cX9_eats 116 = .ok (.isub, 1) := by decide +kernel
theorem dX9_eats_117 : decode cX9_eats 117 = .ok (.istore_n 1, 1) := by decide +kernel
theorem dX9_eats_118 : decode cX9_eats 118 = .ok (.iinc 2 1, 3) := by decide +kernel
theorem dX9_eats_121 : decode cX9_eats 121 = .ok (.goto (-110), 3) := by decide +kernel
theorem dX9_eats_124 : decode cX9_eats 124 = .ok (.aload_n 0, 1) := by decide +kernel
theorem dX9_eats_125 : decode cX9_eats 125 = .ok (.getfield 19, 3) := by decide +kernel
theorem dX9_eats_128 : decode cX9_eats 128 = .ok (.iconst 2, 1) := by decide +kernel
theorem dX9_eats_129 : decode cX9_eats 129 = .ok (.dup2, 1) := by decide +kernel
theorem dX9_eats_130 : decode cX9_eats 130 = .ok (.iaload, 1) := by decide +kernel
theorem dX9_eats_131 : decode cX9_eats 131 = .ok (.iload_n 1, 1) := by decide +kernel
theorem dX9_eats_132 : decode cX9_eats 132 = .ok (.iadd, 1) := by decide +kernel
theorem dX9_eats_133 : decode cX9_eats 133 = .ok (.iastore, 1) := by decide +kernel
theorem dX9_eats_134 : decode cX9_eats 134 = .ok (.return_, 1) := by decide +kernel
theorem dX9_stageGoes_0 : decode cX9_stageGoes 0 = .ok (.aload_n 0, 1) := by decide +kernel
theorem dX9_stageGoes_1 : decode cX9_stageGoes 1 = .ok (.iload_n 1, 1) := by decide +kernel
theorem dX9_stageGoes_2 : decode cX9_stageGoes 2 = .ok (.invokevirtual 128, 3) := by decide +kernel
theorem dX9_stageGoes_5 : decode cX9_stageGoes 5 = .ok (.aload_n 0, 1) := by decide +kernel
theorem dX9_stageGoes_6 : decode cX9_stageGoes 6 = .ok (.aload_n 0, 1) := by decide +kernel
theorem dX9_stageGoes_7 : decode cX9_stageGoes 7 = .ok (.getfield 13, 3) := by decide +kernel
theorem dX9_stageGoes_10 : decode cX9_stageGoes 10 = .ok (.bipush 47, 2) := by decide +kernel
theorem dX9_stageGoes_12 : decode cX9_stageGoes 12 = .ok (.aload_n 0, 1) := by decide +kernel
theorem dX9_stageGoes_13 : decode cX9_stageGoes 13 = .ok (.getfield 19, 3) := by decide +kernel
theorem dX9_stageGoes_16 : decode cX9_stageGoes 16 = .ok (.iconst 0, 1) := by decide +kernel
theorem dX9_stageGoes_17 : decode cX9_stageGoes 17 = .ok (.iaload, 1) := by decide +kernel
theorem dX9_stageGoes_18 : decode cX9_stageGoes 18 = .ok (.iadd, 1) := by decide +kernel
theorem dX9_stageGoes_19 : decode cX9_stageGoes 19 = .ok (.iaload, 1) := by decide +kernel
theorem dX9_stageGoes_20 : decode cX9_stageGoes 20 = .ok (.invokevirtual 132, 3) := by decide +kernel
theorem dX9_stageGoes_23 : decode cX9_stageGoes 23 = .ok (.istore_n 2, 1) := by decide +kernel
theorem dX9_stageGoes_24 : decode cX9_stageGoes 24 = .ok (.iconst 0, 1) := by decide +kernel
theorem dX9_stageGoes_25 : decode cX9_stageGoes 25 = .ok (.istore_n 3, 1) := by decide +kernel
theorem dX9_stageGoes_26 : decode cX9_stageGoes 26 = .ok (.iload_n 3, 1) := by decide +kernel
theorem dX9_stageGoes_27 : decode cX9_stageGoes 27 = .ok (.aload_n 0, 1) := by decide +kernel
theorem dX9_stageGoes_28 : decode cX9_stageGoes 28 = .ok (.getfield 13, 3) := by decide +kernel
theorem dX9_stageGoes_31 : decode cX9_stageGoes 31 = .ok (.iconst 0, 1) := by decide +kernel
theorem dX9_stageGoes_32 : decode cX9_stageGoes 32 = .ok (.iaload, 1) := by decide +kernel
theorem dX9_stageGoes_33 : decode cX9_stageGoes 33 = .ok (.if_icmp .ge 96, 3) := by decide +kernel
theorem dX9_stageGoes_36 : decode cX9_stageGoes 36 = .ok (.aload_n 0, 1) := by decide +kernel
theorem dX9_stageGoes_37 : decode cX9_stageGoes 37 = .ok (.iload_n 3, 1) := by decide +kernel
theorem dX9_stageGoes_38 : decode cX9_stageGoes 38 = .ok (.invokevirtual 109, 3) := by decide +kernel
theorem dX9_stageGoes_41 : decode cX9_stageGoes 41 = .ok (.aload_n 0, 1) := by decide +kernel
theorem dX9_stageGoes_42 : decode cX9_stageGoes 42 = .ok (.iload_n 3, 1) := by decide +kernel
theorem dX9_stageGoes_43 : decode cX9_stageGoes 43 = .ok (.invokevirtual 103, 3) := by decide +kernel
theorem dX9_stageGoes_46 : decode cX9_stageGoes 46 = .ok (.if_icmp .le 7, 3) := by decide +kernel
theorem dX9_stageGoes_49 : decode cX9_stageGoes 49 = .ok (.iconst 1, 1) := by decide +kernel
theorem dX9_stageGoes_50 : decode cX9_stageGoes 50 = .ok (.goto 4, 3) := by decide +kernel
theorem dX9_stageGoes_53 : decode cX9_stageGoes 53 = .ok (.iconst 0, 1) := by decide +kernel
theorem dX9_stageGoes_54 : decode cX9_stageGoes 54 = .ok (.istore 4, 2) := by decide +kernel
theorem dX9_stageGoes_56 : decode cX9_stageGoes 56 = .ok (.iload 4, 2) := by decide +kernel
theorem dX9_stageGoes_58 : decode cX9_stageGoes 58 = .ok (.ifCond .eq 16, 3) := by decide +kernel
theorem dX9_stageGoes_61 : decode cX9_stageGoes 61 = .ok (.aload_n 0, 1) := by decide +kernel
theorem dX9_stageGoes_62 : decode cX9_stageGoes 62 = .ok (.getfield 19, 3) := by decide +kernel
theorem dX9_stageGoes_65 : decode cX9_stageGoes 65 = .ok (.iconst 4, 1) := by decide +kernel
theorem dX9_stageGoes_66 : decode cX9_stageGoes 66 = .ok (.iload_n 3, 1) := by decide +kernel
theorem dX9_stageGoes_67 : decode cX9_stageGoes 67 = .ok (.iadd, 1) := by decide +kernel
theorem dX9_stageGoes_68 : decode cX9_stageGoes 68 = .ok (.iaload, 1) := by decide +kernel
theorem dX9_stageGoes_69 : decode cX9_stageGoes 69 = .ok (.iconst 2, 1) := by decide +kernel
theorem dX9_stageGoes_70 : decode cX9_stageGoes 70 = .ok (.iadd, 1) := by decide +kernel
theorem dX9_stageGoes_71 : decode cX9_stageGoes 71 = .ok (.goto 21, 3) := by decide +kernel
theorem dX9_stageGoes_74 : decode cX9_stageGoes 74 = .ok (.aload_n 0, 1) := by decide +kernel
theorem dX9_stageGoes_75 : decode cX9_stageGoes 75 = .ok (.getfield 19, 3) := by decide +kernel
theorem dX9_stageGoes_78 : decode cX9_stageGoes 78 = .ok (.iconst 4, 1) := by decide +kernel
theorem dX9_stageGoes_79 : decode cX9_stageGoes 79 = .ok (.iload_n 3, 1) := by decide +kernel
theorem dX9_stageGoes_80 : decode cX9_stageGoes 80 = .ok (.iadd, 1) := by decide +kernel
theorem dX9_stageGoes_81 : decode cX9_stageGoes 81 = .ok (.iaload, 1) := by decide +kernel
theorem dX9_stageGoes_82 : decode cX9_stageGoes 82 = .ok (.aload_n 0, 1) := by decide +kernel
theorem dX9_stageGoes_83 : decode cX9_stageGoes 83 = .ok (.getfield 13, 3) := by decide +kernel
theorem dX9_stageGoes_86 : decode cX9_stageGoes 86 = .ok (.bipush 8, 2) := by decide +kernel
theorem dX9_stageGoes_88 : decode cX9_stageGoes 88 = .ok (.iload_n 3, 1) := by decide +kernel
theorem dX9_stageGoes_89 : decode cX9_stageGoes 89 = .ok (.iadd, 1) := by decide +kernel
theorem dX9_stageGoes_90 : decode cX9_stageGoes 90 = .ok (.iaload, 1) := by decide +kernel
theorem dX9_stageGoes_91 : decode cX9_stageGoes 91 = .ok (.isub, 1) := by decide +kernel
theorem dX9_stageGoes_92 : decode cX9_stageGoes 92 = .ok (.istore 5, 2) := by decide +kernel
theorem dX9_stageGoes_94 : decode cX9_stageGoes 94 = .ok (.aload_n 0, 1) := by decide +kernel
theorem dX9_stageGoes_95 : decode cX9_stageGoes 95 = .ok (.getfield 35, 3) := by decide +kernel
theorem dX9_stageGoes_98 : decode cX9_stageGoes 98 = .ok (.iload_n 3, 1) := by decide +kernel
theorem dX9_stageGoes_99 : decode cX9_stageGoes 99 = .ok (.iload 5, 2) := by decide +kernel
theorem dX9_stageGoes_101 : decode cX9_stageGoes 101 = .ok (.ifCond .ge 7, 3) := by decide +kernel
theorem dX9_stageGoes_104 : decode cX9_stageGoes 104 = .ok (.iconst 0, 1) := by decide +kernel
theorem dX9_stageGoes_105 : decode cX9_stageGoes 105 = .ok (.goto 17, 3) := by decide +kernel
theorem dX9_stageGoes_108 : decode cX9_stageGoes 108 = .ok (.iload 5, 2) := by decide +kernel
theorem dX9_stageGoes_110 : decode cX9_stageGoes 110 = .ok (.bipush 20, 2) := by decide +kernel
theorem dX9_stageGoes_112 : decode cX9_stageGoes 112 = .ok (.if_icmp .le 8, 3) := by decide +kernel
theorem dX9_stageGoes_115 : decode cX9_stageGoes 115 = .ok (.bipush 20, 2) := by decide +kernel
theorem dX9_stageGoes_117 : decode cX9_stageGoes 117 = .ok (.goto 5, 3) := by decide +kernel
theorem dX9_stageGoes_120 : decode cX9_stageGoes 120 = .ok (.iload 5, 2) := by decide +kernel
theorem dX9_stageGoes_122 : decode cX9_stageGoes 122 = .ok (.iastore, 1) := by decide +kernel
theorem dX9_stageGoes_123 : decode cX9_stageGoes 123 = .ok (.iinc 3 1, 3) := by decide +kernel
theorem dX9_stageGoes_126 : decode cX9_stageGoes 126 = .ok (.goto (-100), 3) := by decide +kernel
theorem dX9_stageGoes_129 : decode cX9_stageGoes 129 = .ok (.iconst 0, 1) := by decide +kernel
theorem dX9_stageGoes_130 : decode cX9_stageGoes 130 = .ok (.istore_n 3, 1) := by decide +kernel
theorem dX9_stageGoes_131 : decode cX9_stageGoes 131 = .ok (.iload_n 3, 1) := by decide +kernel
theorem dX9_stageGoes_132 : decode cX9_stageGoes 132 = .ok (.aload_n 0, 1) := by decide +kernel
theorem dX9_stageGoes_133 : decode cX9_stageGoes 133 = .ok (.getfield 13, 3) := by decide +kernel
theorem dX9_stageGoes_136 : decode cX9_stageGoes 136 = .ok (.iconst 0, 1) := by decide +kernel
theorem dX9_stageGoes_137 : decode cX9_stageGoes 137 = .ok (.iaload, 1) := by decide +kernel
theorem dX9_stageGoes_138 : decode cX9_stageGoes 138 = .ok (.if_icmp .ge 23, 3) := by decide +kernel
theorem dX9_stageGoes_141 : decode cX9_stageGoes 141 = .ok (.aload_n 0, 1) := by decide +kernel
theorem dX9_stageGoes_142 : decode cX9_stageGoes 142 = .ok (.getfield 19, 3) := by decide +kernel
theorem dX9_stageGoes_145 : decode cX9_stageGoes 145 = .ok (.iconst 4, 1) := by decide +kernel
theorem dX9_stageGoes_146 : decode cX9_stageGoes 146 = .ok (.iload_n 3, 1) := by decide +kernel
theorem dX9_stageGoes_147 : decode cX9_stageGoes 147 = .ok (.iadd, 1) := by decide +kernel
theorem dX9_stageGoes_148 : decode cX9_stageGoes 148 = .ok (.aload_n 0, 1) := by decide +kernel
theorem dX9_stageGoes_149 : decode cX9_stageGoes 149 = .ok (.getfield 35, 3) := by decide +kernel
theorem dX9_stageGoes_152 : decode cX9_stageGoes 152 = .ok (.iload_n 3, 1) := by decide +kernel
theorem dX9_stageGoes_153 : decode cX9_stageGoes 153 = .ok (.iaload, 1) := by decide +kernel
theorem dX9_stageGoes_154 : decode cX9_stageGoes 154 = .ok (.iastore, 1) := by decide +kernel
theorem dX9_stageGoes_155 : decode cX9_stageGoes 155 = .ok (.iinc 3 1, 3) := by decide +kernel
theorem dX9_stageGoes_158 : decode cX9_stageGoes 158 = .ok (.goto (-27), 3) := by decide +kernel
theorem dX9_stageGoes_161 : decode cX9_stageGoes 161 = .ok (.aload_n 0, 1) := by decide +kernel
theorem dX9_stageGoes_162 : decode cX9_stageGoes 162 = .ok (.invokevirtual 135, 3) := by decide +kernel
theorem dX9_stageGoes_165 : decode cX9_stageGoes 165 = .ok (.iconst 0, 1) := by decide +kernel
theorem dX9_stageGoes_166 : decode cX9_stageGoes 166 = .ok (.istore_n 3, 1) := by decide +kernel
theorem dX9_stageGoes_167 : decode cX9_stageGoes 167 = .ok (.iload_n 3, 1) := by decide +kernel
theorem dX9_stageGoes_168 : decode cX9_stageGoes 168 = .ok (.aload_n 0, 1) := by decide +kernel
theorem dX9_stageGoes_169 : decode cX9_stageGoes 169 = .ok (.getfield 13, 3) := by decide +kernel
theorem dX9_stageGoes_172 : decode cX9_stageGoes 172 = .ok (.iconst 1, 1) := by decide +kernel
theorem dX9_stageGoes_173 : decode cX9_stageGoes 173 = .ok (.iaload, 1) := by decide +kernel
theorem dX9_stageGoes_174 : decode cX9_stageGoes 174 = .ok (.if_icmp .ge 35, 3) := by decide +kernel
theorem dX9_stageGoes_177 : decode cX9_stageGoes 177 = .ok (.aload_n 0, 1) := by decide +kernel
theorem dX9_stageGoes_178 : decode cX9_stageGoes 178 = .ok (.getfield 19, 3) := by decide +kernel
theorem dX9_stageGoes_181 : decode cX9_stageGoes 181 = .ok (.bipush 22, 2) := by decide +kernel
theorem dX9_stageGoes_183 : decode cX9_stageGoes 183 = .ok (.iload_n 3, 1) := by decide +kernel
theorem dX9_stageGoes_184 : decode cX9_stageGoes 184 = .ok (.iadd, 1) := by decide +kernel
theorem dX9_stageGoes_185 : decode cX9_stageGoes 185 = .ok (.iload_n 1, 1) := by decide +kernel
theorem dX9_stageGoes_186 : decode cX9_stageGoes 186 = .ok (.ifCond .eq 15, 3) := by decide +kernel
theorem dX9_stageGoes_189 : decode cX9_stageGoes 189 = .ok (.aload_n 0, 1) := by decide +kernel
theorem dX9_stageGoes_190 : decode cX9_stageGoes 190 = .ok (.getfield 19, 3) := by decide +kernel
theorem dX9_stageGoes_193 : decode cX9_stageGoes 193 = .ok (.bipush 22, 2) := by decide +kernel
theorem dX9_stageGoes_195 : decode cX9_stageGoes 195 = .ok (.iload_n 3, 1) := by decide +kernel
theorem dX9_stageGoes_196 : decode cX9_stageGoes 196 = .ok (.iadd, 1) := by decide +kernel
theorem dX9_stageGoes_197 : decode cX9_stageGoes 197 = .ok (.iaload, 1) := by decide +kernel
theorem dX9_stageGoes_198 : decode cX9_stageGoes 198 = .ok (.goto 4, 3) := by decide +kernel
theorem dX9_stageGoes_201 : decode cX9_stageGoes 201 = .ok (.iconst 0, 1) := by decide +kernel
theorem dX9_stageGoes_202 : decode cX9_stageGoes 202 = .ok (.iastore, 1) := by decide +kernel
theorem dX9_stageGoes_203 : decode cX9_stageGoes 203 = .ok (.iinc 3 1, 3) := by decide +kernel
theorem dX9_stageGoes_206 : decode cX9_stageGoes 206 = .ok (.goto (-39), 3) := by decide +kernel
theorem dX9_stageGoes_209 : decode cX9_stageGoes 209 = .ok (.aload_n 0, 1) := by decide +kernel
theorem dX9_stageGoes_210 : decode cX9_stageGoes 210 = .ok (.getfield 19, 3) := by decide +kernel
theorem dX9_stageGoes_213 : decode cX9_stageGoes 213 = .ok (.iconst 1, 1) := by decide +kernel
theorem dX9_stageGoes_214 : decode cX9_stageGoes 214 = .ok (.dup2, 1) := by decide +kernel
theorem dX9_stageGoes_215 : decode cX9_stageGoes 215 = .ok (.iaload, 1) := by decide +kernel
theorem dX9_stageGoes_216 : decode cX9_stageGoes 216 = .ok (.iload_n 2, 1) := by decide +kernel
theorem dX9_stageGoes_217 : decode cX9_stageGoes 217 = .ok (.iadd, 1) := by decide +kernel
theorem dX9_stageGoes_218 : decode cX9_stageGoes 218 = .ok (.iastore, 1) := by decide +kernel
theorem dX9_stageGoes_219 : decode cX9_stageGoes 219 = .ok (.aload_n 0, 1) := by decide +kernel
theorem dX9_stageGoes_220 : decode cX9_stageGoes 220 = .ok (.getfield 19, 3) := by decide +kernel
theorem dX9_stageGoes_223 : decode cX9_stageGoes 223 = .ok (.iconst 0, 1) := by decide +kernel
theorem dX9_stageGoes_224 : decode cX9_stageGoes 224 = .ok (.dup2, 1) := by decide +kernel
theorem dX9_stageGoes_225 : decode cX9_stageGoes 225 = .ok (.iaload, 1) := by decide +kernel
theorem dX9_stageGoes_226 : decode cX9_stageGoes 226 = .ok (.iconst 1, 1) := by decide +kernel
theorem dX9_stageGoes_227 : decode cX9_stageGoes 227 = .ok (.iadd, 1) := by decide +kernel
theorem dX9_stageGoes_228 : decode cX9_stageGoes 228 = .ok (.iastore, 1) := by decide +kernel
theorem dX9_stageGoes_229 : decode cX9_stageGoes 229 = .ok (.iload_n 2, 1) := by decide +kernel
theorem dX9_stageGoes_230 : decode cX9_stageGoes 230 = .ok (.ireturn, 1) := by decide +kernel
theorem dX9_isStage_0 : decode cX9_isStage 0 = .ok (.aload_n 0, 1) := by decide +kernel
theorem dX9_isStage_1 : decode cX9_isStage 1 = .ok (.getfield 19, 3) := by decide +kernel
theorem dX9_isStage_4 : decode cX9_isStage 4 = .ok (.iconst 0, 1) := by decide +kernel
theorem dX9_isStage_5 : decode cX9_isStage 5 = .ok (.iaload, 1) := by decide +kernel
theorem dX9_isStage_6 : decode cX9_isStage 6 = .ok (.aload_n 0, 1) := by decide +kernel
theorem dX9_isStage_7 : decode cX9_isStage 7 = .ok (.getfield 13, 3) := by decide +kernel
theorem dX9_isStage_10 : decode cX9_isStage 10 = .ok (.iconst 2, 1) := by decide +kernel
theorem dX9_isStage_11 : decode cX9_isStage 11 = .ok (.iaload, 1) := by decide +kernel
theorem dX9_isStage_12 : decode cX9_isStage 12 = .ok (.if_icmp .ge 7, 3) := by decide +kernel
theorem dX9_isStage_15 : decode cX9_isStage 15 = .ok (.iconst 1, 1) := by decide +kernel
theorem dX9_isStage_16 : decode cX9_isStage 16 = .ok (.goto 4, 3) := by decide +kernel
theorem dX9_isStage_19 : decode cX9_isStage 19 = .ok (.iconst 0, 1) := by decide +kernel
theorem dX9_isStage_20 : decode cX9_isStage 20 = .ok (.ireturn, 1) := by decide +kernel
theorem dX9_isRain_0 : decode cX9_isRain 0 = .ok (.aload_n 0, 1) := by decide +kernel
theorem dX9_isRain_1 : decode cX9_isRain 1 = .ok (.getfield 13, 3) := by decide +kernel
theorem dX9_isRain_4 : decode cX9_isRain 4 = .ok (.bipush 55, 2) := by decide +kernel
theorem dX9_isRain_6 : decode cX9_isRain 6 = .ok (.aload_n 0, 1) := by decide +kernel
theorem dX9_isRain_7 : decode cX9_isRain 7 = .ok (.getfield 19, 3) := by decide +kernel
theorem dX9_isRain_10 : decode cX9_isRain 10 = .ok (.iconst 0, 1) := by decide +kernel
theorem dX9_isRain_11 : decode cX9_isRain 11 = .ok (.iaload, 1) := by decide +kernel
theorem dX9_isRain_12 : decode cX9_isRain 12 = .ok (.iadd, 1) := by decide +kernel
theorem dX9_isRain_13 : decode cX9_isRain 13 = .ok (.iaload, 1) := by decide +kernel
theorem dX9_isRain_14 : decode cX9_isRain 14 = .ok (.iconst 1, 1) := by decide +kernel
theorem dX9_isRain_15 : decode cX9_isRain 15 = .ok (.if_icmp .ne 7, 3) := by decide +kernel
theorem dX9_isRain_18 : decode cX9_isRain 18 = .ok (.iconst 1, 1) := by decide +kernel
theorem dX9_isRain_19 : decode cX9_isRain 19 = .ok (.goto 4, 3) := by decide +kernel
theorem dX9_isRain_22 : decode cX9_isRain 22 = .ok (.iconst 0, 1) := by decide +kernel
theorem dX9_isRain_23 : decode cX9_isRain 23 = .ok (.ireturn, 1) := by decide +kernel
theorem dX9_goes_0 : decode cX9_goes 0 = .ok (.aload_n 0, 1) := by decide +kernel
theorem dX9_goes_1 : decode cX9_goes 1 = .ok (.invokevirtual 138, 3) := by decide +kernel
theorem dX9_goes_4 : decode cX9_goes 4 = .ok (.ifCond .ne 6, 3) := by decide +kernel
theorem dX9_goes_7 : decode cX9_goes 7 = .ok (.bipush (-2), 2) := by decide +kernel
theorem dX9_goes_9 : decode cX9_goes 9 = .ok (.ireturn, 1) := by decide +kernel
theorem dX9_goes_10 : decode cX9_goes 10 = .ok (.aload_n 0, 1) := by decide +kernel
theorem dX9_goes_11 : decode cX9_goes 11 = .ok (.invokevirtual 119, 3) := by decide +kernel
theorem dX9_goes_14 : decode cX9_goes 14 = .ok (.aload_n 0, 1) := by decide +kernel
theorem dX9_goes_15 : decode cX9_goes 15 = .ok (.invokevirtual 141, 3) := by decide +kernel
theorem dX9_goes_18 : decode cX9_goes 18 = .ok (.aload_n 0, 1) := by decide +kernel
theorem dX9_goes_19 : decode cX9_goes 19 = .ok (.aload_n 0, 1) := by decide +kernel
theorem dX9_goes_20 : decode cX9_goes 20 = .ok (.invokevirtual 144, 3) := by decide +kernel
theorem dX9_goes_23 : decode cX9_goes 23 = .ok (.invokevirtual 147, 3) := by decide +kernel
theorem dX9_goes_26 : decode cX9_goes 26 = .ok (.ireturn, 1) := by decide +kernel
theorem dX9_undo_0 : decode cX9_undo 0 = .ok (.aload_n 0, 1) := by decide +kernel
theorem dX9_undo_1 : decode cX9_undo 1 = .ok (.getfield 19, 3) := by decide +kernel
theorem dX9_undo_4 : decode cX9_undo 4 = .ok (.bipush 29, 2) := by decide +kernel
theorem dX9_undo_6 : decode cX9_undo 6 = .ok (.iaload, 1) := by decide +kernel
theorem dX9_undo_7 : decode cX9_undo 7 = .ok (.ifCond .ne 6, 3) := by decide +kernel
theorem dX9_undo_10 : decode cX9_undo 10 = .ok (.bipush (-2), 2) := by decide +kernel
theorem dX9_undo_12 : decode cX9_undo 12 = .ok (.ireturn, 1) := by decide +kernel
theorem dX9_undo_13 : decode cX9_undo 13 = .ok (.aload_n 0, 1) := by decide +kernel
theorem dX9_undo_14 : decode cX9_undo 14 = .ok (.getfield 19, 3) := by decide +kernel
theorem dX9_undo_17 : decode cX9_undo 17 = .ok (.bipush 29, 2) := by decide +kernel
theorem dX9_undo_19 : decode cX9_undo 19 = .ok (.dup2, 1) := by decide +kernel
theorem dX9_undo_20 : decode cX9_undo 20 = .ok (.iaload, 1) := by decide +kernel
theorem dX9_undo_21 : decode cX9_undo 21 = .ok (.iconst 1, 1) := by decide +kernel
theorem dX9_undo_22 : decode cX9_undo 22 = .ok (.isub, 1) := by decide +kernel
theorem dX9_undo_23 : decode cX9_undo 23 = .ok (.iastore, 1) := by decide +kernel
theorem dX9_undo_24 : decode cX9_undo 24 = .ok (.bipush 30, 2) := by decide +kernel
theorem dX9_undo_26 : decode cX9_undo 26 = .ok (.bipush 29, 2) := by decide +kernel
theorem dX9_undo_28 : decode cX9_undo 28 = .ok (.aload_n 0, 1) := by decide +kernel
theorem dX9_undo_29 : decode cX9_undo 29 = .ok (.getfield 19, 3) := by decide +kernel
theorem dX9_undo_32 : decode cX9_undo 32 = .ok (.bipush 29, 2) := by decide +kernel
theorem dX9_undo_34 : decode cX9_undo 34 = .ok (.iaload, 1) := by decide +kernel
theorem dX9_undo_35 : decode cX9_undo 35 = .ok (.imul, 1) := by decide +kernel
theorem dX9_undo_36 : decode cX9_undo 36 = .ok (.iadd, 1) := by decide +kernel
theorem dX9_undo_37 : decode cX9_undo 37 = .ok (.istore_n 1, 1) := by decide +kernel
theorem dX9_undo_38 : decode cX9_undo 38 = .ok (.iconst 0, 1) := by decide +kernel
theorem dX9_undo_39 : decode cX9_undo 39 = .ok (.istore_n 2, 1) := by decide +kernel
theorem dX9_undo_40 : decode cX9_undo 40 = .ok (.iload_n 2, 1) := by decide +kernel
theorem dX9_undo_41 : decode cX9_undo 41 = .ok (.bipush 29, 2) := by decide +kernel
theorem dX9_undo_43 : decode cX9_undo 43 = .ok (.if_icmp .ge 23, 3) := by decide +kernel
theorem dX9_undo_46 : decode cX9_undo 46 = .ok (.aload_n 0, 1) := by decide +kernel
theorem dX9_undo_47 : decode cX9_undo 47 = .ok (.getfield 19, 3) := by decide +kernel
theorem dX9_undo_50 : decode cX9_undo 50 = .ok (.iload_n 2, 1) := by decide +kernel
theorem dX9_undo_51 : decode cX9_undo 51 = .ok (.aload_n 0, 1) := by decide +kernel
theorem dX9_undo_52 : decode cX9_undo 52 = .ok (.getfield 19, 3) := by decide +kernel
theorem dX9_undo_55 : decode cX9_undo 55 = .ok (.iload_n 1, 1) := by decide +kernel
theorem dX9_undo_56 : decode cX9_undo 56 = .ok (.iload_n 2, 1) := by decide +kernel
theorem dX9_undo_57 : decode cX9_undo 57 = .ok (.iadd, 1) := by decide +kernel
theorem dX9_undo_58 : decode cX9_undo 58 = .ok (.iaload, 1) := by decide +kernel
theorem dX9_undo_59 : decode cX9_undo 59 = .ok (.iastore, 1) := by decide +kernel
theorem dX9_undo_60 : decode cX9_undo 60 = .ok (.iinc 2 1, 3) := by decide +kernel
theorem dX9_undo_63 : decode cX9_undo 63 = .ok (.goto (-23), 3) := by decide +kernel
theorem dX9_undo_66 : decode cX9_undo 66 = .ok (.aload_n 0, 1) := by decide +kernel
theorem dX9_undo_67 : decode cX9_undo 67 = .ok (.getfield 19, 3) := by decide +kernel
theorem dX9_undo_70 : decode cX9_undo 70 = .ok (.bipush 29, 2) := by decide +kernel
theorem dX9_undo_72 : decode cX9_undo 72 = .ok (.iaload, 1) := by decide +kernel
theorem dX9_undo_73 : decode cX9_undo 73 = .ok (.ireturn, 1) := by decide +kernel
theorem dX9_fair_0 : decode cX9_fair 0 = .ok (.iconst 0, 1) := by decide +kernel
theorem dX9_fair_1 : decode cX9_fair 1 = .ok (.istore_n 2, 1) := by decide +kernel
theorem dX9_fair_2 : decode cX9_fair 2 = .ok (.iconst 0, 1) := by decide +kernel
theorem dX9_fair_3 : decode cX9_fair 3 = .ok (.istore_n 3, 1) := by decide +kernel
theorem dX9_fair_4 : decode cX9_fair 4 = .ok (.iconst 0, 1) := by decide +kernel
theorem dX9_fair_5 : decode cX9_fair 5 = .ok (.istore 4, 2) := by decide +kernel
theorem dX9_fair_7 : decode cX9_fair 7 = .ok (.iload 4, 2) := by decide +kernel
theorem dX9_fair_9 : decode cX9_fair 9 = .ok (.aload_n 0, 1) := by decide +kernel
theorem dX9_fair_10 : decode cX9_fair 10 = .ok (.getfield 13, 3) := by decide +kernel
theorem dX9_fair_13 : decode cX9_fair 13 = .ok (.iconst 0, 1) := by decide +kernel
theorem dX9_fair_14 : decode cX9_fair 14 = .ok (.iaload, 1) := by decide +kernel
theorem dX9_fair_15 : decode cX9_fair 15 = .ok (.if_icmp .ge 73, 3) := by decide +kernel
theorem dX9_fair_18 : decode cX9_fair 18 = .ok (.iload_n 1, 1) := by decide +kernel
theorem dX9_fair_19 : decode cX9_fair 19 = .ok (.ifCond .eq 19, 3) := by decide +kernel
theorem dX9_fair_22 : decode cX9_fair 22 = .ok (.aload_n 0, 1) := by decide +kernel
theorem dX9_fair_23 : decode cX9_fair 23 = .ok (.iload 4, 2) := by decide +kernel
theorem dX9_fair_25 : decode cX9_fair 25 = .ok (.invokevirtual 103, 3) := by decide +kernel
theorem dX9_fair_28 : decode cX9_fair 28 = .ok (.aload_n 0, 1) := by decide +kernel
theorem dX9_fair_29 : decode cX9_fair 29 = .ok (.iload 4, 2) := by decide +kernel
theorem dX9_fair_31 : decode cX9_fair 31 = .ok (.invokevirtual 109, 3) := by decide +kernel
theorem dX9_fair_34 : decode cX9_fair 34 = .ok (.isub, 1) := by decide +kernel
theorem dX9_fair_35 : decode cX9_fair 35 = .ok (.goto 9, 3) := by decide +kernel
theorem dX9_fair_38 : decode cX9_fair 38 = .ok (.aload_n 0, 1) := by decide +kernel
theorem dX9_fair_39 : decode cX9_fair 39 = .ok (.iload 4, 2) := by decide +kernel
theorem dX9_fair_41 : decode cX9_fair 41 = .ok (.invokevirtual 109, 3) := by decide +kernel
theorem dX9_fair_44 : decode cX9_fair 44 = .ok (.istore 5, 2) := by decide +kernel
theorem dX9_fair_46 : decode cX9_fair 46 = .ok (.iload 4, 2) := by decide +kernel
theorem dX9_fair_48 : decode cX9_fair 48 = .ok (.ifCond .eq 9, 3) := by decide +kernel
theorem dX9_fair_51 : decode cX9_fair 51 = .ok (.iload 5, 2) := by decide +kernel
theorem dX9_fair_53 : decode cX9_fair 53 = .ok (.iload_n 2, 1) := by decide +kernel
theorem dX9_fair_54 : decode cX9_fair 54 = .ok (.if_icmp .le 8, 3) := by decide +kernel
theorem dX9_fair_57 : decode cX9_fair 57 = .ok (.iload 5, 2) := by decide +kernel
theorem dX9_fair_59 : decode cX9_fair 59 = .ok (.goto 4, 3) := by decide +kernel
theorem dX9_fair_62 : decode cX9_fair 62 = .ok (.iload_n 2, 1) := by decide +kernel
theorem dX9_fair_63 : decode cX9_fair 63 = .ok (.istore_n 2, 1) := by decide +kernel
theorem dX9_fair_64 : decode cX9_fair 64 = .ok (.iload 4, 2) := by decide +kernel
theorem dX9_fair_66 : decode cX9_fair 66 = .ok (.ifCond .eq 9, 3) := by decide +kernel
theorem dX9_fair_69 : decode cX9_fair 69 = .ok (.iload 5, 2) := by decide +kernel
theorem dX9_fair_71 : decode cX9_fair 71 = .ok (.iload_n 3, 1) := by decide +kernel
theorem dX9_fair_72 : decode cX9_fair 72 = .ok (.if_icmp .ge 8, 3) := by decide +kernel
theorem dX9_fair_75 : decode cX9_fair 75 = .ok (.iload 5, 2) := by decide +kernel
theorem dX9_fair_77 : decode cX9_fair 77 = .ok (.goto 4, 3) := by decide +kernel
theorem dX9_fair_80 : decode cX9_fair 80 = .ok (.iload_n 3, 1) := by decide +kernel
theorem dX9_fair_81 : decode cX9_fair 81 = .ok (.istore_n 3, 1) := by decide +kernel
theorem dX9_fair_82 : decode cX9_fair 82 = .ok (.iinc 4 1, 3) := by decide +kernel
theorem dX9_fair_85 : decode cX9_fair 85 = .ok (.goto (-78), 3) := by decide +kernel
theorem dX9_fair_88 : decode cX9_fair 88 = .ok (.iload_n 2, 1) := by decide +kernel
theorem dX9_fair_89 : decode cX9_fair 89 = .ok (.iload_n 3, 1) := by decide +kernel
theorem dX9_fair_90 : decode cX9_fair 90 = .ok (.isub, 1) := by decide +kernel
theorem dX9_fair_91 : decode cX9_fair 91 = .ok (.ireturn, 1) := by decide +kernel
theorem dX9_parted_0 : decode cX9_parted 0 = .ok (.iconst 0, 1) := by decide +kernel
theorem dX9_parted_1 : decode cX9_parted 1 = .ok (.istore_n 1, 1) := by decide +kernel
theorem dX9_parted_2 : decode cX9_parted 2 = .ok (.iconst 0, 1) := by decide +kernel
theorem dX9_parted_3 : decode cX9_parted 3 = .ok (.istore_n 2, 1) := by decide +kernel
theorem dX9_parted_4 : decode cX9_parted 4 = .ok (.iload_n 2, 1) := by decide +kernel
theorem dX9_parted_5 : decode cX9_parted 5 = .ok (.aload_n 0, 1) := by decide +kernel
theorem dX9_parted_6 : decode cX9_parted 6 = .ok (.getfield 13, 3) := by decide +kernel
theorem dX9_parted_9 : decode cX9_parted 9 = .ok (.iconst 1, 1) := by decide +kernel
theorem dX9_parted_10 : decode cX9_parted 10 = .ok (.iaload, 1) := by decide +kernel
theorem dX9_parted_11 : decode cX9_parted 11 = .ok (.if_icmp .ge 106, 3) := by decide +kernel
theorem dX9_parted_14 : decode cX9_parted 14 = .ok (.iconst 0, 1) := by decide +kernel
theorem dX9_parted_15 : decode cX9_parted 15 = .ok (.istore_n 3, 1) := by decide +kernel
theorem dX9_parted_16 : decode cX9_parted 16 = .ok (.iload_n 3, 1) := by decide +kernel
theorem dX9_parted_17 : decode cX9_parted 17 = .ok (.iload_n 2, 1) := by decide +kernel
theorem dX9_parted_18 : decode cX9_parted 18 = .ok (.if_icmp .ge 93, 3) := by decide +kernel
theorem dX9_parted_21 : decode cX9_parted 21 = .ok (.aload_n 0, 1) := by decide +kernel
theorem dX9_parted_22 : decode cX9_parted 22 = .ok (.getfield 13, 3) := by decide +kernel
theorem dX9_parted_25 : decode cX9_parted 25 = .ok (.bipush 33, 2) := by decide +kernel
theorem dX9_parted_27 : decode cX9_parted 27 = .ok (.iload_n 2, 1) := by decide +kernel
theorem dX9_parted_28 : decode cX9_parted 28 = .ok (.iadd, 1) := by decide +kernel
theorem dX9_parted_29 : decode cX9_parted 29 = .ok (.iaload, 1) := by decide +kernel
theorem dX9_parted_30 : decode cX9_parted 30 = .ok (.ifCond .le 49, 3) := by decide +kernel
theorem dX9_parted_33 : decode cX9_parted 33 = .ok (.aload_n 0, 1) := by decide +kernel
theorem dX9_parted_34 : decode cX9_parted 34 = .ok (.getfield 13, 3) := by decide +kernel
theorem dX9_parted_37 : decode cX9_parted 37 = .ok (.bipush 33, 2) := by decide +kernel
theorem dX9_parted_39 : decode cX9_parted 39 = .ok (.iload_n 2, 1) := by decide +kernel
theorem dX9_parted_40 : decode cX9_parted 40 = .ok (.iadd, 1) := by decide +kernel
theorem dX9_parted_41 : decode cX9_parted 41 = .ok (.iaload, 1) := by decide +kernel
theorem dX9_parted_42 : decode cX9_parted 42 = .ok (.aload_n 0, 1) := by decide +kernel
theorem dX9_parted_43 : decode cX9_parted 43 = .ok (.getfield 13, 3) := by decide +kernel
theorem dX9_parted_46 : decode cX9_parted 46 = .ok (.bipush 33, 2) := by decide +kernel
theorem dX9_parted_48 : decode cX9_parted 48 = .ok (.iload_n 3, 1) := by decide +kernel
theorem dX9_parted_49 : decode cX9_parted 49 = .ok (.iadd, 1) := by decide +kernel
theorem dX9_parted_50 : decode cX9_parted 50 = .ok (.iaload, 1) := by decide +kernel
theorem dX9_parted_51 : decode cX9_parted 51 = .ok (.if_icmp .ne 28, 3) := by decide +kernel
theorem dX9_parted_54 : decode cX9_parted 54 = .ok (.aload_n 0, 1) := by decide +kernel
theorem dX9_parted_55 : decode cX9_parted 55 = .ok (.getfield 19, 3) := by decide +kernel
theorem dX9_parted_58 : decode cX9_parted 58 = .ok (.bipush 8, 2) := by decide +kernel
theorem dX9_parted_60 : decode cX9_parted 60 = .ok (.iload_n 2, 1) := by decide +kernel
theorem dX9_parted_61 : decode cX9_parted 61 = .ok (.iadd, 1) := by decide +kernel
theorem dX9_parted_62 : decode cX9_parted 62 = .ok (.iaload, 1) := by decide +kernel
theorem dX9_parted_63 : decode cX9_parted 63 = .ok (.aload_n 0, 1) := by decide +kernel
theorem dX9_parted_64 : decode cX9_parted 64 = .ok (.getfield 19, 3) := by decide +kernel
theorem dX9_parted_67 : decode cX9_parted 67 = .ok (.bipush 8, 2) := by decide +kernel
theorem dX9_parted_69 : decode cX9_parted 69 = .ok (.iload_n 3, 1) := by decide +kernel
theorem dX9_parted_70 : decode cX9_parted 70 = .ok (.iadd, 1) := by decide +kernel
theorem dX9_parted_71 : decode cX9_parted 71 = .ok (.iaload, 1) := by decide +kernel
theorem dX9_parted_72 : decode cX9_parted 72 = .ok (.if_icmp .eq 7, 3) := by decide +kernel
theorem dX9_parted_75 : decode cX9_parted 75 = .ok (.iconst 1, 1) := by decide +kernel
theorem dX9_parted_76 : decode cX9_parted 76 = .ok (.goto 4, 3) := by decide +kernel
theorem dX9_parted_79 : decode cX9_parted 79 = .ok (.iconst 0, 1) := by decide +kernel
theorem dX9_parted_80 : decode cX9_parted 80 = .ok (.istore 4, 2) := by decide +kernel
theorem dX9_parted_82 : decode cX9_parted 82 = .ok (.iload_n 1, 1) := by decide +kernel
theorem dX9_parted_83 : decode cX9_parted 83 = .ok (.iload 4, 2) := by decide +kernel
theorem dX9_parted_85 : decode cX9_parted 85 = .ok (.ifCond .eq 17, 3) := by decide +kernel
theorem dX9_parted_88 : decode cX9_parted 88 = .ok (.iconst 1, 1) := by decide +kernel
theorem dX9_parted_89 : decode cX9_parted 89 = .ok (.aload_n 0, 1) := by decide +kernel
theorem dX9_parted_90 : decode cX9_parted 90 = .ok (.getfield 13, 3) := by decide +kernel
theorem dX9_parted_93 : decode cX9_parted 93 = .ok (.bipush 33, 2) := by decide +kernel
theorem dX9_parted_95 : decode cX9_parted 95 = .ok (.iload_n 2, 1) := by decide +kernel
theorem dX9_parted_96 : decode cX9_parted 96 = .ok (.iadd, 1) := by decide +kernel
theorem dX9_parted_97 : decode cX9_parted 97 = .ok (.iaload, 1) := by decide +kernel
theorem dX9_parted_98 : decode cX9_parted 98 = .ok (.ishl, 1) := by decide +kernel
theorem dX9_parted_99 : decode cX9_parted 99 = .ok (.goto 4, 3) := by decide +kernel
theorem dX9_parted_102 : decode cX9_parted 102 = .ok (.iconst 0, 1) := by decide +kernel
theorem dX9_parted_103 : decode cX9_parted 103 = .ok (.ior, 1) := by decide +kernel
theorem dX9_parted_104 : decode cX9_parted 104 = .ok (.istore_n 1, 1) := by decide +kernel
theorem dX9_parted_105 : decode cX9_parted 105 = .ok (.iinc 3 1, 3) := by decide +kernel
theorem dX9_parted_108 : decode cX9_parted 108 = .ok (.goto (-92), 3) := by decide +kernel
theorem dX9_parted_111 : decode cX9_parted 111 = .ok (.iinc 2 1, 3) := by decide +kernel
theorem dX9_parted_114 : decode cX9_parted 114 = .ok (.goto (-110), 3) := by decide +kernel
theorem dX9_parted_117 : decode cX9_parted 117 = .ok (.iload_n 1, 1) := by decide +kernel
theorem dX9_parted_118 : decode cX9_parted 118 = .ok (.ireturn, 1) := by decide +kernel
theorem dX9_now_0 : decode cX9_now 0 = .ok (.iload_n 1, 1) := by decide +kernel
theorem dX9_now_1 : decode cX9_now 1 = .ok (.iconst 0, 1) := by decide +kernel
theorem dX9_now_2 : decode cX9_now 2 = .ok (.bipush 7, 2) := by decide +kernel
theorem dX9_now_4 : decode cX9_now 4 = .ok (.invokestatic 48, 3) := by decide +kernel
theorem dX9_now_7 : decode cX9_now 7 = .ok (.ifCond .ne 5, 3) := by decide +kernel
theorem dX9_now_10 : decode cX9_now 10 = .ok (.iconst (-1), 1) := by decide +kernel
theorem dX9_now_11 : decode cX9_now 11 = .ok (.ireturn, 1) := by decide +kernel
theorem dX9_now_12 : decode cX9_now 12 = .ok (.iload_n 1, 1) := by decide +kernel
theorem dX9_now_13 : decode cX9_now 13 = .ok (.iconst 3, 1) := by decide +kernel
theorem dX9_now_14 : decode cX9_now 14 = .ok (.if_icmp .ge 12, 3) := by decide +kernel
theorem dX9_now_17 : decode cX9_now 17 = .ok (.aload_n 0, 1) := by decide +kernel
theorem dX9_now_18 : decode cX9_now 18 = .ok (.getfield 19, 3) := by decide +kernel
theorem dX9_now_21 : decode cX9_now 21 = .ok (.iload_n 1, 1) := by decide +kernel
theorem dX9_now_22 : decode cX9_now 22 = .ok (.iaload, 1) := by decide +kernel
theorem dX9_now_23 : decode cX9_now 23 = .ok (.goto 68, 3) := by decide +kernel
theorem dX9_now_26 : decode cX9_now 26 = .ok (.iload_n 1, 1) := by decide +kernel
theorem dX9_now_27 : decode cX9_now 27 = .ok (.iconst 3, 1) := by decide +kernel
theorem dX9_now_28 : decode cX9_now 28 = .ok (.if_icmp .ne 18, 3) := by decide +kernel
theorem dX9_now_31 : decode cX9_now 31 = .ok (.aload_n 0, 1) := by decide +kernel
theorem dX9_now_32 : decode cX9_now 32 = .ok (.invokevirtual 122, 3) := by decide +kernel
theorem dX9_now_35 : decode cX9_now 35 = .ok (.ifCond .eq 7, 3) := by decide +kernel
theorem dX9_now_38 : decode cX9_now 38 = .ok (.iconst 1, 1) := by decide +kernel
theorem dX9_now_39 : decode cX9_now 39 = .ok (.goto 52, 3) := by decide +kernel
theorem dX9_now_42 : decode cX9_now 42 = .ok (.iconst 0, 1) := by decide +kernel
theorem dX9_now_43 : decode cX9_now 43 = .ok (.goto 48, 3) := by decide +kernel
theorem dX9_now_46 : decode cX9_now 46 = .ok (.iload_n 1, 1) := by decide +kernel
theorem dX9_now_47 : decode cX9_now 47 = .ok (.iconst 4, 1) := by decide +kernel
theorem dX9_now_48 : decode cX9_now 48 = .ok (.if_icmp .ne 11, 3) := by decide +kernel
theorem dX9_now_51 : decode cX9_now 51 = .ok (.aload_n 0, 1) := by decide +kernel
theorem dX9_now_52 : decode cX9_now 52 = .ok (.iconst 0, 1) := by decide +kernel
theorem dX9_now_53 : decode cX9_now 53 = .ok (.invokevirtual 151, 3) := by decide +kernel
theorem dX9_now_56 : decode cX9_now 56 = .ok (.goto 35, 3) := by decide +kernel
theorem dX9_now_59 : decode cX9_now 59 = .ok (.iload_n 1, 1) := by decide +kernel
theorem dX9_now_60 : decode cX9_now 60 = .ok (.iconst 5, 1) := by decide +kernel
theorem dX9_now_61 : decode cX9_now 61 = .ok (.if_icmp .ne 11, 3) := by decide +kernel
theorem dX9_now_64 : decode cX9_now 64 = .ok (.aload_n 0, 1) := by decide +kernel
theorem dX9_now_65 : decode cX9_now 65 = .ok (.iconst 1, 1) := by decide +kernel
theorem dX9_now_66 : decode cX9_now 66 = .ok (.invokevirtual 151, 3) := by decide +kernel
theorem dX9_now_69 : decode cX9_now 69 = .ok (.goto 22, 3) := by decide +kernel
theorem dX9_now_72 : decode cX9_now 72 = .ok (.iload_n 1, 1) := by decide +kernel
theorem dX9_now_73 : decode cX9_now 73 = .ok (.bipush 6, 2) := by decide +kernel
theorem dX9_now_75 : decode cX9_now 75 = .ok (.if_icmp .ne 10, 3) := by decide +kernel
theorem dX9_now_78 : decode cX9_now 78 = .ok (.aload_n 0, 1) := by decide +kernel
theorem dX9_now_79 : decode cX9_now 79 = .ok (.invokevirtual 154, 3) := by decide +kernel
theorem dX9_now_82 : decode cX9_now 82 = .ok (.goto 9, 3) := by decide +kernel
theorem dX9_now_85 : decode cX9_now 85 = .ok (.aload_n 0, 1) := by decide +kernel
theorem dX9_now_86 : decode cX9_now 86 = .ok (.getfield 19, 3) := by decide +kernel
theorem dX9_now_89 : decode cX9_now 89 = .ok (.iconst 3, 1) := by decide +kernel
theorem dX9_now_90 : decode cX9_now 90 = .ok (.iaload, 1) := by decide +kernel
theorem dX9_now_91 : decode cX9_now 91 = .ok (.ireturn, 1) := by decide +kernel
theorem dX9_holds_0 : decode cX9_holds 0 = .ok (.iconst 0, 1) := by decide +kernel
theorem dX9_holds_1 : decode cX9_holds 1 = .ok (.istore_n 1, 1) := by decide +kernel
theorem dX9_holds_2 : decode cX9_holds 2 = .ok (.iload_n 1, 1) := by decide +kernel
theorem dX9_holds_3 : decode cX9_holds 3 = .ok (.bipush 29, 2) := by decide +kernel
theorem dX9_holds_5 : decode cX9_holds 5 = .ok (.if_icmp .ge 21, 3) := by decide +kernel
theorem dX9_holds_8 : decode cX9_holds 8 = .ok (.aload_n 0, 1) := by decide +kernel
theorem dX9_holds_9 : decode cX9_holds 9 = .ok (.getfield 38, 3) := by decide +kernel
theorem dX9_holds_12 : decode cX9_holds 12 = .ok (.iload_n 1, 1) := by decide +kernel
theorem dX9_holds_13 : decode cX9_holds 13 = .ok (.aload_n 0, 1) := by decide +kernel
theorem dX9_holds_14 : decode cX9_holds 14 = .ok (.getfield 19, 3) := by decide +kernel
theorem dX9_holds_17 : decode cX9_holds 17 = .ok (.iload_n 1, 1) := by decide +kernel
theorem dX9_holds_18 : decode cX9_holds 18 = .ok (.iaload, 1) := by decide +kernel
theorem dX9_holds_19 : decode cX9_holds 19 = .ok (.iastore, 1) := by decide +kernel
theorem dX9_holds_20 : decode cX9_holds 20 = .ok (.iinc 1 1, 3) := by decide +kernel
theorem dX9_holds_23 : decode cX9_holds 23 = .ok (.goto (-21), 3) := by decide +kernel
theorem dX9_holds_26 : decode cX9_holds 26 = .ok (.return_, 1) := by decide +kernel
theorem dX9_lets_0 : decode cX9_lets 0 = .ok (.iconst 0, 1) := by decide +kernel
theorem dX9_lets_1 : decode cX9_lets 1 = .ok (.istore_n 1, 1) := by decide +kernel
theorem dX9_lets_2 : decode cX9_lets 2 = .ok (.iload_n 1, 1) := by decide +kernel
theorem dX9_lets_3 : decode cX9_lets 3 = .ok (.bipush 29, 2) := by decide +kernel
theorem dX9_lets_5 : decode cX9_lets 5 = .ok (.if_icmp .ge 21, 3) := by decide +kernel
theorem dX9_lets_8 : decode cX9_lets 8 = .ok (.aload_n 0, 1) := by decide +kernel
theorem dX9_lets_9 : decode cX9_lets 9 = .ok (.getfield 19, 3) := by decide +kernel
theorem dX9_lets_12 : decode cX9_lets 12 = .ok (.iload_n 1, 1) := by decide +kernel
theorem dX9_lets_13 : decode cX9_lets 13 = .ok (.aload_n 0, 1) := by decide +kernel
theorem dX9_lets_14 : decode cX9_lets 14 = .ok (.getfield 38, 3) := by decide +kernel
theorem dX9_lets_17 : decode cX9_lets 17 = .ok (.iload_n 1, 1) := by decide +kernel
theorem dX9_lets_18 : decode cX9_lets 18 = .ok (.iaload, 1) := by decide +kernel
theorem dX9_lets_19 : decode cX9_lets 19 = .ok (.iastore, 1) := by decide +kernel
theorem dX9_lets_20 : decode cX9_lets 20 = .ok (.iinc 1 1, 3) := by decide +kernel
theorem dX9_lets_23 : decode cX9_lets 23 = .ok (.goto (-21), 3) := by decide +kernel
theorem dX9_lets_26 : decode cX9_lets 26 = .ok (.return_, 1) := by decide +kernel
theorem dX9_rest_0 : decode cX9_rest 0 = .ok (.iload_n 1, 1) := by decide +kernel
theorem dX9_rest_1 : decode cX9_rest 1 = .ok (.iconst 0, 1) := by decide +kernel
theorem dX9_rest_2 : decode cX9_rest 2 = .ok (.iconst 1, 1) := by decide +kernel
theorem dX9_rest_3 : decode cX9_rest 3 = .ok (.invokestatic 48, 3) := by decide +kernel
theorem dX9_rest_6 : decode cX9_rest 6 = .ok (.ifCond .ne 5, 3) := by decide +kernel
theorem dX9_rest_9 : decode cX9_rest 9 = .ok (.iconst (-1), 1) := by decide +kernel
theorem dX9_rest_10 : decode cX9_rest 10 = .ok (.ireturn, 1) := by decide +kernel
theorem dX9_rest_11 : decode cX9_rest 11 = .ok (.aload_n 0, 1) := by decide +kernel
theorem dX9_rest_12 : decode cX9_rest 12 = .ok (.invokevirtual 158, 3) := by decide +kernel
theorem dX9_rest_15 : decode cX9_rest 15 = .ok (.aload_n 0, 1) := by decide +kernel
theorem dX9_rest_16 : decode cX9_rest 16 = .ok (.invokevirtual 141, 3) := by decide +kernel
theorem dX9_rest_19 : decode cX9_rest 19 = .ok (.aload_n 0, 1) := by decide +kernel
theorem dX9_rest_20 : decode cX9_rest 20 = .ok (.invokevirtual 138, 3) := by decide +kernel
theorem dX9_rest_23 : decode cX9_rest 23 = .ok (.ifCond .eq 15, 3) := by decide +kernel
theorem dX9_rest_26 : decode cX9_rest 26 = .ok (.aload_n 0, 1) := by decide +kernel
theorem dX9_rest_27 : decode cX9_rest 27 = .ok (.aload_n 0, 1) := by decide +kernel
theorem dX9_rest_28 : decode cX9_rest 28 = .ok (.invokevirtual 144, 3) := by decide +kernel
theorem dX9_rest_31 : decode cX9_rest 31 = .ok (.invokevirtual 147, 3) := by decide +kernel
theorem dX9_rest_34 : decode cX9_rest 34 = .ok (.pop, 1) := by decide +kernel
theorem dX9_rest_35 : decode cX9_rest 35 = .ok (.goto (-16), 3) := by decide +kernel
theorem dX9_rest_38 : decode cX9_rest 38 = .ok (.aload_n 0, 1) := by decide +kernel
theorem dX9_rest_39 : decode cX9_rest 39 = .ok (.getfield 19, 3) := by decide +kernel
theorem dX9_rest_42 : decode cX9_rest 42 = .ok (.iconst 1, 1) := by decide +kernel
theorem dX9_rest_43 : decode cX9_rest 43 = .ok (.iload_n 1, 1) := by decide +kernel
theorem dX9_rest_44 : decode cX9_rest 44 = .ok (.iadd, 1) := by decide +kernel
theorem dX9_rest_45 : decode cX9_rest 45 = .ok (.iaload, 1) := by decide +kernel
theorem dX9_rest_46 : decode cX9_rest 46 = .ok (.aload_n 0, 1) := by decide +kernel
theorem dX9_rest_47 : decode cX9_rest 47 = .ok (.getfield 38, 3) := by decide +kernel
theorem dX9_rest_50 : decode cX9_rest 50 = .ok (.iconst 1, 1) := by decide +kernel
theorem dX9_rest_51 : decode cX9_rest 51 = .ok (.iload_n 1, 1) := by decide +kernel
theorem dX9_rest_52 : decode cX9_rest 52 = .ok (.iadd, 1) := by decide +kernel
theorem dX9_rest_53 : decode cX9_rest 53 = .ok (.iaload, 1) := by decide +kernel
theorem dX9_rest_54 : decode cX9_rest 54 = .ok (.isub, 1) := by decide +kernel
theorem dX9_rest_55 : decode cX9_rest 55 = .ok (.istore_n 2, 1) := by decide +kernel
theorem dX9_rest_56 : decode cX9_rest 56 = .ok (.aload_n 0, 1) := by decide +kernel
theorem dX9_rest_57 : decode cX9_rest 57 = .ok (.invokevirtual 161, 3) := by decide +kernel
theorem dX9_rest_60 : decode cX9_rest 60 = .ok (.iload_n 2, 1) := by decide +kernel
theorem dX9_rest_61 : decode cX9_rest 61 = .ok (.ireturn, 1) := by decide +kernel
theorem dX9_spent_0 : decode cX9_spent 0 = .ok (.iload_n 1, 1) := by decide +kernel
theorem dX9_spent_1 : decode cX9_spent 1 = .ok (.iconst 0, 1) := by decide +kernel
theorem dX9_spent_2 : decode cX9_spent 2 = .ok (.iconst 1, 1) := by decide +kernel
theorem dX9_spent_3 : decode cX9_spent 3 = .ok (.invokestatic 48, 3) := by decide +kernel
theorem dX9_spent_6 : decode cX9_spent 6 = .ok (.ifCond .ne 5, 3) := by decide +kernel
theorem dX9_spent_9 : decode cX9_spent 9 = .ok (.iconst (-1), 1) := by decide +kernel
theorem dX9_spent_10 : decode cX9_spent 10 = .ok (.ireturn, 1) := by decide +kernel
theorem dX9_spent_11 : decode cX9_spent 11 = .ok (.aload_n 0, 1) := by decide +kernel
theorem dX9_spent_12 : decode cX9_spent 12 = .ok (.invokevirtual 158, 3) := by decide +kernel
theorem dX9_spent_15 : decode cX9_spent 15 = .ok (.aload_n 0, 1) := by decide +kernel
theorem dX9_spent_16 : decode cX9_spent 16 = .ok (.invokevirtual 141, 3) := by decide +kernel
theorem dX9_spent_19 : decode cX9_spent 19 = .ok (.bipush (-9), 2) := by decide +kernel
theorem dX9_spent_21 : decode cX9_spent 21 = .ok (.istore_n 2, 1) := by decide +kernel
theorem dX9_spent_22 : decode cX9_spent 22 = .ok (.aload_n 0, 1) := by decide +kernel
theorem dX9_spent_23 : decode cX9_spent 23 = .ok (.invokevirtual 138, 3) := by decide +kernel
theorem dX9_spent_26 : decode cX9_spent 26 = .ok (.ifCond .eq 87, 3) := by decide +kernel
theorem dX9_spent_29 : decode cX9_spent 29 = .ok (.iload_n 2, 1) := by decide +kernel
theorem dX9_spent_30 : decode cX9_spent 30 = .ok (.bipush (-9), 2) := by decide +kernel
theorem dX9_spent_32 : decode cX9_spent 32 = .ok (.if_icmp .ne 81, 3) := by decide +kernel
theorem dX9_spent_35 : decode cX9_spent 35 = .ok (.aload_n 0, 1) := by decide +kernel
theorem dX9_spent_36 : decode cX9_spent 36 = .ok (.aload_n 0, 1) := by decide +kernel
theorem dX9_spent_37 : decode cX9_spent 37 = .ok (.invokevirtual 144, 3) := by decide +kernel
theorem dX9_spent_40 : decode cX9_spent 40 = .ok (.invokevirtual 128, 3) := by decide +kernel
theorem dX9_spent_43 : decode cX9_spent 43 = .ok (.aload_n 0, 1) := by decide +kernel
theorem dX9_spent_44 : decode cX9_spent 44 = .ok (.getfield 13, 3) := by decide +kernel
theorem dX9_spent_47 : decode cX9_spent 47 = .ok (.iconst 0, 1) := by decide +kernel
theorem dX9_spent_48 : decode cX9_spent 48 = .ok (.iaload, 1) := by decide +kernel
theorem dX9_spent_49 : decode cX9_spent 49 = .ok (.iconst 1, 1) := by decide +kernel
theorem dX9_spent_50 : decode cX9_spent 50 = .ok (.isub, 1) := by decide +kernel
theorem dX9_spent_51 : decode cX9_spent 51 = .ok (.istore_n 3, 1) := by decide +kernel
theorem dX9_spent_52 : decode cX9_spent 52 = .ok (.iload_n 3, 1) := by decide +kernel
theorem dX9_spent_53 : decode cX9_spent 53 = .ok (.ifCond .lt 42, 3) := by decide +kernel
theorem dX9_spent_56 : decode cX9_spent 56 = .ok (.aload_n 0, 1) := by decide +kernel
theorem dX9_spent_57 : decode cX9_spent 57 = .ok (.iload_n 3, 1) := by decide +kernel
theorem dX9_spent_58 : decode cX9_spent 58 = .ok (.aload_n 0, 1) := by decide +kernel
theorem dX9_spent_59 : decode cX9_spent 59 = .ok (.iload_n 3, 1) := by decide +kernel
theorem dX9_spent_60 : decode cX9_spent 60 = .ok (.invokevirtual 109, 3) := by decide +kernel
theorem dX9_spent_63 : decode cX9_spent 63 = .ok (.invokevirtual 112, 3) := by decide +kernel
theorem dX9_spent_66 : decode cX9_spent 66 = .ok (.iconst 1, 1) := by decide +kernel
theorem dX9_spent_67 : decode cX9_spent 67 = .ok (.if_icmp .ne 20, 3) := by decide +kernel
theorem dX9_spent_70 : decode cX9_spent 70 = .ok (.iload_n 1, 1) := by decide +kernel
theorem dX9_spent_71 : decode cX9_spent 71 = .ok (.ifCond .ne 7, 3) := by decide +kernel
theorem dX9_spent_74 : decode cX9_spent 74 = .ok (.iload_n 3, 1) := by decide +kernel
theorem dX9_spent_75 : decode cX9_spent 75 = .ok (.goto 13, 3) := by decide +kernel
theorem dX9_spent_78 : decode cX9_spent 78 = .ok (.aload_n 0, 1) := by decide +kernel
theorem dX9_spent_79 : decode cX9_spent 79 = .ok (.getfield 19, 3) := by decide +kernel
theorem dX9_spent_82 : decode cX9_spent 82 = .ok (.iconst 0, 1) := by decide +kernel
theorem dX9_spent_83 : decode cX9_spent 83 = .ok (.iaload, 1) := by decide +kernel
theorem dX9_spent_84 : decode cX9_spent 84 = .ok (.goto 4, 3) := by decide +kernel
theorem dX9_spent_87 : decode cX9_spent 87 = .ok (.iload_n 2, 1) := by decide +kernel
theorem dX9_spent_88 : decode cX9_spent 88 = .ok (.istore_n 2, 1) := by decide +kernel
theorem dX9_spent_89 : decode cX9_spent 89 = .ok (.iinc 3 (-1), 3) := by decide +kernel
theorem dX9_spent_92 : decode cX9_spent 92 = .ok (.goto (-40), 3) := by decide +kernel
theorem dX9_spent_95 : decode cX9_spent 95 = .ok (.iload_n 2, 1) := by decide +kernel
theorem dX9_spent_96 : decode cX9_spent 96 = .ok (.bipush (-9), 2) := by decide +kernel
theorem dX9_spent_98 : decode cX9_spent 98 = .ok (.if_icmp .ne (-76), 3) := by decide +kernel
theorem dX9_spent_101 : decode cX9_spent 101 = .ok (.aload_n 0, 1) := by decide +kernel
theorem dX9_spent_102 : decode cX9_spent 102 = .ok (.aload_n 0, 1) := by decide +kernel
theorem dX9_spent_103 : decode cX9_spent 103 = .ok (.invokevirtual 144, 3) := by decide +kernel
theorem dX9_spent_106 : decode cX9_spent 106 = .ok (.invokevirtual 147, 3) := by decide +kernel
theorem dX9_spent_109 : decode cX9_spent 109 = .ok (.pop, 1) := by decide +kernel
theorem dX9_spent_110 : decode cX9_spent 110 = .ok (.goto (-88), 3) := by decide +kernel
theorem dX9_spent_113 : decode cX9_spent 113 = .ok (.aload_n 0, 1) := by decide +kernel
theorem dX9_spent_114 : decode cX9_spent 114 = .ok (.invokevirtual 161, 3) := by decide +kernel
theorem dX9_spent_117 : decode cX9_spent 117 = .ok (.iload_n 2, 1) := by decide +kernel
theorem dX9_spent_118 : decode cX9_spent 118 = .ok (.ireturn, 1) := by decide +kernel
theorem dX9_soonest_0 : decode cX9_soonest 0 = .ok (.iload_n 1, 1) := by decide +kernel
theorem dX9_soonest_1 : decode cX9_soonest 1 = .ok (.iconst (-1), 1) := by decide +kernel
theorem dX9_soonest_2 : decode cX9_soonest 2 = .ok (.if_icmp .eq 19, 3) := by decide +kernel
theorem dX9_soonest_5 : decode cX9_soonest 5 = .ok (.iload_n 1, 1) := by decide +kernel
theorem dX9_soonest_6 : decode cX9_soonest 6 = .ok (.bipush (-2), 2) := by decide +kernel
theorem dX9_soonest_8 : decode cX9_soonest 8 = .ok (.if_icmp .eq 13, 3) := by decide +kernel
theorem dX9_soonest_11 : decode cX9_soonest 11 = .ok (.aload_n 0, 1) := by decide +kernel
theorem dX9_soonest_12 : decode cX9_soonest 12 = .ok (.iload_n 1, 1) := by decide +kernel
theorem dX9_soonest_13 : decode cX9_soonest 13 = .ok (.invokevirtual 116, 3) := by decide +kernel
theorem dX9_soonest_16 : decode cX9_soonest 16 = .ok (.ifCond .ne 5, 3) := by decide +kernel
theorem dX9_soonest_19 : decode cX9_soonest 19 = .ok (.iconst (-1), 1) := by decide +kernel
theorem dX9_soonest_20 : decode cX9_soonest 20 = .ok (.ireturn, 1) := by decide +kernel
theorem dX9_soonest_21 : decode cX9_soonest 21 = .ok (.aload_n 0, 1) := by decide +kernel
theorem dX9_soonest_22 : decode cX9_soonest 22 = .ok (.invokevirtual 138, 3) := by decide +kernel
theorem dX9_soonest_25 : decode cX9_soonest 25 = .ok (.ifCond .eq 12, 3) := by decide +kernel
theorem dX9_soonest_28 : decode cX9_soonest 28 = .ok (.aload_n 0, 1) := by decide +kernel
theorem dX9_soonest_29 : decode cX9_soonest 29 = .ok (.getfield 13, 3) := by decide +kernel
theorem dX9_soonest_32 : decode cX9_soonest 32 = .ok (.iconst 0, 1) := by decide +kernel
theorem dX9_soonest_33 : decode cX9_soonest 33 = .ok (.iaload, 1) := by decide +kernel
theorem dX9_soonest_34 : decode cX9_soonest 34 = .ok (.ifCond .ne 6, 3) := by decide +kernel
theorem dX9_soonest_37 : decode cX9_soonest 37 = .ok (.bipush (-9), 2) := by decide +kernel
theorem dX9_soonest_39 : decode cX9_soonest 39 = .ok (.ireturn, 1) := by decide +kernel
theorem dX9_soonest_40 : decode cX9_soonest 40 = .ok (.aload_n 0, 1) := by decide +kernel
theorem dX9_soonest_41 : decode cX9_soonest 41 = .ok (.invokevirtual 158, 3) := by decide +kernel
theorem dX9_soonest_44 : decode cX9_soonest 44 = .ok (.aload_n 0, 1) := by decide +kernel
theorem dX9_soonest_45 : decode cX9_soonest 45 = .ok (.aload_n 0, 1) := by decide +kernel
theorem dX9_soonest_46 : decode cX9_soonest 46 = .ok (.invokevirtual 144, 3) := by decide +kernel
theorem dX9_soonest_49 : decode cX9_soonest 49 = .ok (.invokevirtual 128, 3) := by decide +kernel
theorem dX9_soonest_52 : decode cX9_soonest 52 = .ok (.iconst 1, 1) := by decide +kernel
theorem dX9_soonest_53 : decode cX9_soonest 53 = .ok (.istore_n 2, 1) := by decide +kernel
theorem dX9_soonest_54 : decode cX9_soonest 54 = .ok (.iconst 0, 1) := by decide +kernel
theorem dX9_soonest_55 : decode cX9_soonest 55 = .ok (.istore_n 3, 1) := by decide +kernel
theorem dX9_soonest_56 : decode cX9_soonest 56 = .ok (.iload_n 3, 1) := by decide +kernel
theorem dX9_soonest_57 : decode cX9_soonest 57 = .ok (.aload_n 0, 1) := by decide +kernel
theorem dX9_soonest_58 : decode cX9_soonest 58 = .ok (.getfield 13, 3) := by decide +kernel
theorem dX9_soonest_61 : decode cX9_soonest 61 = .ok (.iconst 1, 1) := by decide +kernel
theorem dX9_soonest_62 : decode cX9_soonest 62 = .ok (.iaload, 1) := by decide +kernel
theorem dX9_soonest_63 : decode cX9_soonest 63 = .ok (.if_icmp .ge 36, 3) := by decide +kernel
theorem dX9_soonest_66 : decode cX9_soonest 66 = .ok (.iload_n 2, 1) := by decide +kernel
theorem dX9_soonest_67 : decode cX9_soonest 67 = .ok (.aload_n 0, 1) := by decide +kernel
theorem dX9_soonest_68 : decode cX9_soonest 68 = .ok (.getfield 19, 3) := by decide +kernel
theorem dX9_soonest_71 : decode cX9_soonest 71 = .ok (.bipush 8, 2) := by decide +kernel
theorem dX9_soonest_73 : decode cX9_soonest 73 = .ok (.iload_n 3, 1) := by decide +kernel
theorem dX9_soonest_74 : decode cX9_soonest 74 = .ok (.iadd, 1) := by decide +kernel
theorem dX9_soonest_75 : decode cX9_soonest 75 = .ok (.iaload, 1) := by decide +kernel
theorem dX9_soonest_76 : decode cX9_soonest 76 = .ok (.bipush 9, 2) := by decide +kernel
theorem dX9_soonest_78 : decode cX9_soonest 78 = .ok (.if_icmp .ne 7, 3) := by decide +kernel
theorem dX9_soonest_81 : decode cX9_soonest 81 = .ok (.iconst 1, 1) := by decide +kernel
theorem dX9_soonest_82 : decode cX9_soonest 82 = .ok (.goto 9, 3) := by decide +kernel
theorem dX9_soonest_85 : decode cX9_soonest 85 = .ok (.aload_n 0, 1) := by decide +kernel
theorem dX9_soonest_86 : decode cX9_soonest 86 = .ok (.getfield 13, 3) := by decide +kernel
theorem dX9_soonest_89 : decode cX9_soonest 89 = .ok (.iconst 0, 1) := by decide +kernel
theorem dX9_soonest_90 : decode cX9_soonest 90 = .ok (.iaload, 1) := by decide +kernel
theorem dX9_soonest_91 : decode cX9_soonest 91 = .ok (.imul, 1) := by decide +kernel
theorem dX9_soonest_92 : decode cX9_soonest 92 = .ok (.istore_n 2, 1) := by decide +kernel
theorem dX9_soonest_93 : decode cX9_soonest 93 = .ok (.iinc 3 1, 3) := by decide +kernel
theorem dX9_soonest_96 : decode cX9_soonest 96 = .ok (.goto (-40), 3) := by decide +kernel
theorem dX9_soonest_99 : decode cX9_soonest 99 = .ok (.iconst (-1), 1) := by decide +kernel
theorem dX9_soonest_100 : decode cX9_soonest 100 = .ok (.istore_n 3, 1) := by decide +kernel
theorem dX9_soonest_101 : decode cX9_soonest 101 = .ok (.iconst 0, 1) := by decide +kernel
theorem dX9_soonest_102 : decode cX9_soonest 102 = .ok (.istore 4, 2) := by decide +kernel
theorem dX9_soonest_104 : decode cX9_soonest 104 = .ok (.iconst 0, 1) := by decide +kernel
theorem dX9_soonest_105 : decode cX9_soonest 105 = .ok (.istore 5, 2) := by decide +kernel
theorem dX9_soonest_107 : decode cX9_soonest 107 = .ok (.iload 5, 2) := by decide +kernel
theorem dX9_soonest_109 : decode cX9_soonest 109 = .ok (.iload_n 2, 1) := by decide +kernel
theorem dX9_soonest_110 : decode cX9_soonest 110 = .ok (.if_icmp .ge 81, 3) := by decide +kernel
theorem dX9_soonest_113 : decode cX9_soonest 113 = .ok (.aload_n 0, 1) := by decide +kernel
theorem dX9_soonest_114 : decode cX9_soonest 114 = .ok (.iload 5, 2) := by decide +kernel
theorem dX9_soonest_116 : decode cX9_soonest 116 = .ok (.invokevirtual 164, 3) := by decide +kernel
theorem dX9_soonest_119 : decode cX9_soonest 119 = .ok (.sipush 1024, 3) := by decide +kernel
theorem dX9_soonest_122 : decode cX9_soonest 122 = .ok (.aload_n 0, 1) := by decide +kernel
theorem dX9_soonest_123 : decode cX9_soonest 123 = .ok (.aload_n 0, 1) := by decide +kernel
theorem dX9_soonest_124 : decode cX9_soonest 124 = .ok (.getfield 13, 3) := by decide +kernel
theorem dX9_soonest_127 : decode cX9_soonest 127 = .ok (.bipush 47, 2) := by decide +kernel
theorem dX9_soonest_129 : decode cX9_soonest 129 = .ok (.aload_n 0, 1) := by decide +kernel
theorem dX9_soonest_130 : decode cX9_soonest 130 = .ok (.getfield 19, 3) := by decide +kernel
theorem dX9_soonest_133 : decode cX9_soonest 133 = .ok (.iconst 0, 1) := by decide +kernel
theorem dX9_soonest_134 : decode cX9_soonest 134 = .ok (.iaload, 1) := by decide +kernel
theorem dX9_soonest_135 : decode cX9_soonest 135 = .ok (.iadd, 1) := by decide +kernel
theorem dX9_soonest_136 : decode cX9_soonest 136 = .ok (.iaload, 1) := by decide +kernel
theorem dX9_soonest_137 : decode cX9_soonest 137 = .ok (.invokevirtual 132, 3) := by decide +kernel
theorem dX9_soonest_140 : decode cX9_soonest 140 = .ok (.imul, 1) := by decide +kernel
theorem dX9_soonest_141 : decode cX9_soonest 141 = .ok (.aload_n 0, 1) := by decide +kernel
theorem dX9_soonest_142 : decode cX9_soonest 142 = .ok (.iconst 0, 1) := by decide +kernel
theorem dX9_soonest_143 : decode cX9_soonest 143 = .ok (.invokevirtual 151, 3) := by decide +kernel
theorem dX9_soonest_146 : decode cX9_soonest 146 = .ok (.iadd, 1) := by decide +kernel
theorem dX9_soonest_147 : decode cX9_soonest 147 = .ok (.istore 6, 2) := by decide +kernel
theorem dX9_soonest_149 : decode cX9_soonest 149 = .ok (.iload_n 3, 1) := by decide +kernel
theorem dX9_soonest_150 : decode cX9_soonest 150 = .ok (.ifCond .lt 9, 3) := by decide +kernel
theorem dX9_soonest_153 : decode cX9_soonest 153 = .ok (.iload 6, 2) := by decide +kernel
theorem dX9_soonest_155 : decode cX9_soonest 155 = .ok (.iload_n 3, 1) := by decide +kernel
theorem dX9_soonest_156 : decode cX9_soonest 156 = .ok (.if_icmp .ge 8, 3) := by decide +kernel
theorem dX9_soonest_159 : decode cX9_soonest 159 = .ok (.iload 5, 2) := by decide +kernel
theorem dX9_soonest_161 : decode cX9_soonest 161 = .ok (.goto 5, 3) := by decide +kernel
theorem dX9_soonest_164 : decode cX9_soonest 164 = .ok (.iload 4, 2) := by decide +kernel
theorem dX9_soonest_166 : decode cX9_soonest 166 = .ok (.istore 4, 2) := by decide +kernel
theorem dX9_soonest_168 : decode cX9_soonest 168 = .ok (.iload_n 3, 1) := by decide +kernel
theorem dX9_soonest_169 : decode cX9_soonest 169 = .ok (.ifCond .lt 9, 3) := by decide +kernel
theorem dX9_soonest_172 : decode cX9_soonest 172 = .ok (.iload 6, 2) := by decide +kernel
theorem dX9_soonest_174 : decode cX9_soonest 174 = .ok (.iload_n 3, 1) := by decide +kernel
theorem dX9_soonest_175 : decode cX9_soonest 175 = .ok (.if_icmp .ge 8, 3) := by decide +kernel
theorem dX9_soonest_178 : decode cX9_soonest 178 = .ok (.iload 6, 2) := by decide +kernel
theorem dX9_soonest_180 : decode cX9_soonest 180 = .ok (.goto 4, 3) := by decide +kernel
theorem dX9_soonest_183 : decode cX9_soonest 183 = .ok (.iload_n 3, 1) := by decide +kernel
theorem dX9_soonest_184 : decode cX9_soonest 184 = .ok (.istore_n 3, 1) := by decide +kernel
theorem dX9_soonest_185 : decode cX9_soonest 185 = .ok (.iinc 5 1, 3) := by decide +kernel
theorem dX9_soonest_188 : decode cX9_soonest 188 = .ok (.goto (-81), 3) := by decide +kernel
theorem dX9_soonest_191 : decode cX9_soonest 191 = .ok (.aload_n 0, 1) := by decide +kernel
theorem dX9_soonest_192 : decode cX9_soonest 192 = .ok (.iload 4, 2) := by decide +kernel
theorem dX9_soonest_194 : decode cX9_soonest 194 = .ok (.invokevirtual 164, 3) := by decide +kernel
theorem dX9_soonest_197 : decode cX9_soonest 197 = .ok (.iload_n 1, 1) := by decide +kernel
theorem dX9_soonest_198 : decode cX9_soonest 198 = .ok (.ifCond .ge 7, 3) := by decide +kernel
theorem dX9_soonest_201 : decode cX9_soonest 201 = .ok (.iconst 0, 1) := by decide +kernel
theorem dX9_soonest_202 : decode cX9_soonest 202 = .ok (.goto 12, 3) := by decide +kernel
theorem dX9_soonest_205 : decode cX9_soonest 205 = .ok (.aload_n 0, 1) := by decide +kernel
theorem dX9_soonest_206 : decode cX9_soonest 206 = .ok (.getfield 19, 3) := by decide +kernel
theorem dX9_soonest_209 : decode cX9_soonest 209 = .ok (.bipush 8, 2) := by decide +kernel
theorem dX9_soonest_211 : decode cX9_soonest 211 = .ok (.iload_n 1, 1) := by decide +kernel
theorem dX9_soonest_212 : decode cX9_soonest 212 = .ok (.iadd, 1) := by decide +kernel
theorem dX9_soonest_213 : decode cX9_soonest 213 = .ok (.iaload, 1) := by decide +kernel
theorem dX9_soonest_214 : decode cX9_soonest 214 = .ok (.istore 5, 2) := by decide +kernel
theorem dX9_soonest_216 : decode cX9_soonest 216 = .ok (.aload_n 0, 1) := by decide +kernel
theorem dX9_soonest_217 : decode cX9_soonest 217 = .ok (.invokevirtual 161, 3) := by decide +kernel
theorem dX9_soonest_220 : decode cX9_soonest 220 = .ok (.iload_n 1, 1) := by decide +kernel
theorem dX9_soonest_221 : decode cX9_soonest 221 = .ok (.iconst (-1), 1) := by decide +kernel
theorem dX9_soonest_222 : decode cX9_soonest 222 = .ok (.if_icmp .ne 11, 3) := by decide +kernel
theorem dX9_soonest_225 : decode cX9_soonest 225 = .ok (.iload_n 3, 1) := by decide +kernel
theorem dX9_soonest_226 : decode cX9_soonest 226 = .ok (.sipush 1024, 3) := by decide +kernel
theorem dX9_soonest_229 : decode cX9_soonest 229 = .ok (.idiv, 1) := by decide +kernel
theorem dX9_soonest_230 : decode cX9_soonest 230 = .ok (.goto 19, 3) := by decide +kernel
theorem dX9_soonest_233 : decode cX9_soonest 233 = .ok (.iload_n 1, 1) := by decide +kernel
theorem dX9_soonest_234 : decode cX9_soonest 234 = .ok (.bipush (-2), 2) := by decide +kernel
theorem dX9_soonest_236 : decode cX9_soonest 236 = .ok (.if_icmp .ne 11, 3) := by decide +kernel
theorem dX9_soonest_239 : decode cX9_soonest 239 = .ok (.iload_n 3, 1) := by decide +kernel
theorem dX9_soonest_240 : decode cX9_soonest 240 = .ok (.sipush 1024, 3) := by decide +kernel
theorem dX9_soonest_243 : decode cX9_soonest 243 = .ok (.irem, 1) := by decide +kernel
theorem dX9_soonest_244 : decode cX9_soonest 244 = .ok (.goto 5, 3) := by decide +kernel
theorem dX9_soonest_247 : decode cX9_soonest 247 = .ok (.iload 5, 2) := by decide +kernel
theorem dX9_soonest_249 : decode cX9_soonest 249 = .ok (.ireturn, 1) := by decide +kernel
theorem dX9_lays_0 : decode cX9_lays 0 = .ok (.iload_n 1, 1) := by decide +kernel
theorem dX9_lays_1 : decode cX9_lays 1 = .ok (.istore_n 2, 1) := by decide +kernel
theorem dX9_lays_2 : decode cX9_lays 2 = .ok (.aload_n 0, 1) := by decide +kernel
theorem dX9_lays_3 : decode cX9_lays 3 = .ok (.getfield 13, 3) := by decide +kernel
theorem dX9_lays_6 : decode cX9_lays 6 = .ok (.iconst 1, 1) := by decide +kernel
theorem dX9_lays_7 : decode cX9_lays 7 = .ok (.iaload, 1) := by decide +kernel
theorem dX9_lays_8 : decode cX9_lays 8 = .ok (.iconst 1, 1) := by decide +kernel
theorem dX9_lays_9 : decode cX9_lays 9 = .ok (.isub, 1) := by decide +kernel
theorem dX9_lays_10 : decode cX9_lays 10 = .ok (.istore_n 3, 1) := by decide +kernel
theorem dX9_lays_11 : decode cX9_lays 11 = .ok (.iload_n 3, 1) := by decide +kernel
theorem dX9_lays_12 : decode cX9_lays 12 = .ok (.ifCond .lt 49, 3) := by decide +kernel
theorem dX9_lays_15 : decode cX9_lays 15 = .ok (.aload_n 0, 1) := by decide +kernel
theorem dX9_lays_16 : decode cX9_lays 16 = .ok (.getfield 19, 3) := by decide +kernel
theorem dX9_lays_19 : decode cX9_lays 19 = .ok (.bipush 8, 2) := by decide +kernel
theorem dX9_lays_21 : decode cX9_lays 21 = .ok (.iload_n 3, 1) := by decide +kernel
theorem dX9_lays_22 : decode cX9_lays 22 = .ok (.iadd, 1) := by decide +kernel
theorem dX9_lays_23 : decode cX9_lays 23 = .ok (.iaload, 1) := by decide +kernel
theorem dX9_lays_24 : decode cX9_lays 24 = .ok (.bipush 9, 2) := by decide +kernel
theorem dX9_lays_26 : decode cX9_lays 26 = .ok (.if_icmp .eq 29, 3) := by decide +kernel
theorem dX9_lays_29 : decode cX9_lays 29 = .ok (.aload_n 0, 1) := by decide +kernel
theorem dX9_lays_30 : decode cX9_lays 30 = .ok (.getfield 19, 3) := by decide +kernel
theorem dX9_lays_33 : decode cX9_lays 33 = .ok (.bipush 8, 2) := by decide +kernel
theorem dX9_lays_35 : decode cX9_lays 35 = .ok (.iload_n 3, 1) := by decide +kernel
theorem dX9_lays_36 : decode cX9_lays 36 = .ok (.iadd, 1) := by decide +kernel
theorem dX9_lays_37 : decode cX9_lays 37 = .ok (.iload_n 2, 1) := by decide +kernel
theorem dX9_lays_38 : decode cX9_lays 38 = .ok (.aload_n 0, 1) := by decide +kernel
theorem dX9_lays_39 : decode cX9_lays 39 = .ok (.getfield 13, 3) := by decide +kernel
theorem dX9_lays_42 : decode cX9_lays 42 = .ok (.iconst 0, 1) := by decide +kernel
theorem dX9_lays_43 : decode cX9_lays 43 = .ok (.iaload, 1) := by decide +kernel
theorem dX9_lays_44 : decode cX9_lays 44 = .ok (.irem, 1) := by decide +kernel
theorem dX9_lays_45 : decode cX9_lays 45 = .ok (.iastore, 1) := by decide +kernel
theorem dX9_lays_46 : decode cX9_lays 46 = .ok (.iload_n 2, 1) := by decide +kernel
theorem dX9_lays_47 : decode cX9_lays 47 = .ok (.aload_n 0, 1) := by decide +kernel
theorem dX9_lays_48 : decode cX9_lays 48 = .ok (.getfield 13, 3) := by decide +kernel
theorem dX9_lays_51 : decode cX9_lays 51 = .ok (.iconst 0, 1) := by decide +kernel
theorem dX9_lays_52 : decode cX9_lays 52 = .ok (.iaload, 1) := by decide +kernel
theorem dX9_lays_53 : decode cX9_lays 53 = .ok (.idiv, 1) := by decide +kernel
theorem dX9_lays_54 : decode cX9_lays 54 = .ok (.istore_n 2, 1) := by decide +kernel
theorem dX9_lays_55 : decode cX9_lays 55 = .ok (.iinc 3 (-1), 3) := by decide +kernel
theorem dX9_lays_58 : decode cX9_lays 58 = .ok (.goto (-47), 3) := by decide +kernel
theorem dX9_lays_61 : decode cX9_lays 61 = .ok (.return_, 1) := by decide +kernel
theorem dX9_helps_0 : decode cX9_helps 0 = .ok (.aload_n 0, 1) := by decide +kernel
theorem dX9_helps_1 : decode cX9_helps 1 = .ok (.invokevirtual 138, 3) := by decide +kernel
theorem dX9_helps_4 : decode cX9_helps 4 = .ok (.ifCond .ne 6, 3) := by decide +kernel
theorem dX9_helps_7 : decode cX9_helps 7 = .ok (.bipush (-9), 2) := by decide +kernel
theorem dX9_helps_9 : decode cX9_helps 9 = .ok (.ireturn, 1) := by decide +kernel
theorem dX9_helps_10 : decode cX9_helps 10 = .ok (.aload_n 0, 1) := by decide +kernel
theorem dX9_helps_11 : decode cX9_helps 11 = .ok (.invokevirtual 158, 3) := by decide +kernel
theorem dX9_helps_14 : decode cX9_helps 14 = .ok (.aload_n 0, 1) := by decide +kernel
theorem dX9_helps_15 : decode cX9_helps 15 = .ok (.aload_n 0, 1) := by decide +kernel
theorem dX9_helps_16 : decode cX9_helps 16 = .ok (.invokevirtual 144, 3) := by decide +kernel
theorem dX9_helps_19 : decode cX9_helps 19 = .ok (.invokevirtual 128, 3) := by decide +kernel
theorem dX9_helps_22 : decode cX9_helps 22 = .ok (.aload_n 0, 1) := by decide +kernel
theorem dX9_helps_23 : decode cX9_helps 23 = .ok (.getfield 13, 3) := by decide +kernel
theorem dX9_helps_26 : decode cX9_helps 26 = .ok (.bipush 47, 2) := by decide +kernel
theorem dX9_helps_28 : decode cX9_helps 28 = .ok (.aload_n 0, 1) := by decide +kernel
theorem dX9_helps_29 : decode cX9_helps 29 = .ok (.getfield 19, 3) := by decide +kernel
theorem dX9_helps_32 : decode cX9_helps 32 = .ok (.iconst 0, 1) := by decide +kernel
theorem dX9_helps_33 : decode cX9_helps 33 = .ok (.iaload, 1) := by decide +kernel
theorem dX9_helps_34 : decode cX9_helps 34 = .ok (.iadd, 1) := by decide +kernel
theorem dX9_helps_35 : decode cX9_helps 35 = .ok (.iaload, 1) := by decide +kernel
theorem dX9_helps_36 : decode cX9_helps 36 = .ok (.istore_n 1, 1) := by decide +kernel
theorem dX9_helps_37 : decode cX9_helps 37 = .ok (.aload_n 0, 1) := by decide +kernel
theorem dX9_helps_38 : decode cX9_helps 38 = .ok (.iload_n 1, 1) := by decide +kernel
theorem dX9_helps_39 : decode cX9_helps 39 = .ok (.invokevirtual 132, 3) := by decide +kernel
theorem dX9_helps_42 : decode cX9_helps 42 = .ok (.istore_n 2, 1) := by decide +kernel
theorem dX9_helps_43 : decode cX9_helps 43 = .ok (.bipush (-9), 2) := by decide +kernel
theorem dX9_helps_45 : decode cX9_helps 45 = .ok (.istore_n 3, 1) := by decide +kernel
theorem dX9_helps_46 : decode cX9_helps 46 = .ok (.iconst 0, 1) := by decide +kernel
theorem dX9_helps_47 : decode cX9_helps 47 = .ok (.istore 4, 2) := by decide +kernel
theorem dX9_helps_49 : decode cX9_helps 49 = .ok (.iload 4, 2) := by decide +kernel
theorem dX9_helps_51 : decode cX9_helps 51 = .ok (.aload_n 0, 1) := by decide +kernel
theorem dX9_helps_52 : decode cX9_helps 52 = .ok (.getfield 13, 3) := by decide +kernel
theorem dX9_helps_55 : decode cX9_helps 55 = .ok (.iconst 1, 1) := by decide +kernel
theorem dX9_helps_56 : decode cX9_helps 56 = .ok (.iaload, 1) := by decide +kernel
theorem dX9_helps_57 : decode cX9_helps 57 = .ok (.if_icmp .ge 111, 3) := by decide +kernel
theorem dX9_helps_60 : decode cX9_helps 60 = .ok (.aload_n 0, 1) := by decide +kernel
theorem dX9_helps_61 : decode cX9_helps 61 = .ok (.getfield 19, 3) := by decide +kernel
theorem dX9_helps_64 : decode cX9_helps 64 = .ok (.bipush 8, 2) := by decide +kernel
theorem dX9_helps_66 : decode cX9_helps 66 = .ok (.iload 4, 2) := by decide +kernel
theorem dX9_helps_68 : decode cX9_helps 68 = .ok (.iadd, 1) := by decide +kernel
theorem dX9_helps_69 : decode cX9_helps 69 = .ok (.iaload, 1) := by decide +kernel
theorem dX9_helps_70 : decode cX9_helps 70 = .ok (.istore 5, 2) := by decide +kernel
theorem dX9_helps_72 : decode cX9_helps 72 = .ok (.iconst 0, 1) := by decide +kernel
theorem dX9_helps_73 : decode cX9_helps 73 = .ok (.istore 6, 2) := by decide +kernel
theorem dX9_helps_75 : decode cX9_helps 75 = .ok (.iload 6, 2) := by decide +kernel
theorem dX9_helps_77 : decode cX9_helps 77 = .ok (.aload_n 0, 1) := by decide +kernel
theorem dX9_helps_78 : decode cX9_helps 78 = .ok (.getfield 13, 3) := by decide +kernel
theorem dX9_helps_81 : decode cX9_helps 81 = .ok (.iconst 0, 1) := by decide +kernel
theorem dX9_helps_82 : decode cX9_helps 82 = .ok (.iaload, 1) := by decide +kernel
theorem dX9_helps_83 : decode cX9_helps 83 = .ok (.if_icmp .ge 67, 3) := by decide +kernel
theorem dX9_helps_86 : decode cX9_helps 86 = .ok (.iload 5, 2) := by decide +kernel
theorem dX9_helps_88 : decode cX9_helps 88 = .ok (.bipush 9, 2) := by decide +kernel
theorem dX9_helps_90 : decode cX9_helps 90 = .ok (.if_icmp .eq 60, 3) := by decide +kernel
theorem dX9_helps_93 : decode cX9_helps 93 = .ok (.aload_n 0, 1) := by decide +kernel
theorem dX9_helps_94 : decode cX9_helps 94 = .ok (.getfield 19, 3) := by decide +kernel
theorem dX9_helps_97 : decode cX9_helps 97 = .ok (.bipush 8, 2) := by decide +kernel
theorem dX9_helps_99 : decode cX9_helps 99 = .ok (.iload 4, 2) := by decide +kernel
theorem dX9_helps_101 : decode cX9_helps 101 = .ok (.iadd, 1) := by decide +kernel
theorem dX9_helps_102 : decode cX9_helps 102 = .ok (.iload 6, 2) := by decide +kernel
theorem dX9_helps_104 : decode cX9_helps 104 = .ok (.iastore, 1) := by decide +kernel
theorem dX9_helps_105 : decode cX9_helps 105 = .ok (.aload_n 0, 1) := by decide +kernel
theorem dX9_helps_106 : decode cX9_helps 106 = .ok (.iload_n 1, 1) := by decide +kernel
theorem dX9_helps_107 : decode cX9_helps 107 = .ok (.invokevirtual 132, 3) := by decide +kernel
theorem dX9_helps_110 : decode cX9_helps 110 = .ok (.istore 7, 2) := by decide +kernel
theorem dX9_helps_112 : decode cX9_helps 112 = .ok (.iload 7, 2) := by decide +kernel
theorem dX9_helps_114 : decode cX9_helps 114 = .ok (.iload_n 2, 1) := by decide +kernel
theorem dX9_helps_115 : decode cX9_helps 115 = .ok (.if_icmp .ge 14, 3) := by decide +kernel
theorem dX9_helps_118 : decode cX9_helps 118 = .ok (.bipush 10, 2) := by decide +kernel
theorem dX9_helps_120 : decode cX9_helps 120 = .ok (.iload 4, 2) := by decide +kernel
theorem dX9_helps_122 : decode cX9_helps 122 = .ok (.imul, 1) := by decide +kernel
theorem dX9_helps_123 : decode cX9_helps 123 = .ok (.iload 6, 2) := by decide +kernel
theorem dX9_helps_125 : decode cX9_helps 125 = .ok (.iadd, 1) := by decide +kernel
theorem dX9_helps_126 : decode cX9_helps 126 = .ok (.goto 4, 3) := by decide +kernel
theorem dX9_helps_129 : decode cX9_helps 129 = .ok (.iload_n 3, 1) := by decide +kernel
theorem dX9_helps_130 : decode cX9_helps 130 = .ok (.istore_n 3, 1) := by decide +kernel
theorem dX9_helps_131 : decode cX9_helps 131 = .ok (.iload 7, 2) := by decide +kernel
theorem dX9_helps_133 : decode cX9_helps 133 = .ok (.iload_n 2, 1) := by decide +kernel
theorem dX9_helps_134 : decode cX9_helps 134 = .ok (.if_icmp .ge 8, 3) := by decide +kernel
theorem dX9_helps_137 : decode cX9_helps 137 = .ok (.iload 7, 2) := by decide +kernel
theorem dX9_helps_139 : decode cX9_helps 139 = .ok (.goto 4, 3) := by decide +kernel
theorem dX9_helps_142 : decode cX9_helps 142 = .ok (.iload_n 2, 1) := by decide +kernel
theorem dX9_helps_143 : decode cX9_helps 143 = .ok (.istore_n 2, 1) := by decide +kernel
theorem dX9_helps_144 : decode cX9_helps 144 = .ok (.iinc 6 1, 3) := by decide +kernel
theorem dX9_helps_147 : decode cX9_helps 147 = .ok (.goto (-72), 3) := by decide +kernel
theorem dX9_helps_150 : decode cX9_helps 150 = .ok (.aload_n 0, 1) := by decide +kernel
theorem dX9_helps_151 : decode cX9_helps 151 = .ok (.getfield 19, 3) := by decide +kernel
theorem dX9_helps_154 : decode cX9_helps 154 = .ok (.bipush 8, 2) := by decide +kernel
theorem dX9_helps_156 : decode cX9_helps 156 = .ok (.iload 4, 2) := by decide +kernel
theorem dX9_helps_158 : decode cX9_helps 158 = .ok (.iadd, 1) := by decide +kernel
theorem dX9_helps_159 : decode cX9_helps 159 = .ok (.iload 5, 2) := by decide +kernel
theorem dX9_helps_161 : decode cX9_helps 161 = .ok (.iastore, 1) := by decide +kernel
theorem dX9_helps_162 : decode cX9_helps 162 = .ok (.iinc 4 1, 3) := by decide +kernel
theorem dX9_helps_165 : decode cX9_helps 165 = .ok (.goto (-116), 3) := by decide +kernel
theorem dX9_helps_168 : decode cX9_helps 168 = .ok (.aload_n 0, 1) := by decide +kernel
theorem dX9_helps_169 : decode cX9_helps 169 = .ok (.invokevirtual 161, 3) := by decide +kernel
theorem dX9_helps_172 : decode cX9_helps 172 = .ok (.iload_n 3, 1) := by decide +kernel
theorem dX9_helps_173 : decode cX9_helps 173 = .ok (.ireturn, 1) := by decide +kernel
theorem dX9_leave_0 : decode cX9_leave 0 = .ok (.iload_n 1, 1) := by decide +kernel
theorem dX9_leave_1 : decode cX9_leave 1 = .ok (.iconst 0, 1) := by decide +kernel
theorem dX9_leave_2 : decode cX9_leave 2 = .ok (.sipush 999, 3) := by decide +kernel
theorem dX9_leave_5 : decode cX9_leave 5 = .ok (.invokestatic 48, 3) := by decide +kernel
theorem dX9_leave_8 : decode cX9_leave 8 = .ok (.ifCond .eq 12, 3) := by decide +kernel
theorem dX9_leave_11 : decode cX9_leave 11 = .ok (.iload_n 2, 1) := by decide +kernel
theorem dX9_leave_12 : decode cX9_leave 12 = .ok (.iconst 0, 1) := by decide +kernel
theorem dX9_leave_13 : decode cX9_leave 13 = .ok (.iconst 1, 1) := by decide +kernel
theorem dX9_leave_14 : decode cX9_leave 14 = .ok (.invokestatic 48, 3) := by decide +kernel
theorem dX9_leave_17 : decode cX9_leave 17 = .ok (.ifCond .ne 5, 3) := by decide +kernel
theorem dX9_leave_20 : decode cX9_leave 20 = .ok (.iconst (-1), 1) := by decide +kernel
theorem dX9_leave_21 : decode cX9_leave 21 = .ok (.ireturn, 1) := by decide +kernel
theorem dX9_leave_22 : decode cX9_leave 22 = .ok (.aload_n 0, 1) := by decide +kernel
theorem dX9_leave_23 : decode cX9_leave 23 = .ok (.invokevirtual 138, 3) := by decide +kernel
theorem dX9_leave_26 : decode cX9_leave 26 = .ok (.ifCond .ne 6, 3) := by decide +kernel
theorem dX9_leave_29 : decode cX9_leave 29 = .ok (.bipush (-9), 2) := by decide +kernel
theorem dX9_leave_31 : decode cX9_leave 31 = .ok (.ireturn, 1) := by decide +kernel
theorem dX9_leave_32 : decode cX9_leave 32 = .ok (.aload_n 0, 1) := by decide +kernel
theorem dX9_leave_33 : decode cX9_leave 33 = .ok (.invokevirtual 158, 3) := by decide +kernel
theorem dX9_leave_36 : decode cX9_leave 36 = .ok (.aload_n 0, 1) := by decide +kernel
theorem dX9_leave_37 : decode cX9_leave 37 = .ok (.aload_n 0, 1) := by decide +kernel
theorem dX9_leave_38 : decode cX9_leave 38 = .ok (.invokevirtual 144, 3) := by decide +kernel
theorem dX9_leave_41 : decode cX9_leave 41 = .ok (.invokevirtual 128, 3) := by decide +kernel
theorem dX9_leave_44 : decode cX9_leave 44 = .ok (.bipush (-9), 2) := by decide +kernel
theorem dX9_leave_46 : decode cX9_leave 46 = .ok (.istore_n 3, 1) := by decide +kernel
theorem dX9_leave_47 : decode cX9_leave 47 = .ok (.iconst 0, 1) := by decide +kernel
theorem dX9_leave_48 : decode cX9_leave 48 = .ok (.istore 4, 2) := by decide +kernel
theorem dX9_leave_50 : decode cX9_leave 50 = .ok (.iconst 0, 1) := by decide +kernel
theorem dX9_leave_51 : decode cX9_leave 51 = .ok (.istore 5, 2) := by decide +kernel
theorem dX9_leave_53 : decode cX9_leave 53 = .ok (.iload 5, 2) := by decide +kernel
theorem dX9_leave_55 : decode cX9_leave 55 = .ok (.iconst 1, 1) := by decide +kernel
theorem dX9_leave_56 : decode cX9_leave 56 = .ok (.aload_n 0, 1) := by decide +kernel
theorem dX9_leave_57 : decode cX9_leave 57 = .ok (.getfield 13, 3) := by decide +kernel
theorem dX9_leave_60 : decode cX9_leave 60 = .ok (.iconst 1, 1) := by decide +kernel
theorem dX9_leave_61 : decode cX9_leave 61 = .ok (.iaload, 1) := by decide +kernel
theorem dX9_leave_62 : decode cX9_leave 62 = .ok (.ishl, 1) := by decide +kernel
theorem dX9_leave_63 : decode cX9_leave 63 = .ok (.if_icmp .ge 225, 3) := by decide +kernel
theorem dX9_leave_66 : decode cX9_leave 66 = .ok (.iconst 0, 1) := by decide +kernel
theorem dX9_leave_67 : decode cX9_leave 67 = .ok (.istore 6, 2) := by decide +kernel
theorem dX9_leave_69 : decode cX9_leave 69 = .ok (.iconst 1, 1) := by decide +kernel
theorem dX9_leave_70 : decode cX9_leave 70 = .ok (.istore 7, 2) := by decide +kernel
theorem dX9_leave_72 : decode cX9_leave 72 = .ok (.iconst 0, 1) := by decide +kernel
theorem dX9_leave_73 : decode cX9_leave 73 = .ok (.istore 8, 2) := by decide +kernel
theorem dX9_leave_75 : decode cX9_leave 75 = .ok (.iload 8, 2) := by decide +kernel
theorem dX9_leave_77 : decode cX9_leave 77 = .ok (.aload_n 0, 1) := by decide +kernel
theorem dX9_leave_78 : decode cX9_leave 78 = .ok (.getfield 13, 3) := by decide +kernel
theorem dX9_leave_81 : decode cX9_leave 81 = .ok (.iconst 1, 1) := by decide +kernel
theorem dX9_leave_82 : decode cX9_leave 82 = .ok (.iaload, 1) := by decide +kernel
theorem dX9_leave_83 : decode cX9_leave 83 = .ok (.if_icmp .ge 126, 3) := by decide +kernel
theorem dX9_leave_86 : decode cX9_leave 86 = .ok (.iload 5, 2) := by decide +kernel
theorem dX9_leave_88 : decode cX9_leave 88 = .ok (.iload 8, 2) := by decide +kernel
theorem dX9_leave_90 : decode cX9_leave 90 = .ok (.ishr, 1) := by decide +kernel
theorem dX9_leave_91 : decode cX9_leave 91 = .ok (.iconst 1, 1) := by decide +kernel
theorem dX9_leave_92 : decode cX9_leave 92 = .ok (.iand, 1) := by decide +kernel
theorem dX9_leave_93 : decode cX9_leave 93 = .ok (.iconst 1, 1) := by decide +kernel
theorem dX9_leave_94 : decode cX9_leave 94 = .ok (.if_icmp .ne 7, 3) := by decide +kernel
theorem dX9_leave_97 : decode cX9_leave 97 = .ok (.iconst 1, 1) := by decide +kernel
theorem dX9_leave_98 : decode cX9_leave 98 = .ok (.goto 4, 3) := by decide +kernel
theorem dX9_leave_101 : decode cX9_leave 101 = .ok (.iconst 0, 1) := by decide +kernel
theorem dX9_leave_102 : decode cX9_leave 102 = .ok (.istore 9, 2) := by decide +kernel
theorem dX9_leave_104 : decode cX9_leave 104 = .ok (.iload 7, 2) := by decide +kernel
theorem dX9_leave_106 : decode cX9_leave 106 = .ok (.ifCond .eq 40, 3) := by decide +kernel
theorem dX9_leave_109 : decode cX9_leave 109 = .ok (.iload 9, 2) := by decide +kernel
theorem dX9_leave_111 : decode cX9_leave 111 = .ok (.ifCond .eq 31, 3) := by decide +kernel
theorem dX9_leave_114 : decode cX9_leave 114 = .ok (.aload_n 0, 1) := by decide +kernel
theorem dX9_leave_115 : decode cX9_leave 115 = .ok (.getfield 13, 3) := by decide +kernel
theorem dX9_leave_118 : decode cX9_leave 118 = .ok (.bipush 26, 2) := by decide +kernel
theorem dX9_leave_120 : decode cX9_leave 120 = .ok (.iload 8, 2) := by decide +kernel
theorem dX9_leave_122 : decode cX9_leave 122 = .ok (.iadd, 1) := by decide +kernel
theorem dX9_leave_123 : decode cX9_leave 123 = .ok (.iaload, 1) := by decide +kernel
theorem dX9_leave_124 : decode cX9_leave 124 = .ok (.ifCond .ne 22, 3) := by decide +kernel
theorem dX9_leave_127 : decode cX9_leave 127 = .ok (.aload_n 0, 1) := by decide +kernel
theorem dX9_leave_128 : decode cX9_leave 128 = .ok (.getfield 38, 3) := by decide +kernel
theorem dX9_leave_131 : decode cX9_leave 131 = .ok (.bipush 8, 2) := by decide +kernel
theorem dX9_leave_133 : decode cX9_leave 133 = .ok (.iload 8, 2) := by decide +kernel
theorem dX9_leave_135 : decode cX9_leave 135 = .ok (.iadd, 1) := by decide +kernel
theorem dX9_leave_136 : decode cX9_leave 136 = .ok (.iaload, 1) := by decide +kernel
theorem dX9_leave_137 : decode cX9_leave 137 = .ok (.bipush 9, 2) := by decide +kernel
theorem dX9_leave_139 : decode cX9_leave 139 = .ok (.if_icmp .eq 7, 3) := by decide +kernel
theorem dX9_leave_142 : decode cX9_leave 142 = .ok (.iconst 1, 1) := by decide +kernel
theorem dX9_leave_143 : decode cX9_leave 143 = .ok (.goto 4, 3) := by decide +kernel
theorem dX9_leave_146 : decode cX9_leave 146 = .ok (.iconst 0, 1) := by decide +kernel
theorem dX9_leave_147 : decode cX9_leave 147 = .ok (.istore 7, 2) := by decide +kernel
theorem dX9_leave_149 : decode cX9_leave 149 = .ok (.iload 6, 2) := by decide +kernel
theorem dX9_leave_151 : decode cX9_leave 151 = .ok (.iload 9, 2) := by decide +kernel
theorem dX9_leave_153 : decode cX9_leave 153 = .ok (.ifCond .eq 16, 3) := by decide +kernel
theorem dX9_leave_156 : decode cX9_leave 156 = .ok (.aload_n 0, 1) := by decide +kernel
theorem dX9_leave_157 : decode cX9_leave 157 = .ok (.getfield 19, 3) := by decide +kernel
theorem dX9_leave_160 : decode cX9_leave 160 = .ok (.bipush 15, 2) := by decide +kernel
theorem dX9_leave_162 : decode cX9_leave 162 = .ok (.iload 8, 2) := by decide +kernel
theorem dX9_leave_164 : decode cX9_leave 164 = .ok (.iadd, 1) := by decide +kernel
theorem dX9_leave_165 : decode cX9_leave 165 = .ok (.iaload, 1) := by decide +kernel
theorem dX9_leave_166 : decode cX9_leave 166 = .ok (.goto 4, 3) := by decide +kernel
theorem dX9_leave_169 : decode cX9_leave 169 = .ok (.iconst 0, 1) := by decide +kernel
theorem dX9_leave_170 : decode cX9_leave 170 = .ok (.iadd, 1) := by decide +kernel
theorem dX9_leave_171 : decode cX9_leave 171 = .ok (.istore 6, 2) := by decide +kernel
theorem dX9_leave_173 : decode cX9_leave 173 = .ok (.aload_n 0, 1) := by decide +kernel
theorem dX9_leave_174 : decode cX9_leave 174 = .ok (.getfield 19, 3) := by decide +kernel
theorem dX9_leave_177 : decode cX9_leave 177 = .ok (.bipush 8, 2) := by decide +kernel
theorem dX9_leave_179 : decode cX9_leave 179 = .ok (.iload 8, 2) := by decide +kernel
theorem dX9_leave_181 : decode cX9_leave 181 = .ok (.iadd, 1) := by decide +kernel
theorem dX9_leave_182 : decode cX9_leave 182 = .ok (.iload 9, 2) := by decide +kernel
theorem dX9_leave_184 : decode cX9_leave 184 = .ok (.ifCond .eq 8, 3) := by decide +kernel
theorem dX9_leave_187 : decode cX9_leave 187 = .ok (.bipush 9, 2) := by decide +kernel
theorem dX9_leave_189 : decode cX9_leave 189 = .ok (.goto 13, 3) := by decide +kernel
theorem dX9_leave_192 : decode cX9_leave 192 = .ok (.aload_n 0, 1) := by decide +kernel
theorem dX9_leave_193 : decode cX9_leave 193 = .ok (.getfield 38, 3) := by decide +kernel
theorem dX9_leave_196 : decode cX9_leave 196 = .ok (.bipush 8, 2) := by decide +kernel
theorem dX9_leave_198 : decode cX9_leave 198 = .ok (.iload 8, 2) := by decide +kernel
theorem dX9_leave_200 : decode cX9_leave 200 = .ok (.iadd, 1) := by decide +kernel
theorem dX9_leave_201 : decode cX9_leave 201 = .ok (.iaload, 1) := by decide +kernel
theorem dX9_leave_202 : decode cX9_leave 202 = .ok (.iastore, 1) := by decide +kernel
theorem dX9_leave_203 : decode cX9_leave 203 = .ok (.iinc 8 1, 3) := by decide +kernel
theorem dX9_leave_206 : decode cX9_leave 206 = .ok (.goto (-131), 3) := by decide +kernel
theorem dX9_leave_209 : decode cX9_leave 209 = .ok (.iload 7, 2) := by decide +kernel
theorem dX9_leave_211 : decode cX9_leave 211 = .ok (.ifCond .eq 42, 3) := by decide +kernel
theorem dX9_leave_214 : decode cX9_leave 214 = .ok (.iload_n 3, 1) := by decide +kernel
theorem dX9_leave_215 : decode cX9_leave 215 = .ok (.bipush (-9), 2) := by decide +kernel
theorem dX9_leave_217 : decode cX9_leave 217 = .ok (.if_icmp .eq 10, 3) := by decide +kernel
theorem dX9_leave_220 : decode cX9_leave 220 = .ok (.iload 6, 2) := by decide +kernel
theorem dX9_leave_222 : decode cX9_leave 222 = .ok (.iload 4, 2) := by decide +kernel
theorem dX9_leave_224 : decode cX9_leave 224 = .ok (.if_icmp .ge 29, 3) := by decide +kernel
theorem dX9_leave_227 : decode cX9_leave 227 = .ok (.aload_n 0, 1) := by decide +kernel
theorem dX9_leave_228 : decode cX9_leave 228 = .ok (.aload_n 0, 1) := by decide +kernel
theorem dX9_leave_229 : decode cX9_leave 229 = .ok (.getfield 13, 3) := by decide +kernel
theorem dX9_leave_232 : decode cX9_leave 232 = .ok (.bipush 47, 2) := by decide +kernel
theorem dX9_leave_234 : decode cX9_leave 234 = .ok (.aload_n 0, 1) := by decide +kernel
theorem dX9_leave_235 : decode cX9_leave 235 = .ok (.getfield 19, 3) := by decide +kernel
theorem dX9_leave_238 : decode cX9_leave 238 = .ok (.iconst 0, 1) := by decide +kernel
theorem dX9_leave_239 : decode cX9_leave 239 = .ok (.iaload, 1) := by decide +kernel
theorem dX9_leave_240 : decode cX9_leave 240 = .ok (.iadd, 1) := by decide +kernel
theorem dX9_leave_241 : decode cX9_leave 241 = .ok (.iaload, 1) := by decide +kernel
theorem dX9_leave_242 : decode cX9_leave 242 = .ok (.invokevirtual 132, 3) := by decide +kernel
theorem dX9_leave_245 : decode cX9_leave 245 = .ok (.iload_n 1, 1) := by decide +kernel
theorem dX9_leave_246 : decode cX9_leave 246 = .ok (.if_icmp .gt 7, 3) := by decide +kernel
theorem dX9_leave_249 : decode cX9_leave 249 = .ok (.iconst 1, 1) := by decide +kernel
theorem dX9_leave_250 : decode cX9_leave 250 = .ok (.goto 4, 3) := by decide +kernel
theorem dX9_leave_253 : decode cX9_leave 253 = .ok (.iconst 0, 1) := by decide +kernel
theorem dX9_leave_254 : decode cX9_leave 254 = .ok (.istore 8, 2) := by decide +kernel
theorem dX9_leave_256 : decode cX9_leave 256 = .ok (.iload 8, 2) := by decide +kernel
theorem dX9_leave_258 : decode cX9_leave 258 = .ok (.ifCond .eq 8, 3) := by decide +kernel
theorem dX9_leave_261 : decode cX9_leave 261 = .ok (.iload 5, 2) := by decide +kernel
theorem dX9_leave_263 : decode cX9_leave 263 = .ok (.goto 4, 3) := by decide +kernel
theorem dX9_leave_266 : decode cX9_leave 266 = .ok (.iload_n 3, 1) := by decide +kernel
theorem dX9_leave_267 : decode cX9_leave 267 = .ok (.istore_n 3, 1) := by decide +kernel
theorem dX9_leave_268 : decode cX9_leave 268 = .ok (.iload 8, 2) := by decide +kernel
theorem dX9_leave_270 : decode cX9_leave 270 = .ok (.ifCond .eq 8, 3) := by decide +kernel
theorem dX9_leave_273 : decode cX9_leave 273 = .ok (.iload 6, 2) := by decide +kernel
theorem dX9_leave_275 : decode cX9_leave 275 = .ok (.goto 5, 3) := by decide +kernel
theorem dX9_leave_278 : decode cX9_leave 278 = .ok (.iload 4, 2) := by decide +kernel
theorem dX9_leave_280 : decode cX9_leave 280 = .ok (.istore 4, 2) := by decide +kernel
theorem dX9_leave_282 : decode cX9_leave 282 = .ok (.iinc 5 1, 3) := by decide +kernel
theorem dX9_leave_285 : decode cX9_leave 285 = .ok (.goto (-232), 3) := by decide +kernel
theorem dX9_leave_288 : decode cX9_leave 288 = .ok (.aload_n 0, 1) := by decide +kernel
theorem dX9_leave_289 : decode cX9_leave 289 = .ok (.invokevirtual 161, 3) := by decide +kernel
theorem dX9_leave_292 : decode cX9_leave 292 = .ok (.iload_n 3, 1) := by decide +kernel
theorem dX9_leave_293 : decode cX9_leave 293 = .ok (.bipush (-9), 2) := by decide +kernel
theorem dX9_leave_295 : decode cX9_leave 295 = .ok (.if_icmp .ne 8, 3) := by decide +kernel
theorem dX9_leave_298 : decode cX9_leave 298 = .ok (.bipush (-9), 2) := by decide +kernel
theorem dX9_leave_300 : decode cX9_leave 300 = .ok (.goto 13, 3) := by decide +kernel
theorem dX9_leave_303 : decode cX9_leave 303 = .ok (.iload_n 2, 1) := by decide +kernel
theorem dX9_leave_304 : decode cX9_leave 304 = .ok (.ifCond .ne 7, 3) := by decide +kernel
theorem dX9_leave_307 : decode cX9_leave 307 = .ok (.iload_n 3, 1) := by decide +kernel
theorem dX9_leave_308 : decode cX9_leave 308 = .ok (.goto 5, 3) := by decide +kernel
theorem dX9_leave_311 : decode cX9_leave 311 = .ok (.iload 4, 2) := by decide +kernel
theorem dX9_leave_313 : decode cX9_leave 313 = .ok (.ireturn, 1) := by decide +kernel
theorem dX9_eat_0 : decode cX9_eat 0 = .ok (.iload_n 1, 1) := by decide +kernel
theorem dX9_eat_1 : decode cX9_eat 1 = .ok (.iconst 0, 1) := by decide +kernel
theorem dX9_eat_2 : decode cX9_eat 2 = .ok (.iconst 1, 1) := by decide +kernel
theorem dX9_eat_3 : decode cX9_eat 3 = .ok (.invokestatic 48, 3) := by decide +kernel
theorem dX9_eat_6 : decode cX9_eat 6 = .ok (.ifCond .ne 5, 3) := by decide +kernel
theorem dX9_eat_9 : decode cX9_eat 9 = .ok (.iconst (-1), 1) := by decide +kernel
theorem dX9_eat_10 : decode cX9_eat 10 = .ok (.ireturn, 1) := by decide +kernel
theorem dX9_eat_11 : decode cX9_eat 11 = .ok (.iconst 0, 1) := by decide +kernel
theorem dX9_eat_12 : decode cX9_eat 12 = .ok (.istore_n 2, 1) := by decide +kernel
theorem dX9_eat_13 : decode cX9_eat 13 = .ok (.iconst 0, 1) := by decide +kernel
theorem dX9_eat_14 : decode cX9_eat 14 = .ok (.istore_n 3, 1) := by decide +kernel
theorem dX9_eat_15 : decode cX9_eat 15 = .ok (.iload_n 3, 1) := by decide +kernel
theorem dX9_eat_16 : decode cX9_eat 16 = .ok (.aload_n 0, 1) := by decide +kernel
theorem dX9_eat_17 : decode cX9_eat 17 = .ok (.getfield 13, 3) := by decide +kernel
theorem dX9_eat_20 : decode cX9_eat 20 = .ok (.iconst 1, 1) := by decide +kernel
theorem dX9_eat_21 : decode cX9_eat 21 = .ok (.iaload, 1) := by decide +kernel
theorem dX9_eat_22 : decode cX9_eat 22 = .ok (.if_icmp .ge 21, 3) := by decide +kernel
theorem dX9_eat_25 : decode cX9_eat 25 = .ok (.iload_n 2, 1) := by decide +kernel
theorem dX9_eat_26 : decode cX9_eat 26 = .ok (.aload_n 0, 1) := by decide +kernel
theorem dX9_eat_27 : decode cX9_eat 27 = .ok (.getfield 13, 3) := by decide +kernel
theorem dX9_eat_30 : decode cX9_eat 30 = .ok (.bipush 26, 2) := by decide +kernel
theorem dX9_eat_32 : decode cX9_eat 32 = .ok (.iload_n 3, 1) := by decide +kernel
theorem dX9_eat_33 : decode cX9_eat 33 = .ok (.iadd, 1) := by decide +kernel
theorem dX9_eat_34 : decode cX9_eat 34 = .ok (.iaload, 1) := by decide +kernel
theorem dX9_eat_35 : decode cX9_eat 35 = .ok (.iadd, 1) := by decide +kernel
theorem dX9_eat_36 : decode cX9_eat 36 = .ok (.istore_n 2, 1) := by decide +kernel
theorem dX9_eat_37 : decode cX9_eat 37 = .ok (.iinc 3 1, 3) := by decide +kernel
theorem dX9_eat_40 : decode cX9_eat 40 = .ok (.goto (-25), 3) := by decide +kernel
theorem dX9_eat_43 : decode cX9_eat 43 = .ok (.iconst 1, 1) := by decide +kernel
theorem dX9_eat_44 : decode cX9_eat 44 = .ok (.istore_n 3, 1) := by decide +kernel
theorem dX9_eat_45 : decode cX9_eat 45 = .ok (.iconst 1, 1) := by decide +kernel
theorem dX9_eat_46 : decode cX9_eat 46 = .ok (.istore 4, 2) := by decide +kernel
theorem dX9_eat_48 : decode cX9_eat 48 = .ok (.iload 4, 2) := by decide +kernel
theorem dX9_eat_50 : decode cX9_eat 50 = .ok (.iload_n 2, 1) := by decide +kernel
theorem dX9_eat_51 : decode cX9_eat 51 = .ok (.if_icmp .gt 14, 3) := by decide +kernel
theorem dX9_eat_54 : decode cX9_eat 54 = .ok (.iload_n 3, 1) := by decide +kernel
theorem dX9_eat_55 : decode cX9_eat 55 = .ok (.iload 4, 2) := by decide +kernel
theorem dX9_eat_57 : decode cX9_eat 57 = .ok (.imul, 1) := by decide +kernel
theorem dX9_eat_58 : decode cX9_eat 58 = .ok (.istore_n 3, 1) := by decide +kernel
theorem dX9_eat_59 : decode cX9_eat 59 = .ok (.iinc 4 1, 3) := by decide +kernel
theorem dX9_eat_62 : decode cX9_eat 62 = .ok (.goto (-14), 3) := by decide +kernel
theorem dX9_eat_65 : decode cX9_eat 65 = .ok (.aload_n 0, 1) := by decide +kernel
theorem dX9_eat_66 : decode cX9_eat 66 = .ok (.invokevirtual 158, 3) := by decide +kernel
theorem dX9_eat_69 : decode cX9_eat 69 = .ok (.iconst 0, 1) := by decide +kernel
theorem dX9_eat_70 : decode cX9_eat 70 = .ok (.istore 4, 2) := by decide +kernel
theorem dX9_eat_72 : decode cX9_eat 72 = .ok (.iconst (-1), 1) := by decide +kernel
theorem dX9_eat_73 : decode cX9_eat 73 = .ok (.istore 5, 2) := by decide +kernel
theorem dX9_eat_75 : decode cX9_eat 75 = .ok (.iconst 0, 1) := by decide +kernel
theorem dX9_eat_76 : decode cX9_eat 76 = .ok (.istore 6, 2) := by decide +kernel
theorem dX9_eat_78 : decode cX9_eat 78 = .ok (.iconst 0, 1) := by decide +kernel
theorem dX9_eat_79 : decode cX9_eat 79 = .ok (.istore 7, 2) := by decide +kernel
theorem dX9_eat_81 : decode cX9_eat 81 = .ok (.iload 7, 2) := by decide +kernel
theorem dX9_eat_83 : decode cX9_eat 83 = .ok (.iload_n 3, 1) := by decide +kernel
theorem dX9_eat_84 : decode cX9_eat 84 = .ok (.if_icmp .ge 147, 3) := by decide +kernel
theorem dX9_eat_87 : decode cX9_eat 87 = .ok (.aload_n 0, 1) := by decide +kernel
theorem dX9_eat_88 : decode cX9_eat 88 = .ok (.iload 7, 2) := by decide +kernel
theorem dX9_eat_90 : decode cX9_eat 90 = .ok (.iload_n 2, 1) := by decide +kernel
theorem dX9_eat_91 : decode cX9_eat 91 = .ok (.iload_n 3, 1) := by decide +kernel
theorem dX9_eat_92 : decode cX9_eat 92 = .ok (.invokevirtual 168, 3) := by decide +kernel
theorem dX9_eat_95 : decode cX9_eat 95 = .ok (.istore 8, 2) := by decide +kernel
theorem dX9_eat_97 : decode cX9_eat 97 = .ok (.aload_n 0, 1) := by decide +kernel
theorem dX9_eat_98 : decode cX9_eat 98 = .ok (.invokevirtual 138, 3) := by decide +kernel
theorem dX9_eat_101 : decode cX9_eat 101 = .ok (.ifCond .eq 15, 3) := by decide +kernel
theorem dX9_eat_104 : decode cX9_eat 104 = .ok (.aload_n 0, 1) := by decide +kernel
theorem dX9_eat_105 : decode cX9_eat 105 = .ok (.aload_n 0, 1) := by decide +kernel
theorem dX9_eat_106 : decode cX9_eat 106 = .ok (.invokevirtual 144, 3) := by decide +kernel
theorem dX9_eat_109 : decode cX9_eat 109 = .ok (.invokevirtual 147, 3) := by decide +kernel
theorem dX9_eat_112 : decode cX9_eat 112 = .ok (.pop, 1) := by decide +kernel
theorem dX9_eat_113 : decode cX9_eat 113 = .ok (.goto (-16), 3) := by decide +kernel
theorem dX9_eat_116 : decode cX9_eat 116 = .ok (.aload_n 0, 1) := by decide +kernel
theorem dX9_eat_117 : decode cX9_eat 117 = .ok (.getfield 19, 3) := by decide +kernel
theorem dX9_eat_120 : decode cX9_eat 120 = .ok (.iconst 1, 1) := by decide +kernel
theorem dX9_eat_121 : decode cX9_eat 121 = .ok (.iaload, 1) := by decide +kernel
theorem dX9_eat_122 : decode cX9_eat 122 = .ok (.aload_n 0, 1) := by decide +kernel
theorem dX9_eat_123 : decode cX9_eat 123 = .ok (.getfield 38, 3) := by decide +kernel
theorem dX9_eat_126 : decode cX9_eat 126 = .ok (.iconst 1, 1) := by decide +kernel
theorem dX9_eat_127 : decode cX9_eat 127 = .ok (.iaload, 1) := by decide +kernel
theorem dX9_eat_128 : decode cX9_eat 128 = .ok (.isub, 1) := by decide +kernel
theorem dX9_eat_129 : decode cX9_eat 129 = .ok (.istore 9, 2) := by decide +kernel
theorem dX9_eat_131 : decode cX9_eat 131 = .ok (.aload_n 0, 1) := by decide +kernel
theorem dX9_eat_132 : decode cX9_eat 132 = .ok (.getfield 19, 3) := by decide +kernel
theorem dX9_eat_135 : decode cX9_eat 135 = .ok (.iconst 2, 1) := by decide +kernel
theorem dX9_eat_136 : decode cX9_eat 136 = .ok (.iaload, 1) := by decide +kernel
theorem dX9_eat_137 : decode cX9_eat 137 = .ok (.aload_n 0, 1) := by decide +kernel
theorem dX9_eat_138 : decode cX9_eat 138 = .ok (.getfield 38, 3) := by decide +kernel
theorem dX9_eat_141 : decode cX9_eat 141 = .ok (.iconst 2, 1) := by decide +kernel
theorem dX9_eat_142 : decode cX9_eat 142 = .ok (.iaload, 1) := by decide +kernel
theorem dX9_eat_143 : decode cX9_eat 143 = .ok (.isub, 1) := by decide +kernel
theorem dX9_eat_144 : decode cX9_eat 144 = .ok (.istore 10, 2) := by decide +kernel
theorem dX9_eat_146 : decode cX9_eat 146 = .ok (.aload_n 0, 1) := by decide +kernel
theorem dX9_eat_147 : decode cX9_eat 147 = .ok (.invokevirtual 161, 3) := by decide +kernel
theorem dX9_eat_150 : decode cX9_eat 150 = .ok (.iload 5, 2) := by decide +kernel
theorem dX9_eat_152 : decode cX9_eat 152 = .ok (.ifCond .lt 24, 3) := by decide +kernel
theorem dX9_eat_155 : decode cX9_eat 155 = .ok (.iload 9, 2) := by decide +kernel
theorem dX9_eat_157 : decode cX9_eat 157 = .ok (.iload 5, 2) := by decide +kernel
theorem dX9_eat_159 : decode cX9_eat 159 = .ok (.if_icmp .lt 17, 3) := by decide +kernel
theorem dX9_eat_162 : decode cX9_eat 162 = .ok (.iload 9, 2) := by decide +kernel
theorem dX9_eat_164 : decode cX9_eat 164 = .ok (.iload 5, 2) := by decide +kernel
theorem dX9_eat_166 : decode cX9_eat 166 = .ok (.if_icmp .ne 14, 3) := by decide +kernel
theorem dX9_eat_169 : decode cX9_eat 169 = .ok (.iload 10, 2) := by decide +kernel
theorem dX9_eat_171 : decode cX9_eat 171 = .ok (.iload 6, 2) := by decide +kernel
theorem dX9_eat_173 : decode cX9_eat 173 = .ok (.if_icmp .ge 7, 3) := by decide +kernel
theorem dX9_eat_176 : decode cX9_eat 176 = .ok (.iconst 1, 1) := by decide +kernel
theorem dX9_eat_177 : decode cX9_eat 177 = .ok (.goto 4, 3) := by decide +kernel
theorem dX9_eat_180 : decode cX9_eat 180 = .ok (.iconst 0, 1) := by decide +kernel
theorem dX9_eat_181 : decode cX9_eat 181 = .ok (.istore 11, 2) := by decide +kernel
theorem dX9_eat_183 : decode cX9_eat 183 = .ok (.iload 11, 2) := by decide +kernel
theorem dX9_eat_185 : decode cX9_eat 185 = .ok (.ifCond .eq 8, 3) := by decide +kernel
theorem dX9_eat_188 : decode cX9_eat 188 = .ok (.iload 8, 2) := by decide +kernel
theorem dX9_eat_190 : decode cX9_eat 190 = .ok (.goto 5, 3) := by decide +kernel
theorem dX9_eat_193 : decode cX9_eat 193 = .ok (.iload 4, 2) := by decide +kernel
theorem dX9_eat_195 : decode cX9_eat 195 = .ok (.istore 4, 2) := by decide +kernel
theorem dX9_eat_197 : decode cX9_eat 197 = .ok (.iload 11, 2) := by decide +kernel
theorem dX9_eat_199 : decode cX9_eat 199 = .ok (.ifCond .eq 8, 3) := by decide +kernel
theorem dX9_eat_202 : decode cX9_eat 202 = .ok (.iload 10, 2) := by decide +kernel
theorem dX9_eat_204 : decode cX9_eat 204 = .ok (.goto 5, 3) := by decide +kernel
theorem dX9_eat_207 : decode cX9_eat 207 = .ok (.iload 6, 2) := by decide +kernel
theorem dX9_eat_209 : decode cX9_eat 209 = .ok (.istore 6, 2) := by decide +kernel
theorem dX9_eat_211 : decode cX9_eat 211 = .ok (.iload 11, 2) := by decide +kernel
theorem dX9_eat_213 : decode cX9_eat 213 = .ok (.ifCond .eq 8, 3) := by decide +kernel
theorem dX9_eat_216 : decode cX9_eat 216 = .ok (.iload 9, 2) := by decide +kernel
theorem dX9_eat_218 : decode cX9_eat 218 = .ok (.goto 5, 3) := by decide +kernel
theorem dX9_eat_221 : decode cX9_eat 221 = .ok (.iload 5, 2) := by decide +kernel
theorem dX9_eat_223 : decode cX9_eat 223 = .ok (.istore 5, 2) := by decide +kernel
theorem dX9_eat_225 : decode cX9_eat 225 = .ok (.iinc 7 1, 3) := by decide +kernel
theorem dX9_eat_228 : decode cX9_eat 228 = .ok (.goto (-147), 3) := by decide +kernel
theorem dX9_eat_231 : decode cX9_eat 231 = .ok (.iload_n 1, 1) := by decide +kernel
theorem dX9_eat_232 : decode cX9_eat 232 = .ok (.ifCond .ne 8, 3) := by decide +kernel
theorem dX9_eat_235 : decode cX9_eat 235 = .ok (.iload 4, 2) := by decide +kernel
theorem dX9_eat_237 : decode cX9_eat 237 = .ok (.goto 5, 3) := by decide +kernel
theorem dX9_eat_240 : decode cX9_eat 240 = .ok (.iload 5, 2) := by decide +kernel
theorem dX9_eat_242 : decode cX9_eat 242 = .ok (.ireturn, 1) := by decide +kernel
theorem dX9_ordered_0 : decode cX9_ordered 0 = .ok (.iload_n 1, 1) := by decide +kernel
theorem dX9_ordered_1 : decode cX9_ordered 1 = .ok (.istore 4, 2) := by decide +kernel
theorem dX9_ordered_3 : decode cX9_ordered 3 = .ok (.iload_n 3, 1) := by decide +kernel
theorem dX9_ordered_4 : decode cX9_ordered 4 = .ok (.istore 5, 2) := by decide +kernel
theorem dX9_ordered_6 : decode cX9_ordered 6 = .ok (.iconst 0, 1) := by decide +kernel
theorem dX9_ordered_7 : decode cX9_ordered 7 = .ok (.istore 6, 2) := by decide +kernel
theorem dX9_ordered_9 : decode cX9_ordered 9 = .ok (.iconst 0, 1) := by decide +kernel
theorem dX9_ordered_10 : decode cX9_ordered 10 = .ok (.istore 7, 2) := by decide +kernel
theorem dX9_ordered_12 : decode cX9_ordered 12 = .ok (.iconst 0, 1) := by decide +kernel
theorem dX9_ordered_13 : decode cX9_ordered 13 = .ok (.istore 8, 2) := by decide +kernel
theorem dX9_ordered_15 : decode cX9_ordered 15 = .ok (.iload 8, 2) := by decide +kernel
theorem dX9_ordered_17 : decode cX9_ordered 17 = .ok (.iload_n 2, 1) := by decide +kernel
theorem dX9_ordered_18 : decode cX9_ordered 18 = .ok (.if_icmp .ge 134, 3) := by decide +kernel
theorem dX9_ordered_21 : decode cX9_ordered 21 = .ok (.iload 5, 2) := by decide +kernel
theorem dX9_ordered_23 : decode cX9_ordered 23 = .ok (.iload_n 2, 1) := by decide +kernel
theorem dX9_ordered_24 : decode cX9_ordered 24 = .ok (.iload 8, 2) := by decide +kernel
theorem dX9_ordered_26 : decode cX9_ordered 26 = .ok (.isub, 1) := by decide +kernel
theorem dX9_ordered_27 : decode cX9_ordered 27 = .ok (.idiv, 1) := by decide +kernel
theorem dX9_ordered_28 : decode cX9_ordered 28 = .ok (.istore 5, 2) := by decide +kernel
theorem dX9_ordered_30 : decode cX9_ordered 30 = .ok (.iload 4, 2) := by decide +kernel
theorem dX9_ordered_32 : decode cX9_ordered 32 = .ok (.iload 5, 2) := by decide +kernel
theorem dX9_ordered_34 : decode cX9_ordered 34 = .ok (.idiv, 1) := by decide +kernel
theorem dX9_ordered_35 : decode cX9_ordered 35 = .ok (.istore 9, 2) := by decide +kernel
theorem dX9_ordered_37 : decode cX9_ordered 37 = .ok (.iload 4, 2) := by decide +kernel
theorem dX9_ordered_39 : decode cX9_ordered 39 = .ok (.iload 5, 2) := by decide +kernel
theorem dX9_ordered_41 : decode cX9_ordered 41 = .ok (.irem, 1) := by decide +kernel
theorem dX9_ordered_42 : decode cX9_ordered 42 = .ok (.istore 4, 2) := by decide +kernel
theorem dX9_ordered_44 : decode cX9_ordered 44 = .ok (.iconst 0, 1) := by decide +kernel
theorem dX9_ordered_45 : decode cX9_ordered 45 = .ok (.istore 10, 2) := by decide +kernel
theorem dX9_ordered_47 : decode cX9_ordered 47 = .ok (.aload_n 0, 1) := by decide +kernel
theorem dX9_ordered_48 : decode cX9_ordered 48 = .ok (.getfield 13, 3) := by decide +kernel
theorem dX9_ordered_51 : decode cX9_ordered 51 = .ok (.bipush 26, 2) := by decide +kernel
theorem dX9_ordered_53 : decode cX9_ordered 53 = .ok (.iload 10, 2) := by decide +kernel
theorem dX9_ordered_55 : decode cX9_ordered 55 = .ok (.iadd, 1) := by decide +kernel
theorem dX9_ordered_56 : decode cX9_ordered 56 = .ok (.iaload, 1) := by decide +kernel
theorem dX9_ordered_57 : decode cX9_ordered 57 = .ok (.ifCond .eq 19, 3) := by decide +kernel
theorem dX9_ordered_60 : decode cX9_ordered 60 = .ok (.iload 6, 2) := by decide +kernel
theorem dX9_ordered_62 : decode cX9_ordered 62 = .ok (.iload 10, 2) := by decide +kernel
theorem dX9_ordered_64 : decode cX9_ordered 64 = .ok (.ishr, 1) := by decide +kernel
theorem dX9_ordered_65 : decode cX9_ordered 65 = .ok (.iconst 1, 1) := by decide +kernel
theorem dX9_ordered_66 : decode cX9_ordered 66 = .ok (.iand, 1) := by decide +kernel
theorem dX9_ordered_67 : decode cX9_ordered 67 = .ok (.iconst 1, 1) := by decide +kernel
theorem dX9_ordered_68 : decode cX9_ordered 68 = .ok (.if_icmp .eq 8, 3) := by decide +kernel
theorem dX9_ordered_71 : decode cX9_ordered 71 = .ok (.iload 9, 2) := by decide +kernel
theorem dX9_ordered_73 : decode cX9_ordered 73 = .ok (.ifCond .le 43, 3) := by decide +kernel
theorem dX9_ordered_76 : decode cX9_ordered 76 = .ok (.iload 9, 2) := by decide +kernel
theorem dX9_ordered_78 : decode cX9_ordered 78 = .ok (.aload_n 0, 1) := by decide +kernel
theorem dX9_ordered_79 : decode cX9_ordered 79 = .ok (.getfield 13, 3) := by decide +kernel
theorem dX9_ordered_82 : decode cX9_ordered 82 = .ok (.bipush 26, 2) := by decide +kernel
theorem dX9_ordered_84 : decode cX9_ordered 84 = .ok (.iload 10, 2) := by decide +kernel
theorem dX9_ordered_86 : decode cX9_ordered 86 = .ok (.iadd, 1) := by decide +kernel
theorem dX9_ordered_87 : decode cX9_ordered 87 = .ok (.iaload, 1) := by decide +kernel
theorem dX9_ordered_88 : decode cX9_ordered 88 = .ok (.iconst 1, 1) := by decide +kernel
theorem dX9_ordered_89 : decode cX9_ordered 89 = .ok (.if_icmp .ne 17, 3) := by decide +kernel
theorem dX9_ordered_92 : decode cX9_ordered 92 = .ok (.iload 6, 2) := by decide +kernel
theorem dX9_ordered_94 : decode cX9_ordered 94 = .ok (.iload 10, 2) := by decide +kernel
theorem dX9_ordered_96 : decode cX9_ordered 96 = .ok (.ishr, 1) := by decide +kernel
theorem dX9_ordered_97 : decode cX9_ordered 97 = .ok (.iconst 1, 1) := by decide +kernel
theorem dX9_ordered_98 : decode cX9_ordered 98 = .ok (.iand, 1) := by decide +kernel
theorem dX9_ordered_99 : decode cX9_ordered 99 = .ok (.ifCond .ne 7, 3) := by decide +kernel
theorem dX9_ordered_102 : decode cX9_ordered 102 = .ok (.iconst 1, 1) := by decide +kernel
theorem dX9_ordered_103 : decode cX9_ordered 103 = .ok (.goto 4, 3) := by decide +kernel
theorem dX9_ordered_106 : decode cX9_ordered 106 = .ok (.iconst 0, 1) := by decide +kernel
theorem dX9_ordered_107 : decode cX9_ordered 107 = .ok (.isub, 1) := by decide +kernel
theorem dX9_ordered_108 : decode cX9_ordered 108 = .ok (.istore 9, 2) := by decide +kernel
theorem dX9_ordered_110 : decode cX9_ordered 110 = .ok (.iinc 10 1, 3) := by decide +kernel
theorem dX9_ordered_113 : decode cX9_ordered 113 = .ok (.goto (-66), 3) := by decide +kernel
theorem dX9_ordered_116 : decode cX9_ordered 116 = .ok (.iload 6, 2) := by decide +kernel
theorem dX9_ordered_118 : decode cX9_ordered 118 = .ok (.iconst 1, 1) := by decide +kernel
theorem dX9_ordered_119 : decode cX9_ordered 119 = .ok (.iload 10, 2) := by decide +kernel
theorem dX9_ordered_121 : decode cX9_ordered 121 = .ok (.ishl, 1) := by decide +kernel
theorem dX9_ordered_122 : decode cX9_ordered 122 = .ok (.ior, 1) := by decide +kernel
theorem dX9_ordered_123 : decode cX9_ordered 123 = .ok (.istore 6, 2) := by decide +kernel
theorem dX9_ordered_125 : decode cX9_ordered 125 = .ok (.aload_n 0, 1) := by decide +kernel
theorem dX9_ordered_126 : decode cX9_ordered 126 = .ok (.getfield 32, 3) := by decide +kernel
theorem dX9_ordered_129 : decode cX9_ordered 129 = .ok (.iload 8, 2) := by decide +kernel
theorem dX9_ordered_131 : decode cX9_ordered 131 = .ok (.iload 10, 2) := by decide +kernel
theorem dX9_ordered_133 : decode cX9_ordered 133 = .ok (.iastore, 1) := by decide +kernel
theorem dX9_ordered_134 : decode cX9_ordered 134 = .ok (.bipush 10, 2) := by decide +kernel
theorem dX9_ordered_136 : decode cX9_ordered 136 = .ok (.iload 7, 2) := by decide +kernel
theorem dX9_ordered_138 : decode cX9_ordered 138 = .ok (.imul, 1) := by decide +kernel
theorem dX9_ordered_139 : decode cX9_ordered 139 = .ok (.iload 10, 2) := by decide +kernel
theorem dX9_ordered_141 : decode cX9_ordered 141 = .ok (.iadd, 1) := by decide +kernel
theorem dX9_ordered_142 : decode cX9_ordered 142 = .ok (.iconst 1, 1) := by decide +kernel
theorem dX9_ordered_143 : decode cX9_ordered 143 = .ok (.iadd, 1) := by decide +kernel
theorem dX9_ordered_144 : decode cX9_ordered 144 = .ok (.istore 7, 2) := by decide +kernel
theorem dX9_ordered_146 : decode cX9_ordered 146 = .ok (.iinc 8 1, 3) := by decide +kernel
theorem dX9_ordered_149 : decode cX9_ordered 149 = .ok (.goto (-134), 3) := by decide +kernel
theorem dX9_ordered_152 : decode cX9_ordered 152 = .ok (.iload_n 2, 1) := by decide +kernel
theorem dX9_ordered_153 : decode cX9_ordered 153 = .ok (.istore 8, 2) := by decide +kernel
theorem dX9_ordered_155 : decode cX9_ordered 155 = .ok (.iconst 0, 1) := by decide +kernel
theorem dX9_ordered_156 : decode cX9_ordered 156 = .ok (.istore 9, 2) := by decide +kernel
theorem dX9_ordered_158 : decode cX9_ordered 158 = .ok (.iload 9, 2) := by decide +kernel
theorem dX9_ordered_160 : decode cX9_ordered 160 = .ok (.bipush 7, 2) := by decide +kernel
theorem dX9_ordered_162 : decode cX9_ordered 162 = .ok (.if_icmp .ge 31, 3) := by decide +kernel
theorem dX9_ordered_165 : decode cX9_ordered 165 = .ok (.iload 6, 2) := by decide +kernel
theorem dX9_ordered_167 : decode cX9_ordered 167 = .ok (.iload 9, 2) := by decide +kernel
theorem dX9_ordered_169 : decode cX9_ordered 169 = .ok (.ishr, 1) := by decide +kernel
theorem dX9_ordered_170 : decode cX9_ordered 170 = .ok (.iconst 1, 1) := by decide +kernel
theorem dX9_ordered_171 : decode cX9_ordered 171 = .ok (.iand, 1) := by decide +kernel
theorem dX9_ordered_172 : decode cX9_ordered 172 = .ok (.ifCond .ne 15, 3) := by decide +kernel
theorem dX9_ordered_175 : decode cX9_ordered 175 = .ok (.aload_n 0, 1) := by decide +kernel
theorem dX9_ordered_176 : decode cX9_ordered 176 = .ok (.getfield 32, 3) := by decide +kernel
theorem dX9_ordered_179 : decode cX9_ordered 179 = .ok (.iload 8, 2) := by decide +kernel
theorem dX9_ordered_181 : decode cX9_ordered 181 = .ok (.iload 9, 2) := by decide +kernel
theorem dX9_ordered_183 : decode cX9_ordered 183 = .ok (.iastore, 1) := by decide +kernel
theorem dX9_ordered_184 : decode cX9_ordered 184 = .ok (.iinc 8 1, 3) := by decide +kernel
theorem dX9_ordered_187 : decode cX9_ordered 187 = .ok (.iinc 9 1, 3) := by decide +kernel
theorem dX9_ordered_190 : decode cX9_ordered 190 = .ok (.goto (-32), 3) := by decide +kernel
theorem dX9_ordered_193 : decode cX9_ordered 193 = .ok (.iload 7, 2) := by decide +kernel
theorem dX9_ordered_195 : decode cX9_ordered 195 = .ok (.ireturn, 1) := by decide +kernel
theorem dX9_truly_0 : decode cX9_truly 0 = .ok (.aload_n 0, 1) := by decide +kernel
theorem dX9_truly_1 : decode cX9_truly 1 = .ok (.iload_n 1, 1) := by decide +kernel
theorem dX9_truly_2 : decode cX9_truly 2 = .ok (.invokevirtual 106, 3) := by decide +kernel
theorem dX9_truly_5 : decode cX9_truly 5 = .ok (.ifCond .eq 34, 3) := by decide +kernel
theorem dX9_truly_8 : decode cX9_truly 8 = .ok (.iload_n 2, 1) := by decide +kernel
theorem dX9_truly_9 : decode cX9_truly 9 = .ok (.iconst 1, 1) := by decide +kernel
theorem dX9_truly_10 : decode cX9_truly 10 = .ok (.bipush 20, 2) := by decide +kernel
theorem dX9_truly_12 : decode cX9_truly 12 = .ok (.invokestatic 48, 3) := by decide +kernel
theorem dX9_truly_15 : decode cX9_truly 15 = .ok (.ifCond .eq 24, 3) := by decide +kernel
theorem dX9_truly_18 : decode cX9_truly 18 = .ok (.iload_n 3, 1) := by decide +kernel
theorem dX9_truly_19 : decode cX9_truly 19 = .ok (.iconst 1, 1) := by decide +kernel
theorem dX9_truly_20 : decode cX9_truly 20 = .ok (.sipush 999, 3) := by decide +kernel
theorem dX9_truly_23 : decode cX9_truly 23 = .ok (.invokestatic 48, 3) := by decide +kernel
theorem dX9_truly_26 : decode cX9_truly 26 = .ok (.ifCond .eq 13, 3) := by decide +kernel
theorem dX9_truly_29 : decode cX9_truly 29 = .ok (.iload 4, 2) := by decide +kernel
theorem dX9_truly_31 : decode cX9_truly 31 = .ok (.iconst 0, 1) := by decide +kernel
theorem dX9_truly_32 : decode cX9_truly 32 = .ok (.iconst 1, 1) := by decide +kernel
theorem dX9_truly_33 : decode cX9_truly 33 = .ok (.invokestatic 48, 3) := by decide +kernel
theorem dX9_truly_36 : decode cX9_truly 36 = .ok (.ifCond .ne 5, 3) := by decide +kernel
theorem dX9_truly_39 : decode cX9_truly 39 = .ok (.iconst (-1), 1) := by decide +kernel
theorem dX9_truly_40 : decode cX9_truly 40 = .ok (.ireturn, 1) := by decide +kernel
theorem dX9_truly_41 : decode cX9_truly 41 = .ok (.bipush (-9), 2) := by decide +kernel
theorem dX9_truly_43 : decode cX9_truly 43 = .ok (.istore 5, 2) := by decide +kernel
theorem dX9_truly_45 : decode cX9_truly 45 = .ok (.bipush (-9), 2) := by decide +kernel
theorem dX9_truly_47 : decode cX9_truly 47 = .ok (.istore 6, 2) := by decide +kernel
theorem dX9_truly_49 : decode cX9_truly 49 = .ok (.iconst 0, 1) := by decide +kernel
theorem dX9_truly_50 : decode cX9_truly 50 = .ok (.istore 7, 2) := by decide +kernel
theorem dX9_truly_52 : decode cX9_truly 52 = .ok (.iload 7, 2) := by decide +kernel
theorem dX9_truly_54 : decode cX9_truly 54 = .ok (.bipush 100, 2) := by decide +kernel
theorem dX9_truly_56 : decode cX9_truly 56 = .ok (.if_icmp .ge 66, 3) := by decide +kernel
theorem dX9_truly_59 : decode cX9_truly 59 = .ok (.iload_n 2, 1) := by decide +kernel
theorem dX9_truly_60 : decode cX9_truly 60 = .ok (.aload_n 0, 1) := by decide +kernel
theorem dX9_truly_61 : decode cX9_truly 61 = .ok (.iload_n 1, 1) := by decide +kernel
theorem dX9_truly_62 : decode cX9_truly 62 = .ok (.iload 7, 2) := by decide +kernel
theorem dX9_truly_64 : decode cX9_truly 64 = .ok (.invokevirtual 112, 3) := by decide +kernel
theorem dX9_truly_67 : decode cX9_truly 67 = .ok (.invokestatic 125, 3) := by decide +kernel
theorem dX9_truly_70 : decode cX9_truly 70 = .ok (.iload_n 3, 1) := by decide +kernel
theorem dX9_truly_71 : decode cX9_truly 71 = .ok (.if_icmp .ne 7, 3) := by decide +kernel
theorem dX9_truly_74 : decode cX9_truly 74 = .ok (.iconst 1, 1) := by decide +kernel
theorem dX9_truly_75 : decode cX9_truly 75 = .ok (.goto 4, 3) := by decide +kernel
theorem dX9_truly_78 : decode cX9_truly 78 = .ok (.iconst 0, 1) := by decide +kernel
theorem dX9_truly_79 : decode cX9_truly 79 = .ok (.istore 8, 2) := by decide +kernel
theorem dX9_truly_81 : decode cX9_truly 81 = .ok (.iload 8, 2) := by decide +kernel
theorem dX9_truly_83 : decode cX9_truly 83 = .ok (.ifCond .eq 15, 3) := by decide +kernel
theorem dX9_truly_86 : decode cX9_truly 86 = .ok (.iload 5, 2) := by decide +kernel
theorem dX9_truly_88 : decode cX9_truly 88 = .ok (.bipush (-9), 2) := by decide +kernel
theorem dX9_truly_90 : decode cX9_truly 90 = .ok (.if_icmp .ne 8, 3) := by decide +kernel
theorem dX9_truly_93 : decode cX9_truly 93 = .ok (.iload 7, 2) := by decide +kernel
theorem dX9_truly_95 : decode cX9_truly 95 = .ok (.goto 5, 3) := by decide +kernel
theorem dX9_truly_98 : decode cX9_truly 98 = .ok (.iload 5, 2) := by decide +kernel
theorem dX9_truly_100 : decode cX9_truly 100 = .ok (.istore 5, 2) := by decide +kernel
theorem dX9_truly_102 : decode cX9_truly 102 = .ok (.iload 8, 2) := by decide +kernel
theorem dX9_truly_104 : decode cX9_truly 104 = .ok (.ifCond .eq 8, 3) := by decide +kernel
theorem dX9_truly_107 : decode cX9_truly 107 = .ok (.iload 7, 2) := by decide +kernel
theorem dX9_truly_109 : decode cX9_truly 109 = .ok (.goto 5, 3) := by decide +kernel
theorem dX9_truly_112 : decode cX9_truly 112 = .ok (.iload 6, 2) := by decide +kernel
theorem dX9_truly_114 : decode cX9_truly 114 = .ok (.istore 6, 2) := by decide +kernel
theorem dX9_truly_116 : decode cX9_truly 116 = .ok (.iinc 7 1, 3) := by decide +kernel
theorem dX9_truly_119 : decode cX9_truly 119 = .ok (.goto (-67), 3) := by decide +kernel
theorem dX9_truly_122 : decode cX9_truly 122 = .ok (.iload 4, 2) := by decide +kernel
theorem dX9_truly_124 : decode cX9_truly 124 = .ok (.ifCond .ne 8, 3) := by decide +kernel
theorem dX9_truly_127 : decode cX9_truly 127 = .ok (.iload 5, 2) := by decide +kernel
theorem dX9_truly_129 : decode cX9_truly 129 = .ok (.goto 5, 3) := by decide +kernel
theorem dX9_truly_132 : decode cX9_truly 132 = .ok (.iload 6, 2) := by decide +kernel
theorem dX9_truly_134 : decode cX9_truly 134 = .ok (.ireturn, 1) := by decide +kernel
theorem dX9_odds_0 : decode cX9_odds 0 = .ok (.iload_n 1, 1) := by decide +kernel
theorem dX9_odds_1 : decode cX9_odds 1 = .ok (.iconst 0, 1) := by decide +kernel
theorem dX9_odds_2 : decode cX9_odds 2 = .ok (.bipush 10, 2) := by decide +kernel
theorem dX9_odds_4 : decode cX9_odds 4 = .ok (.invokestatic 48, 3) := by decide +kernel
theorem dX9_odds_7 : decode cX9_odds 7 = .ok (.ifCond .eq 23, 3) := by decide +kernel
theorem dX9_odds_10 : decode cX9_odds 10 = .ok (.iload_n 2, 1) := by decide +kernel
theorem dX9_odds_11 : decode cX9_odds 11 = .ok (.iconst 0, 1) := by decide +kernel
theorem dX9_odds_12 : decode cX9_odds 12 = .ok (.sipush 9999, 3) := by decide +kernel
theorem dX9_odds_15 : decode cX9_odds 15 = .ok (.invokestatic 48, 3) := by decide +kernel
theorem dX9_odds_18 : decode cX9_odds 18 = .ok (.ifCond .eq 12, 3) := by decide +kernel
theorem dX9_odds_21 : decode cX9_odds 21 = .ok (.iload_n 3, 1) := by decide +kernel
theorem dX9_odds_22 : decode cX9_odds 22 = .ok (.iconst 0, 1) := by decide +kernel
theorem dX9_odds_23 : decode cX9_odds 23 = .ok (.iconst 1, 1) := by decide +kernel
theorem dX9_odds_24 : decode cX9_odds 24 = .ok (.invokestatic 48, 3) := by decide +kernel
theorem dX9_odds_27 : decode cX9_odds 27 = .ok (.ifCond .ne 7, 3) := by decide +kernel
theorem dX9_odds_30 : decode cX9_odds 30 = .ok (.ldc2_w 172, 3) := by decide +kernel
theorem dX9_odds_33 : decode cX9_odds 33 = .ok (.lreturn, 1) := by decide +kernel
theorem dX9_odds_34 : decode cX9_odds 34 = .ok (.aload_n 0, 1) := by decide +kernel
theorem dX9_odds_35 : decode cX9_odds 35 = .ok (.getfield 13, 3) := by decide +kernel
theorem dX9_odds_38 : decode cX9_odds 38 = .ok (.iconst 2, 1) := by decide +kernel
theorem dX9_odds_39 : decode cX9_odds 39 = .ok (.iaload, 1) := by decide +kernel
theorem dX9_odds_40 : decode cX9_odds 40 = .ok (.aload_n 0, 1) := by decide +kernel
theorem dX9_odds_41 : decode cX9_odds 41 = .ok (.getfield 19, 3) := by decide +kernel
theorem dX9_odds_44 : decode cX9_odds 44 = .ok (.iconst 0, 1) := by decide +kernel
theorem dX9_odds_45 : decode cX9_odds 45 = .ok (.iaload, 1) := by decide +kernel
theorem dX9_odds_46 : decode cX9_odds 46 = .ok (.isub, 1) := by decide +kernel
theorem dX9_odds_47 : decode cX9_odds 47 = .ok (.istore 4, 2) := by decide +kernel
theorem dX9_odds_49 : decode cX9_odds 49 = .ok (.lconst 0, 1) := by decide +kernel
theorem dX9_odds_50 : decode cX9_odds 50 = .ok (.lstore 5, 2) := by decide +kernel
theorem dX9_odds_52 : decode cX9_odds 52 = .ok (.lconst 1, 1) := by decide +kernel
theorem dX9_odds_53 : decode cX9_odds 53 = .ok (.lstore 7, 2) := by decide +kernel
theorem dX9_odds_55 : decode cX9_odds 55 = .ok (.iconst 0, 1) := by decide +kernel
theorem dX9_odds_56 : decode cX9_odds 56 = .ok (.istore 9, 2) := by decide +kernel
theorem dX9_odds_58 : decode cX9_odds 58 = .ok (.iload 9, 2) := by decide +kernel
theorem dX9_odds_60 : decode cX9_odds 60 = .ok (.iload 4, 2) := by decide +kernel
theorem dX9_odds_62 : decode cX9_odds 62 = .ok (.if_icmp .ge 17, 3) := by decide +kernel
theorem dX9_odds_65 : decode cX9_odds 65 = .ok (.lload 7, 2) := by decide +kernel
theorem dX9_odds_67 : decode cX9_odds 67 = .ok (.ldc2_w 174, 3) := by decide +kernel
theorem dX9_odds_70 : decode cX9_odds 70 = .ok (.lmul, 1) := by decide +kernel
theorem dX9_odds_71 : decode cX9_odds 71 = .ok (.lstore 7, 2) := by decide +kernel
theorem dX9_odds_73 : decode cX9_odds 73 = .ok (.iinc 9 1, 3) := by decide +kernel
theorem dX9_odds_76 : decode cX9_odds 76 = .ok (.goto (-18), 3) := by decide +kernel
theorem dX9_odds_79 : decode cX9_odds 79 = .ok (.aload_n 0, 1) := by decide +kernel
theorem dX9_odds_80 : decode cX9_odds 80 = .ok (.invokevirtual 158, 3) := by decide +kernel
theorem dX9_odds_83 : decode cX9_odds 83 = .ok (.aload_n 0, 1) := by decide +kernel
theorem dX9_odds_84 : decode cX9_odds 84 = .ok (.invokevirtual 141, 3) := by decide +kernel
theorem dX9_odds_87 : decode cX9_odds 87 = .ok (.iconst 0, 1) := by decide +kernel
theorem dX9_odds_88 : decode cX9_odds 88 = .ok (.istore 9, 2) := by decide +kernel
theorem dX9_odds_90 : decode cX9_odds 90 = .ok (.iload 9, 2) := by decide +kernel
theorem dX9_odds_92 : decode cX9_odds 92 = .ok (.iconst 1, 1) := by decide +kernel
theorem dX9_odds_93 : decode cX9_odds 93 = .ok (.iload 4, 2) := by decide +kernel
theorem dX9_odds_95 : decode cX9_odds 95 = .ok (.ishl, 1) := by decide +kernel
theorem dX9_odds_96 : decode cX9_odds 96 = .ok (.if_icmp .ge 105, 3) := by decide +kernel
theorem dX9_odds_99 : decode cX9_odds 99 = .ok (.lconst 1, 1) := by decide +kernel
theorem dX9_odds_100 : decode cX9_odds 100 = .ok (.lstore 10, 2) := by decide +kernel
theorem dX9_odds_102 : decode cX9_odds 102 = .ok (.iconst 0, 1) := by decide +kernel
theorem dX9_odds_103 : decode cX9_odds 103 = .ok (.istore 12, 2) := by decide +kernel
theorem dX9_odds_105 : decode cX9_odds 105 = .ok (.iload 12, 2) := by decide +kernel
theorem dX9_odds_107 : decode cX9_odds 107 = .ok (.iload 4, 2) := by decide +kernel
theorem dX9_odds_109 : decode cX9_odds 109 = .ok (.if_icmp .ge 54, 3) := by decide +kernel
theorem dX9_odds_112 : decode cX9_odds 112 = .ok (.iload 9, 2) := by decide +kernel
theorem dX9_odds_114 : decode cX9_odds 114 = .ok (.iload 12, 2) := by decide +kernel
theorem dX9_odds_116 : decode cX9_odds 116 = .ok (.ishr, 1) := by decide +kernel
theorem dX9_odds_117 : decode cX9_odds 117 = .ok (.iconst 1, 1) := by decide +kernel
theorem dX9_odds_118 : decode cX9_odds 118 = .ok (.iand, 1) := by decide +kernel
theorem dX9_odds_119 : decode cX9_odds 119 = .ok (.iconst 1, 1) := by decide +kernel
theorem dX9_odds_120 : decode cX9_odds 120 = .ok (.if_icmp .ne 7, 3) := by decide +kernel
theorem dX9_odds_123 : decode cX9_odds 123 = .ok (.iconst 1, 1) := by decide +kernel
theorem dX9_odds_124 : decode cX9_odds 124 = .ok (.goto 4, 3) := by decide +kernel
theorem dX9_odds_127 : decode cX9_odds 127 = .ok (.iconst 0, 1) := by decide +kernel
theorem dX9_odds_128 : decode cX9_odds 128 = .ok (.istore 13, 2) := by decide +kernel
theorem dX9_odds_130 : decode cX9_odds 130 = .ok (.lload 10, 2) := by decide +kernel
theorem dX9_odds_132 : decode cX9_odds 132 = .ok (.iload 13, 2) := by decide +kernel
theorem dX9_odds_134 : decode cX9_odds 134 = .ok (.ifCond .eq 8, 3) := by decide +kernel
theorem dX9_odds_137 : decode cX9_odds 137 = .ok (.iload_n 1, 1) := by decide +kernel
theorem dX9_odds_138 : decode cX9_odds 138 = .ok (.i2l, 1) := by decide +kernel
theorem dX9_odds_139 : decode cX9_odds 139 = .ok (.goto 8, 3) := by decide +kernel
theorem dX9_odds_142 : decode cX9_odds 142 = .ok (.bipush 10, 2) := by decide +kernel
theorem dX9_odds_144 : decode cX9_odds 144 = .ok (.iload_n 1, 1) := by decide +kernel
theorem dX9_odds_145 : decode cX9_odds 145 = .ok (.isub, 1) := by decide +kernel
theorem dX9_odds_146 : decode cX9_odds 146 = .ok (.i2l, 1) := by decide +kernel
theorem dX9_odds_147 : decode cX9_odds 147 = .ok (.lmul, 1) := by decide +kernel
theorem dX9_odds_148 : decode cX9_odds 148 = .ok (.lstore 10, 2) := by decide +kernel
theorem dX9_odds_150 : decode cX9_odds 150 = .ok (.aload_n 0, 1) := by decide +kernel
theorem dX9_odds_151 : decode cX9_odds 151 = .ok (.iload 13, 2) := by decide +kernel
theorem dX9_odds_153 : decode cX9_odds 153 = .ok (.invokevirtual 147, 3) := by decide +kernel
theorem dX9_odds_156 : decode cX9_odds 156 = .ok (.pop, 1) := by decide +kernel
theorem dX9_odds_157 : decode cX9_odds 157 = .ok (.iinc 12 1, 3) := by decide +kernel
theorem dX9_odds_160 : decode cX9_odds 160 = .ok (.goto (-55), 3) := by decide +kernel
theorem dX9_odds_163 : decode cX9_odds 163 = .ok (.lload 5, 2) := by decide +kernel
theorem dX9_odds_165 : decode cX9_odds 165 = .ok (.aload_n 0, 1) := by decide +kernel
theorem dX9_odds_166 : decode cX9_odds 166 = .ok (.getfield 19, 3) := by decide +kernel
theorem dX9_odds_169 : decode cX9_odds 169 = .ok (.iconst 1, 1) := by decide +kernel
theorem dX9_odds_170 : decode cX9_odds 170 = .ok (.iaload, 1) := by decide +kernel
theorem dX9_odds_171 : decode cX9_odds 171 = .ok (.aload_n 0, 1) := by decide +kernel
theorem dX9_odds_172 : decode cX9_odds 172 = .ok (.getfield 38, 3) := by decide +kernel
theorem dX9_odds_175 : decode cX9_odds 175 = .ok (.iconst 1, 1) := by decide +kernel
theorem dX9_odds_176 : decode cX9_odds 176 = .ok (.iaload, 1) := by decide +kernel
theorem dX9_odds_177 : decode cX9_odds 177 = .ok (.isub, 1) := by decide +kernel
theorem dX9_odds_178 : decode cX9_odds 178 = .ok (.iload_n 2, 1) := by decide +kernel
theorem dX9_odds_179 : decode cX9_odds 179 = .ok (.if_icmp .gt 8, 3) := by decide +kernel
theorem dX9_odds_182 : decode cX9_odds 182 = .ok (.lload 10, 2) := by decide +kernel
theorem dX9_odds_184 : decode cX9_odds 184 = .ok (.goto 4, 3) := by decide +kernel
theorem dX9_odds_187 : decode cX9_odds 187 = .ok (.lconst 0, 1) := by decide +kernel
theorem dX9_odds_188 : decode cX9_odds 188 = .ok (.ladd, 1) := by decide +kernel
theorem dX9_odds_189 : decode cX9_odds 189 = .ok (.lstore 5, 2) := by decide +kernel
theorem dX9_odds_191 : decode cX9_odds 191 = .ok (.aload_n 0, 1) := by decide +kernel
theorem dX9_odds_192 : decode cX9_odds 192 = .ok (.invokevirtual 161, 3) := by decide +kernel
theorem dX9_odds_195 : decode cX9_odds 195 = .ok (.iinc 9 1, 3) := by decide +kernel
theorem dX9_odds_198 : decode cX9_odds 198 = .ok (.goto (-108), 3) := by decide +kernel
theorem dX9_odds_201 : decode cX9_odds 201 = .ok (.lload 5, 2) := by decide +kernel
theorem dX9_odds_203 : decode cX9_odds 203 = .ok (.lstore 9, 2) := by decide +kernel
theorem dX9_odds_205 : decode cX9_odds 205 = .ok (.lload 7, 2) := by decide +kernel
theorem dX9_odds_207 : decode cX9_odds 207 = .ok (.lstore 11, 2) := by decide +kernel
theorem dX9_odds_209 : decode cX9_odds 209 = .ok (.lload 11, 2) := by decide +kernel
theorem dX9_odds_211 : decode cX9_odds 211 = .ok (.lconst 0, 1) := by decide +kernel
theorem dX9_odds_212 : decode cX9_odds 212 = .ok (.lcmp, 1) := by decide +kernel
theorem dX9_odds_213 : decode cX9_odds 213 = .ok (.ifCond .eq 21, 3) := by decide +kernel
theorem dX9_odds_216 : decode cX9_odds 216 = .ok (.lload 9, 2) := by decide +kernel
theorem dX9_odds_218 : decode cX9_odds 218 = .ok (.lload 11, 2) := by decide +kernel
theorem dX9_odds_220 : decode cX9_odds 220 = .ok (.lrem, 1) := by decide +kernel
theorem dX9_odds_221 : decode cX9_odds 221 = .ok (.lstore 13, 2) := by decide +kernel
theorem dX9_odds_223 : decode cX9_odds 223 = .ok (.lload 11, 2) := by decide +kernel
theorem dX9_odds_225 : decode cX9_odds 225 = .ok (.lstore 9, 2) := by decide +kernel
theorem dX9_odds_227 : decode cX9_odds 227 = .ok (.lload 13, 2) := by decide +kernel
theorem dX9_odds_229 : decode cX9_odds 229 = .ok (.lstore 11, 2) := by decide +kernel
theorem dX9_odds_231 : decode cX9_odds 231 = .ok (.goto (-22), 3) := by decide +kernel
theorem dX9_odds_234 : decode cX9_odds 234 = .ok (.iload_n 3, 1) := by decide +kernel
theorem dX9_odds_235 : decode cX9_odds 235 = .ok (.ifCond .ne 11, 3) := by decide +kernel
theorem dX9_odds_238 : decode cX9_odds 238 = .ok (.lload 5, 2) := by decide +kernel
theorem dX9_odds_240 : decode cX9_odds 240 = .ok (.lload 9, 2) := by decide +kernel
theorem dX9_odds_242 : decode cX9_odds 242 = .ok (.ldiv, 1) := by decide +kernel
theorem dX9_odds_243 : decode cX9_odds 243 = .ok (.goto 8, 3) := by decide +kernel
theorem dX9_odds_246 : decode cX9_odds 246 = .ok (.lload 7, 2) := by decide +kernel
theorem dX9_odds_248 : decode cX9_odds 248 = .ok (.lload 9, 2) := by decide +kernel
theorem dX9_odds_250 : decode cX9_odds 250 = .ok (.ldiv, 1) := by decide +kernel
theorem dX9_odds_251 : decode cX9_odds 251 = .ok (.lreturn, 1) := by decide +kernel
theorem dX9_book_0 : decode cX9_book 0 = .ok (.aload_n 0, 1) := by decide +kernel
theorem dX9_book_1 : decode cX9_book 1 = .ok (.iload_n 1, 1) := by decide +kernel
theorem dX9_book_2 : decode cX9_book 2 = .ok (.invokevirtual 106, 3) := by decide +kernel
theorem dX9_book_5 : decode cX9_book 5 = .ok (.ifCond .eq 24, 3) := by decide +kernel
theorem dX9_book_8 : decode cX9_book 8 = .ok (.iload_n 2, 1) := by decide +kernel
theorem dX9_book_9 : decode cX9_book 9 = .ok (.iconst 1, 1) := by decide +kernel
theorem dX9_book_10 : decode cX9_book 10 = .ok (.bipush 20, 2) := by decide +kernel
theorem dX9_book_12 : decode cX9_book 12 = .ok (.invokestatic 48, 3) := by decide +kernel
theorem dX9_book_15 : decode cX9_book 15 = .ok (.ifCond .eq 14, 3) := by decide +kernel
theorem dX9_book_18 : decode cX9_book 18 = .ok (.iload_n 3, 1) := by decide +kernel
theorem dX9_book_19 : decode cX9_book 19 = .ok (.iconst 1, 1) := by decide +kernel
theorem dX9_book_20 : decode cX9_book 20 = .ok (.sipush 999, 3) := by decide +kernel
theorem dX9_book_23 : decode cX9_book 23 = .ok (.invokestatic 48, 3) := by decide +kernel
theorem dX9_book_26 : decode cX9_book 26 = .ok (.ifCond .ne 5, 3) := by decide +kernel
theorem dX9_book_29 : decode cX9_book 29 = .ok (.iconst (-1), 1) := by decide +kernel
theorem dX9_book_30 : decode cX9_book 30 = .ok (.ireturn, 1) := by decide +kernel
theorem dX9_book_31 : decode cX9_book 31 = .ok (.aload_n 0, 1) := by decide +kernel
theorem dX9_book_32 : decode cX9_book 32 = .ok (.getfield 97, 3) := by decide +kernel
theorem dX9_book_35 : decode cX9_book 35 = .ok (.bipush 6, 2) := by decide +kernel
theorem dX9_book_37 : decode cX9_book 37 = .ok (.if_icmp .ne 6, 3) := by decide +kernel
theorem dX9_book_40 : decode cX9_book 40 = .ok (.bipush (-3), 2) := by decide +kernel
theorem dX9_book_42 : decode cX9_book 42 = .ok (.ireturn, 1) := by decide +kernel
theorem dX9_book_43 : decode cX9_book 43 = .ok (.aload_n 0, 1) := by decide +kernel
theorem dX9_book_44 : decode cX9_book 44 = .ok (.getfield 29, 3) := by decide +kernel
theorem dX9_book_47 : decode cX9_book 47 = .ok (.iconst 3, 1) := by decide +kernel
theorem dX9_book_48 : decode cX9_book 48 = .ok (.aload_n 0, 1) := by decide +kernel
theorem dX9_book_49 : decode cX9_book 49 = .ok (.getfield 97, 3) := by decide +kernel
theorem dX9_book_52 : decode cX9_book 52 = .ok (.imul, 1) := by decide +kernel
theorem dX9_book_53 : decode cX9_book 53 = .ok (.iload_n 1, 1) := by decide +kernel
theorem dX9_book_54 : decode cX9_book 54 = .ok (.iastore, 1) := by decide +kernel
theorem dX9_book_55 : decode cX9_book 55 = .ok (.aload_n 0, 1) := by decide +kernel
theorem dX9_book_56 : decode cX9_book 56 = .ok (.getfield 29, 3) := by decide +kernel
theorem dX9_book_59 : decode cX9_book 59 = .ok (.iconst 3, 1) := by decide +kernel
theorem dX9_book_60 : decode cX9_book 60 = .ok (.aload_n 0, 1) := by decide +kernel
theorem dX9_book_61 : decode cX9_book 61 = .ok (.getfield 97, 3) := by decide +kernel
theorem dX9_book_64 : decode cX9_book 64 = .ok (.imul, 1) := by decide +kernel
theorem dX9_book_65 : decode cX9_book 65 = .ok (.iconst 1, 1) := by decide +kernel
theorem dX9_book_66 : decode cX9_book 66 = .ok (.iadd, 1) := by decide +kernel
theorem dX9_book_67 : decode cX9_book 67 = .ok (.iload_n 2, 1) := by decide +kernel
theorem dX9_book_68 : decode cX9_book 68 = .ok (.iastore, 1) := by decide +kernel
theorem dX9_book_69 : decode cX9_book 69 = .ok (.aload_n 0, 1) := by decide +kernel
theorem dX9_book_70 : decode cX9_book 70 = .ok (.getfield 29, 3) := by decide +kernel
theorem dX9_book_73 : decode cX9_book 73 = .ok (.iconst 3, 1) := by decide +kernel
theorem dX9_book_74 : decode cX9_book 74 = .ok (.aload_n 0, 1) := by decide +kernel
theorem dX9_book_75 : decode cX9_book 75 = .ok (.getfield 97, 3) := by decide +kernel
theorem dX9_book_78 : decode cX9_book 78 = .ok (.imul, 1) := by decide +kernel
theorem dX9_book_79 : decode cX9_book 79 = .ok (.iconst 2, 1) := by decide +kernel
theorem dX9_book_80 : decode cX9_book 80 = .ok (.iadd, 1) := by decide +kernel
theorem dX9_book_81 : decode cX9_book 81 = .ok (.iload_n 3, 1) := by decide +kernel
theorem dX9_book_82 : decode cX9_book 82 = .ok (.iastore, 1) := by decide +kernel
theorem dX9_book_83 : decode cX9_book 83 = .ok (.aload_n 0, 1) := by decide +kernel
theorem dX9_book_84 : decode cX9_book 84 = .ok (.dup, 1) := by decide +kernel
theorem dX9_book_85 : decode cX9_book 85 = .ok (.getfield 97, 3) := by decide +kernel
theorem dX9_book_88 : decode cX9_book 88 = .ok (.iconst 1, 1) := by decide +kernel
theorem dX9_book_89 : decode cX9_book 89 = .ok (.iadd, 1) := by decide +kernel
theorem dX9_book_90 : decode cX9_book 90 = .ok (.putfield 97, 3) := by decide +kernel
theorem dX9_book_93 : decode cX9_book 93 = .ok (.aload_n 0, 1) := by decide +kernel
theorem dX9_book_94 : decode cX9_book 94 = .ok (.getfield 97, 3) := by decide +kernel
theorem dX9_book_97 : decode cX9_book 97 = .ok (.ireturn, 1) := by decide +kernel
theorem dX9_burn_0 : decode cX9_burn 0 = .ok (.aload_n 0, 1) := by decide +kernel
theorem dX9_burn_1 : decode cX9_burn 1 = .ok (.getfield 97, 3) := by decide +kernel
theorem dX9_burn_4 : decode cX9_burn 4 = .ok (.istore_n 1, 1) := by decide +kernel
theorem dX9_burn_5 : decode cX9_burn 5 = .ok (.aload_n 0, 1) := by decide +kernel
theorem dX9_burn_6 : decode cX9_burn 6 = .ok (.iconst 0, 1) := by decide +kernel
theorem dX9_burn_7 : decode cX9_burn 7 = .ok (.putfield 97, 3) := by decide +kernel
theorem dX9_burn_10 : decode cX9_burn 10 = .ok (.iload_n 1, 1) := by decide +kernel
theorem dX9_burn_11 : decode cX9_burn 11 = .ok (.ireturn, 1) := by decide +kernel
theorem dX9_isSo_0 : decode cX9_isSo 0 = .ok (.iconst 1, 1) := by decide +kernel
theorem dX9_isSo_1 : decode cX9_isSo 1 = .ok (.istore_n 1, 1) := by decide +kernel
theorem dX9_isSo_2 : decode cX9_isSo 2 = .ok (.iconst 0, 1) := by decide +kernel
theorem dX9_isSo_3 : decode cX9_isSo 3 = .ok (.istore_n 2, 1) := by decide +kernel
theorem dX9_isSo_4 : decode cX9_isSo 4 = .ok (.iload_n 2, 1) := by decide +kernel
theorem dX9_isSo_5 : decode cX9_isSo 5 = .ok (.aload_n 0, 1) := by decide +kernel
theorem dX9_isSo_6 : decode cX9_isSo 6 = .ok (.getfield 97, 3) := by decide +kernel
theorem dX9_isSo_9 : decode cX9_isSo 9 = .ok (.if_icmp .ge 64, 3) := by decide +kernel
theorem dX9_isSo_12 : decode cX9_isSo 12 = .ok (.aload_n 0, 1) := by decide +kernel
theorem dX9_isSo_13 : decode cX9_isSo 13 = .ok (.getfield 29, 3) := by decide +kernel
theorem dX9_isSo_16 : decode cX9_isSo 16 = .ok (.iconst 3, 1) := by decide +kernel
theorem dX9_isSo_17 : decode cX9_isSo 17 = .ok (.iload_n 2, 1) := by decide +kernel
theorem dX9_isSo_18 : decode cX9_isSo 18 = .ok (.imul, 1) := by decide +kernel
theorem dX9_isSo_19 : decode cX9_isSo 19 = .ok (.iaload, 1) := by decide +kernel
theorem dX9_isSo_20 : decode cX9_isSo 20 = .ok (.istore_n 3, 1) := by decide +kernel
theorem dX9_isSo_21 : decode cX9_isSo 21 = .ok (.iload_n 1, 1) := by decide +kernel
theorem dX9_isSo_22 : decode cX9_isSo 22 = .ok (.ifCond .eq 43, 3) := by decide +kernel
theorem dX9_isSo_25 : decode cX9_isSo 25 = .ok (.aload_n 0, 1) := by decide +kernel
theorem dX9_isSo_26 : decode cX9_isSo 26 = .ok (.getfield 29, 3) := by decide +kernel
theorem dX9_isSo_29 : decode cX9_isSo 29 = .ok (.iconst 3, 1) := by decide +kernel
theorem dX9_isSo_30 : decode cX9_isSo 30 = .ok (.iload_n 2, 1) := by decide +kernel
theorem dX9_isSo_31 : decode cX9_isSo 31 = .ok (.imul, 1) := by decide +kernel
theorem dX9_isSo_32 : decode cX9_isSo 32 = .ok (.iconst 1, 1) := by decide +kernel
theorem dX9_isSo_33 : decode cX9_isSo 33 = .ok (.iadd, 1) := by decide +kernel
theorem dX9_isSo_34 : decode cX9_isSo 34 = .ok (.iaload, 1) := by decide +kernel
theorem dX9_isSo_35 : decode cX9_isSo 35 = .ok (.aload_n 0, 1) := by decide +kernel
theorem dX9_isSo_36 : decode cX9_isSo 36 = .ok (.iload_n 3, 1) := by decide +kernel
theorem dX9_isSo_37 : decode cX9_isSo 37 = .ok (.aload_n 0, 1) := by decide +kernel
theorem dX9_isSo_38 : decode cX9_isSo 38 = .ok (.iload_n 3, 1) := by decide +kernel
theorem dX9_isSo_39 : decode cX9_isSo 39 = .ok (.invokevirtual 109, 3) := by decide +kernel
theorem dX9_isSo_42 : decode cX9_isSo 42 = .ok (.invokevirtual 112, 3) := by decide +kernel
theorem dX9_isSo_45 : decode cX9_isSo 45 = .ok (.invokestatic 125, 3) := by decide +kernel
theorem dX9_isSo_48 : decode cX9_isSo 48 = .ok (.aload_n 0, 1) := by decide +kernel
theorem dX9_isSo_49 : decode cX9_isSo 49 = .ok (.getfield 29, 3) := by decide +kernel
theorem dX9_isSo_52 : decode cX9_isSo 52 = .ok (.iconst 3, 1) := by decide +kernel
theorem dX9_isSo_53 : decode cX9_isSo 53 = .ok (.iload_n 2, 1) := by decide +kernel
theorem dX9_isSo_54 : decode cX9_isSo 54 = .ok (.imul, 1) := by decide +kernel
theorem dX9_isSo_55 : decode cX9_isSo 55 = .ok (.iconst 2, 1) := by decide +kernel
theorem dX9_isSo_56 : decode cX9_isSo 56 = .ok (.iadd, 1) := by decide +kernel
theorem dX9_isSo_57 : decode cX9_isSo 57 = .ok (.iaload, 1) := by decide +kernel
theorem dX9_isSo_58 : decode cX9_isSo 58 = .ok (.if_icmp .ne 7, 3) := by decide +kernel
theorem dX9_isSo_61 : decode cX9_isSo 61 = .ok (.iconst 1, 1) := by decide +kernel
theorem dX9_isSo_62 : decode cX9_isSo 62 = .ok (.goto 4, 3) := by decide +kernel
theorem dX9_isSo_65 : decode cX9_isSo 65 = .ok (.iconst 0, 1) := by decide +kernel
theorem dX9_isSo_66 : decode cX9_isSo 66 = .ok (.istore_n 1, 1) := by decide +kernel
theorem dX9_isSo_67 : decode cX9_isSo 67 = .ok (.iinc 2 1, 3) := by decide +kernel
theorem dX9_isSo_70 : decode cX9_isSo 70 = .ok (.goto (-66), 3) := by decide +kernel
theorem dX9_isSo_73 : decode cX9_isSo 73 = .ok (.iload_n 1, 1) := by decide +kernel
theorem dX9_isSo_74 : decode cX9_isSo 74 = .ok (.ireturn, 1) := by decide +kernel
theorem dX9_sacks_0 : decode cX9_sacks 0 = .ok (.iload_n 1, 1) := by decide +kernel
theorem dX9_sacks_1 : decode cX9_sacks 1 = .ok (.iconst 0, 1) := by decide +kernel
theorem dX9_sacks_2 : decode cX9_sacks 2 = .ok (.iconst 1, 1) := by decide +kernel
theorem dX9_sacks_3 : decode cX9_sacks 3 = .ok (.invokestatic 48, 3) := by decide +kernel
theorem dX9_sacks_6 : decode cX9_sacks 6 = .ok (.ifCond .ne 5, 3) := by decide +kernel
theorem dX9_sacks_9 : decode cX9_sacks 9 = .ok (.iconst (-1), 1) := by decide +kernel
theorem dX9_sacks_10 : decode cX9_sacks 10 = .ok (.ireturn, 1) := by decide +kernel
theorem dX9_sacks_11 : decode cX9_sacks 11 = .ok (.iconst 0, 1) := by decide +kernel
theorem dX9_sacks_12 : decode cX9_sacks 12 = .ok (.istore_n 2, 1) := by decide +kernel
theorem dX9_sacks_13 : decode cX9_sacks 13 = .ok (.bipush (-9), 2) := by decide +kernel
theorem dX9_sacks_15 : decode cX9_sacks 15 = .ok (.istore_n 3, 1) := by decide +kernel
theorem dX9_sacks_16 : decode cX9_sacks 16 = .ok (.aload_n 0, 1) := by decide +kernel
theorem dX9_sacks_17 : decode cX9_sacks 17 = .ok (.getfield 13, 3) := by decide +kernel
theorem dX9_sacks_20 : decode cX9_sacks 20 = .ok (.iconst 1, 1) := by decide +kernel
theorem dX9_sacks_21 : decode cX9_sacks 21 = .ok (.iaload, 1) := by decide +kernel
theorem dX9_sacks_22 : decode cX9_sacks 22 = .ok (.iconst 1, 1) := by decide +kernel
theorem dX9_sacks_23 : decode cX9_sacks 23 = .ok (.isub, 1) := by decide +kernel
theorem dX9_sacks_24 : decode cX9_sacks 24 = .ok (.istore 4, 2) := by decide +kernel
theorem dX9_sacks_26 : decode cX9_sacks 26 = .ok (.iload 4, 2) := by decide +kernel
theorem dX9_sacks_28 : decode cX9_sacks 28 = .ok (.ifCond .lt 117, 3) := by decide +kernel
theorem dX9_sacks_31 : decode cX9_sacks 31 = .ok (.aload_n 0, 1) := by decide +kernel
theorem dX9_sacks_32 : decode cX9_sacks 32 = .ok (.getfield 19, 3) := by decide +kernel
theorem dX9_sacks_35 : decode cX9_sacks 35 = .ok (.bipush 8, 2) := by decide +kernel
theorem dX9_sacks_37 : decode cX9_sacks 37 = .ok (.iload 4, 2) := by decide +kernel
theorem dX9_sacks_39 : decode cX9_sacks 39 = .ok (.iadd, 1) := by decide +kernel
theorem dX9_sacks_40 : decode cX9_sacks 40 = .ok (.iaload, 1) := by decide +kernel
theorem dX9_sacks_41 : decode cX9_sacks 41 = .ok (.istore 5, 2) := by decide +kernel
theorem dX9_sacks_43 : decode cX9_sacks 43 = .ok (.aload_n 0, 1) := by decide +kernel
theorem dX9_sacks_44 : decode cX9_sacks 44 = .ok (.getfield 13, 3) := by decide +kernel
theorem dX9_sacks_47 : decode cX9_sacks 47 = .ok (.iconst 0, 1) := by decide +kernel
theorem dX9_sacks_48 : decode cX9_sacks 48 = .ok (.iaload, 1) := by decide +kernel
theorem dX9_sacks_49 : decode cX9_sacks 49 = .ok (.iconst 1, 1) := by decide +kernel
theorem dX9_sacks_50 : decode cX9_sacks 50 = .ok (.isub, 1) := by decide +kernel
theorem dX9_sacks_51 : decode cX9_sacks 51 = .ok (.istore 6, 2) := by decide +kernel
theorem dX9_sacks_53 : decode cX9_sacks 53 = .ok (.iload 6, 2) := by decide +kernel
theorem dX9_sacks_55 : decode cX9_sacks 55 = .ok (.ifCond .lt 72, 3) := by decide +kernel
theorem dX9_sacks_58 : decode cX9_sacks 58 = .ok (.iload 5, 2) := by decide +kernel
theorem dX9_sacks_60 : decode cX9_sacks 60 = .ok (.bipush 9, 2) := by decide +kernel
theorem dX9_sacks_62 : decode cX9_sacks 62 = .ok (.if_icmp .eq 59, 3) := by decide +kernel
theorem dX9_sacks_65 : decode cX9_sacks 65 = .ok (.iload 5, 2) := by decide +kernel
theorem dX9_sacks_67 : decode cX9_sacks 67 = .ok (.iload 6, 2) := by decide +kernel
theorem dX9_sacks_69 : decode cX9_sacks 69 = .ok (.if_icmp .eq 52, 3) := by decide +kernel
theorem dX9_sacks_72 : decode cX9_sacks 72 = .ok (.aload_n 0, 1) := by decide +kernel
theorem dX9_sacks_73 : decode cX9_sacks 73 = .ok (.getfield 19, 3) := by decide +kernel
theorem dX9_sacks_76 : decode cX9_sacks 76 = .ok (.bipush 8, 2) := by decide +kernel
theorem dX9_sacks_78 : decode cX9_sacks 78 = .ok (.iload 4, 2) := by decide +kernel
theorem dX9_sacks_80 : decode cX9_sacks 80 = .ok (.iadd, 1) := by decide +kernel
theorem dX9_sacks_81 : decode cX9_sacks 81 = .ok (.iload 6, 2) := by decide +kernel
theorem dX9_sacks_83 : decode cX9_sacks 83 = .ok (.iastore, 1) := by decide +kernel
theorem dX9_sacks_84 : decode cX9_sacks 84 = .ok (.aload_n 0, 1) := by decide +kernel
theorem dX9_sacks_85 : decode cX9_sacks 85 = .ok (.invokevirtual 176, 3) := by decide +kernel
theorem dX9_sacks_88 : decode cX9_sacks 88 = .ok (.istore 7, 2) := by decide +kernel
theorem dX9_sacks_90 : decode cX9_sacks 90 = .ok (.iload_n 2, 1) := by decide +kernel
theorem dX9_sacks_91 : decode cX9_sacks 91 = .ok (.iload 7, 2) := by decide +kernel
theorem dX9_sacks_93 : decode cX9_sacks 93 = .ok (.ifCond .eq 7, 3) := by decide +kernel
theorem dX9_sacks_96 : decode cX9_sacks 96 = .ok (.iconst 1, 1) := by decide +kernel
theorem dX9_sacks_97 : decode cX9_sacks 97 = .ok (.goto 4, 3) := by decide +kernel
theorem dX9_sacks_100 : decode cX9_sacks 100 = .ok (.iconst 0, 1) := by decide +kernel
theorem dX9_sacks_101 : decode cX9_sacks 101 = .ok (.iadd, 1) := by decide +kernel
theorem dX9_sacks_102 : decode cX9_sacks 102 = .ok (.istore_n 2, 1) := by decide +kernel
theorem dX9_sacks_103 : decode cX9_sacks 103 = .ok (.iload 7, 2) := by decide +kernel
theorem dX9_sacks_105 : decode cX9_sacks 105 = .ok (.ifCond .eq 14, 3) := by decide +kernel
theorem dX9_sacks_108 : decode cX9_sacks 108 = .ok (.bipush 10, 2) := by decide +kernel
theorem dX9_sacks_110 : decode cX9_sacks 110 = .ok (.iload 4, 2) := by decide +kernel
theorem dX9_sacks_112 : decode cX9_sacks 112 = .ok (.imul, 1) := by decide +kernel
theorem dX9_sacks_113 : decode cX9_sacks 113 = .ok (.iload 6, 2) := by decide +kernel
theorem dX9_sacks_115 : decode cX9_sacks 115 = .ok (.iadd, 1) := by decide +kernel
theorem dX9_sacks_116 : decode cX9_sacks 116 = .ok (.goto 4, 3) := by decide +kernel
theorem dX9_sacks_119 : decode cX9_sacks 119 = .ok (.iload_n 3, 1) := by decide +kernel
theorem dX9_sacks_120 : decode cX9_sacks 120 = .ok (.istore_n 3, 1) := by decide +kernel
theorem dX9_sacks_121 : decode cX9_sacks 121 = .ok (.iinc 6 (-1), 3) := by decide +kernel
theorem dX9_sacks_124 : decode cX9_sacks 124 = .ok (.goto (-71), 3) := by decide +kernel
theorem dX9_sacks_127 : decode cX9_sacks 127 = .ok (.aload_n 0, 1) := by decide +kernel
theorem dX9_sacks_128 : decode cX9_sacks 128 = .ok (.getfield 19, 3) := by decide +kernel
theorem dX9_sacks_131 : decode cX9_sacks 131 = .ok (.bipush 8, 2) := by decide +kernel
theorem dX9_sacks_133 : decode cX9_sacks 133 = .ok (.iload 4, 2) := by decide +kernel
theorem dX9_sacks_135 : decode cX9_sacks 135 = .ok (.iadd, 1) := by decide +kernel
theorem dX9_sacks_136 : decode cX9_sacks 136 = .ok (.iload 5, 2) := by decide +kernel
theorem dX9_sacks_138 : decode cX9_sacks 138 = .ok (.iastore, 1) := by decide +kernel
theorem dX9_sacks_139 : decode cX9_sacks 139 = .ok (.iinc 4 (-1), 3) := by decide +kernel
theorem dX9_sacks_142 : decode cX9_sacks 142 = .ok (.goto (-116), 3) := by decide +kernel
theorem dX9_sacks_145 : decode cX9_sacks 145 = .ok (.iload_n 1, 1) := by decide +kernel
theorem dX9_sacks_146 : decode cX9_sacks 146 = .ok (.ifCond .ne 7, 3) := by decide +kernel
theorem dX9_sacks_149 : decode cX9_sacks 149 = .ok (.iload_n 2, 1) := by decide +kernel
theorem dX9_sacks_150 : decode cX9_sacks 150 = .ok (.goto 4, 3) := by decide +kernel
theorem dX9_sacks_153 : decode cX9_sacks 153 = .ok (.iload_n 3, 1) := by decide +kernel
theorem dX9_sacks_154 : decode cX9_sacks 154 = .ok (.ireturn, 1) := by decide +kernel
theorem dX9_mark_0 : decode cX9_mark 0 = .ok (.iload_n 1, 1) := by decide +kernel
theorem dX9_mark_1 : decode cX9_mark 1 = .ok (.iconst 0, 1) := by decide +kernel
theorem dX9_mark_2 : decode cX9_mark 2 = .ok (.iconst 5, 1) := by decide +kernel
theorem dX9_mark_3 : decode cX9_mark 3 = .ok (.invokestatic 48, 3) := by decide +kernel
theorem dX9_mark_6 : decode cX9_mark 6 = .ok (.ifCond .eq 11, 3) := by decide +kernel
theorem dX9_mark_9 : decode cX9_mark 9 = .ok (.aload_n 0, 1) := by decide +kernel
theorem dX9_mark_10 : decode cX9_mark 10 = .ok (.iload_n 2, 1) := by decide +kernel
theorem dX9_mark_11 : decode cX9_mark 11 = .ok (.invokevirtual 116, 3) := by decide +kernel
theorem dX9_mark_14 : decode cX9_mark 14 = .ok (.ifCond .ne 6, 3) := by decide +kernel
theorem dX9_mark_17 : decode cX9_mark 17 = .ok (.ldc 179, 2) := by decide +kernel
theorem dX9_mark_19 : decode cX9_mark 19 = .ok (.ireturn, 1) := by decide +kernel
theorem dX9_mark_20 : decode cX9_mark 20 = .ok (.aload_n 0, 1) := by decide +kernel
theorem dX9_mark_21 : decode cX9_mark 21 = .ok (.dup, 1) := by decide +kernel
theorem dX9_mark_22 : decode cX9_mark 22 = .ok (.getfield 180, 3) := by decide +kernel
theorem dX9_mark_25 : decode cX9_mark 25 = .ok (.iload_n 1, 1) := by decide +kernel
theorem dX9_mark_26 : decode cX9_mark 26 = .ok (.ifCond .ne 7, 3) := by decide +kernel
theorem dX9_mark_29 : decode cX9_mark 29 = .ok (.lconst 1, 1) := by decide +kernel
theorem dX9_mark_30 : decode cX9_mark 30 = .ok (.goto 50, 3) := by decide +kernel
theorem dX9_mark_33 : decode cX9_mark 33 = .ok (.iload_n 1, 1) := by decide +kernel
theorem dX9_mark_34 : decode cX9_mark 34 = .ok (.iconst 1, 1) := by decide +kernel
theorem dX9_mark_35 : decode cX9_mark 35 = .ok (.if_icmp .ne 9, 3) := by decide +kernel
theorem dX9_mark_38 : decode cX9_mark 38 = .ok (.ldc2_w 184, 3) := by decide +kernel
theorem dX9_mark_41 : decode cX9_mark 41 = .ok (.goto 39, 3) := by decide +kernel
theorem dX9_mark_44 : decode cX9_mark 44 = .ok (.iload_n 1, 1) := by decide +kernel
theorem dX9_mark_45 : decode cX9_mark 45 = .ok (.iconst 2, 1) := by decide +kernel
theorem dX9_mark_46 : decode cX9_mark 46 = .ok (.if_icmp .ne 9, 3) := by decide +kernel
theorem dX9_mark_49 : decode cX9_mark 49 = .ok (.ldc2_w 186, 3) := by decide +kernel
theorem dX9_mark_52 : decode cX9_mark 52 = .ok (.goto 28, 3) := by decide +kernel
theorem dX9_mark_55 : decode cX9_mark 55 = .ok (.iload_n 1, 1) := by decide +kernel
theorem dX9_mark_56 : decode cX9_mark 56 = .ok (.iconst 3, 1) := by decide +kernel
theorem dX9_mark_57 : decode cX9_mark 57 = .ok (.if_icmp .ne 9, 3) := by decide +kernel
theorem dX9_mark_60 : decode cX9_mark 60 = .ok (.ldc2_w 188, 3) := by decide +kernel
theorem dX9_mark_63 : decode cX9_mark 63 = .ok (.goto 17, 3) := by decide +kernel
theorem dX9_mark_66 : decode cX9_mark 66 = .ok (.iload_n 1, 1) := by decide +kernel
theorem dX9_mark_67 : decode cX9_mark 67 = .ok (.iconst 4, 1) := by decide +kernel
theorem dX9_mark_68 : decode cX9_mark 68 = .ok (.if_icmp .ne 9, 3) := by decide +kernel
theorem dX9_mark_71 : decode cX9_mark 71 = .ok (.ldc2_w 190, 3) := by decide +kernel
theorem dX9_mark_74 : decode cX9_mark 74 = .ok (.goto 6, 3) := by decide +kernel
theorem dX9_mark_77 : decode cX9_mark 77 = .ok (.ldc2_w 192, 3) := by decide +kernel
theorem dX9_mark_80 : decode cX9_mark 80 = .ok (.ladd, 1) := by decide +kernel
theorem dX9_mark_81 : decode cX9_mark 81 = .ok (.putfield 180, 3) := by decide +kernel
theorem dX9_mark_84 : decode cX9_mark 84 = .ok (.aload_n 0, 1) := by decide +kernel
theorem dX9_mark_85 : decode cX9_mark 85 = .ok (.iload_n 2, 1) := by decide +kernel
theorem dX9_mark_86 : decode cX9_mark 86 = .ok (.invokevirtual 100, 3) := by decide +kernel
theorem dX9_mark_89 : decode cX9_mark 89 = .ok (.istore_n 3, 1) := by decide +kernel
theorem dX9_mark_90 : decode cX9_mark 90 = .ok (.iload_n 3, 1) := by decide +kernel
theorem dX9_mark_91 : decode cX9_mark 91 = .ok (.aload_n 0, 1) := by decide +kernel
theorem dX9_mark_92 : decode cX9_mark 92 = .ok (.getfield 13, 3) := by decide +kernel
theorem dX9_mark_95 : decode cX9_mark 95 = .ok (.bipush 19, 2) := by decide +kernel
theorem dX9_mark_97 : decode cX9_mark 97 = .ok (.iload_n 2, 1) := by decide +kernel
theorem dX9_mark_98 : decode cX9_mark 98 = .ok (.iadd, 1) := by decide +kernel
theorem dX9_mark_99 : decode cX9_mark 99 = .ok (.iaload, 1) := by decide +kernel
theorem dX9_mark_100 : decode cX9_mark 100 = .ok (.iadd, 1) := by decide +kernel
theorem dX9_mark_101 : decode cX9_mark 101 = .ok (.istore 4, 2) := by decide +kernel
theorem dX9_mark_103 : decode cX9_mark 103 = .ok (.iload_n 3, 1) := by decide +kernel
theorem dX9_mark_104 : decode cX9_mark 104 = .ok (.aload_n 0, 1) := by decide +kernel
theorem dX9_mark_105 : decode cX9_mark 105 = .ok (.getfield 13, 3) := by decide +kernel
theorem dX9_mark_108 : decode cX9_mark 108 = .ok (.bipush 12, 2) := by decide +kernel
theorem dX9_mark_110 : decode cX9_mark 110 = .ok (.iload_n 2, 1) := by decide +kernel
theorem dX9_mark_111 : decode cX9_mark 111 = .ok (.iadd, 1) := by decide +kernel
theorem dX9_mark_112 : decode cX9_mark 112 = .ok (.iaload, 1) := by decide +kernel
theorem dX9_mark_113 : decode cX9_mark 113 = .ok (.isub, 1) := by decide +kernel
theorem dX9_mark_114 : decode cX9_mark 114 = .ok (.istore 5, 2) := by decide +kernel
theorem dX9_mark_116 : decode cX9_mark 116 = .ok (.iload_n 1, 1) := by decide +kernel
theorem dX9_mark_117 : decode cX9_mark 117 = .ok (.ifCond .ne 7, 3) := by decide +kernel
theorem dX9_mark_120 : decode cX9_mark 120 = .ok (.iload_n 3, 1) := by decide +kernel
theorem dX9_mark_121 : decode cX9_mark 121 = .ok (.goto 60, 3) := by decide +kernel
theorem dX9_mark_124 : decode cX9_mark 124 = .ok (.iload_n 1, 1) := by decide +kernel
theorem dX9_mark_125 : decode cX9_mark 125 = .ok (.iconst 1, 1) := by decide +kernel
theorem dX9_mark_126 : decode cX9_mark 126 = .ok (.if_icmp .ne 8, 3) := by decide +kernel
theorem dX9_mark_129 : decode cX9_mark 129 = .ok (.iload 4, 2) := by decide +kernel
theorem dX9_mark_131 : decode cX9_mark 131 = .ok (.goto 50, 3) := by decide +kernel
theorem dX9_mark_134 : decode cX9_mark 134 = .ok (.iload_n 1, 1) := by decide +kernel
theorem dX9_mark_135 : decode cX9_mark 135 = .ok (.iconst 2, 1) := by decide +kernel
theorem dX9_mark_136 : decode cX9_mark 136 = .ok (.if_icmp .ne 8, 3) := by decide +kernel
theorem dX9_mark_139 : decode cX9_mark 139 = .ok (.iload 5, 2) := by decide +kernel
theorem dX9_mark_141 : decode cX9_mark 141 = .ok (.goto 40, 3) := by decide +kernel
theorem dX9_mark_144 : decode cX9_mark 144 = .ok (.iload_n 1, 1) := by decide +kernel
theorem dX9_mark_145 : decode cX9_mark 145 = .ok (.iconst 3, 1) := by decide +kernel
theorem dX9_mark_146 : decode cX9_mark 146 = .ok (.if_icmp .ne 10, 3) := by decide +kernel
theorem dX9_mark_149 : decode cX9_mark 149 = .ok (.iconst 2, 1) := by decide +kernel
theorem dX9_mark_150 : decode cX9_mark 150 = .ok (.iload 4, 2) := by decide +kernel
theorem dX9_mark_152 : decode cX9_mark 152 = .ok (.imul, 1) := by decide +kernel
theorem dX9_mark_153 : decode cX9_mark 153 = .ok (.goto 28, 3) := by decide +kernel
theorem dX9_mark_156 : decode cX9_mark 156 = .ok (.iload_n 1, 1) := by decide +kernel
theorem dX9_mark_157 : decode cX9_mark 157 = .ok (.iconst 4, 1) := by decide +kernel
theorem dX9_mark_158 : decode cX9_mark 158 = .ok (.if_icmp .ne 15, 3) := by decide +kernel
theorem dX9_mark_161 : decode cX9_mark 161 = .ok (.iload 5, 2) := by decide +kernel
theorem dX9_mark_163 : decode cX9_mark 163 = .ok (.aload_n 0, 1) := by decide +kernel
theorem dX9_mark_164 : decode cX9_mark 164 = .ok (.getfield 19, 3) := by decide +kernel
theorem dX9_mark_167 : decode cX9_mark 167 = .ok (.iconst 0, 1) := by decide +kernel
theorem dX9_mark_168 : decode cX9_mark 168 = .ok (.iaload, 1) := by decide +kernel
theorem dX9_mark_169 : decode cX9_mark 169 = .ok (.iadd, 1) := by decide +kernel
theorem dX9_mark_170 : decode cX9_mark 170 = .ok (.goto 11, 3) := by decide +kernel
theorem dX9_mark_173 : decode cX9_mark 173 = .ok (.iload_n 3, 1) := by decide +kernel
theorem dX9_mark_174 : decode cX9_mark 174 = .ok (.aload_n 0, 1) := by decide +kernel
theorem dX9_mark_175 : decode cX9_mark 175 = .ok (.getfield 19, 3) := by decide +kernel
theorem dX9_mark_178 : decode cX9_mark 178 = .ok (.iconst 3, 1) := by decide +kernel
theorem dX9_mark_179 : decode cX9_mark 179 = .ok (.iaload, 1) := by decide +kernel
theorem dX9_mark_180 : decode cX9_mark 180 = .ok (.iadd, 1) := by decide +kernel
theorem dX9_mark_181 : decode cX9_mark 181 = .ok (.ireturn, 1) := by decide +kernel
theorem dX9_keep_0 : decode cX9_keep 0 = .ok (.iload_n 1, 1) := by decide +kernel
theorem dX9_keep_1 : decode cX9_keep 1 = .ok (.iconst 0, 1) := by decide +kernel
theorem dX9_keep_2 : decode cX9_keep 2 = .ok (.iconst 1, 1) := by decide +kernel
theorem dX9_keep_3 : decode cX9_keep 3 = .ok (.invokestatic 48, 3) := by decide +kernel
theorem dX9_keep_6 : decode cX9_keep 6 = .ok (.ifCond .ne 5, 3) := by decide +kernel
theorem dX9_keep_9 : decode cX9_keep 9 = .ok (.iconst (-1), 1) := by decide +kernel
theorem dX9_keep_10 : decode cX9_keep 10 = .ok (.ireturn, 1) := by decide +kernel
theorem dX9_keep_11 : decode cX9_keep 11 = .ok (.iconst 0, 1) := by decide +kernel
theorem dX9_keep_12 : decode cX9_keep 12 = .ok (.istore_n 2, 1) := by decide +kernel
theorem dX9_keep_13 : decode cX9_keep 13 = .ok (.iload_n 2, 1) := by decide +kernel
theorem dX9_keep_14 : decode cX9_keep 14 = .ok (.sipush 320, 3) := by decide +kernel
theorem dX9_keep_17 : decode cX9_keep 17 = .ok (.if_icmp .ge 27, 3) := by decide +kernel
theorem dX9_keep_20 : decode cX9_keep 20 = .ok (.aload_n 0, 1) := by decide +kernel
theorem dX9_keep_21 : decode cX9_keep 21 = .ok (.getfield 22, 3) := by decide +kernel
theorem dX9_keep_24 : decode cX9_keep 24 = .ok (.sipush 320, 3) := by decide +kernel
theorem dX9_keep_27 : decode cX9_keep 27 = .ok (.iload_n 1, 1) := by decide +kernel
theorem dX9_keep_28 : decode cX9_keep 28 = .ok (.imul, 1) := by decide +kernel
theorem dX9_keep_29 : decode cX9_keep 29 = .ok (.iload_n 2, 1) := by decide +kernel
theorem dX9_keep_30 : decode cX9_keep 30 = .ok (.iadd, 1) := by decide +kernel
theorem dX9_keep_31 : decode cX9_keep 31 = .ok (.aload_n 0, 1) := by decide +kernel
theorem dX9_keep_32 : decode cX9_keep 32 = .ok (.getfield 19, 3) := by decide +kernel
theorem dX9_keep_35 : decode cX9_keep 35 = .ok (.iload_n 2, 1) := by decide +kernel
theorem dX9_keep_36 : decode cX9_keep 36 = .ok (.iaload, 1) := by decide +kernel
theorem dX9_keep_37 : decode cX9_keep 37 = .ok (.iastore, 1) := by decide +kernel
theorem dX9_keep_38 : decode cX9_keep 38 = .ok (.iinc 2 1, 3) := by decide +kernel
theorem dX9_keep_41 : decode cX9_keep 41 = .ok (.goto (-28), 3) := by decide +kernel
theorem dX9_keep_44 : decode cX9_keep 44 = .ok (.aload_n 0, 1) := by decide +kernel
theorem dX9_keep_45 : decode cX9_keep 45 = .ok (.getfield 25, 3) := by decide +kernel
theorem dX9_keep_48 : decode cX9_keep 48 = .ok (.iload_n 1, 1) := by decide +kernel
theorem dX9_keep_49 : decode cX9_keep 49 = .ok (.iconst 1, 1) := by decide +kernel
theorem dX9_keep_50 : decode cX9_keep 50 = .ok (.bastore, 1) := by decide +kernel
theorem dX9_keep_51 : decode cX9_keep 51 = .ok (.aload_n 0, 1) := by decide +kernel
theorem dX9_keep_52 : decode cX9_keep 52 = .ok (.getfield 19, 3) := by decide +kernel
theorem dX9_keep_55 : decode cX9_keep 55 = .ok (.iconst 0, 1) := by decide +kernel
theorem dX9_keep_56 : decode cX9_keep 56 = .ok (.iaload, 1) := by decide +kernel
theorem dX9_keep_57 : decode cX9_keep 57 = .ok (.ireturn, 1) := by decide +kernel
theorem dX9_back_0 : decode cX9_back 0 = .ok (.iload_n 1, 1) := by decide +kernel
theorem dX9_back_1 : decode cX9_back 1 = .ok (.iconst 0, 1) := by decide +kernel
theorem dX9_back_2 : decode cX9_back 2 = .ok (.iconst 1, 1) := by decide +kernel
theorem dX9_back_3 : decode cX9_back 3 = .ok (.invokestatic 48, 3) := by decide +kernel
theorem dX9_back_6 : decode cX9_back 6 = .ok (.ifCond .ne 5, 3) := by decide +kernel
theorem dX9_back_9 : decode cX9_back 9 = .ok (.iconst (-1), 1) := by decide +kernel
theorem dX9_back_10 : decode cX9_back 10 = .ok (.ireturn, 1) := by decide +kernel
theorem dX9_back_11 : decode cX9_back 11 = .ok (.aload_n 0, 1) := by decide +kernel
theorem dX9_back_12 : decode cX9_back 12 = .ok (.getfield 25, 3) := by decide +kernel
theorem dX9_back_15 : decode cX9_back 15 = .ok (.iload_n 1, 1) := by decide +kernel
theorem dX9_back_16 : decode cX9_back 16 = .ok (.baload, 1) := by decide +kernel
theorem dX9_back_17 : decode cX9_back 17 = .ok (.ifCond .ne 6, 3) := by decide +kernel
theorem dX9_back_20 : decode cX9_back 20 = .ok (.bipush (-2), 2) := by decide +kernel
theorem dX9_back_22 : decode cX9_back 22 = .ok (.ireturn, 1) := by decide +kernel
theorem dX9_back_23 : decode cX9_back 23 = .ok (.iconst 0, 1) := by decide +kernel
theorem dX9_back_24 : decode cX9_back 24 = .ok (.istore_n 2, 1) := by decide +kernel
theorem dX9_back_25 : decode cX9_back 25 = .ok (.iload_n 2, 1) := by decide +kernel
theorem dX9_back_26 : decode cX9_back 26 = .ok (.sipush 320, 3) := by decide +kernel
theorem dX9_back_29 : decode cX9_back 29 = .ok (.if_icmp .ge 27, 3) := by decide +kernel
theorem dX9_back_32 : decode cX9_back 32 = .ok (.aload_n 0, 1) := by decide +kernel
theorem dX9_back_33 : decode cX9_back 33 = .ok (.getfield 19, 3) := by decide +kernel
theorem dX9_back_36 : decode cX9_back 36 = .ok (.iload_n 2, 1) := by decide +kernel
theorem dX9_back_37 : decode cX9_back 37 = .ok (.aload_n 0, 1) := by decide +kernel
theorem dX9_back_38 : decode cX9_back 38 = .ok (.getfield 22, 3) := by decide +kernel
theorem dX9_back_41 : decode cX9_back 41 = .ok (.sipush 320, 3) := by decide +kernel
theorem dX9_back_44 : decode cX9_back 44 = .ok (.iload_n 1, 1) := by decide +kernel
theorem dX9_back_45 : decode cX9_back 45 = .ok (.imul, 1) := by decide +kernel
theorem dX9_back_46 : decode cX9_back 46 = .ok (.iload_n 2, 1) := by decide +kernel
theorem dX9_back_47 : decode cX9_back 47 = .ok (.iadd, 1) := by decide +kernel
theorem dX9_back_48 : decode cX9_back 48 = .ok (.iaload, 1) := by decide +kernel
theorem dX9_back_49 : decode cX9_back 49 = .ok (.iastore, 1) := by decide +kernel
theorem dX9_back_50 : decode cX9_back 50 = .ok (.iinc 2 1, 3) := by decide +kernel
theorem dX9_back_53 : decode cX9_back 53 = .ok (.goto (-28), 3) := by decide +kernel
theorem dX9_back_56 : decode cX9_back 56 = .ok (.aload_n 0, 1) := by decide +kernel
theorem dX9_back_57 : decode cX9_back 57 = .ok (.getfield 19, 3) := by decide +kernel
theorem dX9_back_60 : decode cX9_back 60 = .ok (.iconst 0, 1) := by decide +kernel
theorem dX9_back_61 : decode cX9_back 61 = .ok (.iaload, 1) := by decide +kernel
theorem dX9_back_62 : decode cX9_back 62 = .ok (.ireturn, 1) := by decide +kernel
theorem dX9_count_0 : decode cX9_count 0 = .ok (.iload_n 1, 1) := by decide +kernel
theorem dX9_count_1 : decode cX9_count 1 = .ok (.iconst 0, 1) := by decide +kernel
theorem dX9_count_2 : decode cX9_count 2 = .ok (.iconst 5, 1) := by decide +kernel
theorem dX9_count_3 : decode cX9_count 3 = .ok (.invokestatic 48, 3) := by decide +kernel
theorem dX9_count_6 : decode cX9_count 6 = .ok (.ifCond .ne 5, 3) := by decide +kernel
theorem dX9_count_9 : decode cX9_count 9 = .ok (.iconst (-1), 1) := by decide +kernel
theorem dX9_count_10 : decode cX9_count 10 = .ok (.ireturn, 1) := by decide +kernel
theorem dX9_count_11 : decode cX9_count 11 = .ok (.iload_n 1, 1) := by decide +kernel
theorem dX9_count_12 : decode cX9_count 12 = .ok (.iconst 3, 1) := by decide +kernel
theorem dX9_count_13 : decode cX9_count 13 = .ok (.if_icmp .ge 12, 3) := by decide +kernel
theorem dX9_count_16 : decode cX9_count 16 = .ok (.aload_n 0, 1) := by decide +kernel
theorem dX9_count_17 : decode cX9_count 17 = .ok (.getfield 13, 3) := by decide +kernel
theorem dX9_count_20 : decode cX9_count 20 = .ok (.iload_n 1, 1) := by decide +kernel
theorem dX9_count_21 : decode cX9_count 21 = .ok (.iaload, 1) := by decide +kernel
theorem dX9_count_22 : decode cX9_count 22 = .ok (.goto 34, 3) := by decide +kernel
theorem dX9_count_25 : decode cX9_count 25 = .ok (.iload_n 1, 1) := by decide +kernel
theorem dX9_count_26 : decode cX9_count 26 = .ok (.iconst 3, 1) := by decide +kernel
theorem dX9_count_27 : decode cX9_count 27 = .ok (.if_icmp .ne 10, 3) := by decide +kernel
theorem dX9_count_30 : decode cX9_count 30 = .ok (.aload_n 0, 1) := by decide +kernel
theorem dX9_count_31 : decode cX9_count 31 = .ok (.getfield 97, 3) := by decide +kernel
theorem dX9_count_34 : decode cX9_count 34 = .ok (.goto 22, 3) := by decide +kernel
theorem dX9_count_37 : decode cX9_count 37 = .ok (.iload_n 1, 1) := by decide +kernel
theorem dX9_count_38 : decode cX9_count 38 = .ok (.iconst 4, 1) := by decide +kernel
theorem dX9_count_39 : decode cX9_count 39 = .ok (.if_icmp .ne 13, 3) := by decide +kernel
theorem dX9_count_42 : decode cX9_count 42 = .ok (.aload_n 0, 1) := by decide +kernel
theorem dX9_count_43 : decode cX9_count 43 = .ok (.getfield 19, 3) := by decide +kernel
theorem dX9_count_46 : decode cX9_count 46 = .ok (.bipush 29, 2) := by decide +kernel
theorem dX9_count_48 : decode cX9_count 48 = .ok (.iaload, 1) := by decide +kernel
theorem dX9_count_49 : decode cX9_count 49 = .ok (.goto 7, 3) := by decide +kernel
theorem dX9_count_52 : decode cX9_count 52 = .ok (.aload_n 0, 1) := by decide +kernel
theorem dX9_count_53 : decode cX9_count 53 = .ok (.getfield 52, 3) := by decide +kernel
theorem dX9_count_56 : decode cX9_count 56 = .ok (.ireturn, 1) := by decide +kernel
theorem dX9_trace_0 : decode cX9_trace 0 = .ok (.aload_n 0, 1) := by decide +kernel
theorem dX9_trace_1 : decode cX9_trace 1 = .ok (.getfield 180, 3) := by decide +kernel
theorem dX9_trace_4 : decode cX9_trace 4 = .ok (.lreturn, 1) := by decide +kernel
theorem dJ9_max_7cf53_0 : decode cJ9_max_7cf53 0 = .ok (.iload_n 0, 1) := by decide +kernel
theorem dJ9_max_7cf53_1 : decode cJ9_max_7cf53 1 = .ok (.iload_n 1, 1) := by decide +kernel
theorem dJ9_max_7cf53_2 : decode cJ9_max_7cf53 2 = .ok (.if_icmp .lt 7, 3) := by decide +kernel
theorem dJ9_max_7cf53_5 : decode cJ9_max_7cf53 5 = .ok (.iload_n 0, 1) := by decide +kernel
theorem dJ9_max_7cf53_6 : decode cJ9_max_7cf53 6 = .ok (.goto 4, 3) := by decide +kernel
theorem dJ9_max_7cf53_9 : decode cJ9_max_7cf53 9 = .ok (.iload_n 1, 1) := by decide +kernel
theorem dJ9_max_7cf53_10 : decode cJ9_max_7cf53 10 = .ok (.ireturn, 1) := by decide +kernel
theorem dJ9_min_7cf53_0 : decode cJ9_min_7cf53 0 = .ok (.iload_n 0, 1) := by decide +kernel
theorem dJ9_min_7cf53_1 : decode cJ9_min_7cf53 1 = .ok (.iload_n 1, 1) := by decide +kernel
theorem dJ9_min_7cf53_2 : decode cJ9_min_7cf53 2 = .ok (.if_icmp .gt 7, 3) := by decide +kernel
theorem dJ9_min_7cf53_5 : decode cJ9_min_7cf53 5 = .ok (.iload_n 0, 1) := by decide +kernel
theorem dJ9_min_7cf53_6 : decode cJ9_min_7cf53 6 = .ok (.goto 4, 3) := by decide +kernel
theorem dJ9_min_7cf53_9 : decode cJ9_min_7cf53 9 = .ok (.iload_n 1, 1) := by decide +kernel
theorem dJ9_min_7cf53_10 : decode cJ9_min_7cf53 10 = .ok (.ireturn, 1) := by decide +kernel
theorem dL_law_0 : decode cL_law 0 = .ok (.new 7, 3) := by decide +kernel
theorem dL_law_3 : decode cL_law 3 = .ok (.dup, 1) := by decide +kernel
theorem dL_law_4 : decode cL_law 4 = .ok (.invokespecial 9, 3) := by decide +kernel
theorem dL_law_7 : decode cL_law 7 = .ok (.astore_n 1, 1) := by decide +kernel
theorem dL_law_8 : decode cL_law 8 = .ok (.new 10, 3) := by decide +kernel
theorem dL_law_11 : decode cL_law 11 = .ok (.dup, 1) := by decide +kernel
theorem dL_law_12 : decode cL_law 12 = .ok (.invokespecial 12, 3) := by decide +kernel
theorem dL_law_15 : decode cL_law 15 = .ok (.astore_n 2, 1) := by decide +kernel
theorem dL_law_16 : decode cL_law 16 = .ok (.iconst 0, 1) := by decide +kernel
theorem dL_law_17 : decode cL_law 17 = .ok (.istore_n 3, 1) := by decide +kernel
theorem dL_law_18 : decode cL_law 18 = .ok (.iload_n 3, 1) := by decide +kernel
theorem dL_law_19 : decode cL_law 19 = .ok (.aload_n 0, 1) := by decide +kernel
theorem dL_law_20 : decode cL_law 20 = .ok (.arraylength, 1) := by decide +kernel
theorem dL_law_21 : decode cL_law 21 = .ok (.iconst 5, 1) := by decide +kernel
theorem dL_law_22 : decode cL_law 22 = .ok (.isub, 1) := by decide +kernel
theorem dL_law_23 : decode cL_law 23 = .ok (.if_icmp .gt 822, 3) := by decide +kernel
theorem dL_law_26 : decode cL_law 26 = .ok (.aload_n 0, 1) := by decide +kernel
theorem dL_law_27 : decode cL_law 27 = .ok (.iload_n 3, 1) := by decide +kernel
theorem dL_law_28 : decode cL_law 28 = .ok (.iaload, 1) := by decide +kernel
theorem dL_law_29 : decode cL_law 29 = .ok (.bipush 31, 2) := by decide +kernel
theorem dL_law_31 : decode cL_law 31 = .ok (.iand, 1) := by decide +kernel
theorem dL_law_32 : decode cL_law 32 = .ok (.tableswitch 807 0 26 #[124, 147, 160, 173, 206, 239, 272, 305, 328, 341, 354, 377, 400, 423, 446, 459, 492, 515, 568, 612, 655, 668, 691, 724, 747, 770, 793], 124) := by decide +kernel
theorem dL_law_156 : decode cL_law 156 = .ok (.aload_n 1, 1) := by decide +kernel
theorem dL_law_157 : decode cL_law 157 = .ok (.aload_n 0, 1) := by decide +kernel
theorem dL_law_158 : decode cL_law 158 = .ok (.iload_n 3, 1) := by decide +kernel
theorem dL_law_159 : decode cL_law 159 = .ok (.iconst 1, 1) := by decide +kernel
theorem dL_law_160 : decode cL_law 160 = .ok (.iadd, 1) := by decide +kernel
theorem dL_law_161 : decode cL_law 161 = .ok (.iaload, 1) := by decide +kernel
theorem dL_law_162 : decode cL_law 162 = .ok (.invokevirtual 13, 3) := by decide +kernel
theorem dL_law_165 : decode cL_law 165 = .ok (.aload_n 2, 1) := by decide +kernel
theorem dL_law_166 : decode cL_law 166 = .ok (.aload_n 0, 1) := by decide +kernel
theorem dL_law_167 : decode cL_law 167 = .ok (.iload_n 3, 1) := by decide +kernel
theorem dL_law_168 : decode cL_law 168 = .ok (.iconst 1, 1) := by decide +kernel
theorem dL_law_169 : decode cL_law 169 = .ok (.iadd, 1) := by decide +kernel
theorem dL_law_170 : decode cL_law 170 = .ok (.iaload, 1) := by decide +kernel
theorem dL_law_171 : decode cL_law 171 = .ok (.invokevirtual 17, 3) := by decide +kernel
theorem dL_law_174 : decode cL_law 174 = .ok (.if_icmp .eq 665, 3) := by decide +kernel
theorem dL_law_177 : decode cL_law 177 = .ok (.iconst 0, 1) := by decide +kernel
theorem dL_law_178 : decode cL_law 178 = .ok (.ireturn, 1) := by decide +kernel
theorem dL_law_179 : decode cL_law 179 = .ok (.aload_n 1, 1) := by decide +kernel
theorem dL_law_180 : decode cL_law 180 = .ok (.invokevirtual 18, 3) := by decide +kernel
theorem dL_law_183 : decode cL_law 183 = .ok (.aload_n 2, 1) := by decide +kernel
theorem dL_law_184 : decode cL_law 184 = .ok (.invokevirtual 22, 3) := by decide +kernel
theorem dL_law_187 : decode cL_law 187 = .ok (.if_icmp .eq 652, 3) := by decide +kernel
theorem dL_law_190 : decode cL_law 190 = .ok (.iconst 0, 1) := by decide +kernel
theorem dL_law_191 : decode cL_law 191 = .ok (.ireturn, 1) := by decide +kernel
theorem dL_law_192 : decode cL_law 192 = .ok (.aload_n 1, 1) := by decide +kernel
theorem dL_law_193 : decode cL_law 193 = .ok (.invokevirtual 23, 3) := by decide +kernel
theorem dL_law_196 : decode cL_law 196 = .ok (.aload_n 2, 1) := by decide +kernel
theorem dL_law_197 : decode cL_law 197 = .ok (.invokevirtual 26, 3) := by decide +kernel
theorem dL_law_200 : decode cL_law 200 = .ok (.if_icmp .eq 639, 3) := by decide +kernel
theorem dL_law_203 : decode cL_law 203 = .ok (.iconst 0, 1) := by decide +kernel
theorem dL_law_204 : decode cL_law 204 = .ok (.ireturn, 1) := by decide +kernel
theorem dL_law_205 : decode cL_law 205 = .ok (.aload_n 1, 1) := by decide +kernel
theorem dL_law_206 : decode cL_law 206 = .ok (.aload_n 0, 1) := by decide +kernel
theorem dL_law_207 : decode cL_law 207 = .ok (.iload_n 3, 1) := by decide +kernel
theorem dL_law_208 : decode cL_law 208 = .ok (.iconst 1, 1) := by decide +kernel
theorem dL_law_209 : decode cL_law 209 = .ok (.iadd, 1) := by decide +kernel
theorem dL_law_210 : decode cL_law 210 = .ok (.iaload, 1) := by decide +kernel
theorem dL_law_211 : decode cL_law 211 = .ok (.aload_n 0, 1) := by decide +kernel
theorem dL_law_212 : decode cL_law 212 = .ok (.iload_n 3, 1) := by decide +kernel
theorem dL_law_213 : decode cL_law 213 = .ok (.iconst 2, 1) := by decide +kernel
theorem dL_law_214 : decode cL_law 214 = .ok (.iadd, 1) := by decide +kernel
theorem dL_law_215 : decode cL_law 215 = .ok (.iaload, 1) := by decide +kernel
theorem dL_law_216 : decode cL_law 216 = .ok (.invokevirtual 27, 3) := by decide +kernel
theorem dL_law_219 : decode cL_law 219 = .ok (.aload_n 2, 1) := by decide +kernel
theorem dL_law_220 : decode cL_law 220 = .ok (.aload_n 0, 1) := by decide +kernel
theorem dL_law_221 : decode cL_law 221 = .ok (.iload_n 3, 1) := by decide +kernel
theorem dL_law_222 : decode cL_law 222 = .ok (.iconst 1, 1) := by decide +kernel
theorem dL_law_223 : decode cL_law 223 = .ok (.iadd, 1) := by decide +kernel
theorem dL_law_224 : decode cL_law 224 = .ok (.iaload, 1) := by decide +kernel
theorem dL_law_225 : decode cL_law 225 = .ok (.aload_n 0, 1) := by decide +kernel
theorem dL_law_226 : decode cL_law 226 = .ok (.iload_n 3, 1) := by decide +kernel
theorem dL_law_227 : decode cL_law 227 = .ok (.iconst 2, 1) := by decide +kernel
theorem dL_law_228 : decode cL_law 228 = .ok (.iadd, 1) := by decide +kernel
theorem dL_law_229 : decode cL_law 229 = .ok (.iaload, 1) := by decide +kernel
theorem dL_law_230 : decode cL_law 230 = .ok (.invokevirtual 31, 3) := by decide +kernel
theorem dL_law_233 : decode cL_law 233 = .ok (.if_icmp .eq 606, 3) := by decide +kernel
theorem dL_law_236 : decode cL_law 236 = .ok (.iconst 0, 1) := by decide +kernel
theorem dL_law_237 : decode cL_law 237 = .ok (.ireturn, 1) := by decide +kernel
theorem dL_law_238 : decode cL_law 238 = .ok (.aload_n 1, 1) := by decide +kernel
theorem dL_law_239 : decode cL_law 239 = .ok (.aload_n 0, 1) := by decide +kernel
theorem dL_law_240 : decode cL_law 240 = .ok (.iload_n 3, 1) := by decide +kernel
theorem dL_law_241 : decode cL_law 241 = .ok (.iconst 1, 1) := by decide +kernel
theorem dL_law_242 : decode cL_law 242 = .ok (.iadd, 1) := by decide +kernel
theorem dL_law_243 : decode cL_law 243 = .ok (.iaload, 1) := by decide +kernel
theorem dL_law_244 : decode cL_law 244 = .ok (.aload_n 0, 1) := by decide +kernel
theorem dL_law_245 : decode cL_law 245 = .ok (.iload_n 3, 1) := by decide +kernel
theorem dL_law_246 : decode cL_law 246 = .ok (.iconst 2, 1) := by decide +kernel
theorem dL_law_247 : decode cL_law 247 = .ok (.iadd, 1) := by decide +kernel
theorem dL_law_248 : decode cL_law 248 = .ok (.iaload, 1) := by decide +kernel
theorem dL_law_249 : decode cL_law 249 = .ok (.invokevirtual 32, 3) := by decide +kernel
theorem dL_law_252 : decode cL_law 252 = .ok (.aload_n 2, 1) := by decide +kernel
theorem dL_law_253 : decode cL_law 253 = .ok (.aload_n 0, 1) := by decide +kernel
theorem dL_law_254 : decode cL_law 254 = .ok (.iload_n 3, 1) := by decide +kernel
theorem dL_law_255 : decode cL_law 255 = .ok (.iconst 1, 1) := by decide +kernel
theorem dL_law_256 : decode cL_law 256 = .ok (.iadd, 1) := by decide +kernel
theorem dL_law_257 : decode cL_law 257 = .ok (.iaload, 1) := by decide +kernel
theorem dL_law_258 : decode cL_law 258 = .ok (.aload_n 0, 1) := by decide +kernel
theorem dL_law_259 : decode cL_law 259 = .ok (.iload_n 3, 1) := by decide +kernel
theorem dL_law_260 : decode cL_law 260 = .ok (.iconst 2, 1) := by decide +kernel
theorem dL_law_261 : decode cL_law 261 = .ok (.iadd, 1) := by decide +kernel
theorem dL_law_262 : decode cL_law 262 = .ok (.iaload, 1) := by decide +kernel
theorem dL_law_263 : decode cL_law 263 = .ok (.invokevirtual 35, 3) := by decide +kernel
theorem dL_law_266 : decode cL_law 266 = .ok (.if_icmp .eq 573, 3) := by decide +kernel
theorem dL_law_269 : decode cL_law 269 = .ok (.iconst 0, 1) := by decide +kernel
theorem dL_law_270 : decode cL_law 270 = .ok (.ireturn, 1) := by decide +kernel
theorem dL_law_271 : decode cL_law 271 = .ok (.aload_n 1, 1) := by decide +kernel
theorem dL_law_272 : decode cL_law 272 = .ok (.aload_n 0, 1) := by decide +kernel
theorem dL_law_273 : decode cL_law 273 = .ok (.iload_n 3, 1) := by decide +kernel
theorem dL_law_274 : decode cL_law 274 = .ok (.iconst 1, 1) := by decide +kernel
theorem dL_law_275 : decode cL_law 275 = .ok (.iadd, 1) := by decide +kernel
theorem dL_law_276 : decode cL_law 276 = .ok (.iaload, 1) := by decide +kernel
theorem dL_law_277 : decode cL_law 277 = .ok (.aload_n 0, 1) := by decide +kernel
theorem dL_law_278 : decode cL_law 278 = .ok (.iload_n 3, 1) := by decide +kernel
theorem dL_law_279 : decode cL_law 279 = .ok (.iconst 2, 1) := by decide +kernel
theorem dL_law_280 : decode cL_law 280 = .ok (.iadd, 1) := by decide +kernel
theorem dL_law_281 : decode cL_law 281 = .ok (.iaload, 1) := by decide +kernel
theorem dL_law_282 : decode cL_law 282 = .ok (.invokevirtual 36, 3) := by decide +kernel
theorem dL_law_285 : decode cL_law 285 = .ok (.aload_n 2, 1) := by decide +kernel
theorem dL_law_286 : decode cL_law 286 = .ok (.aload_n 0, 1) := by decide +kernel
theorem dL_law_287 : decode cL_law 287 = .ok (.iload_n 3, 1) := by decide +kernel
theorem dL_law_288 : decode cL_law 288 = .ok (.iconst 1, 1) := by decide +kernel
theorem dL_law_289 : decode cL_law 289 = .ok (.iadd, 1) := by decide +kernel
theorem dL_law_290 : decode cL_law 290 = .ok (.iaload, 1) := by decide +kernel
theorem dL_law_291 : decode cL_law 291 = .ok (.aload_n 0, 1) := by decide +kernel
theorem dL_law_292 : decode cL_law 292 = .ok (.iload_n 3, 1) := by decide +kernel
theorem dL_law_293 : decode cL_law 293 = .ok (.iconst 2, 1) := by decide +kernel
theorem dL_law_294 : decode cL_law 294 = .ok (.iadd, 1) := by decide +kernel
theorem dL_law_295 : decode cL_law 295 = .ok (.iaload, 1) := by decide +kernel
theorem dL_law_296 : decode cL_law 296 = .ok (.invokevirtual 39, 3) := by decide +kernel
theorem dL_law_299 : decode cL_law 299 = .ok (.if_icmp .eq 540, 3) := by decide +kernel
theorem dL_law_302 : decode cL_law 302 = .ok (.iconst 0, 1) := by decide +kernel
theorem dL_law_303 : decode cL_law 303 = .ok (.ireturn, 1) := by decide +kernel
theorem dL_law_304 : decode cL_law 304 = .ok (.aload_n 1, 1) := by decide +kernel
theorem dL_law_305 : decode cL_law 305 = .ok (.aload_n 0, 1) := by decide +kernel
theorem dL_law_306 : decode cL_law 306 = .ok (.iload_n 3, 1) := by decide +kernel
theorem dL_law_307 : decode cL_law 307 = .ok (.iconst 1, 1) := by decide +kernel
theorem dL_law_308 : decode cL_law 308 = .ok (.iadd, 1) := by decide +kernel
theorem dL_law_309 : decode cL_law 309 = .ok (.iaload, 1) := by decide +kernel
theorem dL_law_310 : decode cL_law 310 = .ok (.aload_n 0, 1) := by decide +kernel
theorem dL_law_311 : decode cL_law 311 = .ok (.iload_n 3, 1) := by decide +kernel
theorem dL_law_312 : decode cL_law 312 = .ok (.iconst 2, 1) := by decide +kernel
theorem dL_law_313 : decode cL_law 313 = .ok (.iadd, 1) := by decide +kernel
theorem dL_law_314 : decode cL_law 314 = .ok (.iaload, 1) := by decide +kernel
theorem dL_law_315 : decode cL_law 315 = .ok (.invokevirtual 40, 3) := by decide +kernel
theorem dL_law_318 : decode cL_law 318 = .ok (.aload_n 2, 1) := by decide +kernel
theorem dL_law_319 : decode cL_law 319 = .ok (.aload_n 0, 1) := by decide +kernel
theorem dL_law_320 : decode cL_law 320 = .ok (.iload_n 3, 1) := by decide +kernel
theorem dL_law_321 : decode cL_law 321 = .ok (.iconst 1, 1) := by decide +kernel
theorem dL_law_322 : decode cL_law 322 = .ok (.iadd, 1) := by decide +kernel
theorem dL_law_323 : decode cL_law 323 = .ok (.iaload, 1) := by decide +kernel
theorem dL_law_324 : decode cL_law 324 = .ok (.aload_n 0, 1) := by decide +kernel
theorem dL_law_325 : decode cL_law 325 = .ok (.iload_n 3, 1) := by decide +kernel
theorem dL_law_326 : decode cL_law 326 = .ok (.iconst 2, 1) := by decide +kernel
theorem dL_law_327 : decode cL_law 327 = .ok (.iadd, 1) := by decide +kernel
theorem dL_law_328 : decode cL_law 328 = .ok (.iaload, 1) := by decide +kernel
theorem dL_law_329 : decode cL_law 329 = .ok (.invokevirtual 43, 3) := by decide +kernel
theorem dL_law_332 : decode cL_law 332 = .ok (.if_icmp .eq 507, 3) := by decide +kernel
theorem dL_law_335 : decode cL_law 335 = .ok (.iconst 0, 1) := by decide +kernel
theorem dL_law_336 : decode cL_law 336 = .ok (.ireturn, 1) := by decide +kernel
theorem dL_law_337 : decode cL_law 337 = .ok (.aload_n 1, 1) := by decide +kernel
theorem dL_law_338 : decode cL_law 338 = .ok (.aload_n 0, 1) := by decide +kernel
theorem dL_law_339 : decode cL_law 339 = .ok (.iload_n 3, 1) := by decide +kernel
theorem dL_law_340 : decode cL_law 340 = .ok (.iconst 1, 1) := by decide +kernel
theorem dL_law_341 : decode cL_law 341 = .ok (.iadd, 1) := by decide +kernel
theorem dL_law_342 : decode cL_law 342 = .ok (.iaload, 1) := by decide +kernel
theorem dL_law_343 : decode cL_law 343 = .ok (.invokevirtual 44, 3) := by decide +kernel
theorem dL_law_346 : decode cL_law 346 = .ok (.aload_n 2, 1) := by decide +kernel
theorem dL_law_347 : decode cL_law 347 = .ok (.aload_n 0, 1) := by decide +kernel
theorem dL_law_348 : decode cL_law 348 = .ok (.iload_n 3, 1) := by decide +kernel
theorem dL_law_349 : decode cL_law 349 = .ok (.iconst 1, 1) := by decide +kernel
theorem dL_law_350 : decode cL_law 350 = .ok (.iadd, 1) := by decide +kernel
theorem dL_law_351 : decode cL_law 351 = .ok (.iaload, 1) := by decide +kernel
theorem dL_law_352 : decode cL_law 352 = .ok (.invokevirtual 47, 3) := by decide +kernel
theorem dL_law_355 : decode cL_law 355 = .ok (.if_icmp .eq 484, 3) := by decide +kernel
theorem dL_law_358 : decode cL_law 358 = .ok (.iconst 0, 1) := by decide +kernel
theorem dL_law_359 : decode cL_law 359 = .ok (.ireturn, 1) := by decide +kernel
theorem dL_law_360 : decode cL_law 360 = .ok (.aload_n 1, 1) := by decide +kernel
theorem dL_law_361 : decode cL_law 361 = .ok (.invokevirtual 48, 3) := by decide +kernel
theorem dL_law_364 : decode cL_law 364 = .ok (.aload_n 2, 1) := by decide +kernel
theorem dL_law_365 : decode cL_law 365 = .ok (.invokevirtual 51, 3) := by decide +kernel
theorem dL_law_368 : decode cL_law 368 = .ok (.if_icmp .eq 471, 3) := by decide +kernel
theorem dL_law_371 : decode cL_law 371 = .ok (.iconst 0, 1) := by decide +kernel
theorem dL_law_372 : decode cL_law 372 = .ok (.ireturn, 1) := by decide +kernel
theorem dL_law_373 : decode cL_law 373 = .ok (.aload_n 1, 1) := by decide +kernel
theorem dL_law_374 : decode cL_law 374 = .ok (.invokevirtual 52, 3) := by decide +kernel
theorem dL_law_377 : decode cL_law 377 = .ok (.aload_n 2, 1) := by decide +kernel
theorem dL_law_378 : decode cL_law 378 = .ok (.invokevirtual 55, 3) := by decide +kernel
theorem dL_law_381 : decode cL_law 381 = .ok (.if_icmp .eq 458, 3) := by decide +kernel
theorem dL_law_384 : decode cL_law 384 = .ok (.iconst 0, 1) := by decide +kernel
theorem dL_law_385 : decode cL_law 385 = .ok (.ireturn, 1) := by decide +kernel
theorem dL_law_386 : decode cL_law 386 = .ok (.aload_n 1, 1) := by decide +kernel
theorem dL_law_387 : decode cL_law 387 = .ok (.aload_n 0, 1) := by decide +kernel
theorem dL_law_388 : decode cL_law 388 = .ok (.iload_n 3, 1) := by decide +kernel
theorem dL_law_389 : decode cL_law 389 = .ok (.iconst 1, 1) := by decide +kernel
theorem dL_law_390 : decode cL_law 390 = .ok (.iadd, 1) := by decide +kernel
theorem dL_law_391 : decode cL_law 391 = .ok (.iaload, 1) := by decide +kernel
theorem dL_law_392 : decode cL_law 392 = .ok (.invokevirtual 56, 3) := by decide +kernel
theorem dL_law_395 : decode cL_law 395 = .ok (.aload_n 2, 1) := by decide +kernel
theorem dL_law_396 : decode cL_law 396 = .ok (.aload_n 0, 1) := by decide +kernel
theorem dL_law_397 : decode cL_law 397 = .ok (.iload_n 3, 1) := by decide +kernel
theorem dL_law_398 : decode cL_law 398 = .ok (.iconst 1, 1) := by decide +kernel
theorem dL_law_399 : decode cL_law 399 = .ok (.iadd, 1) := by decide +kernel
theorem dL_law_400 : decode cL_law 400 = .ok (.iaload, 1) := by decide +kernel
theorem dL_law_401 : decode cL_law 401 = .ok (.invokevirtual 59, 3) := by decide +kernel
theorem dL_law_404 : decode cL_law 404 = .ok (.if_icmp .eq 435, 3) := by decide +kernel
theorem dL_law_407 : decode cL_law 407 = .ok (.iconst 0, 1) := by decide +kernel
theorem dL_law_408 : decode cL_law 408 = .ok (.ireturn, 1) := by decide +kernel
theorem dL_law_409 : decode cL_law 409 = .ok (.aload_n 1, 1) := by decide +kernel
theorem dL_law_410 : decode cL_law 410 = .ok (.aload_n 0, 1) := by decide +kernel
theorem dL_law_411 : decode cL_law 411 = .ok (.iload_n 3, 1) := by decide +kernel
theorem dL_law_412 : decode cL_law 412 = .ok (.iconst 1, 1) := by decide +kernel
theorem dL_law_413 : decode cL_law 413 = .ok (.iadd, 1) := by decide +kernel
theorem dL_law_414 : decode cL_law 414 = .ok (.iaload, 1) := by decide +kernel
theorem dL_law_415 : decode cL_law 415 = .ok (.invokevirtual 60, 3) := by decide +kernel
theorem dL_law_418 : decode cL_law 418 = .ok (.aload_n 2, 1) := by decide +kernel
theorem dL_law_419 : decode cL_law 419 = .ok (.aload_n 0, 1) := by decide +kernel
theorem dL_law_420 : decode cL_law 420 = .ok (.iload_n 3, 1) := by decide +kernel
theorem dL_law_421 : decode cL_law 421 = .ok (.iconst 1, 1) := by decide +kernel
theorem dL_law_422 : decode cL_law 422 = .ok (.iadd, 1) := by decide +kernel
theorem dL_law_423 : decode cL_law 423 = .ok (.iaload, 1) := by decide +kernel
theorem dL_law_424 : decode cL_law 424 = .ok (.invokevirtual 63, 3) := by decide +kernel
theorem dL_law_427 : decode cL_law 427 = .ok (.if_icmp .eq 412, 3) := by decide +kernel
theorem dL_law_430 : decode cL_law 430 = .ok (.iconst 0, 1) := by decide +kernel
theorem dL_law_431 : decode cL_law 431 = .ok (.ireturn, 1) := by decide +kernel
theorem dL_law_432 : decode cL_law 432 = .ok (.aload_n 1, 1) := by decide +kernel
theorem dL_law_433 : decode cL_law 433 = .ok (.aload_n 0, 1) := by decide +kernel
theorem dL_law_434 : decode cL_law 434 = .ok (.iload_n 3, 1) := by decide +kernel
theorem dL_law_435 : decode cL_law 435 = .ok (.iconst 1, 1) := by decide +kernel
theorem dL_law_436 : decode cL_law 436 = .ok (.iadd, 1) := by decide +kernel
theorem dL_law_437 : decode cL_law 437 = .ok (.iaload, 1) := by decide +kernel
theorem dL_law_438 : decode cL_law 438 = .ok (.invokevirtual 64, 3) := by decide +kernel
theorem dL_law_441 : decode cL_law 441 = .ok (.aload_n 2, 1) := by decide +kernel
theorem dL_law_442 : decode cL_law 442 = .ok (.aload_n 0, 1) := by decide +kernel
theorem dL_law_443 : decode cL_law 443 = .ok (.iload_n 3, 1) := by decide +kernel
theorem dL_law_444 : decode cL_law 444 = .ok (.iconst 1, 1) := by decide +kernel
theorem dL_law_445 : decode cL_law 445 = .ok (.iadd, 1) := by decide +kernel
theorem dL_law_446 : decode cL_law 446 = .ok (.iaload, 1) := by decide +kernel
theorem dL_law_447 : decode cL_law 447 = .ok (.invokevirtual 67, 3) := by decide +kernel
theorem dL_law_450 : decode cL_law 450 = .ok (.if_icmp .eq 389, 3) := by decide +kernel
theorem dL_law_453 : decode cL_law 453 = .ok (.iconst 0, 1) := by decide +kernel
theorem dL_law_454 : decode cL_law 454 = .ok (.ireturn, 1) := by decide +kernel
theorem dL_law_455 : decode cL_law 455 = .ok (.aload_n 1, 1) := by decide +kernel
theorem dL_law_456 : decode cL_law 456 = .ok (.aload_n 0, 1) := by decide +kernel
theorem dL_law_457 : decode cL_law 457 = .ok (.iload_n 3, 1) := by decide +kernel
theorem dL_law_458 : decode cL_law 458 = .ok (.iconst 1, 1) := by decide +kernel
theorem dL_law_459 : decode cL_law 459 = .ok (.iadd, 1) := by decide +kernel
theorem dL_law_460 : decode cL_law 460 = .ok (.iaload, 1) := by decide +kernel
theorem dL_law_461 : decode cL_law 461 = .ok (.invokevirtual 68, 3) := by decide +kernel
theorem dL_law_464 : decode cL_law 464 = .ok (.aload_n 2, 1) := by decide +kernel
theorem dL_law_465 : decode cL_law 465 = .ok (.aload_n 0, 1) := by decide +kernel
theorem dL_law_466 : decode cL_law 466 = .ok (.iload_n 3, 1) := by decide +kernel
theorem dL_law_467 : decode cL_law 467 = .ok (.iconst 1, 1) := by decide +kernel
theorem dL_law_468 : decode cL_law 468 = .ok (.iadd, 1) := by decide +kernel
theorem dL_law_469 : decode cL_law 469 = .ok (.iaload, 1) := by decide +kernel
theorem dL_law_470 : decode cL_law 470 = .ok (.invokevirtual 71, 3) := by decide +kernel
theorem dL_law_473 : decode cL_law 473 = .ok (.if_icmp .eq 366, 3) := by decide +kernel
theorem dL_law_476 : decode cL_law 476 = .ok (.iconst 0, 1) := by decide +kernel
theorem dL_law_477 : decode cL_law 477 = .ok (.ireturn, 1) := by decide +kernel
theorem dL_law_478 : decode cL_law 478 = .ok (.aload_n 1, 1) := by decide +kernel
theorem dL_law_479 : decode cL_law 479 = .ok (.invokevirtual 72, 3) := by decide +kernel
theorem dL_law_482 : decode cL_law 482 = .ok (.aload_n 2, 1) := by decide +kernel
theorem dL_law_483 : decode cL_law 483 = .ok (.invokevirtual 75, 3) := by decide +kernel
theorem dL_law_486 : decode cL_law 486 = .ok (.if_icmp .eq 353, 3) := by decide +kernel
theorem dL_law_489 : decode cL_law 489 = .ok (.iconst 0, 1) := by decide +kernel
theorem dL_law_490 : decode cL_law 490 = .ok (.ireturn, 1) := by decide +kernel
theorem dL_law_491 : decode cL_law 491 = .ok (.aload_n 1, 1) := by decide +kernel
theorem dL_law_492 : decode cL_law 492 = .ok (.aload_n 0, 1) := by decide +kernel
theorem dL_law_493 : decode cL_law 493 = .ok (.iload_n 3, 1) := by decide +kernel
theorem dL_law_494 : decode cL_law 494 = .ok (.iconst 1, 1) := by decide +kernel
theorem dL_law_495 : decode cL_law 495 = .ok (.iadd, 1) := by decide +kernel
theorem dL_law_496 : decode cL_law 496 = .ok (.iaload, 1) := by decide +kernel
theorem dL_law_497 : decode cL_law 497 = .ok (.aload_n 0, 1) := by decide +kernel
theorem dL_law_498 : decode cL_law 498 = .ok (.iload_n 3, 1) := by decide +kernel
theorem dL_law_499 : decode cL_law 499 = .ok (.iconst 2, 1) := by decide +kernel
theorem dL_law_500 : decode cL_law 500 = .ok (.iadd, 1) := by decide +kernel
theorem dL_law_501 : decode cL_law 501 = .ok (.iaload, 1) := by decide +kernel
theorem dL_law_502 : decode cL_law 502 = .ok (.invokevirtual 76, 3) := by decide +kernel
theorem dL_law_505 : decode cL_law 505 = .ok (.aload_n 2, 1) := by decide +kernel
theorem dL_law_506 : decode cL_law 506 = .ok (.aload_n 0, 1) := by decide +kernel
theorem dL_law_507 : decode cL_law 507 = .ok (.iload_n 3, 1) := by decide +kernel
theorem dL_law_508 : decode cL_law 508 = .ok (.iconst 1, 1) := by decide +kernel
theorem dL_law_509 : decode cL_law 509 = .ok (.iadd, 1) := by decide +kernel
theorem dL_law_510 : decode cL_law 510 = .ok (.iaload, 1) := by decide +kernel
theorem dL_law_511 : decode cL_law 511 = .ok (.aload_n 0, 1) := by decide +kernel
theorem dL_law_512 : decode cL_law 512 = .ok (.iload_n 3, 1) := by decide +kernel
theorem dL_law_513 : decode cL_law 513 = .ok (.iconst 2, 1) := by decide +kernel
theorem dL_law_514 : decode cL_law 514 = .ok (.iadd, 1) := by decide +kernel
theorem dL_law_515 : decode cL_law 515 = .ok (.iaload, 1) := by decide +kernel
theorem dL_law_516 : decode cL_law 516 = .ok (.invokevirtual 79, 3) := by decide +kernel
theorem dL_law_519 : decode cL_law 519 = .ok (.if_icmp .eq 320, 3) := by decide +kernel
theorem dL_law_522 : decode cL_law 522 = .ok (.iconst 0, 1) := by decide +kernel
theorem dL_law_523 : decode cL_law 523 = .ok (.ireturn, 1) := by decide +kernel
theorem dL_law_524 : decode cL_law 524 = .ok (.aload_n 1, 1) := by decide +kernel
theorem dL_law_525 : decode cL_law 525 = .ok (.aload_n 0, 1) := by decide +kernel
theorem dL_law_526 : decode cL_law 526 = .ok (.iload_n 3, 1) := by decide +kernel
theorem dL_law_527 : decode cL_law 527 = .ok (.iconst 1, 1) := by decide +kernel
theorem dL_law_528 : decode cL_law 528 = .ok (.iadd, 1) := by decide +kernel
theorem dL_law_529 : decode cL_law 529 = .ok (.iaload, 1) := by decide +kernel
theorem dL_law_530 : decode cL_law 530 = .ok (.invokevirtual 80, 3) := by decide +kernel
theorem dL_law_533 : decode cL_law 533 = .ok (.aload_n 2, 1) := by decide +kernel
theorem dL_law_534 : decode cL_law 534 = .ok (.aload_n 0, 1) := by decide +kernel
theorem dL_law_535 : decode cL_law 535 = .ok (.iload_n 3, 1) := by decide +kernel
theorem dL_law_536 : decode cL_law 536 = .ok (.iconst 1, 1) := by decide +kernel
theorem dL_law_537 : decode cL_law 537 = .ok (.iadd, 1) := by decide +kernel
theorem dL_law_538 : decode cL_law 538 = .ok (.iaload, 1) := by decide +kernel
theorem dL_law_539 : decode cL_law 539 = .ok (.invokevirtual 83, 3) := by decide +kernel
theorem dL_law_542 : decode cL_law 542 = .ok (.if_icmp .eq 297, 3) := by decide +kernel
theorem dL_law_545 : decode cL_law 545 = .ok (.iconst 0, 1) := by decide +kernel
theorem dL_law_546 : decode cL_law 546 = .ok (.ireturn, 1) := by decide +kernel
theorem dL_law_547 : decode cL_law 547 = .ok (.aload_n 1, 1) := by decide +kernel
theorem dL_law_548 : decode cL_law 548 = .ok (.aload_n 0, 1) := by decide +kernel
theorem dL_law_549 : decode cL_law 549 = .ok (.iload_n 3, 1) := by decide +kernel
theorem dL_law_550 : decode cL_law 550 = .ok (.iconst 1, 1) := by decide +kernel
theorem dL_law_551 : decode cL_law 551 = .ok (.iadd, 1) := by decide +kernel
theorem dL_law_552 : decode cL_law 552 = .ok (.iaload, 1) := by decide +kernel
theorem dL_law_553 : decode cL_law 553 = .ok (.aload_n 0, 1) := by decide +kernel
theorem dL_law_554 : decode cL_law 554 = .ok (.iload_n 3, 1) := by decide +kernel
theorem dL_law_555 : decode cL_law 555 = .ok (.iconst 2, 1) := by decide +kernel
theorem dL_law_556 : decode cL_law 556 = .ok (.iadd, 1) := by decide +kernel
theorem dL_law_557 : decode cL_law 557 = .ok (.iaload, 1) := by decide +kernel
theorem dL_law_558 : decode cL_law 558 = .ok (.aload_n 0, 1) := by decide +kernel
theorem dL_law_559 : decode cL_law 559 = .ok (.iload_n 3, 1) := by decide +kernel
theorem dL_law_560 : decode cL_law 560 = .ok (.iconst 3, 1) := by decide +kernel
theorem dL_law_561 : decode cL_law 561 = .ok (.iadd, 1) := by decide +kernel
theorem dL_law_562 : decode cL_law 562 = .ok (.iaload, 1) := by decide +kernel
theorem dL_law_563 : decode cL_law 563 = .ok (.aload_n 0, 1) := by decide +kernel
theorem dL_law_564 : decode cL_law 564 = .ok (.iload_n 3, 1) := by decide +kernel
theorem dL_law_565 : decode cL_law 565 = .ok (.iconst 4, 1) := by decide +kernel
theorem dL_law_566 : decode cL_law 566 = .ok (.iadd, 1) := by decide +kernel
theorem dL_law_567 : decode cL_law 567 = .ok (.iaload, 1) := by decide +kernel
theorem dL_law_568 : decode cL_law 568 = .ok (.invokevirtual 84, 3) := by decide +kernel
theorem dL_law_571 : decode cL_law 571 = .ok (.aload_n 2, 1) := by decide +kernel
theorem dL_law_572 : decode cL_law 572 = .ok (.aload_n 0, 1) := by decide +kernel
theorem dL_law_573 : decode cL_law 573 = .ok (.iload_n 3, 1) := by decide +kernel
theorem dL_law_574 : decode cL_law 574 = .ok (.iconst 1, 1) := by decide +kernel
theorem dL_law_575 : decode cL_law 575 = .ok (.iadd, 1) := by decide +kernel
theorem dL_law_576 : decode cL_law 576 = .ok (.iaload, 1) := by decide +kernel
theorem dL_law_577 : decode cL_law 577 = .ok (.aload_n 0, 1) := by decide +kernel
theorem dL_law_578 : decode cL_law 578 = .ok (.iload_n 3, 1) := by decide +kernel
theorem dL_law_579 : decode cL_law 579 = .ok (.iconst 2, 1) := by decide +kernel
theorem dL_law_580 : decode cL_law 580 = .ok (.iadd, 1) := by decide +kernel
theorem dL_law_581 : decode cL_law 581 = .ok (.iaload, 1) := by decide +kernel
theorem dL_law_582 : decode cL_law 582 = .ok (.aload_n 0, 1) := by decide +kernel
theorem dL_law_583 : decode cL_law 583 = .ok (.iload_n 3, 1) := by decide +kernel
theorem dL_law_584 : decode cL_law 584 = .ok (.iconst 3, 1) := by decide +kernel
theorem dL_law_585 : decode cL_law 585 = .ok (.iadd, 1) := by decide +kernel
theorem dL_law_586 : decode cL_law 586 = .ok (.iaload, 1) := by decide +kernel
theorem dL_law_587 : decode cL_law 587 = .ok (.aload_n 0, 1) := by decide +kernel
theorem dL_law_588 : decode cL_law 588 = .ok (.iload_n 3, 1) := by decide +kernel
theorem dL_law_589 : decode cL_law 589 = .ok (.iconst 4, 1) := by decide +kernel
theorem dL_law_590 : decode cL_law 590 = .ok (.iadd, 1) := by decide +kernel
theorem dL_law_591 : decode cL_law 591 = .ok (.iaload, 1) := by decide +kernel
theorem dL_law_592 : decode cL_law 592 = .ok (.invokevirtual 88, 3) := by decide +kernel
theorem dL_law_595 : decode cL_law 595 = .ok (.if_icmp .eq 244, 3) := by decide +kernel
theorem dL_law_598 : decode cL_law 598 = .ok (.iconst 0, 1) := by decide +kernel
theorem dL_law_599 : decode cL_law 599 = .ok (.ireturn, 1) := by decide +kernel
theorem dL_law_600 : decode cL_law 600 = .ok (.aload_n 1, 1) := by decide +kernel
theorem dL_law_601 : decode cL_law 601 = .ok (.aload_n 0, 1) := by decide +kernel
theorem dL_law_602 : decode cL_law 602 = .ok (.iload_n 3, 1) := by decide +kernel
theorem dL_law_603 : decode cL_law 603 = .ok (.iconst 1, 1) := by decide +kernel
theorem dL_law_604 : decode cL_law 604 = .ok (.iadd, 1) := by decide +kernel
theorem dL_law_605 : decode cL_law 605 = .ok (.iaload, 1) := by decide +kernel
theorem dL_law_606 : decode cL_law 606 = .ok (.aload_n 0, 1) := by decide +kernel
theorem dL_law_607 : decode cL_law 607 = .ok (.iload_n 3, 1) := by decide +kernel
theorem dL_law_608 : decode cL_law 608 = .ok (.iconst 2, 1) := by decide +kernel
theorem dL_law_609 : decode cL_law 609 = .ok (.iadd, 1) := by decide +kernel
theorem dL_law_610 : decode cL_law 610 = .ok (.iaload, 1) := by decide +kernel
theorem dL_law_611 : decode cL_law 611 = .ok (.aload_n 0, 1) := by decide +kernel
theorem dL_law_612 : decode cL_law 612 = .ok (.iload_n 3, 1) := by decide +kernel
theorem dL_law_613 : decode cL_law 613 = .ok (.iconst 3, 1) := by decide +kernel
theorem dL_law_614 : decode cL_law 614 = .ok (.iadd, 1) := by decide +kernel
theorem dL_law_615 : decode cL_law 615 = .ok (.iaload, 1) := by decide +kernel
theorem dL_law_616 : decode cL_law 616 = .ok (.invokevirtual 89, 3) := by decide +kernel
theorem dL_law_619 : decode cL_law 619 = .ok (.aload_n 2, 1) := by decide +kernel
theorem dL_law_620 : decode cL_law 620 = .ok (.aload_n 0, 1) := by decide +kernel
theorem dL_law_621 : decode cL_law 621 = .ok (.iload_n 3, 1) := by decide +kernel
theorem dL_law_622 : decode cL_law 622 = .ok (.iconst 1, 1) := by decide +kernel
theorem dL_law_623 : decode cL_law 623 = .ok (.iadd, 1) := by decide +kernel
theorem dL_law_624 : decode cL_law 624 = .ok (.iaload, 1) := by decide +kernel
theorem dL_law_625 : decode cL_law 625 = .ok (.aload_n 0, 1) := by decide +kernel
theorem dL_law_626 : decode cL_law 626 = .ok (.iload_n 3, 1) := by decide +kernel
theorem dL_law_627 : decode cL_law 627 = .ok (.iconst 2, 1) := by decide +kernel
theorem dL_law_628 : decode cL_law 628 = .ok (.iadd, 1) := by decide +kernel
theorem dL_law_629 : decode cL_law 629 = .ok (.iaload, 1) := by decide +kernel
theorem dL_law_630 : decode cL_law 630 = .ok (.aload_n 0, 1) := by decide +kernel
theorem dL_law_631 : decode cL_law 631 = .ok (.iload_n 3, 1) := by decide +kernel
theorem dL_law_632 : decode cL_law 632 = .ok (.iconst 3, 1) := by decide +kernel
theorem dL_law_633 : decode cL_law 633 = .ok (.iadd, 1) := by decide +kernel
theorem dL_law_634 : decode cL_law 634 = .ok (.iaload, 1) := by decide +kernel
theorem dL_law_635 : decode cL_law 635 = .ok (.invokevirtual 93, 3) := by decide +kernel
theorem dL_law_638 : decode cL_law 638 = .ok (.lcmp, 1) := by decide +kernel
theorem dL_law_639 : decode cL_law 639 = .ok (.ifCond .eq 200, 3) := by decide +kernel
theorem dL_law_642 : decode cL_law 642 = .ok (.iconst 0, 1) := by decide +kernel
theorem dL_law_643 : decode cL_law 643 = .ok (.ireturn, 1) := by decide +kernel
theorem dL_law_644 : decode cL_law 644 = .ok (.aload_n 1, 1) := by decide +kernel
theorem dL_law_645 : decode cL_law 645 = .ok (.aload_n 0, 1) := by decide +kernel
theorem dL_law_646 : decode cL_law 646 = .ok (.iload_n 3, 1) := by decide +kernel
theorem dL_law_647 : decode cL_law 647 = .ok (.iconst 1, 1) := by decide +kernel
theorem dL_law_648 : decode cL_law 648 = .ok (.iadd, 1) := by decide +kernel
theorem dL_law_649 : decode cL_law 649 = .ok (.iaload, 1) := by decide +kernel
theorem dL_law_650 : decode cL_law 650 = .ok (.aload_n 0, 1) := by decide +kernel
theorem dL_law_651 : decode cL_law 651 = .ok (.iload_n 3, 1) := by decide +kernel
theorem dL_law_652 : decode cL_law 652 = .ok (.iconst 2, 1) := by decide +kernel
theorem dL_law_653 : decode cL_law 653 = .ok (.iadd, 1) := by decide +kernel
theorem dL_law_654 : decode cL_law 654 = .ok (.iaload, 1) := by decide +kernel
theorem dL_law_655 : decode cL_law 655 = .ok (.aload_n 0, 1) := by decide +kernel
theorem dL_law_656 : decode cL_law 656 = .ok (.iload_n 3, 1) := by decide +kernel
theorem dL_law_657 : decode cL_law 657 = .ok (.iconst 3, 1) := by decide +kernel
theorem dL_law_658 : decode cL_law 658 = .ok (.iadd, 1) := by decide +kernel
theorem dL_law_659 : decode cL_law 659 = .ok (.iaload, 1) := by decide +kernel
theorem dL_law_660 : decode cL_law 660 = .ok (.invokevirtual 94, 3) := by decide +kernel
theorem dL_law_663 : decode cL_law 663 = .ok (.aload_n 2, 1) := by decide +kernel
theorem dL_law_664 : decode cL_law 664 = .ok (.aload_n 0, 1) := by decide +kernel
theorem dL_law_665 : decode cL_law 665 = .ok (.iload_n 3, 1) := by decide +kernel
theorem dL_law_666 : decode cL_law 666 = .ok (.iconst 1, 1) := by decide +kernel
theorem dL_law_667 : decode cL_law 667 = .ok (.iadd, 1) := by decide +kernel
theorem dL_law_668 : decode cL_law 668 = .ok (.iaload, 1) := by decide +kernel
theorem dL_law_669 : decode cL_law 669 = .ok (.aload_n 0, 1) := by decide +kernel
theorem dL_law_670 : decode cL_law 670 = .ok (.iload_n 3, 1) := by decide +kernel
theorem dL_law_671 : decode cL_law 671 = .ok (.iconst 2, 1) := by decide +kernel
theorem dL_law_672 : decode cL_law 672 = .ok (.iadd, 1) := by decide +kernel
theorem dL_law_673 : decode cL_law 673 = .ok (.iaload, 1) := by decide +kernel
theorem dL_law_674 : decode cL_law 674 = .ok (.aload_n 0, 1) := by decide +kernel
theorem dL_law_675 : decode cL_law 675 = .ok (.iload_n 3, 1) := by decide +kernel
theorem dL_law_676 : decode cL_law 676 = .ok (.iconst 3, 1) := by decide +kernel
theorem dL_law_677 : decode cL_law 677 = .ok (.iadd, 1) := by decide +kernel
theorem dL_law_678 : decode cL_law 678 = .ok (.iaload, 1) := by decide +kernel
theorem dL_law_679 : decode cL_law 679 = .ok (.invokevirtual 98, 3) := by decide +kernel
theorem dL_law_682 : decode cL_law 682 = .ok (.if_icmp .eq 157, 3) := by decide +kernel
theorem dL_law_685 : decode cL_law 685 = .ok (.iconst 0, 1) := by decide +kernel
theorem dL_law_686 : decode cL_law 686 = .ok (.ireturn, 1) := by decide +kernel
theorem dL_law_687 : decode cL_law 687 = .ok (.aload_n 1, 1) := by decide +kernel
theorem dL_law_688 : decode cL_law 688 = .ok (.invokevirtual 99, 3) := by decide +kernel
theorem dL_law_691 : decode cL_law 691 = .ok (.aload_n 2, 1) := by decide +kernel
theorem dL_law_692 : decode cL_law 692 = .ok (.invokevirtual 102, 3) := by decide +kernel
theorem dL_law_695 : decode cL_law 695 = .ok (.if_icmp .eq 144, 3) := by decide +kernel
theorem dL_law_698 : decode cL_law 698 = .ok (.iconst 0, 1) := by decide +kernel
theorem dL_law_699 : decode cL_law 699 = .ok (.ireturn, 1) := by decide +kernel
theorem dL_law_700 : decode cL_law 700 = .ok (.aload_n 1, 1) := by decide +kernel
theorem dL_law_701 : decode cL_law 701 = .ok (.aload_n 0, 1) := by decide +kernel
theorem dL_law_702 : decode cL_law 702 = .ok (.iload_n 3, 1) := by decide +kernel
theorem dL_law_703 : decode cL_law 703 = .ok (.iconst 1, 1) := by decide +kernel
theorem dL_law_704 : decode cL_law 704 = .ok (.iadd, 1) := by decide +kernel
theorem dL_law_705 : decode cL_law 705 = .ok (.iaload, 1) := by decide +kernel
theorem dL_law_706 : decode cL_law 706 = .ok (.invokevirtual 103, 3) := by decide +kernel
theorem dL_law_709 : decode cL_law 709 = .ok (.aload_n 2, 1) := by decide +kernel
theorem dL_law_710 : decode cL_law 710 = .ok (.aload_n 0, 1) := by decide +kernel
theorem dL_law_711 : decode cL_law 711 = .ok (.iload_n 3, 1) := by decide +kernel
theorem dL_law_712 : decode cL_law 712 = .ok (.iconst 1, 1) := by decide +kernel
theorem dL_law_713 : decode cL_law 713 = .ok (.iadd, 1) := by decide +kernel
theorem dL_law_714 : decode cL_law 714 = .ok (.iaload, 1) := by decide +kernel
theorem dL_law_715 : decode cL_law 715 = .ok (.invokevirtual 106, 3) := by decide +kernel
theorem dL_law_718 : decode cL_law 718 = .ok (.if_icmp .eq 121, 3) := by decide +kernel
theorem dL_law_721 : decode cL_law 721 = .ok (.iconst 0, 1) := by decide +kernel
theorem dL_law_722 : decode cL_law 722 = .ok (.ireturn, 1) := by decide +kernel
theorem dL_law_723 : decode cL_law 723 = .ok (.aload_n 1, 1) := by decide +kernel
theorem dL_law_724 : decode cL_law 724 = .ok (.aload_n 0, 1) := by decide +kernel
theorem dL_law_725 : decode cL_law 725 = .ok (.iload_n 3, 1) := by decide +kernel
theorem dL_law_726 : decode cL_law 726 = .ok (.iconst 1, 1) := by decide +kernel
theorem dL_law_727 : decode cL_law 727 = .ok (.iadd, 1) := by decide +kernel
theorem dL_law_728 : decode cL_law 728 = .ok (.iaload, 1) := by decide +kernel
theorem dL_law_729 : decode cL_law 729 = .ok (.aload_n 0, 1) := by decide +kernel
theorem dL_law_730 : decode cL_law 730 = .ok (.iload_n 3, 1) := by decide +kernel
theorem dL_law_731 : decode cL_law 731 = .ok (.iconst 2, 1) := by decide +kernel
theorem dL_law_732 : decode cL_law 732 = .ok (.iadd, 1) := by decide +kernel
theorem dL_law_733 : decode cL_law 733 = .ok (.iaload, 1) := by decide +kernel
theorem dL_law_734 : decode cL_law 734 = .ok (.invokevirtual 107, 3) := by decide +kernel
theorem dL_law_737 : decode cL_law 737 = .ok (.aload_n 2, 1) := by decide +kernel
theorem dL_law_738 : decode cL_law 738 = .ok (.aload_n 0, 1) := by decide +kernel
theorem dL_law_739 : decode cL_law 739 = .ok (.iload_n 3, 1) := by decide +kernel
theorem dL_law_740 : decode cL_law 740 = .ok (.iconst 1, 1) := by decide +kernel
theorem dL_law_741 : decode cL_law 741 = .ok (.iadd, 1) := by decide +kernel
theorem dL_law_742 : decode cL_law 742 = .ok (.iaload, 1) := by decide +kernel
theorem dL_law_743 : decode cL_law 743 = .ok (.aload_n 0, 1) := by decide +kernel
theorem dL_law_744 : decode cL_law 744 = .ok (.iload_n 3, 1) := by decide +kernel
theorem dL_law_745 : decode cL_law 745 = .ok (.iconst 2, 1) := by decide +kernel
theorem dL_law_746 : decode cL_law 746 = .ok (.iadd, 1) := by decide +kernel
theorem dL_law_747 : decode cL_law 747 = .ok (.iaload, 1) := by decide +kernel
theorem dL_law_748 : decode cL_law 748 = .ok (.invokevirtual 110, 3) := by decide +kernel
theorem dL_law_751 : decode cL_law 751 = .ok (.if_icmp .eq 88, 3) := by decide +kernel
theorem dL_law_754 : decode cL_law 754 = .ok (.iconst 0, 1) := by decide +kernel
theorem dL_law_755 : decode cL_law 755 = .ok (.ireturn, 1) := by decide +kernel
theorem dL_law_756 : decode cL_law 756 = .ok (.aload_n 1, 1) := by decide +kernel
theorem dL_law_757 : decode cL_law 757 = .ok (.aload_n 0, 1) := by decide +kernel
theorem dL_law_758 : decode cL_law 758 = .ok (.iload_n 3, 1) := by decide +kernel
theorem dL_law_759 : decode cL_law 759 = .ok (.iconst 1, 1) := by decide +kernel
theorem dL_law_760 : decode cL_law 760 = .ok (.iadd, 1) := by decide +kernel
theorem dL_law_761 : decode cL_law 761 = .ok (.iaload, 1) := by decide +kernel
theorem dL_law_762 : decode cL_law 762 = .ok (.invokevirtual 111, 3) := by decide +kernel
theorem dL_law_765 : decode cL_law 765 = .ok (.aload_n 2, 1) := by decide +kernel
theorem dL_law_766 : decode cL_law 766 = .ok (.aload_n 0, 1) := by decide +kernel
theorem dL_law_767 : decode cL_law 767 = .ok (.iload_n 3, 1) := by decide +kernel
theorem dL_law_768 : decode cL_law 768 = .ok (.iconst 1, 1) := by decide +kernel
theorem dL_law_769 : decode cL_law 769 = .ok (.iadd, 1) := by decide +kernel
theorem dL_law_770 : decode cL_law 770 = .ok (.iaload, 1) := by decide +kernel
theorem dL_law_771 : decode cL_law 771 = .ok (.invokevirtual 114, 3) := by decide +kernel
theorem dL_law_774 : decode cL_law 774 = .ok (.if_icmp .eq 65, 3) := by decide +kernel
theorem dL_law_777 : decode cL_law 777 = .ok (.iconst 0, 1) := by decide +kernel
theorem dL_law_778 : decode cL_law 778 = .ok (.ireturn, 1) := by decide +kernel
theorem dL_law_779 : decode cL_law 779 = .ok (.aload_n 1, 1) := by decide +kernel
theorem dL_law_780 : decode cL_law 780 = .ok (.aload_n 0, 1) := by decide +kernel
theorem dL_law_781 : decode cL_law 781 = .ok (.iload_n 3, 1) := by decide +kernel
theorem dL_law_782 : decode cL_law 782 = .ok (.iconst 1, 1) := by decide +kernel
theorem dL_law_783 : decode cL_law 783 = .ok (.iadd, 1) := by decide +kernel
theorem dL_law_784 : decode cL_law 784 = .ok (.iaload, 1) := by decide +kernel
theorem dL_law_785 : decode cL_law 785 = .ok (.invokevirtual 115, 3) := by decide +kernel
theorem dL_law_788 : decode cL_law 788 = .ok (.aload_n 2, 1) := by decide +kernel
theorem dL_law_789 : decode cL_law 789 = .ok (.aload_n 0, 1) := by decide +kernel
theorem dL_law_790 : decode cL_law 790 = .ok (.iload_n 3, 1) := by decide +kernel
theorem dL_law_791 : decode cL_law 791 = .ok (.iconst 1, 1) := by decide +kernel
theorem dL_law_792 : decode cL_law 792 = .ok (.iadd, 1) := by decide +kernel
theorem dL_law_793 : decode cL_law 793 = .ok (.iaload, 1) := by decide +kernel
theorem dL_law_794 : decode cL_law 794 = .ok (.invokevirtual 118, 3) := by decide +kernel
theorem dL_law_797 : decode cL_law 797 = .ok (.if_icmp .eq 42, 3) := by decide +kernel
theorem dL_law_800 : decode cL_law 800 = .ok (.iconst 0, 1) := by decide +kernel
theorem dL_law_801 : decode cL_law 801 = .ok (.ireturn, 1) := by decide +kernel
theorem dL_law_802 : decode cL_law 802 = .ok (.aload_n 1, 1) := by decide +kernel
theorem dL_law_803 : decode cL_law 803 = .ok (.aload_n 0, 1) := by decide +kernel
theorem dL_law_804 : decode cL_law 804 = .ok (.iload_n 3, 1) := by decide +kernel
theorem dL_law_805 : decode cL_law 805 = .ok (.iconst 1, 1) := by decide +kernel
theorem dL_law_806 : decode cL_law 806 = .ok (.iadd, 1) := by decide +kernel
theorem dL_law_807 : decode cL_law 807 = .ok (.iaload, 1) := by decide +kernel
theorem dL_law_808 : decode cL_law 808 = .ok (.invokevirtual 119, 3) := by decide +kernel
theorem dL_law_811 : decode cL_law 811 = .ok (.aload_n 2, 1) := by decide +kernel
theorem dL_law_812 : decode cL_law 812 = .ok (.aload_n 0, 1) := by decide +kernel
theorem dL_law_813 : decode cL_law 813 = .ok (.iload_n 3, 1) := by decide +kernel
theorem dL_law_814 : decode cL_law 814 = .ok (.iconst 1, 1) := by decide +kernel
theorem dL_law_815 : decode cL_law 815 = .ok (.iadd, 1) := by decide +kernel
theorem dL_law_816 : decode cL_law 816 = .ok (.iaload, 1) := by decide +kernel
theorem dL_law_817 : decode cL_law 817 = .ok (.invokevirtual 122, 3) := by decide +kernel
theorem dL_law_820 : decode cL_law 820 = .ok (.if_icmp .eq 19, 3) := by decide +kernel
theorem dL_law_823 : decode cL_law 823 = .ok (.iconst 0, 1) := by decide +kernel
theorem dL_law_824 : decode cL_law 824 = .ok (.ireturn, 1) := by decide +kernel
theorem dL_law_825 : decode cL_law 825 = .ok (.aload_n 1, 1) := by decide +kernel
theorem dL_law_826 : decode cL_law 826 = .ok (.invokevirtual 123, 3) := by decide +kernel
theorem dL_law_829 : decode cL_law 829 = .ok (.aload_n 2, 1) := by decide +kernel
theorem dL_law_830 : decode cL_law 830 = .ok (.invokevirtual 127, 3) := by decide +kernel
theorem dL_law_833 : decode cL_law 833 = .ok (.lcmp, 1) := by decide +kernel
theorem dL_law_834 : decode cL_law 834 = .ok (.ifCond .eq 5, 3) := by decide +kernel
theorem dL_law_837 : decode cL_law 837 = .ok (.iconst 0, 1) := by decide +kernel
theorem dL_law_838 : decode cL_law 838 = .ok (.ireturn, 1) := by decide +kernel
theorem dL_law_839 : decode cL_law 839 = .ok (.iinc 3 5, 3) := by decide +kernel
theorem dL_law_842 : decode cL_law 842 = .ok (.goto (-824), 3) := by decide +kernel
theorem dL_law_845 : decode cL_law 845 = .ok (.iconst 1, 1) := by decide +kernel
theorem dL_law_846 : decode cL_law 846 = .ok (.ireturn, 1) := by decide +kernel
