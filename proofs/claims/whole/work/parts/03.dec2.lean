theorem dX12_says0_74 : decode cX12_says0 74 = .ok (.iconst 1, 1) := by decide +kernel
theorem dX12_says0_75 : decode cX12_says0 75 = .ok (.goto 4, 3) := by decide +kernel
theorem dX12_says0_78 : decode cX12_says0 78 = .ok (.iconst 0, 1) := by decide +kernel
theorem dX12_says0_79 : decode cX12_says0 79 = .ok (.istore 4, 2) := by decide +kernel
theorem dX12_says0_81 : decode cX12_says0 81 = .ok (.iinc 5 1, 3) := by decide +kernel
theorem dX12_says0_84 : decode cX12_says0 84 = .ok (.goto (-76), 3) := by decide +kernel
theorem dX12_says0_87 : decode cX12_says0 87 = .ok (.iload_n 2, 1) := by decide +kernel
theorem dX12_says0_88 : decode cX12_says0 88 = .ok (.iconst 1, 1) := by decide +kernel
theorem dX12_says0_89 : decode cX12_says0 89 = .ok (.if_icmp .ne 8, 3) := by decide +kernel
theorem dX12_says0_92 : decode cX12_says0 92 = .ok (.iload 4, 2) := by decide +kernel
theorem dX12_says0_94 : decode cX12_says0 94 = .ok (.goto 4, 3) := by decide +kernel
theorem dX12_says0_97 : decode cX12_says0 97 = .ok (.iload_n 3, 1) := by decide +kernel
theorem dX12_says0_98 : decode cX12_says0 98 = .ok (.ireturn, 1) := by decide +kernel
theorem dX12_says_0 : decode cX12_says 0 = .ok (.aload_n 0, 1) := by decide +kernel
theorem dX12_says_1 : decode cX12_says 1 = .ok (.iconst 0, 1) := by decide +kernel
theorem dX12_says_2 : decode cX12_says 2 = .ok (.putfield 1, 3) := by decide +kernel
theorem dX12_says_5 : decode cX12_says 5 = .ok (.iload_n 1, 1) := by decide +kernel
theorem dX12_says_6 : decode cX12_says 6 = .ok (.invokestatic 182, 3) := by decide +kernel
theorem dX12_says_9 : decode cX12_says 9 = .ok (.ifCond .eq 12, 3) := by decide +kernel
theorem dX12_says_12 : decode cX12_says 12 = .ok (.iload_n 2, 1) := by decide +kernel
theorem dX12_says_13 : decode cX12_says 13 = .ok (.iconst 0, 1) := by decide +kernel
theorem dX12_says_14 : decode cX12_says 14 = .ok (.iconst 2, 1) := by decide +kernel
theorem dX12_says_15 : decode cX12_says 15 = .ok (.invokestatic 211, 3) := by decide +kernel
theorem dX12_says_18 : decode cX12_says 18 = .ok (.ifCond .ne 5, 3) := by decide +kernel
theorem dX12_says_21 : decode cX12_says 21 = .ok (.iconst (-1), 1) := by decide +kernel
theorem dX12_says_22 : decode cX12_says 22 = .ok (.ireturn, 1) := by decide +kernel
theorem dX12_says_23 : decode cX12_says 23 = .ok (.iload_n 2, 1) := by decide +kernel
theorem dX12_says_24 : decode cX12_says 24 = .ok (.ifCond .ne 12, 3) := by decide +kernel
theorem dX12_says_27 : decode cX12_says 27 = .ok (.aload_n 0, 1) := by decide +kernel
theorem dX12_says_28 : decode cX12_says 28 = .ok (.iload_n 1, 1) := by decide +kernel
theorem dX12_says_29 : decode cX12_says 29 = .ok (.iconst 0, 1) := by decide +kernel
theorem dX12_says_30 : decode cX12_says 30 = .ok (.invokevirtual 286, 3) := by decide +kernel
theorem dX12_says_33 : decode cX12_says 33 = .ok (.goto 40, 3) := by decide +kernel
theorem dX12_says_36 : decode cX12_says 36 = .ok (.iload_n 2, 1) := by decide +kernel
theorem dX12_says_37 : decode cX12_says 37 = .ok (.iconst 1, 1) := by decide +kernel
theorem dX12_says_38 : decode cX12_says 38 = .ok (.if_icmp .ne 12, 3) := by decide +kernel
theorem dX12_says_41 : decode cX12_says 41 = .ok (.aload_n 0, 1) := by decide +kernel
theorem dX12_says_42 : decode cX12_says 42 = .ok (.iload_n 1, 1) := by decide +kernel
theorem dX12_says_43 : decode cX12_says 43 = .ok (.iconst 2, 1) := by decide +kernel
theorem dX12_says_44 : decode cX12_says 44 = .ok (.invokevirtual 286, 3) := by decide +kernel
theorem dX12_says_47 : decode cX12_says 47 = .ok (.goto 26, 3) := by decide +kernel
theorem dX12_says_50 : decode cX12_says 50 = .ok (.aload_n 0, 1) := by decide +kernel
theorem dX12_says_51 : decode cX12_says 51 = .ok (.iload_n 1, 1) := by decide +kernel
theorem dX12_says_52 : decode cX12_says 52 = .ok (.iconst 1, 1) := by decide +kernel
theorem dX12_says_53 : decode cX12_says 53 = .ok (.invokevirtual 286, 3) := by decide +kernel
theorem dX12_says_56 : decode cX12_says 56 = .ok (.ifCond .eq 16, 3) := by decide +kernel
theorem dX12_says_59 : decode cX12_says 59 = .ok (.aload_n 0, 1) := by decide +kernel
theorem dX12_says_60 : decode cX12_says 60 = .ok (.iload_n 1, 1) := by decide +kernel
theorem dX12_says_61 : decode cX12_says 61 = .ok (.iconst 2, 1) := by decide +kernel
theorem dX12_says_62 : decode cX12_says 62 = .ok (.invokevirtual 286, 3) := by decide +kernel
theorem dX12_says_65 : decode cX12_says 65 = .ok (.ifCond .ne 7, 3) := by decide +kernel
theorem dX12_says_68 : decode cX12_says 68 = .ok (.iconst 1, 1) := by decide +kernel
theorem dX12_says_69 : decode cX12_says 69 = .ok (.goto 4, 3) := by decide +kernel
theorem dX12_says_72 : decode cX12_says 72 = .ok (.iconst 0, 1) := by decide +kernel
theorem dX12_says_73 : decode cX12_says 73 = .ok (.istore_n 3, 1) := by decide +kernel
theorem dX12_says_74 : decode cX12_says 74 = .ok (.iload_n 3, 1) := by decide +kernel
theorem dX12_says_75 : decode cX12_says 75 = .ok (.ifCond .eq 7, 3) := by decide +kernel
theorem dX12_says_78 : decode cX12_says 78 = .ok (.iconst 1, 1) := by decide +kernel
theorem dX12_says_79 : decode cX12_says 79 = .ok (.goto 4, 3) := by decide +kernel
theorem dX12_says_82 : decode cX12_says 82 = .ok (.iconst 0, 1) := by decide +kernel
theorem dX12_says_83 : decode cX12_says 83 = .ok (.ireturn, 1) := by decide +kernel
theorem dX12_mayLive_0 : decode cX12_mayLive 0 = .ok (.iconst 0, 1) := by decide +kernel
theorem dX12_mayLive_1 : decode cX12_mayLive 1 = .ok (.istore_n 2, 1) := by decide +kernel
theorem dX12_mayLive_2 : decode cX12_mayLive 2 = .ok (.iload_n 2, 1) := by decide +kernel
theorem dX12_mayLive_3 : decode cX12_mayLive 3 = .ok (.aload_n 0, 1) := by decide +kernel
theorem dX12_mayLive_4 : decode cX12_mayLive 4 = .ok (.getfield 312, 3) := by decide +kernel
theorem dX12_mayLive_7 : decode cX12_mayLive 7 = .ok (.if_icmp .ge 60, 3) := by decide +kernel
theorem dX12_mayLive_10 : decode cX12_mayLive 10 = .ok (.aload_n 0, 1) := by decide +kernel
theorem dX12_mayLive_11 : decode cX12_mayLive 11 = .ok (.getfield 119, 3) := by decide +kernel
theorem dX12_mayLive_14 : decode cX12_mayLive 14 = .ok (.iload_n 2, 1) := by decide +kernel
theorem dX12_mayLive_15 : decode cX12_mayLive 15 = .ok (.aaload, 1) := by decide +kernel
theorem dX12_mayLive_16 : decode cX12_mayLive 16 = .ok (.getfield 408, 3) := by decide +kernel
theorem dX12_mayLive_19 : decode cX12_mayLive 19 = .ok (.iconst 3, 1) := by decide +kernel
theorem dX12_mayLive_20 : decode cX12_mayLive 20 = .ok (.if_icmp .eq 6, 3) := by decide +kernel
theorem dX12_mayLive_23 : decode cX12_mayLive 23 = .ok (.goto 38, 3) := by decide +kernel
theorem dX12_mayLive_26 : decode cX12_mayLive 26 = .ok (.iconst 0, 1) := by decide +kernel
theorem dX12_mayLive_27 : decode cX12_mayLive 27 = .ok (.istore_n 3, 1) := by decide +kernel
theorem dX12_mayLive_28 : decode cX12_mayLive 28 = .ok (.iload_n 3, 1) := by decide +kernel
theorem dX12_mayLive_29 : decode cX12_mayLive 29 = .ok (.iconst 2, 1) := by decide +kernel
theorem dX12_mayLive_30 : decode cX12_mayLive 30 = .ok (.if_icmp .ge 31, 3) := by decide +kernel
theorem dX12_mayLive_33 : decode cX12_mayLive 33 = .ok (.aload_n 0, 1) := by decide +kernel
theorem dX12_mayLive_34 : decode cX12_mayLive 34 = .ok (.aload_n 0, 1) := by decide +kernel
theorem dX12_mayLive_35 : decode cX12_mayLive 35 = .ok (.getfield 119, 3) := by decide +kernel
theorem dX12_mayLive_38 : decode cX12_mayLive 38 = .ok (.iload_n 2, 1) := by decide +kernel
theorem dX12_mayLive_39 : decode cX12_mayLive 39 = .ok (.aaload, 1) := by decide +kernel
theorem dX12_mayLive_40 : decode cX12_mayLive 40 = .ok (.iload_n 3, 1) := by decide +kernel
theorem dX12_mayLive_41 : decode cX12_mayLive 41 = .ok (.aload_n 0, 1) := by decide +kernel
theorem dX12_mayLive_42 : decode cX12_mayLive 42 = .ok (.getfield 164, 3) := by decide +kernel
theorem dX12_mayLive_45 : decode cX12_mayLive 45 = .ok (.iload_n 1, 1) := by decide +kernel
theorem dX12_mayLive_46 : decode cX12_mayLive 46 = .ok (.iaload, 1) := by decide +kernel
theorem dX12_mayLive_47 : decode cX12_mayLive 47 = .ok (.invokevirtual 473, 3) := by decide +kernel
theorem dX12_mayLive_50 : decode cX12_mayLive 50 = .ok (.ifCond .ne 5, 3) := by decide +kernel
theorem dX12_mayLive_53 : decode cX12_mayLive 53 = .ok (.iconst 0, 1) := by decide +kernel
theorem dX12_mayLive_54 : decode cX12_mayLive 54 = .ok (.ireturn, 1) := by decide +kernel
theorem dX12_mayLive_55 : decode cX12_mayLive 55 = .ok (.iinc 3 1, 3) := by decide +kernel
theorem dX12_mayLive_58 : decode cX12_mayLive 58 = .ok (.goto (-30), 3) := by decide +kernel
theorem dX12_mayLive_61 : decode cX12_mayLive 61 = .ok (.iinc 2 1, 3) := by decide +kernel
theorem dX12_mayLive_64 : decode cX12_mayLive 64 = .ok (.goto (-62), 3) := by decide +kernel
theorem dX12_mayLive_67 : decode cX12_mayLive 67 = .ok (.iconst 1, 1) := by decide +kernel
theorem dX12_mayLive_68 : decode cX12_mayLive 68 = .ok (.ireturn, 1) := by decide +kernel
theorem dX12_isCell_0 : decode cX12_isCell 0 = .ok (.iload_n 0, 1) := by decide +kernel
theorem dX12_isCell_1 : decode cX12_isCell 1 = .ok (.ifCond .lt 14, 3) := by decide +kernel
theorem dX12_isCell_4 : decode cX12_isCell 4 = .ok (.iload_n 0, 1) := by decide +kernel
theorem dX12_isCell_5 : decode cX12_isCell 5 = .ok (.sipush 400, 3) := by decide +kernel
theorem dX12_isCell_8 : decode cX12_isCell 8 = .ok (.if_icmp .ge 7, 3) := by decide +kernel
theorem dX12_isCell_11 : decode cX12_isCell 11 = .ok (.iconst 1, 1) := by decide +kernel
theorem dX12_isCell_12 : decode cX12_isCell 12 = .ok (.goto 4, 3) := by decide +kernel
theorem dX12_isCell_15 : decode cX12_isCell 15 = .ok (.iconst 0, 1) := by decide +kernel
theorem dX12_isCell_16 : decode cX12_isCell 16 = .ok (.ireturn, 1) := by decide +kernel
theorem dX12_may_0 : decode cX12_may 0 = .ok (.aload_n 0, 1) := by decide +kernel
theorem dX12_may_1 : decode cX12_may 1 = .ok (.iconst 0, 1) := by decide +kernel
theorem dX12_may_2 : decode cX12_may 2 = .ok (.putfield 1, 3) := by decide +kernel
theorem dX12_may_5 : decode cX12_may 5 = .ok (.iload_n 1, 1) := by decide +kernel
theorem dX12_may_6 : decode cX12_may 6 = .ok (.invokestatic 477, 3) := by decide +kernel
theorem dX12_may_9 : decode cX12_may 9 = .ok (.ifCond .eq 19, 3) := by decide +kernel
theorem dX12_may_12 : decode cX12_may 12 = .ok (.aload_n 0, 1) := by decide +kernel
theorem dX12_may_13 : decode cX12_may 13 = .ok (.iload_n 1, 1) := by decide +kernel
theorem dX12_may_14 : decode cX12_may 14 = .ok (.invokevirtual 480, 3) := by decide +kernel
theorem dX12_may_17 : decode cX12_may 17 = .ok (.ifCond .eq 7, 3) := by decide +kernel
theorem dX12_may_20 : decode cX12_may 20 = .ok (.iconst 1, 1) := by decide +kernel
theorem dX12_may_21 : decode cX12_may 21 = .ok (.goto 8, 3) := by decide +kernel
theorem dX12_may_24 : decode cX12_may 24 = .ok (.iconst 0, 1) := by decide +kernel
theorem dX12_may_25 : decode cX12_may 25 = .ok (.goto 4, 3) := by decide +kernel
theorem dX12_may_28 : decode cX12_may 28 = .ok (.iconst (-1), 1) := by decide +kernel
theorem dX12_may_29 : decode cX12_may 29 = .ok (.ireturn, 1) := by decide +kernel
theorem dX12_reading_0 : decode cX12_reading 0 = .ok (.aload_n 0, 1) := by decide +kernel
theorem dX12_reading_1 : decode cX12_reading 1 = .ok (.iconst 0, 1) := by decide +kernel
theorem dX12_reading_2 : decode cX12_reading 2 = .ok (.putfield 1, 3) := by decide +kernel
theorem dX12_reading_5 : decode cX12_reading 5 = .ok (.iload_n 1, 1) := by decide +kernel
theorem dX12_reading_6 : decode cX12_reading 6 = .ok (.iload_n 2, 1) := by decide +kernel
theorem dX12_reading_7 : decode cX12_reading 7 = .ok (.invokestatic 203, 3) := by decide +kernel
theorem dX12_reading_10 : decode cX12_reading 10 = .ok (.ifCond .ne 9, 3) := by decide +kernel
theorem dX12_reading_13 : decode cX12_reading 13 = .ok (.aload_n 0, 1) := by decide +kernel
theorem dX12_reading_14 : decode cX12_reading 14 = .ok (.iconst 1, 1) := by decide +kernel
theorem dX12_reading_15 : decode cX12_reading 15 = .ok (.invokevirtual 207, 3) := by decide +kernel
theorem dX12_reading_18 : decode cX12_reading 18 = .ok (.ireturn, 1) := by decide +kernel
theorem dX12_reading_19 : decode cX12_reading 19 = .ok (.iload_n 3, 1) := by decide +kernel
theorem dX12_reading_20 : decode cX12_reading 20 = .ok (.iconst 0, 1) := by decide +kernel
theorem dX12_reading_21 : decode cX12_reading 21 = .ok (.ldc 210, 2) := by decide +kernel
theorem dX12_reading_23 : decode cX12_reading 23 = .ok (.invokestatic 211, 3) := by decide +kernel
theorem dX12_reading_26 : decode cX12_reading 26 = .ok (.ifCond .ne 9, 3) := by decide +kernel
theorem dX12_reading_29 : decode cX12_reading 29 = .ok (.aload_n 0, 1) := by decide +kernel
theorem dX12_reading_30 : decode cX12_reading 30 = .ok (.iconst 2, 1) := by decide +kernel
theorem dX12_reading_31 : decode cX12_reading 31 = .ok (.invokevirtual 207, 3) := by decide +kernel
theorem dX12_reading_34 : decode cX12_reading 34 = .ok (.ireturn, 1) := by decide +kernel
theorem dX12_reading_35 : decode cX12_reading 35 = .ok (.aload_n 0, 1) := by decide +kernel
theorem dX12_reading_36 : decode cX12_reading 36 = .ok (.getfield 483, 3) := by decide +kernel
theorem dX12_reading_39 : decode cX12_reading 39 = .ok (.sipush 300, 3) := by decide +kernel
theorem dX12_reading_42 : decode cX12_reading 42 = .ok (.if_icmp .ne 9, 3) := by decide +kernel
theorem dX12_reading_45 : decode cX12_reading 45 = .ok (.aload_n 0, 1) := by decide +kernel
theorem dX12_reading_46 : decode cX12_reading 46 = .ok (.iconst 3, 1) := by decide +kernel
theorem dX12_reading_47 : decode cX12_reading 47 = .ok (.invokevirtual 207, 3) := by decide +kernel
theorem dX12_reading_50 : decode cX12_reading 50 = .ok (.ireturn, 1) := by decide +kernel
theorem dX12_reading_51 : decode cX12_reading 51 = .ok (.aload_n 0, 1) := by decide +kernel
theorem dX12_reading_52 : decode cX12_reading 52 = .ok (.getfield 137, 3) := by decide +kernel
theorem dX12_reading_55 : decode cX12_reading 55 = .ok (.aload_n 0, 1) := by decide +kernel
theorem dX12_reading_56 : decode cX12_reading 56 = .ok (.getfield 483, 3) := by decide +kernel
theorem dX12_reading_59 : decode cX12_reading 59 = .ok (.bipush 10, 2) := by decide +kernel
theorem dX12_reading_61 : decode cX12_reading 61 = .ok (.iload_n 1, 1) := by decide +kernel
theorem dX12_reading_62 : decode cX12_reading 62 = .ok (.imul, 1) := by decide +kernel
theorem dX12_reading_63 : decode cX12_reading 63 = .ok (.iload_n 2, 1) := by decide +kernel
theorem dX12_reading_64 : decode cX12_reading 64 = .ok (.iadd, 1) := by decide +kernel
theorem dX12_reading_65 : decode cX12_reading 65 = .ok (.iastore, 1) := by decide +kernel
theorem dX12_reading_66 : decode cX12_reading 66 = .ok (.aload_n 0, 1) := by decide +kernel
theorem dX12_reading_67 : decode cX12_reading 67 = .ok (.getfield 140, 3) := by decide +kernel
theorem dX12_reading_70 : decode cX12_reading 70 = .ok (.aload_n 0, 1) := by decide +kernel
theorem dX12_reading_71 : decode cX12_reading 71 = .ok (.getfield 483, 3) := by decide +kernel
theorem dX12_reading_74 : decode cX12_reading 74 = .ok (.aload_n 0, 1) := by decide +kernel
theorem dX12_reading_75 : decode cX12_reading 75 = .ok (.getfield 223, 3) := by decide +kernel
theorem dX12_reading_78 : decode cX12_reading 78 = .ok (.iastore, 1) := by decide +kernel
theorem dX12_reading_79 : decode cX12_reading 79 = .ok (.aload_n 0, 1) := by decide +kernel
theorem dX12_reading_80 : decode cX12_reading 80 = .ok (.getfield 143, 3) := by decide +kernel
theorem dX12_reading_83 : decode cX12_reading 83 = .ok (.aload_n 0, 1) := by decide +kernel
theorem dX12_reading_84 : decode cX12_reading 84 = .ok (.getfield 483, 3) := by decide +kernel
theorem dX12_reading_87 : decode cX12_reading 87 = .ok (.iload_n 3, 1) := by decide +kernel
theorem dX12_reading_88 : decode cX12_reading 88 = .ok (.iastore, 1) := by decide +kernel
theorem dX12_reading_89 : decode cX12_reading 89 = .ok (.aload_n 0, 1) := by decide +kernel
theorem dX12_reading_90 : decode cX12_reading 90 = .ok (.dup, 1) := by decide +kernel
theorem dX12_reading_91 : decode cX12_reading 91 = .ok (.getfield 483, 3) := by decide +kernel
theorem dX12_reading_94 : decode cX12_reading 94 = .ok (.iconst 1, 1) := by decide +kernel
theorem dX12_reading_95 : decode cX12_reading 95 = .ok (.iadd, 1) := by decide +kernel
theorem dX12_reading_96 : decode cX12_reading 96 = .ok (.putfield 483, 3) := by decide +kernel
theorem dX12_reading_99 : decode cX12_reading 99 = .ok (.aload_n 0, 1) := by decide +kernel
theorem dX12_reading_100 : decode cX12_reading 100 = .ok (.invokevirtual 215, 3) := by decide +kernel
theorem dX12_reading_103 : decode cX12_reading 103 = .ok (.ireturn, 1) := by decide +kernel
theorem dX12_readingOn_0 : decode cX12_readingOn 0 = .ok (.aload_n 0, 1) := by decide +kernel
theorem dX12_readingOn_1 : decode cX12_readingOn 1 = .ok (.getfield 483, 3) := by decide +kernel
theorem dX12_readingOn_4 : decode cX12_readingOn 4 = .ok (.iconst 1, 1) := by decide +kernel
theorem dX12_readingOn_5 : decode cX12_readingOn 5 = .ok (.isub, 1) := by decide +kernel
theorem dX12_readingOn_6 : decode cX12_readingOn 6 = .ok (.istore_n 3, 1) := by decide +kernel
theorem dX12_readingOn_7 : decode cX12_readingOn 7 = .ok (.iload_n 3, 1) := by decide +kernel
theorem dX12_readingOn_8 : decode cX12_readingOn 8 = .ok (.ifCond .lt 36, 3) := by decide +kernel
theorem dX12_readingOn_11 : decode cX12_readingOn 11 = .ok (.aload_n 0, 1) := by decide +kernel
theorem dX12_readingOn_12 : decode cX12_readingOn 12 = .ok (.getfield 137, 3) := by decide +kernel
theorem dX12_readingOn_15 : decode cX12_readingOn 15 = .ok (.iload_n 3, 1) := by decide +kernel
theorem dX12_readingOn_16 : decode cX12_readingOn 16 = .ok (.iaload, 1) := by decide +kernel
theorem dX12_readingOn_17 : decode cX12_readingOn 17 = .ok (.iload_n 1, 1) := by decide +kernel
theorem dX12_readingOn_18 : decode cX12_readingOn 18 = .ok (.if_icmp .ne 20, 3) := by decide +kernel
theorem dX12_readingOn_21 : decode cX12_readingOn 21 = .ok (.aload_n 0, 1) := by decide +kernel
theorem dX12_readingOn_22 : decode cX12_readingOn 22 = .ok (.getfield 140, 3) := by decide +kernel
theorem dX12_readingOn_25 : decode cX12_readingOn 25 = .ok (.iload_n 3, 1) := by decide +kernel
theorem dX12_readingOn_26 : decode cX12_readingOn 26 = .ok (.iaload, 1) := by decide +kernel
theorem dX12_readingOn_27 : decode cX12_readingOn 27 = .ok (.iload_n 2, 1) := by decide +kernel
theorem dX12_readingOn_28 : decode cX12_readingOn 28 = .ok (.if_icmp .ne 10, 3) := by decide +kernel
theorem dX12_readingOn_31 : decode cX12_readingOn 31 = .ok (.aload_n 0, 1) := by decide +kernel
theorem dX12_readingOn_32 : decode cX12_readingOn 32 = .ok (.getfield 143, 3) := by decide +kernel
theorem dX12_readingOn_35 : decode cX12_readingOn 35 = .ok (.iload_n 3, 1) := by decide +kernel
theorem dX12_readingOn_36 : decode cX12_readingOn 36 = .ok (.iaload, 1) := by decide +kernel
theorem dX12_readingOn_37 : decode cX12_readingOn 37 = .ok (.ireturn, 1) := by decide +kernel
theorem dX12_readingOn_38 : decode cX12_readingOn 38 = .ok (.iinc 3 (-1), 3) := by decide +kernel
theorem dX12_readingOn_41 : decode cX12_readingOn 41 = .ok (.goto (-34), 3) := by decide +kernel
theorem dX12_readingOn_44 : decode cX12_readingOn 44 = .ok (.iconst (-1), 1) := by decide +kernel
theorem dX12_readingOn_45 : decode cX12_readingOn 45 = .ok (.ireturn, 1) := by decide +kernel
theorem dX12_soundingOn_0 : decode cX12_soundingOn 0 = .ok (.aload_n 0, 1) := by decide +kernel
theorem dX12_soundingOn_1 : decode cX12_soundingOn 1 = .ok (.getfield 486, 3) := by decide +kernel
theorem dX12_soundingOn_4 : decode cX12_soundingOn 4 = .ok (.iconst 1, 1) := by decide +kernel
theorem dX12_soundingOn_5 : decode cX12_soundingOn 5 = .ok (.isub, 1) := by decide +kernel
theorem dX12_soundingOn_6 : decode cX12_soundingOn 6 = .ok (.istore_n 3, 1) := by decide +kernel
theorem dX12_soundingOn_7 : decode cX12_soundingOn 7 = .ok (.iload_n 3, 1) := by decide +kernel
theorem dX12_soundingOn_8 : decode cX12_soundingOn 8 = .ok (.ifCond .lt 36, 3) := by decide +kernel
theorem dX12_soundingOn_11 : decode cX12_soundingOn 11 = .ok (.aload_n 0, 1) := by decide +kernel
theorem dX12_soundingOn_12 : decode cX12_soundingOn 12 = .ok (.getfield 146, 3) := by decide +kernel
theorem dX12_soundingOn_15 : decode cX12_soundingOn 15 = .ok (.iload_n 3, 1) := by decide +kernel
theorem dX12_soundingOn_16 : decode cX12_soundingOn 16 = .ok (.iaload, 1) := by decide +kernel
theorem dX12_soundingOn_17 : decode cX12_soundingOn 17 = .ok (.iload_n 1, 1) := by decide +kernel
theorem dX12_soundingOn_18 : decode cX12_soundingOn 18 = .ok (.if_icmp .ne 20, 3) := by decide +kernel
theorem dX12_soundingOn_21 : decode cX12_soundingOn 21 = .ok (.aload_n 0, 1) := by decide +kernel
theorem dX12_soundingOn_22 : decode cX12_soundingOn 22 = .ok (.getfield 149, 3) := by decide +kernel
theorem dX12_soundingOn_25 : decode cX12_soundingOn 25 = .ok (.iload_n 3, 1) := by decide +kernel
theorem dX12_soundingOn_26 : decode cX12_soundingOn 26 = .ok (.iaload, 1) := by decide +kernel
theorem dX12_soundingOn_27 : decode cX12_soundingOn 27 = .ok (.iload_n 2, 1) := by decide +kernel
theorem dX12_soundingOn_28 : decode cX12_soundingOn 28 = .ok (.if_icmp .ne 10, 3) := by decide +kernel
theorem dX12_soundingOn_31 : decode cX12_soundingOn 31 = .ok (.aload_n 0, 1) := by decide +kernel
theorem dX12_soundingOn_32 : decode cX12_soundingOn 32 = .ok (.getfield 152, 3) := by decide +kernel
theorem dX12_soundingOn_35 : decode cX12_soundingOn 35 = .ok (.iload_n 3, 1) := by decide +kernel
theorem dX12_soundingOn_36 : decode cX12_soundingOn 36 = .ok (.iaload, 1) := by decide +kernel
theorem dX12_soundingOn_37 : decode cX12_soundingOn 37 = .ok (.ireturn, 1) := by decide +kernel
theorem dX12_soundingOn_38 : decode cX12_soundingOn 38 = .ok (.iinc 3 (-1), 3) := by decide +kernel
theorem dX12_soundingOn_41 : decode cX12_soundingOn 41 = .ok (.goto (-34), 3) := by decide +kernel
theorem dX12_soundingOn_44 : decode cX12_soundingOn 44 = .ok (.iconst (-1), 1) := by decide +kernel
theorem dX12_soundingOn_45 : decode cX12_soundingOn 45 = .ok (.ireturn, 1) := by decide +kernel
theorem dX12_sounding_0 : decode cX12_sounding 0 = .ok (.aload_n 0, 1) := by decide +kernel
theorem dX12_sounding_1 : decode cX12_sounding 1 = .ok (.iconst 0, 1) := by decide +kernel
theorem dX12_sounding_2 : decode cX12_sounding 2 = .ok (.putfield 1, 3) := by decide +kernel
theorem dX12_sounding_5 : decode cX12_sounding 5 = .ok (.iload_n 1, 1) := by decide +kernel
theorem dX12_sounding_6 : decode cX12_sounding 6 = .ok (.iload_n 2, 1) := by decide +kernel
theorem dX12_sounding_7 : decode cX12_sounding 7 = .ok (.invokestatic 203, 3) := by decide +kernel
theorem dX12_sounding_10 : decode cX12_sounding 10 = .ok (.ifCond .ne 9, 3) := by decide +kernel
theorem dX12_sounding_13 : decode cX12_sounding 13 = .ok (.aload_n 0, 1) := by decide +kernel
theorem dX12_sounding_14 : decode cX12_sounding 14 = .ok (.iconst 1, 1) := by decide +kernel
theorem dX12_sounding_15 : decode cX12_sounding 15 = .ok (.invokevirtual 489, 3) := by decide +kernel
theorem dX12_sounding_18 : decode cX12_sounding 18 = .ok (.ireturn, 1) := by decide +kernel
theorem dX12_sounding_19 : decode cX12_sounding 19 = .ok (.iload_n 3, 1) := by decide +kernel
theorem dX12_sounding_20 : decode cX12_sounding 20 = .ok (.iconst 0, 1) := by decide +kernel
theorem dX12_sounding_21 : decode cX12_sounding 21 = .ok (.ldc 210, 2) := by decide +kernel
theorem dX12_sounding_23 : decode cX12_sounding 23 = .ok (.invokestatic 211, 3) := by decide +kernel
theorem dX12_sounding_26 : decode cX12_sounding 26 = .ok (.ifCond .ne 9, 3) := by decide +kernel
theorem dX12_sounding_29 : decode cX12_sounding 29 = .ok (.aload_n 0, 1) := by decide +kernel
theorem dX12_sounding_30 : decode cX12_sounding 30 = .ok (.iconst 2, 1) := by decide +kernel
theorem dX12_sounding_31 : decode cX12_sounding 31 = .ok (.invokevirtual 489, 3) := by decide +kernel
theorem dX12_sounding_34 : decode cX12_sounding 34 = .ok (.ireturn, 1) := by decide +kernel
theorem dX12_sounding_35 : decode cX12_sounding 35 = .ok (.bipush 10, 2) := by decide +kernel
theorem dX12_sounding_37 : decode cX12_sounding 37 = .ok (.iload_n 1, 1) := by decide +kernel
theorem dX12_sounding_38 : decode cX12_sounding 38 = .ok (.imul, 1) := by decide +kernel
theorem dX12_sounding_39 : decode cX12_sounding 39 = .ok (.iload_n 2, 1) := by decide +kernel
theorem dX12_sounding_40 : decode cX12_sounding 40 = .ok (.iadd, 1) := by decide +kernel
theorem dX12_sounding_41 : decode cX12_sounding 41 = .ok (.istore 4, 2) := by decide +kernel
theorem dX12_sounding_43 : decode cX12_sounding 43 = .ok (.aload_n 0, 1) := by decide +kernel
theorem dX12_sounding_44 : decode cX12_sounding 44 = .ok (.iload 4, 2) := by decide +kernel
theorem dX12_sounding_46 : decode cX12_sounding 46 = .ok (.aload_n 0, 1) := by decide +kernel
theorem dX12_sounding_47 : decode cX12_sounding 47 = .ok (.getfield 223, 3) := by decide +kernel
theorem dX12_sounding_50 : decode cX12_sounding 50 = .ok (.invokevirtual 492, 3) := by decide +kernel
theorem dX12_sounding_53 : decode cX12_sounding 53 = .ok (.iconst (-1), 1) := by decide +kernel
theorem dX12_sounding_54 : decode cX12_sounding 54 = .ok (.if_icmp .ne 9, 3) := by decide +kernel
theorem dX12_sounding_57 : decode cX12_sounding 57 = .ok (.aload_n 0, 1) := by decide +kernel
theorem dX12_sounding_58 : decode cX12_sounding 58 = .ok (.iconst 5, 1) := by decide +kernel
theorem dX12_sounding_59 : decode cX12_sounding 59 = .ok (.invokevirtual 489, 3) := by decide +kernel
theorem dX12_sounding_62 : decode cX12_sounding 62 = .ok (.ireturn, 1) := by decide +kernel
theorem dX12_sounding_63 : decode cX12_sounding 63 = .ok (.aload_n 0, 1) := by decide +kernel
theorem dX12_sounding_64 : decode cX12_sounding 64 = .ok (.getfield 486, 3) := by decide +kernel
theorem dX12_sounding_67 : decode cX12_sounding 67 = .ok (.bipush 60, 2) := by decide +kernel
theorem dX12_sounding_69 : decode cX12_sounding 69 = .ok (.if_icmp .ne 9, 3) := by decide +kernel
theorem dX12_sounding_72 : decode cX12_sounding 72 = .ok (.aload_n 0, 1) := by decide +kernel
theorem dX12_sounding_73 : decode cX12_sounding 73 = .ok (.iconst 3, 1) := by decide +kernel
theorem dX12_sounding_74 : decode cX12_sounding 74 = .ok (.invokevirtual 489, 3) := by decide +kernel
theorem dX12_sounding_77 : decode cX12_sounding 77 = .ok (.ireturn, 1) := by decide +kernel
theorem dX12_sounding_78 : decode cX12_sounding 78 = .ok (.aload_n 0, 1) := by decide +kernel
theorem dX12_sounding_79 : decode cX12_sounding 79 = .ok (.getfield 146, 3) := by decide +kernel
theorem dX12_sounding_82 : decode cX12_sounding 82 = .ok (.aload_n 0, 1) := by decide +kernel
theorem dX12_sounding_83 : decode cX12_sounding 83 = .ok (.getfield 486, 3) := by decide +kernel
theorem dX12_sounding_86 : decode cX12_sounding 86 = .ok (.iload 4, 2) := by decide +kernel
theorem dX12_sounding_88 : decode cX12_sounding 88 = .ok (.iastore, 1) := by decide +kernel
theorem dX12_sounding_89 : decode cX12_sounding 89 = .ok (.aload_n 0, 1) := by decide +kernel
theorem dX12_sounding_90 : decode cX12_sounding 90 = .ok (.getfield 149, 3) := by decide +kernel
theorem dX12_sounding_93 : decode cX12_sounding 93 = .ok (.aload_n 0, 1) := by decide +kernel
theorem dX12_sounding_94 : decode cX12_sounding 94 = .ok (.getfield 486, 3) := by decide +kernel
theorem dX12_sounding_97 : decode cX12_sounding 97 = .ok (.aload_n 0, 1) := by decide +kernel
theorem dX12_sounding_98 : decode cX12_sounding 98 = .ok (.getfield 223, 3) := by decide +kernel
theorem dX12_sounding_101 : decode cX12_sounding 101 = .ok (.iastore, 1) := by decide +kernel
theorem dX12_sounding_102 : decode cX12_sounding 102 = .ok (.aload_n 0, 1) := by decide +kernel
theorem dX12_sounding_103 : decode cX12_sounding 103 = .ok (.getfield 152, 3) := by decide +kernel
theorem dX12_sounding_106 : decode cX12_sounding 106 = .ok (.aload_n 0, 1) := by decide +kernel
theorem dX12_sounding_107 : decode cX12_sounding 107 = .ok (.getfield 486, 3) := by decide +kernel
theorem dX12_sounding_110 : decode cX12_sounding 110 = .ok (.iload_n 3, 1) := by decide +kernel
theorem dX12_sounding_111 : decode cX12_sounding 111 = .ok (.iastore, 1) := by decide +kernel
theorem dX12_sounding_112 : decode cX12_sounding 112 = .ok (.aload_n 0, 1) := by decide +kernel
theorem dX12_sounding_113 : decode cX12_sounding 113 = .ok (.dup, 1) := by decide +kernel
theorem dX12_sounding_114 : decode cX12_sounding 114 = .ok (.getfield 486, 3) := by decide +kernel
theorem dX12_sounding_117 : decode cX12_sounding 117 = .ok (.iconst 1, 1) := by decide +kernel
theorem dX12_sounding_118 : decode cX12_sounding 118 = .ok (.iadd, 1) := by decide +kernel
theorem dX12_sounding_119 : decode cX12_sounding 119 = .ok (.putfield 486, 3) := by decide +kernel
theorem dX12_sounding_122 : decode cX12_sounding 122 = .ok (.aload_n 0, 1) := by decide +kernel
theorem dX12_sounding_123 : decode cX12_sounding 123 = .ok (.aload_n 0, 1) := by decide +kernel
theorem dX12_sounding_124 : decode cX12_sounding 124 = .ok (.iload 4, 2) := by decide +kernel
theorem dX12_sounding_126 : decode cX12_sounding 126 = .ok (.aload_n 0, 1) := by decide +kernel
theorem dX12_sounding_127 : decode cX12_sounding 127 = .ok (.getfield 223, 3) := by decide +kernel
theorem dX12_sounding_130 : decode cX12_sounding 130 = .ok (.invokevirtual 495, 3) := by decide +kernel
theorem dX12_sounding_133 : decode cX12_sounding 133 = .ok (.invokevirtual 277, 3) := by decide +kernel
theorem dX12_sounding_136 : decode cX12_sounding 136 = .ok (.ireturn, 1) := by decide +kernel
theorem dX12_driftOn_0 : decode cX12_driftOn 0 = .ok (.aload_n 0, 1) := by decide +kernel
theorem dX12_driftOn_1 : decode cX12_driftOn 1 = .ok (.iload_n 1, 1) := by decide +kernel
theorem dX12_driftOn_2 : decode cX12_driftOn 2 = .ok (.iload_n 2, 1) := by decide +kernel
theorem dX12_driftOn_3 : decode cX12_driftOn 3 = .ok (.invokevirtual 498, 3) := by decide +kernel
theorem dX12_driftOn_6 : decode cX12_driftOn 6 = .ok (.aload_n 0, 1) := by decide +kernel
theorem dX12_driftOn_7 : decode cX12_driftOn 7 = .ok (.iload_n 1, 1) := by decide +kernel
theorem dX12_driftOn_8 : decode cX12_driftOn 8 = .ok (.iload_n 2, 1) := by decide +kernel
theorem dX12_driftOn_9 : decode cX12_driftOn 9 = .ok (.invokevirtual 492, 3) := by decide +kernel
theorem dX12_driftOn_12 : decode cX12_driftOn 12 = .ok (.isub, 1) := by decide +kernel
theorem dX12_driftOn_13 : decode cX12_driftOn 13 = .ok (.ireturn, 1) := by decide +kernel
theorem dX12_down_0 : decode cX12_down 0 = .ok (.iload_n 0, 1) := by decide +kernel
theorem dX12_down_1 : decode cX12_down 1 = .ok (.iload_n 1, 1) := by decide +kernel
theorem dX12_down_2 : decode cX12_down 2 = .ok (.idiv, 1) := by decide +kernel
theorem dX12_down_3 : decode cX12_down 3 = .ok (.iload_n 0, 1) := by decide +kernel
theorem dX12_down_4 : decode cX12_down 4 = .ok (.iload_n 1, 1) := by decide +kernel
theorem dX12_down_5 : decode cX12_down 5 = .ok (.irem, 1) := by decide +kernel
theorem dX12_down_6 : decode cX12_down 6 = .ok (.ifCond .ge 7, 3) := by decide +kernel
theorem dX12_down_9 : decode cX12_down 9 = .ok (.iconst 1, 1) := by decide +kernel
theorem dX12_down_10 : decode cX12_down 10 = .ok (.goto 4, 3) := by decide +kernel
theorem dX12_down_13 : decode cX12_down 13 = .ok (.iconst 0, 1) := by decide +kernel
theorem dX12_down_14 : decode cX12_down 14 = .ok (.isub, 1) := by decide +kernel
theorem dX12_down_15 : decode cX12_down 15 = .ok (.ireturn, 1) := by decide +kernel
theorem dX12_drift_0 : decode cX12_drift 0 = .ok (.iconst (-1), 1) := by decide +kernel
theorem dX12_drift_1 : decode cX12_drift 1 = .ok (.istore 4, 2) := by decide +kernel
theorem dX12_drift_3 : decode cX12_drift 3 = .ok (.ldc_w 301, 3) := by decide +kernel
theorem dX12_drift_6 : decode cX12_drift 6 = .ok (.istore 5, 2) := by decide +kernel
theorem dX12_drift_8 : decode cX12_drift 8 = .ok (.iconst 0, 1) := by decide +kernel
theorem dX12_drift_9 : decode cX12_drift 9 = .ok (.istore 6, 2) := by decide +kernel
theorem dX12_drift_11 : decode cX12_drift 11 = .ok (.iload 6, 2) := by decide +kernel
theorem dX12_drift_13 : decode cX12_drift 13 = .ok (.aload_n 0, 1) := by decide +kernel
theorem dX12_drift_14 : decode cX12_drift 14 = .ok (.getfield 486, 3) := by decide +kernel
theorem dX12_drift_17 : decode cX12_drift 17 = .ok (.if_icmp .ge 84, 3) := by decide +kernel
theorem dX12_drift_20 : decode cX12_drift 20 = .ok (.aload_n 0, 1) := by decide +kernel
theorem dX12_drift_21 : decode cX12_drift 21 = .ok (.getfield 146, 3) := by decide +kernel
theorem dX12_drift_24 : decode cX12_drift 24 = .ok (.iload 6, 2) := by decide +kernel
theorem dX12_drift_26 : decode cX12_drift 26 = .ok (.iaload, 1) := by decide +kernel
theorem dX12_drift_27 : decode cX12_drift 27 = .ok (.iload_n 1, 1) := by decide +kernel
theorem dX12_drift_28 : decode cX12_drift 28 = .ok (.if_icmp .ne 67, 3) := by decide +kernel
theorem dX12_drift_31 : decode cX12_drift 31 = .ok (.aload_n 0, 1) := by decide +kernel
theorem dX12_drift_32 : decode cX12_drift 32 = .ok (.getfield 149, 3) := by decide +kernel
theorem dX12_drift_35 : decode cX12_drift 35 = .ok (.iload 6, 2) := by decide +kernel
theorem dX12_drift_37 : decode cX12_drift 37 = .ok (.iaload, 1) := by decide +kernel
theorem dX12_drift_38 : decode cX12_drift 38 = .ok (.iload_n 3, 1) := by decide +kernel
theorem dX12_drift_39 : decode cX12_drift 39 = .ok (.if_icmp .le 6, 3) := by decide +kernel
theorem dX12_drift_42 : decode cX12_drift 42 = .ok (.goto 53, 3) := by decide +kernel
theorem dX12_drift_45 : decode cX12_drift 45 = .ok (.aload_n 0, 1) := by decide +kernel
theorem dX12_drift_46 : decode cX12_drift 46 = .ok (.getfield 149, 3) := by decide +kernel
theorem dX12_drift_49 : decode cX12_drift 49 = .ok (.iload 6, 2) := by decide +kernel
theorem dX12_drift_51 : decode cX12_drift 51 = .ok (.iaload, 1) := by decide +kernel
theorem dX12_drift_52 : decode cX12_drift 52 = .ok (.iload_n 2, 1) := by decide +kernel
theorem dX12_drift_53 : decode cX12_drift 53 = .ok (.if_icmp .gt 17, 3) := by decide +kernel
theorem dX12_drift_56 : decode cX12_drift 56 = .ok (.iload 4, 2) := by decide +kernel
theorem dX12_drift_58 : decode cX12_drift 58 = .ok (.aload_n 0, 1) := by decide +kernel
theorem dX12_drift_59 : decode cX12_drift 59 = .ok (.getfield 149, 3) := by decide +kernel
theorem dX12_drift_62 : decode cX12_drift 62 = .ok (.iload 6, 2) := by decide +kernel
theorem dX12_drift_64 : decode cX12_drift 64 = .ok (.iaload, 1) := by decide +kernel
theorem dX12_drift_65 : decode cX12_drift 65 = .ok (.invokestatic 186, 3) := by decide +kernel
theorem dX12_drift_68 : decode cX12_drift 68 = .ok (.istore 4, 2) := by decide +kernel
theorem dX12_drift_70 : decode cX12_drift 70 = .ok (.aload_n 0, 1) := by decide +kernel
theorem dX12_drift_71 : decode cX12_drift 71 = .ok (.getfield 149, 3) := by decide +kernel
theorem dX12_drift_74 : decode cX12_drift 74 = .ok (.iload 6, 2) := by decide +kernel
theorem dX12_drift_76 : decode cX12_drift 76 = .ok (.iaload, 1) := by decide +kernel
theorem dX12_drift_77 : decode cX12_drift 77 = .ok (.iload_n 2, 1) := by decide +kernel
theorem dX12_drift_78 : decode cX12_drift 78 = .ok (.if_icmp .lt 17, 3) := by decide +kernel
theorem dX12_drift_81 : decode cX12_drift 81 = .ok (.iload 5, 2) := by decide +kernel
theorem dX12_drift_83 : decode cX12_drift 83 = .ok (.aload_n 0, 1) := by decide +kernel
theorem dX12_drift_84 : decode cX12_drift 84 = .ok (.getfield 149, 3) := by decide +kernel
theorem dX12_drift_87 : decode cX12_drift 87 = .ok (.iload 6, 2) := by decide +kernel
theorem dX12_drift_89 : decode cX12_drift 89 = .ok (.iaload, 1) := by decide +kernel
theorem dX12_drift_90 : decode cX12_drift 90 = .ok (.invokestatic 501, 3) := by decide +kernel
theorem dX12_drift_93 : decode cX12_drift 93 = .ok (.istore 5, 2) := by decide +kernel
theorem dX12_drift_95 : decode cX12_drift 95 = .ok (.iinc 6 1, 3) := by decide +kernel
theorem dX12_drift_98 : decode cX12_drift 98 = .ok (.goto (-87), 3) := by decide +kernel
theorem dX12_drift_101 : decode cX12_drift 101 = .ok (.iload 4, 2) := by decide +kernel
theorem dX12_drift_103 : decode cX12_drift 103 = .ok (.iconst (-1), 1) := by decide +kernel
theorem dX12_drift_104 : decode cX12_drift 104 = .ok (.if_icmp .ne 13, 3) := by decide +kernel
theorem dX12_drift_107 : decode cX12_drift 107 = .ok (.iload 5, 2) := by decide +kernel
theorem dX12_drift_109 : decode cX12_drift 109 = .ok (.ldc_w 301, 3) := by decide +kernel
theorem dX12_drift_112 : decode cX12_drift 112 = .ok (.if_icmp .ne 5, 3) := by decide +kernel
theorem dX12_drift_115 : decode cX12_drift 115 = .ok (.iconst 0, 1) := by decide +kernel
theorem dX12_drift_116 : decode cX12_drift 116 = .ok (.ireturn, 1) := by decide +kernel
theorem dX12_drift_117 : decode cX12_drift 117 = .ok (.iload 4, 2) := by decide +kernel
theorem dX12_drift_119 : decode cX12_drift 119 = .ok (.iconst (-1), 1) := by decide +kernel
theorem dX12_drift_120 : decode cX12_drift 120 = .ok (.if_icmp .eq 18, 3) := by decide +kernel
theorem dX12_drift_123 : decode cX12_drift 123 = .ok (.iload 5, 2) := by decide +kernel
theorem dX12_drift_125 : decode cX12_drift 125 = .ok (.ldc_w 301, 3) := by decide +kernel
theorem dX12_drift_128 : decode cX12_drift 128 = .ok (.if_icmp .eq 10, 3) := by decide +kernel
theorem dX12_drift_131 : decode cX12_drift 131 = .ok (.iload 4, 2) := by decide +kernel
theorem dX12_drift_133 : decode cX12_drift 133 = .ok (.iload 5, 2) := by decide +kernel
theorem dX12_drift_135 : decode cX12_drift 135 = .ok (.if_icmp .ne 22, 3) := by decide +kernel
theorem dX12_drift_138 : decode cX12_drift 138 = .ok (.aload_n 0, 1) := by decide +kernel
theorem dX12_drift_139 : decode cX12_drift 139 = .ok (.iload_n 1, 1) := by decide +kernel
theorem dX12_drift_140 : decode cX12_drift 140 = .ok (.iload 4, 2) := by decide +kernel
theorem dX12_drift_142 : decode cX12_drift 142 = .ok (.iconst (-1), 1) := by decide +kernel
theorem dX12_drift_143 : decode cX12_drift 143 = .ok (.if_icmp .ne 8, 3) := by decide +kernel
theorem dX12_drift_146 : decode cX12_drift 146 = .ok (.iload 5, 2) := by decide +kernel
theorem dX12_drift_148 : decode cX12_drift 148 = .ok (.goto 5, 3) := by decide +kernel
theorem dX12_drift_151 : decode cX12_drift 151 = .ok (.iload 4, 2) := by decide +kernel
theorem dX12_drift_153 : decode cX12_drift 153 = .ok (.invokevirtual 495, 3) := by decide +kernel
theorem dX12_drift_156 : decode cX12_drift 156 = .ok (.ireturn, 1) := by decide +kernel
theorem dX12_drift_157 : decode cX12_drift 157 = .ok (.aload_n 0, 1) := by decide +kernel
theorem dX12_drift_158 : decode cX12_drift 158 = .ok (.iload_n 1, 1) := by decide +kernel
theorem dX12_drift_159 : decode cX12_drift 159 = .ok (.iload 4, 2) := by decide +kernel
theorem dX12_drift_161 : decode cX12_drift 161 = .ok (.invokevirtual 495, 3) := by decide +kernel
theorem dX12_drift_164 : decode cX12_drift 164 = .ok (.istore 6, 2) := by decide +kernel
theorem dX12_drift_166 : decode cX12_drift 166 = .ok (.iload 6, 2) := by decide +kernel
theorem dX12_drift_168 : decode cX12_drift 168 = .ok (.aload_n 0, 1) := by decide +kernel
theorem dX12_drift_169 : decode cX12_drift 169 = .ok (.iload_n 1, 1) := by decide +kernel
theorem dX12_drift_170 : decode cX12_drift 170 = .ok (.iload 5, 2) := by decide +kernel
theorem dX12_drift_172 : decode cX12_drift 172 = .ok (.invokevirtual 495, 3) := by decide +kernel
theorem dX12_drift_175 : decode cX12_drift 175 = .ok (.iload 6, 2) := by decide +kernel
theorem dX12_drift_177 : decode cX12_drift 177 = .ok (.isub, 1) := by decide +kernel
theorem dX12_drift_178 : decode cX12_drift 178 = .ok (.iload_n 2, 1) := by decide +kernel
theorem dX12_drift_179 : decode cX12_drift 179 = .ok (.iload 4, 2) := by decide +kernel
theorem dX12_drift_181 : decode cX12_drift 181 = .ok (.isub, 1) := by decide +kernel
theorem dX12_drift_182 : decode cX12_drift 182 = .ok (.imul, 1) := by decide +kernel
theorem dX12_drift_183 : decode cX12_drift 183 = .ok (.iload 5, 2) := by decide +kernel
theorem dX12_drift_185 : decode cX12_drift 185 = .ok (.iload 4, 2) := by decide +kernel
theorem dX12_drift_187 : decode cX12_drift 187 = .ok (.isub, 1) := by decide +kernel
theorem dX12_drift_188 : decode cX12_drift 188 = .ok (.invokestatic 503, 3) := by decide +kernel
theorem dX12_drift_191 : decode cX12_drift 191 = .ok (.iadd, 1) := by decide +kernel
theorem dX12_drift_192 : decode cX12_drift 192 = .ok (.ireturn, 1) := by decide +kernel
theorem dX12_putRight_0 : decode cX12_putRight 0 = .ok (.iconst 0, 1) := by decide +kernel
theorem dX12_putRight_1 : decode cX12_putRight 1 = .ok (.ldc 210, 2) := by decide +kernel
theorem dX12_putRight_3 : decode cX12_putRight 3 = .ok (.aload_n 0, 1) := by decide +kernel
theorem dX12_putRight_4 : decode cX12_putRight 4 = .ok (.iload_n 1, 1) := by decide +kernel
theorem dX12_putRight_5 : decode cX12_putRight 5 = .ok (.iload_n 2, 1) := by decide +kernel
theorem dX12_putRight_6 : decode cX12_putRight 6 = .ok (.invokevirtual 492, 3) := by decide +kernel
theorem dX12_putRight_9 : decode cX12_putRight 9 = .ok (.aload_n 0, 1) := by decide +kernel
theorem dX12_putRight_10 : decode cX12_putRight 10 = .ok (.iload_n 1, 1) := by decide +kernel
theorem dX12_putRight_11 : decode cX12_putRight 11 = .ok (.iload_n 2, 1) := by decide +kernel
theorem dX12_putRight_12 : decode cX12_putRight 12 = .ok (.iload_n 3, 1) := by decide +kernel
theorem dX12_putRight_13 : decode cX12_putRight 13 = .ok (.invokevirtual 506, 3) := by decide +kernel
theorem dX12_putRight_16 : decode cX12_putRight 16 = .ok (.iadd, 1) := by decide +kernel
theorem dX12_putRight_17 : decode cX12_putRight 17 = .ok (.invokestatic 501, 3) := by decide +kernel
theorem dX12_putRight_20 : decode cX12_putRight 20 = .ok (.invokestatic 186, 3) := by decide +kernel
theorem dX12_putRight_23 : decode cX12_putRight 23 = .ok (.ireturn, 1) := by decide +kernel
theorem dX12_latestDay_0 : decode cX12_latestDay 0 = .ok (.iconst (-1), 1) := by decide +kernel
theorem dX12_latestDay_1 : decode cX12_latestDay 1 = .ok (.istore_n 3, 1) := by decide +kernel
theorem dX12_latestDay_2 : decode cX12_latestDay 2 = .ok (.iconst 0, 1) := by decide +kernel
theorem dX12_latestDay_3 : decode cX12_latestDay 3 = .ok (.istore 4, 2) := by decide +kernel
theorem dX12_latestDay_5 : decode cX12_latestDay 5 = .ok (.iload 4, 2) := by decide +kernel
theorem dX12_latestDay_7 : decode cX12_latestDay 7 = .ok (.aload_n 0, 1) := by decide +kernel
theorem dX12_latestDay_8 : decode cX12_latestDay 8 = .ok (.getfield 483, 3) := by decide +kernel
theorem dX12_latestDay_11 : decode cX12_latestDay 11 = .ok (.if_icmp .ge 47, 3) := by decide +kernel
theorem dX12_latestDay_14 : decode cX12_latestDay 14 = .ok (.aload_n 0, 1) := by decide +kernel
theorem dX12_latestDay_15 : decode cX12_latestDay 15 = .ok (.getfield 137, 3) := by decide +kernel
theorem dX12_latestDay_18 : decode cX12_latestDay 18 = .ok (.iload 4, 2) := by decide +kernel
theorem dX12_latestDay_20 : decode cX12_latestDay 20 = .ok (.iaload, 1) := by decide +kernel
theorem dX12_latestDay_21 : decode cX12_latestDay 21 = .ok (.iload_n 1, 1) := by decide +kernel
theorem dX12_latestDay_22 : decode cX12_latestDay 22 = .ok (.if_icmp .ne 28, 3) := by decide +kernel
theorem dX12_latestDay_25 : decode cX12_latestDay 25 = .ok (.aload_n 0, 1) := by decide +kernel
theorem dX12_latestDay_26 : decode cX12_latestDay 26 = .ok (.getfield 140, 3) := by decide +kernel
theorem dX12_latestDay_29 : decode cX12_latestDay 29 = .ok (.iload 4, 2) := by decide +kernel
theorem dX12_latestDay_31 : decode cX12_latestDay 31 = .ok (.iaload, 1) := by decide +kernel
theorem dX12_latestDay_32 : decode cX12_latestDay 32 = .ok (.iload_n 2, 1) := by decide +kernel
theorem dX12_latestDay_33 : decode cX12_latestDay 33 = .ok (.if_icmp .gt 17, 3) := by decide +kernel
theorem dX12_latestDay_36 : decode cX12_latestDay 36 = .ok (.iload_n 3, 1) := by decide +kernel
theorem dX12_latestDay_37 : decode cX12_latestDay 37 = .ok (.aload_n 0, 1) := by decide +kernel
theorem dX12_latestDay_38 : decode cX12_latestDay 38 = .ok (.getfield 140, 3) := by decide +kernel
theorem dX12_latestDay_41 : decode cX12_latestDay 41 = .ok (.iload 4, 2) := by decide +kernel
theorem dX12_latestDay_43 : decode cX12_latestDay 43 = .ok (.iaload, 1) := by decide +kernel
theorem dX12_latestDay_44 : decode cX12_latestDay 44 = .ok (.invokestatic 186, 3) := by decide +kernel
theorem dX12_latestDay_47 : decode cX12_latestDay 47 = .ok (.goto 4, 3) := by decide +kernel
theorem dX12_latestDay_50 : decode cX12_latestDay 50 = .ok (.iload_n 3, 1) := by decide +kernel
theorem dX12_latestDay_51 : decode cX12_latestDay 51 = .ok (.istore_n 3, 1) := by decide +kernel
theorem dX12_latestDay_52 : decode cX12_latestDay 52 = .ok (.iinc 4 1, 3) := by decide +kernel
theorem dX12_latestDay_55 : decode cX12_latestDay 55 = .ok (.goto (-50), 3) := by decide +kernel
theorem dX12_latestDay_58 : decode cX12_latestDay 58 = .ok (.iload_n 3, 1) := by decide +kernel
theorem dX12_latestDay_59 : decode cX12_latestDay 59 = .ok (.ireturn, 1) := by decide +kernel
theorem dX12_isDead_0 : decode cX12_isDead 0 = .ok (.aload_n 0, 1) := by decide +kernel
theorem dX12_isDead_1 : decode cX12_isDead 1 = .ok (.bipush 10, 2) := by decide +kernel
theorem dX12_isDead_3 : decode cX12_isDead 3 = .ok (.iload_n 1, 1) := by decide +kernel
theorem dX12_isDead_4 : decode cX12_isDead 4 = .ok (.imul, 1) := by decide +kernel
theorem dX12_isDead_5 : decode cX12_isDead 5 = .ok (.iload_n 2, 1) := by decide +kernel
theorem dX12_isDead_6 : decode cX12_isDead 6 = .ok (.iadd, 1) := by decide +kernel
theorem dX12_isDead_7 : decode cX12_isDead 7 = .ok (.iload_n 3, 1) := by decide +kernel
theorem dX12_isDead_8 : decode cX12_isDead 8 = .ok (.invokevirtual 509, 3) := by decide +kernel
theorem dX12_isDead_11 : decode cX12_isDead 11 = .ok (.istore 4, 2) := by decide +kernel
theorem dX12_isDead_13 : decode cX12_isDead 13 = .ok (.iload 4, 2) := by decide +kernel
theorem dX12_isDead_15 : decode cX12_isDead 15 = .ok (.iconst (-1), 1) := by decide +kernel
theorem dX12_isDead_16 : decode cX12_isDead 16 = .ok (.if_icmp .eq 12, 3) := by decide +kernel
theorem dX12_isDead_19 : decode cX12_isDead 19 = .ok (.iload 4, 2) := by decide +kernel
theorem dX12_isDead_21 : decode cX12_isDead 21 = .ok (.iload_n 3, 1) := by decide +kernel
theorem dX12_isDead_22 : decode cX12_isDead 22 = .ok (.bipush 7, 2) := by decide +kernel
theorem dX12_isDead_24 : decode cX12_isDead 24 = .ok (.isub, 1) := by decide +kernel
theorem dX12_isDead_25 : decode cX12_isDead 25 = .ok (.if_icmp .gt 7, 3) := by decide +kernel
theorem dX12_isDead_28 : decode cX12_isDead 28 = .ok (.iconst 1, 1) := by decide +kernel
theorem dX12_isDead_29 : decode cX12_isDead 29 = .ok (.goto 4, 3) := by decide +kernel
theorem dX12_isDead_32 : decode cX12_isDead 32 = .ok (.iconst 0, 1) := by decide +kernel
theorem dX12_isDead_33 : decode cX12_isDead 33 = .ok (.ireturn, 1) := by decide +kernel
theorem dX12_toldGas_0 : decode cX12_toldGas 0 = .ok (.bipush 10, 2) := by decide +kernel
theorem dX12_toldGas_2 : decode cX12_toldGas 2 = .ok (.iload_n 1, 1) := by decide +kernel
theorem dX12_toldGas_3 : decode cX12_toldGas 3 = .ok (.imul, 1) := by decide +kernel
theorem dX12_toldGas_4 : decode cX12_toldGas 4 = .ok (.iload_n 2, 1) := by decide +kernel
theorem dX12_toldGas_5 : decode cX12_toldGas 5 = .ok (.iadd, 1) := by decide +kernel
theorem dX12_toldGas_6 : decode cX12_toldGas 6 = .ok (.istore 4, 2) := by decide +kernel
theorem dX12_toldGas_8 : decode cX12_toldGas 8 = .ok (.aload_n 0, 1) := by decide +kernel
theorem dX12_toldGas_9 : decode cX12_toldGas 9 = .ok (.iload_n 1, 1) := by decide +kernel
theorem dX12_toldGas_10 : decode cX12_toldGas 10 = .ok (.iload_n 2, 1) := by decide +kernel
theorem dX12_toldGas_11 : decode cX12_toldGas 11 = .ok (.iload_n 3, 1) := by decide +kernel
theorem dX12_toldGas_12 : decode cX12_toldGas 12 = .ok (.invokevirtual 229, 3) := by decide +kernel
theorem dX12_toldGas_15 : decode cX12_toldGas 15 = .ok (.ifCond .eq 12, 3) := by decide +kernel
theorem dX12_toldGas_18 : decode cX12_toldGas 18 = .ok (.aload_n 0, 1) := by decide +kernel
theorem dX12_toldGas_19 : decode cX12_toldGas 19 = .ok (.iload_n 1, 1) := by decide +kernel
theorem dX12_toldGas_20 : decode cX12_toldGas 20 = .ok (.iload_n 2, 1) := by decide +kernel
theorem dX12_toldGas_21 : decode cX12_toldGas 21 = .ok (.invokevirtual 192, 3) := by decide +kernel
theorem dX12_toldGas_24 : decode cX12_toldGas 24 = .ok (.goto 17, 3) := by decide +kernel
theorem dX12_toldGas_27 : decode cX12_toldGas 27 = .ok (.aload_n 0, 1) := by decide +kernel
theorem dX12_toldGas_28 : decode cX12_toldGas 28 = .ok (.iload 4, 2) := by decide +kernel
theorem dX12_toldGas_30 : decode cX12_toldGas 30 = .ok (.aload_n 0, 1) := by decide +kernel
theorem dX12_toldGas_31 : decode cX12_toldGas 31 = .ok (.iload 4, 2) := by decide +kernel
theorem dX12_toldGas_33 : decode cX12_toldGas 33 = .ok (.iload_n 3, 1) := by decide +kernel
theorem dX12_toldGas_34 : decode cX12_toldGas 34 = .ok (.invokevirtual 509, 3) := by decide +kernel
theorem dX12_toldGas_37 : decode cX12_toldGas 37 = .ok (.iload_n 3, 1) := by decide +kernel
theorem dX12_toldGas_38 : decode cX12_toldGas 38 = .ok (.invokevirtual 512, 3) := by decide +kernel
theorem dX12_toldGas_41 : decode cX12_toldGas 41 = .ok (.ireturn, 1) := by decide +kernel
theorem dX12_known_0 : decode cX12_known 0 = .ok (.aload_n 0, 1) := by decide +kernel
theorem dX12_known_1 : decode cX12_known 1 = .ok (.iconst 0, 1) := by decide +kernel
theorem dX12_known_2 : decode cX12_known 2 = .ok (.putfield 1, 3) := by decide +kernel
theorem dX12_known_5 : decode cX12_known 5 = .ok (.iload_n 1, 1) := by decide +kernel
theorem dX12_known_6 : decode cX12_known 6 = .ok (.iload_n 2, 1) := by decide +kernel
theorem dX12_known_7 : decode cX12_known 7 = .ok (.invokestatic 203, 3) := by decide +kernel
theorem dX12_known_10 : decode cX12_known 10 = .ok (.ifCond .eq 25, 3) := by decide +kernel
theorem dX12_known_13 : decode cX12_known 13 = .ok (.iload_n 3, 1) := by decide +kernel
theorem dX12_known_14 : decode cX12_known 14 = .ok (.iconst 0, 1) := by decide +kernel
theorem dX12_known_15 : decode cX12_known 15 = .ok (.aload_n 0, 1) := by decide +kernel
theorem dX12_known_16 : decode cX12_known 16 = .ok (.getfield 223, 3) := by decide +kernel
theorem dX12_known_19 : decode cX12_known 19 = .ok (.invokestatic 211, 3) := by decide +kernel
theorem dX12_known_22 : decode cX12_known 22 = .ok (.ifCond .eq 13, 3) := by decide +kernel
theorem dX12_known_25 : decode cX12_known 25 = .ok (.aload_n 0, 1) := by decide +kernel
theorem dX12_known_26 : decode cX12_known 26 = .ok (.iload_n 1, 1) := by decide +kernel
theorem dX12_known_27 : decode cX12_known 27 = .ok (.iload_n 2, 1) := by decide +kernel
theorem dX12_known_28 : decode cX12_known 28 = .ok (.iload_n 3, 1) := by decide +kernel
theorem dX12_known_29 : decode cX12_known 29 = .ok (.invokevirtual 226, 3) := by decide +kernel
theorem dX12_known_32 : decode cX12_known 32 = .ok (.goto 5, 3) := by decide +kernel
theorem dX12_known_35 : decode cX12_known 35 = .ok (.ldc 15, 2) := by decide +kernel
theorem dX12_known_37 : decode cX12_known 37 = .ok (.ireturn, 1) := by decide +kernel
theorem dX12_right_0 : decode cX12_right 0 = .ok (.aload_n 0, 1) := by decide +kernel
theorem dX12_right_1 : decode cX12_right 1 = .ok (.iconst 0, 1) := by decide +kernel
theorem dX12_right_2 : decode cX12_right 2 = .ok (.putfield 1, 3) := by decide +kernel
theorem dX12_right_5 : decode cX12_right 5 = .ok (.iload_n 1, 1) := by decide +kernel
theorem dX12_right_6 : decode cX12_right 6 = .ok (.iload_n 2, 1) := by decide +kernel
theorem dX12_right_7 : decode cX12_right 7 = .ok (.invokestatic 203, 3) := by decide +kernel
theorem dX12_right_10 : decode cX12_right 10 = .ok (.ifCond .eq 18, 3) := by decide +kernel
theorem dX12_right_13 : decode cX12_right 13 = .ok (.aload_n 0, 1) := by decide +kernel
theorem dX12_right_14 : decode cX12_right 14 = .ok (.bipush 10, 2) := by decide +kernel
theorem dX12_right_16 : decode cX12_right 16 = .ok (.iload_n 1, 1) := by decide +kernel
theorem dX12_right_17 : decode cX12_right 17 = .ok (.imul, 1) := by decide +kernel
theorem dX12_right_18 : decode cX12_right 18 = .ok (.iload_n 2, 1) := by decide +kernel
theorem dX12_right_19 : decode cX12_right 19 = .ok (.iadd, 1) := by decide +kernel
theorem dX12_right_20 : decode cX12_right 20 = .ok (.iload_n 3, 1) := by decide +kernel
theorem dX12_right_21 : decode cX12_right 21 = .ok (.invokevirtual 492, 3) := by decide +kernel
theorem dX12_right_24 : decode cX12_right 24 = .ok (.iconst (-1), 1) := by decide +kernel
theorem dX12_right_25 : decode cX12_right 25 = .ok (.if_icmp .ne 6, 3) := by decide +kernel
theorem dX12_right_28 : decode cX12_right 28 = .ok (.ldc 15, 2) := by decide +kernel
theorem dX12_right_30 : decode cX12_right 30 = .ok (.ireturn, 1) := by decide +kernel
theorem dX12_right_31 : decode cX12_right 31 = .ok (.aload_n 0, 1) := by decide +kernel
theorem dX12_right_32 : decode cX12_right 32 = .ok (.bipush 10, 2) := by decide +kernel
theorem dX12_right_34 : decode cX12_right 34 = .ok (.iload_n 1, 1) := by decide +kernel
theorem dX12_right_35 : decode cX12_right 35 = .ok (.imul, 1) := by decide +kernel
theorem dX12_right_36 : decode cX12_right 36 = .ok (.iload_n 2, 1) := by decide +kernel
theorem dX12_right_37 : decode cX12_right 37 = .ok (.iadd, 1) := by decide +kernel
theorem dX12_right_38 : decode cX12_right 38 = .ok (.iload_n 3, 1) := by decide +kernel
theorem dX12_right_39 : decode cX12_right 39 = .ok (.aload_n 0, 1) := by decide +kernel
theorem dX12_right_40 : decode cX12_right 40 = .ok (.getfield 223, 3) := by decide +kernel
theorem dX12_right_43 : decode cX12_right 43 = .ok (.invokevirtual 512, 3) := by decide +kernel
theorem dX12_right_46 : decode cX12_right 46 = .ok (.ireturn, 1) := by decide +kernel
theorem dX12_height_0 : decode cX12_height 0 = .ok (.aload_n 0, 1) := by decide +kernel
theorem dX12_height_1 : decode cX12_height 1 = .ok (.iconst 0, 1) := by decide +kernel
theorem dX12_height_2 : decode cX12_height 2 = .ok (.putfield 1, 3) := by decide +kernel
theorem dX12_height_5 : decode cX12_height 5 = .ok (.iload_n 1, 1) := by decide +kernel
theorem dX12_height_6 : decode cX12_height 6 = .ok (.invokestatic 477, 3) := by decide +kernel
theorem dX12_height_9 : decode cX12_height 9 = .ok (.ifCond .ne 9, 3) := by decide +kernel
theorem dX12_height_12 : decode cX12_height 12 = .ok (.aload_n 0, 1) := by decide +kernel
theorem dX12_height_13 : decode cX12_height 13 = .ok (.iconst 1, 1) := by decide +kernel
theorem dX12_height_14 : decode cX12_height 14 = .ok (.invokevirtual 207, 3) := by decide +kernel
theorem dX12_height_17 : decode cX12_height 17 = .ok (.ireturn, 1) := by decide +kernel
theorem dX12_height_18 : decode cX12_height 18 = .ok (.iload_n 2, 1) := by decide +kernel
theorem dX12_height_19 : decode cX12_height 19 = .ok (.iconst 0, 1) := by decide +kernel
theorem dX12_height_20 : decode cX12_height 20 = .ok (.sipush 999, 3) := by decide +kernel
theorem dX12_height_23 : decode cX12_height 23 = .ok (.invokestatic 211, 3) := by decide +kernel
theorem dX12_height_26 : decode cX12_height 26 = .ok (.ifCond .ne 9, 3) := by decide +kernel
theorem dX12_height_29 : decode cX12_height 29 = .ok (.aload_n 0, 1) := by decide +kernel
theorem dX12_height_30 : decode cX12_height 30 = .ok (.iconst 2, 1) := by decide +kernel
theorem dX12_height_31 : decode cX12_height 31 = .ok (.invokevirtual 207, 3) := by decide +kernel
theorem dX12_height_34 : decode cX12_height 34 = .ok (.ireturn, 1) := by decide +kernel
theorem dX12_height_35 : decode cX12_height 35 = .ok (.aload_n 0, 1) := by decide +kernel
theorem dX12_height_36 : decode cX12_height 36 = .ok (.getfield 164, 3) := by decide +kernel
theorem dX12_height_39 : decode cX12_height 39 = .ok (.iload_n 1, 1) := by decide +kernel
theorem dX12_height_40 : decode cX12_height 40 = .ok (.iload_n 2, 1) := by decide +kernel
theorem dX12_height_41 : decode cX12_height 41 = .ok (.iastore, 1) := by decide +kernel
theorem dX12_height_42 : decode cX12_height 42 = .ok (.aload_n 0, 1) := by decide +kernel
theorem dX12_height_43 : decode cX12_height 43 = .ok (.invokevirtual 215, 3) := by decide +kernel
theorem dX12_height_46 : decode cX12_height 46 = .ok (.ireturn, 1) := by decide +kernel
theorem dX12_land_0 : decode cX12_land 0 = .ok (.aload_n 0, 1) := by decide +kernel
theorem dX12_land_1 : decode cX12_land 1 = .ok (.iconst 0, 1) := by decide +kernel
theorem dX12_land_2 : decode cX12_land 2 = .ok (.putfield 1, 3) := by decide +kernel
theorem dX12_land_5 : decode cX12_land 5 = .ok (.iload_n 1, 1) := by decide +kernel
theorem dX12_land_6 : decode cX12_land 6 = .ok (.iconst 0, 1) := by decide +kernel
theorem dX12_land_7 : decode cX12_land 7 = .ok (.iconst 2, 1) := by decide +kernel
theorem dX12_land_8 : decode cX12_land 8 = .ok (.invokestatic 211, 3) := by decide +kernel
theorem dX12_land_11 : decode cX12_land 11 = .ok (.ifCond .ne 9, 3) := by decide +kernel
theorem dX12_land_14 : decode cX12_land 14 = .ok (.aload_n 0, 1) := by decide +kernel
theorem dX12_land_15 : decode cX12_land 15 = .ok (.iconst 1, 1) := by decide +kernel
theorem dX12_land_16 : decode cX12_land 16 = .ok (.invokevirtual 207, 3) := by decide +kernel
theorem dX12_land_19 : decode cX12_land 19 = .ok (.ireturn, 1) := by decide +kernel
theorem dX12_land_20 : decode cX12_land 20 = .ok (.iload_n 2, 1) := by decide +kernel
theorem dX12_land_21 : decode cX12_land 21 = .ok (.iload_n 1, 1) := by decide +kernel
theorem dX12_land_22 : decode cX12_land 22 = .ok (.ifCond .ne 7, 3) := by decide +kernel
theorem dX12_land_25 : decode cX12_land 25 = .ok (.iconst 0, 1) := by decide +kernel
theorem dX12_land_26 : decode cX12_land 26 = .ok (.goto 4, 3) := by decide +kernel
theorem dX12_land_29 : decode cX12_land 29 = .ok (.iconst 1, 1) := by decide +kernel
theorem dX12_land_30 : decode cX12_land 30 = .ok (.iload_n 1, 1) := by decide +kernel
theorem dX12_land_31 : decode cX12_land 31 = .ok (.ifCond .ne 9, 3) := by decide +kernel
theorem dX12_land_34 : decode cX12_land 34 = .ok (.sipush 200, 3) := by decide +kernel
theorem dX12_land_37 : decode cX12_land 37 = .ok (.goto 16, 3) := by decide +kernel
theorem dX12_land_40 : decode cX12_land 40 = .ok (.iload_n 1, 1) := by decide +kernel
theorem dX12_land_41 : decode cX12_land 41 = .ok (.iconst 1, 1) := by decide +kernel
theorem dX12_land_42 : decode cX12_land 42 = .ok (.if_icmp .ne 9, 3) := by decide +kernel
theorem dX12_land_45 : decode cX12_land 45 = .ok (.sipush 10000, 3) := by decide +kernel
theorem dX12_land_48 : decode cX12_land 48 = .ok (.goto 5, 3) := by decide +kernel
theorem dX12_land_51 : decode cX12_land 51 = .ok (.bipush 50, 2) := by decide +kernel
theorem dX12_land_53 : decode cX12_land 53 = .ok (.invokestatic 211, 3) := by decide +kernel
theorem dX12_land_56 : decode cX12_land 56 = .ok (.ifCond .ne 9, 3) := by decide +kernel
theorem dX12_land_59 : decode cX12_land 59 = .ok (.aload_n 0, 1) := by decide +kernel
theorem dX12_land_60 : decode cX12_land 60 = .ok (.iconst 2, 1) := by decide +kernel
theorem dX12_land_61 : decode cX12_land 61 = .ok (.invokevirtual 207, 3) := by decide +kernel
theorem dX12_land_64 : decode cX12_land 64 = .ok (.ireturn, 1) := by decide +kernel
theorem dX12_land_65 : decode cX12_land 65 = .ok (.iload_n 1, 1) := by decide +kernel
theorem dX12_land_66 : decode cX12_land 66 = .ok (.ifCond .ne 11, 3) := by decide +kernel
theorem dX12_land_69 : decode cX12_land 69 = .ok (.aload_n 0, 1) := by decide +kernel
theorem dX12_land_70 : decode cX12_land 70 = .ok (.iload_n 2, 1) := by decide +kernel
theorem dX12_land_71 : decode cX12_land 71 = .ok (.putfield 155, 3) := by decide +kernel
theorem dX12_land_74 : decode cX12_land 74 = .ok (.goto 21, 3) := by decide +kernel
theorem dX12_land_77 : decode cX12_land 77 = .ok (.iload_n 1, 1) := by decide +kernel
theorem dX12_land_78 : decode cX12_land 78 = .ok (.iconst 1, 1) := by decide +kernel
theorem dX12_land_79 : decode cX12_land 79 = .ok (.if_icmp .ne 11, 3) := by decide +kernel
theorem dX12_land_82 : decode cX12_land 82 = .ok (.aload_n 0, 1) := by decide +kernel
theorem dX12_land_83 : decode cX12_land 83 = .ok (.iload_n 2, 1) := by decide +kernel
theorem dX12_land_84 : decode cX12_land 84 = .ok (.putfield 158, 3) := by decide +kernel
theorem dX12_land_87 : decode cX12_land 87 = .ok (.goto 8, 3) := by decide +kernel
theorem dX12_land_90 : decode cX12_land 90 = .ok (.aload_n 0, 1) := by decide +kernel
theorem dX12_land_91 : decode cX12_land 91 = .ok (.iload_n 2, 1) := by decide +kernel
theorem dX12_land_92 : decode cX12_land 92 = .ok (.putfield 161, 3) := by decide +kernel
theorem dX12_land_95 : decode cX12_land 95 = .ok (.aload_n 0, 1) := by decide +kernel
theorem dX12_land_96 : decode cX12_land 96 = .ok (.invokevirtual 215, 3) := by decide +kernel
theorem dX12_land_99 : decode cX12_land 99 = .ok (.ireturn, 1) := by decide +kernel
theorem dX12_beside_0 : decode cX12_beside 0 = .ok (.iload_n 0, 1) := by decide +kernel
theorem dX12_beside_1 : decode cX12_beside 1 = .ok (.bipush 20, 2) := by decide +kernel
theorem dX12_beside_3 : decode cX12_beside 3 = .ok (.irem, 1) := by decide +kernel
theorem dX12_beside_4 : decode cX12_beside 4 = .ok (.istore_n 2, 1) := by decide +kernel
theorem dX12_beside_5 : decode cX12_beside 5 = .ok (.iload_n 1, 1) := by decide +kernel
theorem dX12_beside_6 : decode cX12_beside 6 = .ok (.tableswitch 64 0 2 #[26, 31, 45], 26) := by decide +kernel
theorem dX12_beside_32 : decode cX12_beside 32 = .ok (.iload_n 0, 1) := by decide +kernel
theorem dX12_beside_33 : decode cX12_beside 33 = .ok (.bipush 20, 2) := by decide +kernel
theorem dX12_beside_35 : decode cX12_beside 35 = .ok (.isub, 1) := by decide +kernel
theorem dX12_beside_36 : decode cX12_beside 36 = .ok (.ireturn, 1) := by decide +kernel
theorem dX12_beside_37 : decode cX12_beside 37 = .ok (.iload_n 2, 1) := by decide +kernel
theorem dX12_beside_38 : decode cX12_beside 38 = .ok (.bipush 19, 2) := by decide +kernel
theorem dX12_beside_40 : decode cX12_beside 40 = .ok (.if_icmp .ne 7, 3) := by decide +kernel
theorem dX12_beside_43 : decode cX12_beside 43 = .ok (.iconst (-1), 1) := by decide +kernel
theorem dX12_beside_44 : decode cX12_beside 44 = .ok (.goto 6, 3) := by decide +kernel
theorem dX12_beside_47 : decode cX12_beside 47 = .ok (.iload_n 0, 1) := by decide +kernel
theorem dX12_beside_48 : decode cX12_beside 48 = .ok (.iconst 1, 1) := by decide +kernel
theorem dX12_beside_49 : decode cX12_beside 49 = .ok (.iadd, 1) := by decide +kernel
theorem dX12_beside_50 : decode cX12_beside 50 = .ok (.ireturn, 1) := by decide +kernel
theorem dX12_beside_51 : decode cX12_beside 51 = .ok (.iload_n 0, 1) := by decide +kernel
theorem dX12_beside_52 : decode cX12_beside 52 = .ok (.bipush 20, 2) := by decide +kernel
theorem dX12_beside_54 : decode cX12_beside 54 = .ok (.iadd, 1) := by decide +kernel
theorem dX12_beside_55 : decode cX12_beside 55 = .ok (.sipush 400, 3) := by decide +kernel
theorem dX12_beside_58 : decode cX12_beside 58 = .ok (.if_icmp .ge 10, 3) := by decide +kernel
theorem dX12_beside_61 : decode cX12_beside 61 = .ok (.iload_n 0, 1) := by decide +kernel
theorem dX12_beside_62 : decode cX12_beside 62 = .ok (.bipush 20, 2) := by decide +kernel
theorem dX12_beside_64 : decode cX12_beside 64 = .ok (.iadd, 1) := by decide +kernel
theorem dX12_beside_65 : decode cX12_beside 65 = .ok (.goto 4, 3) := by decide +kernel
theorem dX12_beside_68 : decode cX12_beside 68 = .ok (.iconst (-1), 1) := by decide +kernel
theorem dX12_beside_69 : decode cX12_beside 69 = .ok (.ireturn, 1) := by decide +kernel
theorem dX12_beside_70 : decode cX12_beside 70 = .ok (.iload_n 2, 1) := by decide +kernel
theorem dX12_beside_71 : decode cX12_beside 71 = .ok (.ifCond .ne 7, 3) := by decide +kernel
theorem dX12_beside_74 : decode cX12_beside 74 = .ok (.iconst (-1), 1) := by decide +kernel
theorem dX12_beside_75 : decode cX12_beside 75 = .ok (.goto 6, 3) := by decide +kernel
theorem dX12_beside_78 : decode cX12_beside 78 = .ok (.iload_n 0, 1) := by decide +kernel
theorem dX12_beside_79 : decode cX12_beside 79 = .ok (.iconst 1, 1) := by decide +kernel
theorem dX12_beside_80 : decode cX12_beside 80 = .ok (.isub, 1) := by decide +kernel
theorem dX12_beside_81 : decode cX12_beside 81 = .ok (.ireturn, 1) := by decide +kernel
theorem dX12_lowestBeside_0 : decode cX12_lowestBeside 0 = .ok (.iconst (-1), 1) := by decide +kernel
theorem dX12_lowestBeside_1 : decode cX12_lowestBeside 1 = .ok (.istore_n 2, 1) := by decide +kernel
theorem dX12_lowestBeside_2 : decode cX12_lowestBeside 2 = .ok (.iconst 0, 1) := by decide +kernel
theorem dX12_lowestBeside_3 : decode cX12_lowestBeside 3 = .ok (.istore_n 3, 1) := by decide +kernel
theorem dX12_lowestBeside_4 : decode cX12_lowestBeside 4 = .ok (.iload_n 3, 1) := by decide +kernel
theorem dX12_lowestBeside_5 : decode cX12_lowestBeside 5 = .ok (.sipush 400, 3) := by decide +kernel
theorem dX12_lowestBeside_8 : decode cX12_lowestBeside 8 = .ok (.if_icmp .ge 113, 3) := by decide +kernel
theorem dX12_lowestBeside_11 : decode cX12_lowestBeside 11 = .ok (.aload_n 0, 1) := by decide +kernel
theorem dX12_lowestBeside_12 : decode cX12_lowestBeside 12 = .ok (.getfield 167, 3) := by decide +kernel
theorem dX12_lowestBeside_15 : decode cX12_lowestBeside 15 = .ok (.iload_n 3, 1) := by decide +kernel
theorem dX12_lowestBeside_16 : decode cX12_lowestBeside 16 = .ok (.iaload, 1) := by decide +kernel
theorem dX12_lowestBeside_17 : decode cX12_lowestBeside 17 = .ok (.iconst (-1), 1) := by decide +kernel
theorem dX12_lowestBeside_18 : decode cX12_lowestBeside 18 = .ok (.if_icmp .ne 97, 3) := by decide +kernel
theorem dX12_lowestBeside_21 : decode cX12_lowestBeside 21 = .ok (.aload_n 0, 1) := by decide +kernel
theorem dX12_lowestBeside_22 : decode cX12_lowestBeside 22 = .ok (.getfield 164, 3) := by decide +kernel
theorem dX12_lowestBeside_25 : decode cX12_lowestBeside 25 = .ok (.iload_n 3, 1) := by decide +kernel
theorem dX12_lowestBeside_26 : decode cX12_lowestBeside 26 = .ok (.iaload, 1) := by decide +kernel
theorem dX12_lowestBeside_27 : decode cX12_lowestBeside 27 = .ok (.iload_n 1, 1) := by decide +kernel
theorem dX12_lowestBeside_28 : decode cX12_lowestBeside 28 = .ok (.if_icmp .gt 87, 3) := by decide +kernel
theorem dX12_lowestBeside_31 : decode cX12_lowestBeside 31 = .ok (.iload_n 2, 1) := by decide +kernel
theorem dX12_lowestBeside_32 : decode cX12_lowestBeside 32 = .ok (.iconst (-1), 1) := by decide +kernel
theorem dX12_lowestBeside_33 : decode cX12_lowestBeside 33 = .ok (.if_icmp .eq 21, 3) := by decide +kernel
theorem dX12_lowestBeside_36 : decode cX12_lowestBeside 36 = .ok (.aload_n 0, 1) := by decide +kernel
theorem dX12_lowestBeside_37 : decode cX12_lowestBeside 37 = .ok (.getfield 164, 3) := by decide +kernel
theorem dX12_lowestBeside_40 : decode cX12_lowestBeside 40 = .ok (.iload_n 3, 1) := by decide +kernel
theorem dX12_lowestBeside_41 : decode cX12_lowestBeside 41 = .ok (.iaload, 1) := by decide +kernel
theorem dX12_lowestBeside_42 : decode cX12_lowestBeside 42 = .ok (.aload_n 0, 1) := by decide +kernel
theorem dX12_lowestBeside_43 : decode cX12_lowestBeside 43 = .ok (.getfield 164, 3) := by decide +kernel
theorem dX12_lowestBeside_46 : decode cX12_lowestBeside 46 = .ok (.iload_n 2, 1) := by decide +kernel
theorem dX12_lowestBeside_47 : decode cX12_lowestBeside 47 = .ok (.iaload, 1) := by decide +kernel
theorem dX12_lowestBeside_48 : decode cX12_lowestBeside 48 = .ok (.if_icmp .lt 6, 3) := by decide +kernel
theorem dX12_lowestBeside_51 : decode cX12_lowestBeside 51 = .ok (.goto 64, 3) := by decide +kernel
theorem dX12_lowestBeside_54 : decode cX12_lowestBeside 54 = .ok (.iconst 0, 1) := by decide +kernel
theorem dX12_lowestBeside_55 : decode cX12_lowestBeside 55 = .ok (.istore 4, 2) := by decide +kernel
theorem dX12_lowestBeside_57 : decode cX12_lowestBeside 57 = .ok (.iconst 0, 1) := by decide +kernel
theorem dX12_lowestBeside_58 : decode cX12_lowestBeside 58 = .ok (.istore 5, 2) := by decide +kernel
theorem dX12_lowestBeside_60 : decode cX12_lowestBeside 60 = .ok (.iload 5, 2) := by decide +kernel
theorem dX12_lowestBeside_62 : decode cX12_lowestBeside 62 = .ok (.iconst 4, 1) := by decide +kernel
theorem dX12_lowestBeside_63 : decode cX12_lowestBeside 63 = .ok (.if_icmp .ge 45, 3) := by decide +kernel
theorem dX12_lowestBeside_66 : decode cX12_lowestBeside 66 = .ok (.iload_n 3, 1) := by decide +kernel
theorem dX12_lowestBeside_67 : decode cX12_lowestBeside 67 = .ok (.iload 5, 2) := by decide +kernel
theorem dX12_lowestBeside_69 : decode cX12_lowestBeside 69 = .ok (.invokestatic 515, 3) := by decide +kernel
theorem dX12_lowestBeside_72 : decode cX12_lowestBeside 72 = .ok (.istore 6, 2) := by decide +kernel
theorem dX12_lowestBeside_74 : decode cX12_lowestBeside 74 = .ok (.iload 4, 2) := by decide +kernel
theorem dX12_lowestBeside_76 : decode cX12_lowestBeside 76 = .ok (.ifCond .ne 19, 3) := by decide +kernel
theorem dX12_lowestBeside_79 : decode cX12_lowestBeside 79 = .ok (.iload 6, 2) := by decide +kernel
theorem dX12_lowestBeside_81 : decode cX12_lowestBeside 81 = .ok (.ifCond .lt 18, 3) := by decide +kernel
theorem dX12_lowestBeside_84 : decode cX12_lowestBeside 84 = .ok (.aload_n 0, 1) := by decide +kernel
theorem dX12_lowestBeside_85 : decode cX12_lowestBeside 85 = .ok (.getfield 167, 3) := by decide +kernel
theorem dX12_lowestBeside_88 : decode cX12_lowestBeside 88 = .ok (.iload 6, 2) := by decide +kernel
theorem dX12_lowestBeside_90 : decode cX12_lowestBeside 90 = .ok (.iaload, 1) := by decide +kernel
theorem dX12_lowestBeside_91 : decode cX12_lowestBeside 91 = .ok (.iconst (-1), 1) := by decide +kernel
theorem dX12_lowestBeside_92 : decode cX12_lowestBeside 92 = .ok (.if_icmp .eq 7, 3) := by decide +kernel
theorem dX12_lowestBeside_95 : decode cX12_lowestBeside 95 = .ok (.iconst 1, 1) := by decide +kernel
theorem dX12_lowestBeside_96 : decode cX12_lowestBeside 96 = .ok (.goto 4, 3) := by decide +kernel
theorem dX12_lowestBeside_99 : decode cX12_lowestBeside 99 = .ok (.iconst 0, 1) := by decide +kernel
theorem dX12_lowestBeside_100 : decode cX12_lowestBeside 100 = .ok (.istore 4, 2) := by decide +kernel
theorem dX12_lowestBeside_102 : decode cX12_lowestBeside 102 = .ok (.iinc 5 1, 3) := by decide +kernel
theorem dX12_lowestBeside_105 : decode cX12_lowestBeside 105 = .ok (.goto (-45), 3) := by decide +kernel
theorem dX12_lowestBeside_108 : decode cX12_lowestBeside 108 = .ok (.iload 4, 2) := by decide +kernel
theorem dX12_lowestBeside_110 : decode cX12_lowestBeside 110 = .ok (.ifCond .eq 5, 3) := by decide +kernel
theorem dX12_lowestBeside_113 : decode cX12_lowestBeside 113 = .ok (.iload_n 3, 1) := by decide +kernel
theorem dX12_lowestBeside_114 : decode cX12_lowestBeside 114 = .ok (.istore_n 2, 1) := by decide +kernel
theorem dX12_lowestBeside_115 : decode cX12_lowestBeside 115 = .ok (.iinc 3 1, 3) := by decide +kernel
theorem dX12_lowestBeside_118 : decode cX12_lowestBeside 118 = .ok (.goto (-114), 3) := by decide +kernel
theorem dX12_lowestBeside_121 : decode cX12_lowestBeside 121 = .ok (.iload_n 2, 1) := by decide +kernel
theorem dX12_lowestBeside_122 : decode cX12_lowestBeside 122 = .ok (.ireturn, 1) := by decide +kernel
theorem dX12_runOut_0 : decode cX12_runOut 0 = .ok (.aload_n 0, 1) := by decide +kernel
theorem dX12_runOut_1 : decode cX12_runOut 1 = .ok (.iconst 0, 1) := by decide +kernel
theorem dX12_runOut_2 : decode cX12_runOut 2 = .ok (.putfield 1, 3) := by decide +kernel
theorem dX12_runOut_5 : decode cX12_runOut 5 = .ok (.iload_n 1, 1) := by decide +kernel
theorem dX12_runOut_6 : decode cX12_runOut 6 = .ok (.invokestatic 182, 3) := by decide +kernel
theorem dX12_runOut_9 : decode cX12_runOut 9 = .ok (.ifCond .ne 9, 3) := by decide +kernel
theorem dX12_runOut_12 : decode cX12_runOut 12 = .ok (.aload_n 0, 1) := by decide +kernel
theorem dX12_runOut_13 : decode cX12_runOut 13 = .ok (.iconst 1, 1) := by decide +kernel
theorem dX12_runOut_14 : decode cX12_runOut 14 = .ok (.invokevirtual 274, 3) := by decide +kernel
theorem dX12_runOut_17 : decode cX12_runOut 17 = .ok (.ireturn, 1) := by decide +kernel
theorem dX12_runOut_18 : decode cX12_runOut 18 = .ok (.iload_n 2, 1) := by decide +kernel
theorem dX12_runOut_19 : decode cX12_runOut 19 = .ok (.iconst 0, 1) := by decide +kernel
theorem dX12_runOut_20 : decode cX12_runOut 20 = .ok (.ldc_w 301, 3) := by decide +kernel
theorem dX12_runOut_23 : decode cX12_runOut 23 = .ok (.invokestatic 211, 3) := by decide +kernel
theorem dX12_runOut_26 : decode cX12_runOut 26 = .ok (.ifCond .ne 9, 3) := by decide +kernel
theorem dX12_runOut_29 : decode cX12_runOut 29 = .ok (.aload_n 0, 1) := by decide +kernel
theorem dX12_runOut_30 : decode cX12_runOut 30 = .ok (.iconst 2, 1) := by decide +kernel
theorem dX12_runOut_31 : decode cX12_runOut 31 = .ok (.invokevirtual 274, 3) := by decide +kernel
theorem dX12_runOut_34 : decode cX12_runOut 34 = .ok (.ireturn, 1) := by decide +kernel
theorem dX12_runOut_35 : decode cX12_runOut 35 = .ok (.iconst 0, 1) := by decide +kernel
theorem dX12_runOut_36 : decode cX12_runOut 36 = .ok (.istore_n 3, 1) := by decide +kernel
theorem dX12_runOut_37 : decode cX12_runOut 37 = .ok (.iload_n 3, 1) := by decide +kernel
theorem dX12_runOut_38 : decode cX12_runOut 38 = .ok (.sipush 400, 3) := by decide +kernel
theorem dX12_runOut_41 : decode cX12_runOut 41 = .ok (.if_icmp .ge 16, 3) := by decide +kernel
theorem dX12_runOut_44 : decode cX12_runOut 44 = .ok (.aload_n 0, 1) := by decide +kernel
theorem dX12_runOut_45 : decode cX12_runOut 45 = .ok (.getfield 167, 3) := by decide +kernel
theorem dX12_runOut_48 : decode cX12_runOut 48 = .ok (.iload_n 3, 1) := by decide +kernel
theorem dX12_runOut_49 : decode cX12_runOut 49 = .ok (.iconst (-1), 1) := by decide +kernel
theorem dX12_runOut_50 : decode cX12_runOut 50 = .ok (.iastore, 1) := by decide +kernel
theorem dX12_runOut_51 : decode cX12_runOut 51 = .ok (.iinc 3 1, 3) := by decide +kernel
theorem dX12_runOut_54 : decode cX12_runOut 54 = .ok (.goto (-17), 3) := by decide +kernel
theorem dX12_runOut_57 : decode cX12_runOut 57 = .ok (.aload_n 0, 1) := by decide +kernel
theorem dX12_runOut_58 : decode cX12_runOut 58 = .ok (.iconst 1, 1) := by decide +kernel
theorem dX12_runOut_59 : decode cX12_runOut 59 = .ok (.putfield 518, 3) := by decide +kernel
theorem dX12_runOut_62 : decode cX12_runOut 62 = .ok (.aload_n 0, 1) := by decide +kernel
theorem dX12_runOut_63 : decode cX12_runOut 63 = .ok (.aload_n 0, 1) := by decide +kernel
theorem dX12_runOut_64 : decode cX12_runOut 64 = .ok (.getfield 161, 3) := by decide +kernel
theorem dX12_runOut_67 : decode cX12_runOut 67 = .ok (.putfield 522, 3) := by decide +kernel
theorem dX12_runOut_70 : decode cX12_runOut 70 = .ok (.iload_n 2, 1) := by decide +kernel
theorem dX12_runOut_71 : decode cX12_runOut 71 = .ok (.aload_n 0, 1) := by decide +kernel
theorem dX12_runOut_72 : decode cX12_runOut 72 = .ok (.getfield 158, 3) := by decide +kernel
theorem dX12_runOut_75 : decode cX12_runOut 75 = .ok (.iadd, 1) := by decide +kernel
theorem dX12_runOut_76 : decode cX12_runOut 76 = .ok (.iconst 1, 1) := by decide +kernel
theorem dX12_runOut_77 : decode cX12_runOut 77 = .ok (.isub, 1) := by decide +kernel
theorem dX12_runOut_78 : decode cX12_runOut 78 = .ok (.aload_n 0, 1) := by decide +kernel
theorem dX12_runOut_79 : decode cX12_runOut 79 = .ok (.getfield 158, 3) := by decide +kernel
theorem dX12_runOut_82 : decode cX12_runOut 82 = .ok (.idiv, 1) := by decide +kernel
theorem dX12_runOut_83 : decode cX12_runOut 83 = .ok (.istore_n 3, 1) := by decide +kernel
theorem dX12_runOut_84 : decode cX12_runOut 84 = .ok (.iconst 0, 1) := by decide +kernel
theorem dX12_runOut_85 : decode cX12_runOut 85 = .ok (.istore 4, 2) := by decide +kernel
theorem dX12_runOut_87 : decode cX12_runOut 87 = .ok (.aload_n 0, 1) := by decide +kernel
theorem dX12_runOut_88 : decode cX12_runOut 88 = .ok (.getfield 47, 3) := by decide +kernel
theorem dX12_runOut_91 : decode cX12_runOut 91 = .ok (.iload_n 1, 1) := by decide +kernel
theorem dX12_runOut_92 : decode cX12_runOut 92 = .ok (.iaload, 1) := by decide +kernel
theorem dX12_runOut_93 : decode cX12_runOut 93 = .ok (.istore 5, 2) := by decide +kernel
theorem dX12_runOut_95 : decode cX12_runOut 95 = .ok (.iload 4, 2) := by decide +kernel
theorem dX12_runOut_97 : decode cX12_runOut 97 = .ok (.iload_n 3, 1) := by decide +kernel
theorem dX12_runOut_98 : decode cX12_runOut 98 = .ok (.if_icmp .ge 46, 3) := by decide +kernel
theorem dX12_runOut_101 : decode cX12_runOut 101 = .ok (.iload 5, 2) := by decide +kernel
theorem dX12_runOut_103 : decode cX12_runOut 103 = .ok (.iconst (-1), 1) := by decide +kernel
theorem dX12_runOut_104 : decode cX12_runOut 104 = .ok (.if_icmp .eq 40, 3) := by decide +kernel
theorem dX12_runOut_107 : decode cX12_runOut 107 = .ok (.aload_n 0, 1) := by decide +kernel
theorem dX12_runOut_108 : decode cX12_runOut 108 = .ok (.getfield 167, 3) := by decide +kernel
theorem dX12_runOut_111 : decode cX12_runOut 111 = .ok (.iload 5, 2) := by decide +kernel
theorem dX12_runOut_113 : decode cX12_runOut 113 = .ok (.iload 4, 2) := by decide +kernel
theorem dX12_runOut_115 : decode cX12_runOut 115 = .ok (.iastore, 1) := by decide +kernel
theorem dX12_runOut_116 : decode cX12_runOut 116 = .ok (.iinc 4 1, 3) := by decide +kernel
theorem dX12_runOut_119 : decode cX12_runOut 119 = .ok (.aload_n 0, 1) := by decide +kernel
theorem dX12_runOut_120 : decode cX12_runOut 120 = .ok (.aload_n 0, 1) := by decide +kernel
theorem dX12_runOut_121 : decode cX12_runOut 121 = .ok (.getfield 164, 3) := by decide +kernel
theorem dX12_runOut_124 : decode cX12_runOut 124 = .ok (.aload_n 0, 1) := by decide +kernel
theorem dX12_runOut_125 : decode cX12_runOut 125 = .ok (.getfield 47, 3) := by decide +kernel
theorem dX12_runOut_128 : decode cX12_runOut 128 = .ok (.iload_n 1, 1) := by decide +kernel
theorem dX12_runOut_129 : decode cX12_runOut 129 = .ok (.iaload, 1) := by decide +kernel
theorem dX12_runOut_130 : decode cX12_runOut 130 = .ok (.iaload, 1) := by decide +kernel
theorem dX12_runOut_131 : decode cX12_runOut 131 = .ok (.aload_n 0, 1) := by decide +kernel
theorem dX12_runOut_132 : decode cX12_runOut 132 = .ok (.getfield 155, 3) := by decide +kernel
theorem dX12_runOut_135 : decode cX12_runOut 135 = .ok (.iadd, 1) := by decide +kernel
theorem dX12_runOut_136 : decode cX12_runOut 136 = .ok (.invokevirtual 525, 3) := by decide +kernel
theorem dX12_runOut_139 : decode cX12_runOut 139 = .ok (.istore 5, 2) := by decide +kernel
theorem dX12_runOut_141 : decode cX12_runOut 141 = .ok (.goto (-46), 3) := by decide +kernel
theorem dX12_runOut_144 : decode cX12_runOut 144 = .ok (.aload_n 0, 1) := by decide +kernel
theorem dX12_runOut_145 : decode cX12_runOut 145 = .ok (.iload 4, 2) := by decide +kernel
theorem dX12_runOut_147 : decode cX12_runOut 147 = .ok (.invokevirtual 277, 3) := by decide +kernel
theorem dX12_runOut_150 : decode cX12_runOut 150 = .ok (.ireturn, 1) := by decide +kernel
theorem dX12_arrives_0 : decode cX12_arrives 0 = .ok (.aload_n 0, 1) := by decide +kernel
theorem dX12_arrives_1 : decode cX12_arrives 1 = .ok (.iconst 0, 1) := by decide +kernel
theorem dX12_arrives_2 : decode cX12_arrives 2 = .ok (.putfield 1, 3) := by decide +kernel
theorem dX12_arrives_5 : decode cX12_arrives 5 = .ok (.aload_n 0, 1) := by decide +kernel
theorem dX12_arrives_6 : decode cX12_arrives 6 = .ok (.getfield 518, 3) := by decide +kernel
theorem dX12_arrives_9 : decode cX12_arrives 9 = .ok (.ifCond .eq 10, 3) := by decide +kernel
theorem dX12_arrives_12 : decode cX12_arrives 12 = .ok (.iload_n 1, 1) := by decide +kernel
theorem dX12_arrives_13 : decode cX12_arrives 13 = .ok (.invokestatic 477, 3) := by decide +kernel
theorem dX12_arrives_16 : decode cX12_arrives 16 = .ok (.ifCond .ne 5, 3) := by decide +kernel
theorem dX12_arrives_19 : decode cX12_arrives 19 = .ok (.iconst (-1), 1) := by decide +kernel
theorem dX12_arrives_20 : decode cX12_arrives 20 = .ok (.ireturn, 1) := by decide +kernel
theorem dX12_arrives_21 : decode cX12_arrives 21 = .ok (.aload_n 0, 1) := by decide +kernel
theorem dX12_arrives_22 : decode cX12_arrives 22 = .ok (.getfield 167, 3) := by decide +kernel
theorem dX12_arrives_25 : decode cX12_arrives 25 = .ok (.iload_n 1, 1) := by decide +kernel
theorem dX12_arrives_26 : decode cX12_arrives 26 = .ok (.iaload, 1) := by decide +kernel
theorem dX12_arrives_27 : decode cX12_arrives 27 = .ok (.iconst (-1), 1) := by decide +kernel
theorem dX12_arrives_28 : decode cX12_arrives 28 = .ok (.if_icmp .ne 8, 3) := by decide +kernel
theorem dX12_arrives_31 : decode cX12_arrives 31 = .ok (.bipush (-2), 2) := by decide +kernel
theorem dX12_arrives_33 : decode cX12_arrives 33 = .ok (.goto 14, 3) := by decide +kernel
theorem dX12_arrives_36 : decode cX12_arrives 36 = .ok (.aload_n 0, 1) := by decide +kernel
theorem dX12_arrives_37 : decode cX12_arrives 37 = .ok (.getfield 167, 3) := by decide +kernel
theorem dX12_arrives_40 : decode cX12_arrives 40 = .ok (.iload_n 1, 1) := by decide +kernel
theorem dX12_arrives_41 : decode cX12_arrives 41 = .ok (.iaload, 1) := by decide +kernel
theorem dX12_arrives_42 : decode cX12_arrives 42 = .ok (.aload_n 0, 1) := by decide +kernel
theorem dX12_arrives_43 : decode cX12_arrives 43 = .ok (.getfield 522, 3) := by decide +kernel
theorem dX12_arrives_46 : decode cX12_arrives 46 = .ok (.idiv, 1) := by decide +kernel
theorem dX12_arrives_47 : decode cX12_arrives 47 = .ok (.ireturn, 1) := by decide +kernel
theorem dX12_village_0 : decode cX12_village 0 = .ok (.aload_n 0, 1) := by decide +kernel
theorem dX12_village_1 : decode cX12_village 1 = .ok (.iconst 0, 1) := by decide +kernel
theorem dX12_village_2 : decode cX12_village 2 = .ok (.putfield 1, 3) := by decide +kernel
theorem dX12_village_5 : decode cX12_village 5 = .ok (.iload_n 1, 1) := by decide +kernel
theorem dX12_village_6 : decode cX12_village 6 = .ok (.invokestatic 477, 3) := by decide +kernel
theorem dX12_village_9 : decode cX12_village 9 = .ok (.ifCond .ne 9, 3) := by decide +kernel
theorem dX12_village_12 : decode cX12_village 12 = .ok (.aload_n 0, 1) := by decide +kernel
theorem dX12_village_13 : decode cX12_village 13 = .ok (.iconst 1, 1) := by decide +kernel
theorem dX12_village_14 : decode cX12_village 14 = .ok (.invokevirtual 274, 3) := by decide +kernel
theorem dX12_village_17 : decode cX12_village 17 = .ok (.ireturn, 1) := by decide +kernel
theorem dX12_village_18 : decode cX12_village 18 = .ok (.iload_n 2, 1) := by decide +kernel
theorem dX12_village_19 : decode cX12_village 19 = .ok (.iconst 1, 1) := by decide +kernel
theorem dX12_village_20 : decode cX12_village 20 = .ok (.sipush 9999, 3) := by decide +kernel
theorem dX12_village_23 : decode cX12_village 23 = .ok (.invokestatic 211, 3) := by decide +kernel
theorem dX12_village_26 : decode cX12_village 26 = .ok (.ifCond .ne 9, 3) := by decide +kernel
theorem dX12_village_29 : decode cX12_village 29 = .ok (.aload_n 0, 1) := by decide +kernel
theorem dX12_village_30 : decode cX12_village 30 = .ok (.iconst 2, 1) := by decide +kernel
theorem dX12_village_31 : decode cX12_village 31 = .ok (.invokevirtual 274, 3) := by decide +kernel
theorem dX12_village_34 : decode cX12_village 34 = .ok (.ireturn, 1) := by decide +kernel
theorem dX12_village_35 : decode cX12_village 35 = .ok (.aload_n 0, 1) := by decide +kernel
theorem dX12_village_36 : decode cX12_village 36 = .ok (.getfield 528, 3) := by decide +kernel
theorem dX12_village_39 : decode cX12_village 39 = .ok (.bipush 20, 2) := by decide +kernel
theorem dX12_village_41 : decode cX12_village 41 = .ok (.if_icmp .ne 9, 3) := by decide +kernel
theorem dX12_village_44 : decode cX12_village 44 = .ok (.aload_n 0, 1) := by decide +kernel
theorem dX12_village_45 : decode cX12_village 45 = .ok (.iconst 3, 1) := by decide +kernel
theorem dX12_village_46 : decode cX12_village 46 = .ok (.invokevirtual 274, 3) := by decide +kernel
theorem dX12_village_49 : decode cX12_village 49 = .ok (.ireturn, 1) := by decide +kernel
theorem dX12_village_50 : decode cX12_village 50 = .ok (.aload_n 0, 1) := by decide +kernel
theorem dX12_village_51 : decode cX12_village 51 = .ok (.getfield 173, 3) := by decide +kernel
theorem dX12_village_54 : decode cX12_village 54 = .ok (.aload_n 0, 1) := by decide +kernel
theorem dX12_village_55 : decode cX12_village 55 = .ok (.getfield 528, 3) := by decide +kernel
theorem dX12_village_58 : decode cX12_village 58 = .ok (.iload_n 1, 1) := by decide +kernel
theorem dX12_village_59 : decode cX12_village 59 = .ok (.iastore, 1) := by decide +kernel
theorem dX12_village_60 : decode cX12_village 60 = .ok (.aload_n 0, 1) := by decide +kernel
theorem dX12_village_61 : decode cX12_village 61 = .ok (.getfield 176, 3) := by decide +kernel
theorem dX12_village_64 : decode cX12_village 64 = .ok (.aload_n 0, 1) := by decide +kernel
theorem dX12_village_65 : decode cX12_village 65 = .ok (.getfield 528, 3) := by decide +kernel
theorem dX12_village_68 : decode cX12_village 68 = .ok (.iload_n 2, 1) := by decide +kernel
theorem dX12_village_69 : decode cX12_village 69 = .ok (.iastore, 1) := by decide +kernel
theorem dX12_village_70 : decode cX12_village 70 = .ok (.aload_n 0, 1) := by decide +kernel
theorem dX12_village_71 : decode cX12_village 71 = .ok (.dup, 1) := by decide +kernel
theorem dX12_village_72 : decode cX12_village 72 = .ok (.getfield 528, 3) := by decide +kernel
theorem dX12_village_75 : decode cX12_village 75 = .ok (.iconst 1, 1) := by decide +kernel
theorem dX12_village_76 : decode cX12_village 76 = .ok (.iadd, 1) := by decide +kernel
theorem dX12_village_77 : decode cX12_village 77 = .ok (.putfield 528, 3) := by decide +kernel
theorem dX12_village_80 : decode cX12_village 80 = .ok (.aload_n 0, 1) := by decide +kernel
theorem dX12_village_81 : decode cX12_village 81 = .ok (.aload_n 0, 1) := by decide +kernel
theorem dX12_village_82 : decode cX12_village 82 = .ok (.getfield 528, 3) := by decide +kernel
theorem dX12_village_85 : decode cX12_village 85 = .ok (.iconst 1, 1) := by decide +kernel
theorem dX12_village_86 : decode cX12_village 86 = .ok (.isub, 1) := by decide +kernel
theorem dX12_village_87 : decode cX12_village 87 = .ok (.invokevirtual 277, 3) := by decide +kernel
theorem dX12_village_90 : decode cX12_village 90 = .ok (.ireturn, 1) := by decide +kernel
theorem dX12_isInTime_0 : decode cX12_isInTime 0 = .ok (.aload_n 0, 1) := by decide +kernel
theorem dX12_isInTime_1 : decode cX12_isInTime 1 = .ok (.getfield 170, 3) := by decide +kernel
theorem dX12_isInTime_4 : decode cX12_isInTime 4 = .ok (.iload_n 1, 1) := by decide +kernel
theorem dX12_isInTime_5 : decode cX12_isInTime 5 = .ok (.iaload, 1) := by decide +kernel
theorem dX12_isInTime_6 : decode cX12_isInTime 6 = .ok (.aload_n 0, 1) := by decide +kernel
theorem dX12_isInTime_7 : decode cX12_isInTime 7 = .ok (.getfield 167, 3) := by decide +kernel
theorem dX12_isInTime_10 : decode cX12_isInTime 10 = .ok (.iload_n 1, 1) := by decide +kernel
theorem dX12_isInTime_11 : decode cX12_isInTime 11 = .ok (.iaload, 1) := by decide +kernel
theorem dX12_isInTime_12 : decode cX12_isInTime 12 = .ok (.aload_n 0, 1) := by decide +kernel
theorem dX12_isInTime_13 : decode cX12_isInTime 13 = .ok (.getfield 522, 3) := by decide +kernel
theorem dX12_isInTime_16 : decode cX12_isInTime 16 = .ok (.idiv, 1) := by decide +kernel
theorem dX12_isInTime_17 : decode cX12_isInTime 17 = .ok (.if_icmp .ge 7, 3) := by decide +kernel
theorem dX12_isInTime_20 : decode cX12_isInTime 20 = .ok (.iconst 1, 1) := by decide +kernel
theorem dX12_isInTime_21 : decode cX12_isInTime 21 = .ok (.goto 4, 3) := by decide +kernel
theorem dX12_isInTime_24 : decode cX12_isInTime 24 = .ok (.iconst 0, 1) := by decide +kernel
theorem dX12_isInTime_25 : decode cX12_isInTime 25 = .ok (.ireturn, 1) := by decide +kernel
theorem dX12_climbs_0 : decode cX12_climbs 0 = .ok (.aload_n 0, 1) := by decide +kernel
theorem dX12_climbs_1 : decode cX12_climbs 1 = .ok (.getfield 167, 3) := by decide +kernel
theorem dX12_climbs_4 : decode cX12_climbs 4 = .ok (.iload_n 1, 1) := by decide +kernel
theorem dX12_climbs_5 : decode cX12_climbs 5 = .ok (.iaload, 1) := by decide +kernel
theorem dX12_climbs_6 : decode cX12_climbs 6 = .ok (.iconst (-1), 1) := by decide +kernel
theorem dX12_climbs_7 : decode cX12_climbs 7 = .ok (.if_icmp .ne 5, 3) := by decide +kernel
theorem dX12_climbs_10 : decode cX12_climbs 10 = .ok (.iconst 0, 1) := by decide +kernel
theorem dX12_climbs_11 : decode cX12_climbs 11 = .ok (.ireturn, 1) := by decide +kernel
theorem dX12_climbs_12 : decode cX12_climbs 12 = .ok (.iconst 0, 1) := by decide +kernel
theorem dX12_climbs_13 : decode cX12_climbs 13 = .ok (.istore_n 3, 1) := by decide +kernel
theorem dX12_climbs_14 : decode cX12_climbs 14 = .ok (.iload_n 3, 1) := by decide +kernel
theorem dX12_climbs_15 : decode cX12_climbs 15 = .ok (.sipush 400, 3) := by decide +kernel
theorem dX12_climbs_18 : decode cX12_climbs 18 = .ok (.if_icmp .ge 18, 3) := by decide +kernel
theorem dX12_climbs_21 : decode cX12_climbs 21 = .ok (.aload_n 0, 1) := by decide +kernel
theorem dX12_climbs_22 : decode cX12_climbs 22 = .ok (.getfield 170, 3) := by decide +kernel
theorem dX12_climbs_25 : decode cX12_climbs 25 = .ok (.iload_n 3, 1) := by decide +kernel
theorem dX12_climbs_26 : decode cX12_climbs 26 = .ok (.ldc_w 301, 3) := by decide +kernel
theorem dX12_climbs_29 : decode cX12_climbs 29 = .ok (.iastore, 1) := by decide +kernel
theorem dX12_climbs_30 : decode cX12_climbs 30 = .ok (.iinc 3 1, 3) := by decide +kernel
theorem dX12_climbs_33 : decode cX12_climbs 33 = .ok (.goto (-19), 3) := by decide +kernel
theorem dX12_climbs_36 : decode cX12_climbs 36 = .ok (.aload_n 0, 1) := by decide +kernel
theorem dX12_climbs_37 : decode cX12_climbs 37 = .ok (.getfield 170, 3) := by decide +kernel
theorem dX12_climbs_40 : decode cX12_climbs 40 = .ok (.iload_n 1, 1) := by decide +kernel
theorem dX12_climbs_41 : decode cX12_climbs 41 = .ok (.iload_n 2, 1) := by decide +kernel
theorem dX12_climbs_42 : decode cX12_climbs 42 = .ok (.iastore, 1) := by decide +kernel
theorem dX12_climbs_43 : decode cX12_climbs 43 = .ok (.iconst 1, 1) := by decide +kernel
theorem dX12_climbs_44 : decode cX12_climbs 44 = .ok (.istore_n 3, 1) := by decide +kernel
theorem dX12_climbs_45 : decode cX12_climbs 45 = .ok (.iload_n 3, 1) := by decide +kernel
theorem dX12_climbs_46 : decode cX12_climbs 46 = .ok (.ifCond .eq 153, 3) := by decide +kernel
theorem dX12_climbs_49 : decode cX12_climbs 49 = .ok (.iconst 0, 1) := by decide +kernel
theorem dX12_climbs_50 : decode cX12_climbs 50 = .ok (.istore_n 3, 1) := by decide +kernel
theorem dX12_climbs_51 : decode cX12_climbs 51 = .ok (.iconst 0, 1) := by decide +kernel
theorem dX12_climbs_52 : decode cX12_climbs 52 = .ok (.istore 4, 2) := by decide +kernel
theorem dX12_climbs_54 : decode cX12_climbs 54 = .ok (.iload 4, 2) := by decide +kernel
theorem dX12_climbs_56 : decode cX12_climbs 56 = .ok (.sipush 400, 3) := by decide +kernel
theorem dX12_climbs_59 : decode cX12_climbs 59 = .ok (.if_icmp .ge 137, 3) := by decide +kernel
theorem dX12_climbs_62 : decode cX12_climbs 62 = .ok (.aload_n 0, 1) := by decide +kernel
theorem dX12_climbs_63 : decode cX12_climbs 63 = .ok (.getfield 170, 3) := by decide +kernel
theorem dX12_climbs_66 : decode cX12_climbs 66 = .ok (.iload 4, 2) := by decide +kernel
theorem dX12_climbs_68 : decode cX12_climbs 68 = .ok (.iaload, 1) := by decide +kernel
theorem dX12_climbs_69 : decode cX12_climbs 69 = .ok (.ldc_w 301, 3) := by decide +kernel
theorem dX12_climbs_72 : decode cX12_climbs 72 = .ok (.if_icmp .eq 118, 3) := by decide +kernel
theorem dX12_climbs_75 : decode cX12_climbs 75 = .ok (.aload_n 0, 1) := by decide +kernel
theorem dX12_climbs_76 : decode cX12_climbs 76 = .ok (.getfield 167, 3) := by decide +kernel
theorem dX12_climbs_79 : decode cX12_climbs 79 = .ok (.iload 4, 2) := by decide +kernel
theorem dX12_climbs_81 : decode cX12_climbs 81 = .ok (.iaload, 1) := by decide +kernel
theorem dX12_climbs_82 : decode cX12_climbs 82 = .ok (.iconst (-1), 1) := by decide +kernel
theorem dX12_climbs_83 : decode cX12_climbs 83 = .ok (.if_icmp .eq 107, 3) := by decide +kernel
theorem dX12_climbs_86 : decode cX12_climbs 86 = .ok (.aload_n 0, 1) := by decide +kernel
theorem dX12_climbs_87 : decode cX12_climbs 87 = .ok (.iload 4, 2) := by decide +kernel
theorem dX12_climbs_89 : decode cX12_climbs 89 = .ok (.invokevirtual 531, 3) := by decide +kernel
theorem dX12_climbs_92 : decode cX12_climbs 92 = .ok (.ifCond .ne 6, 3) := by decide +kernel
theorem dX12_climbs_95 : decode cX12_climbs 95 = .ok (.goto 95, 3) := by decide +kernel
theorem dX12_climbs_98 : decode cX12_climbs 98 = .ok (.iconst 0, 1) := by decide +kernel
theorem dX12_climbs_99 : decode cX12_climbs 99 = .ok (.istore 5, 2) := by decide +kernel
theorem dX12_climbs_101 : decode cX12_climbs 101 = .ok (.iload 5, 2) := by decide +kernel
theorem dX12_climbs_103 : decode cX12_climbs 103 = .ok (.iconst 4, 1) := by decide +kernel
theorem dX12_climbs_104 : decode cX12_climbs 104 = .ok (.if_icmp .ge 86, 3) := by decide +kernel
theorem dX12_climbs_107 : decode cX12_climbs 107 = .ok (.iload 4, 2) := by decide +kernel
theorem dX12_climbs_109 : decode cX12_climbs 109 = .ok (.iload 5, 2) := by decide +kernel
theorem dX12_climbs_111 : decode cX12_climbs 111 = .ok (.invokestatic 515, 3) := by decide +kernel
theorem dX12_climbs_114 : decode cX12_climbs 114 = .ok (.istore 6, 2) := by decide +kernel
theorem dX12_climbs_116 : decode cX12_climbs 116 = .ok (.iload 6, 2) := by decide +kernel
theorem dX12_climbs_118 : decode cX12_climbs 118 = .ok (.ifCond .ge 6, 3) := by decide +kernel
theorem dX12_climbs_121 : decode cX12_climbs 121 = .ok (.goto 63, 3) := by decide +kernel
theorem dX12_climbs_124 : decode cX12_climbs 124 = .ok (.aload_n 0, 1) := by decide +kernel
theorem dX12_climbs_125 : decode cX12_climbs 125 = .ok (.getfield 170, 3) := by decide +kernel
theorem dX12_climbs_128 : decode cX12_climbs 128 = .ok (.iload 4, 2) := by decide +kernel
theorem dX12_climbs_130 : decode cX12_climbs 130 = .ok (.iaload, 1) := by decide +kernel
theorem dX12_climbs_131 : decode cX12_climbs 131 = .ok (.iconst 2, 1) := by decide +kernel
theorem dX12_climbs_132 : decode cX12_climbs 132 = .ok (.iadd, 1) := by decide +kernel
theorem dX12_climbs_133 : decode cX12_climbs 133 = .ok (.iconst 0, 1) := by decide +kernel
theorem dX12_climbs_134 : decode cX12_climbs 134 = .ok (.aload_n 0, 1) := by decide +kernel
theorem dX12_climbs_135 : decode cX12_climbs 135 = .ok (.getfield 164, 3) := by decide +kernel
theorem dX12_climbs_138 : decode cX12_climbs 138 = .ok (.iload 6, 2) := by decide +kernel
theorem dX12_climbs_140 : decode cX12_climbs 140 = .ok (.iaload, 1) := by decide +kernel
theorem dX12_climbs_141 : decode cX12_climbs 141 = .ok (.aload_n 0, 1) := by decide +kernel
theorem dX12_climbs_142 : decode cX12_climbs 142 = .ok (.getfield 164, 3) := by decide +kernel
theorem dX12_climbs_145 : decode cX12_climbs 145 = .ok (.iload 4, 2) := by decide +kernel
theorem dX12_climbs_147 : decode cX12_climbs 147 = .ok (.iaload, 1) := by decide +kernel
theorem dX12_climbs_148 : decode cX12_climbs 148 = .ok (.isub, 1) := by decide +kernel
theorem dX12_climbs_149 : decode cX12_climbs 149 = .ok (.invokestatic 186, 3) := by decide +kernel
theorem dX12_climbs_152 : decode cX12_climbs 152 = .ok (.bipush 10, 2) := by decide +kernel
theorem dX12_climbs_154 : decode cX12_climbs 154 = .ok (.idiv, 1) := by decide +kernel
theorem dX12_climbs_155 : decode cX12_climbs 155 = .ok (.iadd, 1) := by decide +kernel
theorem dX12_climbs_156 : decode cX12_climbs 156 = .ok (.istore 7, 2) := by decide +kernel
theorem dX12_climbs_158 : decode cX12_climbs 158 = .ok (.iload 7, 2) := by decide +kernel
theorem dX12_climbs_160 : decode cX12_climbs 160 = .ok (.aload_n 0, 1) := by decide +kernel
theorem dX12_climbs_161 : decode cX12_climbs 161 = .ok (.getfield 170, 3) := by decide +kernel
theorem dX12_climbs_164 : decode cX12_climbs 164 = .ok (.iload 6, 2) := by decide +kernel
theorem dX12_climbs_166 : decode cX12_climbs 166 = .ok (.iaload, 1) := by decide +kernel
theorem dX12_climbs_167 : decode cX12_climbs 167 = .ok (.if_icmp .lt 6, 3) := by decide +kernel
theorem dX12_climbs_170 : decode cX12_climbs 170 = .ok (.goto 14, 3) := by decide +kernel
theorem dX12_climbs_173 : decode cX12_climbs 173 = .ok (.aload_n 0, 1) := by decide +kernel
theorem dX12_climbs_174 : decode cX12_climbs 174 = .ok (.getfield 170, 3) := by decide +kernel
theorem dX12_climbs_177 : decode cX12_climbs 177 = .ok (.iload 6, 2) := by decide +kernel
theorem dX12_climbs_179 : decode cX12_climbs 179 = .ok (.iload 7, 2) := by decide +kernel
theorem dX12_climbs_181 : decode cX12_climbs 181 = .ok (.iastore, 1) := by decide +kernel
theorem dX12_climbs_182 : decode cX12_climbs 182 = .ok (.iconst 1, 1) := by decide +kernel
theorem dX12_climbs_183 : decode cX12_climbs 183 = .ok (.istore_n 3, 1) := by decide +kernel
theorem dX12_climbs_184 : decode cX12_climbs 184 = .ok (.iinc 5 1, 3) := by decide +kernel
theorem dX12_climbs_187 : decode cX12_climbs 187 = .ok (.goto (-86), 3) := by decide +kernel
theorem dX12_climbs_190 : decode cX12_climbs 190 = .ok (.iinc 4 1, 3) := by decide +kernel
theorem dX12_climbs_193 : decode cX12_climbs 193 = .ok (.goto (-139), 3) := by decide +kernel
theorem dX12_climbs_196 : decode cX12_climbs 196 = .ok (.goto (-151), 3) := by decide +kernel
theorem dX12_climbs_199 : decode cX12_climbs 199 = .ok (.ldc_w 301, 3) := by decide +kernel
theorem dX12_climbs_202 : decode cX12_climbs 202 = .ok (.istore 4, 2) := by decide +kernel
theorem dX12_climbs_204 : decode cX12_climbs 204 = .ok (.iconst 0, 1) := by decide +kernel
theorem dX12_climbs_205 : decode cX12_climbs 205 = .ok (.istore 5, 2) := by decide +kernel
theorem dX12_climbs_207 : decode cX12_climbs 207 = .ok (.iload 5, 2) := by decide +kernel
theorem dX12_climbs_209 : decode cX12_climbs 209 = .ok (.sipush 400, 3) := by decide +kernel
theorem dX12_climbs_212 : decode cX12_climbs 212 = .ok (.if_icmp .ge 39, 3) := by decide +kernel
theorem dX12_climbs_215 : decode cX12_climbs 215 = .ok (.aload_n 0, 1) := by decide +kernel
theorem dX12_climbs_216 : decode cX12_climbs 216 = .ok (.getfield 167, 3) := by decide +kernel
theorem dX12_climbs_219 : decode cX12_climbs 219 = .ok (.iload 5, 2) := by decide +kernel
theorem dX12_climbs_221 : decode cX12_climbs 221 = .ok (.iaload, 1) := by decide +kernel
theorem dX12_climbs_222 : decode cX12_climbs 222 = .ok (.iconst (-1), 1) := by decide +kernel
theorem dX12_climbs_223 : decode cX12_climbs 223 = .ok (.if_icmp .ne 18, 3) := by decide +kernel
theorem dX12_climbs_226 : decode cX12_climbs 226 = .ok (.iload 4, 2) := by decide +kernel
theorem dX12_climbs_228 : decode cX12_climbs 228 = .ok (.aload_n 0, 1) := by decide +kernel
theorem dX12_climbs_229 : decode cX12_climbs 229 = .ok (.getfield 170, 3) := by decide +kernel
theorem dX12_climbs_232 : decode cX12_climbs 232 = .ok (.iload 5, 2) := by decide +kernel
theorem dX12_climbs_234 : decode cX12_climbs 234 = .ok (.iaload, 1) := by decide +kernel
theorem dX12_climbs_235 : decode cX12_climbs 235 = .ok (.invokestatic 501, 3) := by decide +kernel
theorem dX12_climbs_238 : decode cX12_climbs 238 = .ok (.goto 5, 3) := by decide +kernel
theorem dX12_climbs_241 : decode cX12_climbs 241 = .ok (.iload 4, 2) := by decide +kernel
theorem dX12_climbs_243 : decode cX12_climbs 243 = .ok (.istore 4, 2) := by decide +kernel
theorem dX12_climbs_245 : decode cX12_climbs 245 = .ok (.iinc 5 1, 3) := by decide +kernel
theorem dX12_climbs_248 : decode cX12_climbs 248 = .ok (.goto (-41), 3) := by decide +kernel
theorem dX12_climbs_251 : decode cX12_climbs 251 = .ok (.iload 4, 2) := by decide +kernel
theorem dX12_climbs_253 : decode cX12_climbs 253 = .ok (.ldc_w 301, 3) := by decide +kernel
theorem dX12_climbs_256 : decode cX12_climbs 256 = .ok (.if_icmp .ne 8, 3) := by decide +kernel
theorem dX12_climbs_259 : decode cX12_climbs 259 = .ok (.bipush (-2), 2) := by decide +kernel
theorem dX12_climbs_261 : decode cX12_climbs 261 = .ok (.goto 7, 3) := by decide +kernel
theorem dX12_climbs_264 : decode cX12_climbs 264 = .ok (.iload 4, 2) := by decide +kernel
theorem dX12_climbs_266 : decode cX12_climbs 266 = .ok (.iload_n 2, 1) := by decide +kernel
theorem dX12_climbs_267 : decode cX12_climbs 267 = .ok (.isub, 1) := by decide +kernel
theorem dX12_climbs_268 : decode cX12_climbs 268 = .ok (.ireturn, 1) := by decide +kernel
theorem dX12_climb_0 : decode cX12_climb 0 = .ok (.aload_n 0, 1) := by decide +kernel
theorem dX12_climb_1 : decode cX12_climb 1 = .ok (.iconst 0, 1) := by decide +kernel
theorem dX12_climb_2 : decode cX12_climb 2 = .ok (.putfield 1, 3) := by decide +kernel
theorem dX12_climb_5 : decode cX12_climb 5 = .ok (.aload_n 0, 1) := by decide +kernel
theorem dX12_climb_6 : decode cX12_climb 6 = .ok (.getfield 518, 3) := by decide +kernel
theorem dX12_climb_9 : decode cX12_climb 9 = .ok (.ifCond .eq 15, 3) := by decide +kernel
theorem dX12_climb_12 : decode cX12_climb 12 = .ok (.iload_n 1, 1) := by decide +kernel
theorem dX12_climb_13 : decode cX12_climb 13 = .ok (.ifCond .lt 11, 3) := by decide +kernel
theorem dX12_climb_16 : decode cX12_climb 16 = .ok (.iload_n 1, 1) := by decide +kernel
theorem dX12_climb_17 : decode cX12_climb 17 = .ok (.aload_n 0, 1) := by decide +kernel
theorem dX12_climb_18 : decode cX12_climb 18 = .ok (.getfield 528, 3) := by decide +kernel
theorem dX12_climb_21 : decode cX12_climb 21 = .ok (.if_icmp .lt 9, 3) := by decide +kernel
theorem dX12_climb_24 : decode cX12_climb 24 = .ok (.aload_n 0, 1) := by decide +kernel
theorem dX12_climb_25 : decode cX12_climb 25 = .ok (.iconst 1, 1) := by decide +kernel
theorem dX12_climb_26 : decode cX12_climb 26 = .ok (.invokevirtual 274, 3) := by decide +kernel
theorem dX12_climb_29 : decode cX12_climb 29 = .ok (.ireturn, 1) := by decide +kernel
theorem dX12_climb_30 : decode cX12_climb 30 = .ok (.iload_n 2, 1) := by decide +kernel
theorem dX12_climb_31 : decode cX12_climb 31 = .ok (.iconst 0, 1) := by decide +kernel
theorem dX12_climb_32 : decode cX12_climb 32 = .ok (.sipush 500, 3) := by decide +kernel
theorem dX12_climb_35 : decode cX12_climb 35 = .ok (.invokestatic 211, 3) := by decide +kernel
theorem dX12_climb_38 : decode cX12_climb 38 = .ok (.ifCond .eq 21, 3) := by decide +kernel
theorem dX12_climb_41 : decode cX12_climb 41 = .ok (.aload_n 0, 1) := by decide +kernel
theorem dX12_climb_42 : decode cX12_climb 42 = .ok (.aload_n 0, 1) := by decide +kernel
theorem dX12_climb_43 : decode cX12_climb 43 = .ok (.aload_n 0, 1) := by decide +kernel
theorem dX12_climb_44 : decode cX12_climb 44 = .ok (.getfield 173, 3) := by decide +kernel
theorem dX12_climb_47 : decode cX12_climb 47 = .ok (.iload_n 1, 1) := by decide +kernel
theorem dX12_climb_48 : decode cX12_climb 48 = .ok (.iaload, 1) := by decide +kernel
theorem dX12_climb_49 : decode cX12_climb 49 = .ok (.iload_n 2, 1) := by decide +kernel
theorem dX12_climb_50 : decode cX12_climb 50 = .ok (.invokevirtual 534, 3) := by decide +kernel
theorem dX12_climb_53 : decode cX12_climb 53 = .ok (.invokevirtual 277, 3) := by decide +kernel
theorem dX12_climb_56 : decode cX12_climb 56 = .ok (.goto 8, 3) := by decide +kernel
theorem dX12_climb_59 : decode cX12_climb 59 = .ok (.aload_n 0, 1) := by decide +kernel
theorem dX12_climb_60 : decode cX12_climb 60 = .ok (.iconst 2, 1) := by decide +kernel
theorem dX12_climb_61 : decode cX12_climb 61 = .ok (.invokevirtual 274, 3) := by decide +kernel
theorem dX12_climb_64 : decode cX12_climb 64 = .ok (.ireturn, 1) := by decide +kernel
theorem dX12_lost_0 : decode cX12_lost 0 = .ok (.aload_n 0, 1) := by decide +kernel
theorem dX12_lost_1 : decode cX12_lost 1 = .ok (.iconst 0, 1) := by decide +kernel
theorem dX12_lost_2 : decode cX12_lost 2 = .ok (.putfield 1, 3) := by decide +kernel
theorem dX12_lost_5 : decode cX12_lost 5 = .ok (.aload_n 0, 1) := by decide +kernel
theorem dX12_lost_6 : decode cX12_lost 6 = .ok (.getfield 518, 3) := by decide +kernel
theorem dX12_lost_9 : decode cX12_lost 9 = .ok (.ifCond .ne 9, 3) := by decide +kernel
theorem dX12_lost_12 : decode cX12_lost 12 = .ok (.aload_n 0, 1) := by decide +kernel
theorem dX12_lost_13 : decode cX12_lost 13 = .ok (.iconst 1, 1) := by decide +kernel
theorem dX12_lost_14 : decode cX12_lost 14 = .ok (.invokevirtual 274, 3) := by decide +kernel
theorem dX12_lost_17 : decode cX12_lost 17 = .ok (.ireturn, 1) := by decide +kernel
theorem dX12_lost_18 : decode cX12_lost 18 = .ok (.iload_n 1, 1) := by decide +kernel
theorem dX12_lost_19 : decode cX12_lost 19 = .ok (.iconst 0, 1) := by decide +kernel
theorem dX12_lost_20 : decode cX12_lost 20 = .ok (.sipush 500, 3) := by decide +kernel
theorem dX12_lost_23 : decode cX12_lost 23 = .ok (.invokestatic 211, 3) := by decide +kernel
theorem dX12_lost_26 : decode cX12_lost 26 = .ok (.ifCond .ne 9, 3) := by decide +kernel
theorem dX12_lost_29 : decode cX12_lost 29 = .ok (.aload_n 0, 1) := by decide +kernel
theorem dX12_lost_30 : decode cX12_lost 30 = .ok (.iconst 2, 1) := by decide +kernel
theorem dX12_lost_31 : decode cX12_lost 31 = .ok (.invokevirtual 274, 3) := by decide +kernel
theorem dX12_lost_34 : decode cX12_lost 34 = .ok (.ireturn, 1) := by decide +kernel
theorem dX12_lost_35 : decode cX12_lost 35 = .ok (.iconst 0, 1) := by decide +kernel
theorem dX12_lost_36 : decode cX12_lost 36 = .ok (.istore_n 2, 1) := by decide +kernel
theorem dX12_lost_37 : decode cX12_lost 37 = .ok (.iconst 0, 1) := by decide +kernel
theorem dX12_lost_38 : decode cX12_lost 38 = .ok (.istore_n 3, 1) := by decide +kernel
theorem dX12_lost_39 : decode cX12_lost 39 = .ok (.iload_n 3, 1) := by decide +kernel
theorem dX12_lost_40 : decode cX12_lost 40 = .ok (.aload_n 0, 1) := by decide +kernel
theorem dX12_lost_41 : decode cX12_lost 41 = .ok (.getfield 528, 3) := by decide +kernel
theorem dX12_lost_44 : decode cX12_lost 44 = .ok (.if_icmp .ge 47, 3) := by decide +kernel
theorem dX12_lost_47 : decode cX12_lost 47 = .ok (.iload_n 2, 1) := by decide +kernel
theorem dX12_lost_48 : decode cX12_lost 48 = .ok (.aload_n 0, 1) := by decide +kernel
theorem dX12_lost_49 : decode cX12_lost 49 = .ok (.getfield 179, 3) := by decide +kernel
theorem dX12_lost_52 : decode cX12_lost 52 = .ok (.iload_n 3, 1) := by decide +kernel
theorem dX12_lost_53 : decode cX12_lost 53 = .ok (.baload, 1) := by decide +kernel
theorem dX12_lost_54 : decode cX12_lost 54 = .ok (.ifCond .ne 28, 3) := by decide +kernel
theorem dX12_lost_57 : decode cX12_lost 57 = .ok (.aload_n 0, 1) := by decide +kernel
theorem dX12_lost_58 : decode cX12_lost 58 = .ok (.aload_n 0, 1) := by decide +kernel
theorem dX12_lost_59 : decode cX12_lost 59 = .ok (.getfield 173, 3) := by decide +kernel
theorem dX12_lost_62 : decode cX12_lost 62 = .ok (.iload_n 3, 1) := by decide +kernel
theorem dX12_lost_63 : decode cX12_lost 63 = .ok (.iaload, 1) := by decide +kernel
theorem dX12_lost_64 : decode cX12_lost 64 = .ok (.iload_n 1, 1) := by decide +kernel
theorem dX12_lost_65 : decode cX12_lost 65 = .ok (.invokevirtual 534, 3) := by decide +kernel
theorem dX12_lost_68 : decode cX12_lost 68 = .ok (.bipush (-2), 2) := by decide +kernel
theorem dX12_lost_70 : decode cX12_lost 70 = .ok (.if_icmp .ne 12, 3) := by decide +kernel
theorem dX12_lost_73 : decode cX12_lost 73 = .ok (.aload_n 0, 1) := by decide +kernel
theorem dX12_lost_74 : decode cX12_lost 74 = .ok (.getfield 176, 3) := by decide +kernel
theorem dX12_lost_77 : decode cX12_lost 77 = .ok (.iload_n 3, 1) := by decide +kernel
theorem dX12_lost_78 : decode cX12_lost 78 = .ok (.iaload, 1) := by decide +kernel
theorem dX12_lost_79 : decode cX12_lost 79 = .ok (.goto 4, 3) := by decide +kernel
theorem dX12_lost_82 : decode cX12_lost 82 = .ok (.iconst 0, 1) := by decide +kernel
theorem dX12_lost_83 : decode cX12_lost 83 = .ok (.iadd, 1) := by decide +kernel
theorem dX12_lost_84 : decode cX12_lost 84 = .ok (.istore_n 2, 1) := by decide +kernel
theorem dX12_lost_85 : decode cX12_lost 85 = .ok (.iinc 3 1, 3) := by decide +kernel
theorem dX12_lost_88 : decode cX12_lost 88 = .ok (.goto (-49), 3) := by decide +kernel
theorem dX12_lost_91 : decode cX12_lost 91 = .ok (.aload_n 0, 1) := by decide +kernel
theorem dX12_lost_92 : decode cX12_lost 92 = .ok (.iload_n 2, 1) := by decide +kernel
theorem dX12_lost_93 : decode cX12_lost 93 = .ok (.invokevirtual 277, 3) := by decide +kernel
theorem dX12_lost_96 : decode cX12_lost 96 = .ok (.ireturn, 1) := by decide +kernel
theorem dX12_moved_0 : decode cX12_moved 0 = .ok (.aload_n 0, 1) := by decide +kernel
theorem dX12_moved_1 : decode cX12_moved 1 = .ok (.iconst 0, 1) := by decide +kernel
theorem dX12_moved_2 : decode cX12_moved 2 = .ok (.putfield 1, 3) := by decide +kernel
theorem dX12_moved_5 : decode cX12_moved 5 = .ok (.iload_n 1, 1) := by decide +kernel
theorem dX12_moved_6 : decode cX12_moved 6 = .ok (.ifCond .lt 11, 3) := by decide +kernel
theorem dX12_moved_9 : decode cX12_moved 9 = .ok (.iload_n 1, 1) := by decide +kernel
theorem dX12_moved_10 : decode cX12_moved 10 = .ok (.aload_n 0, 1) := by decide +kernel
theorem dX12_moved_11 : decode cX12_moved 11 = .ok (.getfield 528, 3) := by decide +kernel
theorem dX12_moved_14 : decode cX12_moved 14 = .ok (.if_icmp .lt 9, 3) := by decide +kernel
theorem dX12_moved_17 : decode cX12_moved 17 = .ok (.aload_n 0, 1) := by decide +kernel
theorem dX12_moved_18 : decode cX12_moved 18 = .ok (.iconst 1, 1) := by decide +kernel
theorem dX12_moved_19 : decode cX12_moved 19 = .ok (.invokevirtual 207, 3) := by decide +kernel
theorem dX12_moved_22 : decode cX12_moved 22 = .ok (.ireturn, 1) := by decide +kernel
theorem dX12_moved_23 : decode cX12_moved 23 = .ok (.aload_n 0, 1) := by decide +kernel
theorem dX12_moved_24 : decode cX12_moved 24 = .ok (.getfield 179, 3) := by decide +kernel
theorem dX12_moved_27 : decode cX12_moved 27 = .ok (.iload_n 1, 1) := by decide +kernel
theorem dX12_moved_28 : decode cX12_moved 28 = .ok (.baload, 1) := by decide +kernel
theorem dX12_moved_29 : decode cX12_moved 29 = .ok (.iload_n 2, 1) := by decide +kernel
theorem dX12_moved_30 : decode cX12_moved 30 = .ok (.if_icmp .ne 9, 3) := by decide +kernel
theorem dX12_moved_33 : decode cX12_moved 33 = .ok (.aload_n 0, 1) := by decide +kernel
theorem dX12_moved_34 : decode cX12_moved 34 = .ok (.iconst 5, 1) := by decide +kernel
theorem dX12_moved_35 : decode cX12_moved 35 = .ok (.invokevirtual 207, 3) := by decide +kernel
theorem dX12_moved_38 : decode cX12_moved 38 = .ok (.ireturn, 1) := by decide +kernel
theorem dX12_moved_39 : decode cX12_moved 39 = .ok (.iload_n 2, 1) := by decide +kernel
theorem dX12_moved_40 : decode cX12_moved 40 = .ok (.ifCond .ne 23, 3) := by decide +kernel
theorem dX12_moved_43 : decode cX12_moved 43 = .ok (.aload_n 0, 1) := by decide +kernel
theorem dX12_moved_44 : decode cX12_moved 44 = .ok (.aload_n 0, 1) := by decide +kernel
theorem dX12_moved_45 : decode cX12_moved 45 = .ok (.getfield 173, 3) := by decide +kernel
theorem dX12_moved_48 : decode cX12_moved 48 = .ok (.iload_n 1, 1) := by decide +kernel
theorem dX12_moved_49 : decode cX12_moved 49 = .ok (.iaload, 1) := by decide +kernel
theorem dX12_moved_50 : decode cX12_moved 50 = .ok (.invokevirtual 480, 3) := by decide +kernel
theorem dX12_moved_53 : decode cX12_moved 53 = .ok (.ifCond .ne 10, 3) := by decide +kernel
theorem dX12_moved_56 : decode cX12_moved 56 = .ok (.aload_n 0, 1) := by decide +kernel
theorem dX12_moved_57 : decode cX12_moved 57 = .ok (.bipush 6, 2) := by decide +kernel
theorem dX12_moved_59 : decode cX12_moved 59 = .ok (.invokevirtual 207, 3) := by decide +kernel
theorem dX12_moved_62 : decode cX12_moved 62 = .ok (.ireturn, 1) := by decide +kernel
theorem dX12_moved_63 : decode cX12_moved 63 = .ok (.aload_n 0, 1) := by decide +kernel
theorem dX12_moved_64 : decode cX12_moved 64 = .ok (.getfield 179, 3) := by decide +kernel
theorem dX12_moved_67 : decode cX12_moved 67 = .ok (.iload_n 1, 1) := by decide +kernel
theorem dX12_moved_68 : decode cX12_moved 68 = .ok (.iload_n 2, 1) := by decide +kernel
theorem dX12_moved_69 : decode cX12_moved 69 = .ok (.bastore, 1) := by decide +kernel
theorem dX12_moved_70 : decode cX12_moved 70 = .ok (.aload_n 0, 1) := by decide +kernel
theorem dX12_moved_71 : decode cX12_moved 71 = .ok (.invokevirtual 215, 3) := by decide +kernel
theorem dX12_moved_74 : decode cX12_moved 74 = .ok (.ireturn, 1) := by decide +kernel
theorem dX12_passes_0 : decode cX12_passes 0 = .ok (.aload_n 0, 1) := by decide +kernel
theorem dX12_passes_1 : decode cX12_passes 1 = .ok (.iload_n 1, 1) := by decide +kernel
theorem dX12_passes_2 : decode cX12_passes 2 = .ok (.invokevirtual 239, 3) := by decide +kernel
theorem dX12_passes_5 : decode cX12_passes 5 = .ok (.aload_n 0, 1) := by decide +kernel
theorem dX12_passes_6 : decode cX12_passes 6 = .ok (.getfield 50, 3) := by decide +kernel
theorem dX12_passes_9 : decode cX12_passes 9 = .ok (.iload_n 1, 1) := by decide +kernel
theorem dX12_passes_10 : decode cX12_passes 10 = .ok (.dup2, 1) := by decide +kernel
theorem dX12_passes_11 : decode cX12_passes 11 = .ok (.iaload, 1) := by decide +kernel
theorem dX12_passes_12 : decode cX12_passes 12 = .ok (.aload_n 0, 1) := by decide +kernel
theorem dX12_passes_13 : decode cX12_passes 13 = .ok (.getfield 41, 3) := by decide +kernel
theorem dX12_passes_16 : decode cX12_passes 16 = .ok (.iload_n 1, 1) := by decide +kernel
theorem dX12_passes_17 : decode cX12_passes 17 = .ok (.iaload, 1) := by decide +kernel
theorem dX12_passes_18 : decode cX12_passes 18 = .ok (.iadd, 1) := by decide +kernel
theorem dX12_passes_19 : decode cX12_passes 19 = .ok (.iastore, 1) := by decide +kernel
theorem dX12_passes_20 : decode cX12_passes 20 = .ok (.aload_n 0, 1) := by decide +kernel
theorem dX12_passes_21 : decode cX12_passes 21 = .ok (.iload_n 1, 1) := by decide +kernel
theorem dX12_passes_22 : decode cX12_passes 22 = .ok (.invokevirtual 268, 3) := by decide +kernel
theorem dX12_passes_25 : decode cX12_passes 25 = .ok (.istore_n 2, 1) := by decide +kernel
theorem dX12_passes_26 : decode cX12_passes 26 = .ok (.aload_n 0, 1) := by decide +kernel
theorem dX12_passes_27 : decode cX12_passes 27 = .ok (.iload_n 1, 1) := by decide +kernel
theorem dX12_passes_28 : decode cX12_passes 28 = .ok (.invokevirtual 292, 3) := by decide +kernel
theorem dX12_passes_31 : decode cX12_passes 31 = .ok (.aload_n 0, 1) := by decide +kernel
theorem dX12_passes_32 : decode cX12_passes 32 = .ok (.getfield 56, 3) := by decide +kernel
theorem dX12_passes_35 : decode cX12_passes 35 = .ok (.iload_n 1, 1) := by decide +kernel
theorem dX12_passes_36 : decode cX12_passes 36 = .ok (.dup2, 1) := by decide +kernel
theorem dX12_passes_37 : decode cX12_passes 37 = .ok (.iaload, 1) := by decide +kernel
theorem dX12_passes_38 : decode cX12_passes 38 = .ok (.aload_n 0, 1) := by decide +kernel
theorem dX12_passes_39 : decode cX12_passes 39 = .ok (.getfield 259, 3) := by decide +kernel
theorem dX12_passes_42 : decode cX12_passes 42 = .ok (.iadd, 1) := by decide +kernel
theorem dX12_passes_43 : decode cX12_passes 43 = .ok (.iastore, 1) := by decide +kernel
theorem dX12_passes_44 : decode cX12_passes 44 = .ok (.iconst 0, 1) := by decide +kernel
theorem dX12_passes_45 : decode cX12_passes 45 = .ok (.istore_n 3, 1) := by decide +kernel
theorem dX12_passes_46 : decode cX12_passes 46 = .ok (.iload_n 3, 1) := by decide +kernel
theorem dX12_passes_47 : decode cX12_passes 47 = .ok (.aload_n 0, 1) := by decide +kernel
theorem dX12_passes_48 : decode cX12_passes 48 = .ok (.getfield 246, 3) := by decide +kernel
theorem dX12_passes_51 : decode cX12_passes 51 = .ok (.if_icmp .ge 64, 3) := by decide +kernel
theorem dX12_passes_54 : decode cX12_passes 54 = .ok (.aload_n 0, 1) := by decide +kernel
theorem dX12_passes_55 : decode cX12_passes 55 = .ok (.getfield 84, 3) := by decide +kernel
theorem dX12_passes_58 : decode cX12_passes 58 = .ok (.iload_n 3, 1) := by decide +kernel
theorem dX12_passes_59 : decode cX12_passes 59 = .ok (.iaload, 1) := by decide +kernel
theorem dX12_passes_60 : decode cX12_passes 60 = .ok (.iload_n 1, 1) := by decide +kernel
theorem dX12_passes_61 : decode cX12_passes 61 = .ok (.if_icmp .eq 6, 3) := by decide +kernel
theorem dX12_passes_64 : decode cX12_passes 64 = .ok (.goto 45, 3) := by decide +kernel
theorem dX12_passes_67 : decode cX12_passes 67 = .ok (.aload_n 0, 1) := by decide +kernel
theorem dX12_passes_68 : decode cX12_passes 68 = .ok (.getfield 102, 3) := by decide +kernel
theorem dX12_passes_71 : decode cX12_passes 71 = .ok (.iload_n 3, 1) := by decide +kernel
theorem dX12_passes_72 : decode cX12_passes 72 = .ok (.aload_n 0, 1) := by decide +kernel
theorem dX12_passes_73 : decode cX12_passes 73 = .ok (.getfield 80, 3) := by decide +kernel
theorem dX12_passes_76 : decode cX12_passes 76 = .ok (.iload_n 3, 1) := by decide +kernel
theorem dX12_passes_77 : decode cX12_passes 77 = .ok (.baload, 1) := by decide +kernel
theorem dX12_passes_78 : decode cX12_passes 78 = .ok (.bastore, 1) := by decide +kernel
theorem dX12_passes_79 : decode cX12_passes 79 = .ok (.aload_n 0, 1) := by decide +kernel
theorem dX12_passes_80 : decode cX12_passes 80 = .ok (.getfield 96, 3) := by decide +kernel
theorem dX12_passes_83 : decode cX12_passes 83 = .ok (.iload_n 3, 1) := by decide +kernel
theorem dX12_passes_84 : decode cX12_passes 84 = .ok (.dup2, 1) := by decide +kernel
theorem dX12_passes_85 : decode cX12_passes 85 = .ok (.iaload, 1) := by decide +kernel
theorem dX12_passes_86 : decode cX12_passes 86 = .ok (.aload_n 0, 1) := by decide +kernel
theorem dX12_passes_87 : decode cX12_passes 87 = .ok (.getfield 77, 3) := by decide +kernel
theorem dX12_passes_90 : decode cX12_passes 90 = .ok (.iload_n 3, 1) := by decide +kernel
theorem dX12_passes_91 : decode cX12_passes 91 = .ok (.iaload, 1) := by decide +kernel
theorem dX12_passes_92 : decode cX12_passes 92 = .ok (.iadd, 1) := by decide +kernel
theorem dX12_passes_93 : decode cX12_passes 93 = .ok (.iastore, 1) := by decide +kernel
theorem dX12_passes_94 : decode cX12_passes 94 = .ok (.aload_n 0, 1) := by decide +kernel
theorem dX12_passes_95 : decode cX12_passes 95 = .ok (.getfield 53, 3) := by decide +kernel
theorem dX12_passes_98 : decode cX12_passes 98 = .ok (.iload_n 1, 1) := by decide +kernel
theorem dX12_passes_99 : decode cX12_passes 99 = .ok (.dup2, 1) := by decide +kernel
theorem dX12_passes_100 : decode cX12_passes 100 = .ok (.iaload, 1) := by decide +kernel
theorem dX12_passes_101 : decode cX12_passes 101 = .ok (.aload_n 0, 1) := by decide +kernel
theorem dX12_passes_102 : decode cX12_passes 102 = .ok (.getfield 77, 3) := by decide +kernel
theorem dX12_passes_105 : decode cX12_passes 105 = .ok (.iload_n 3, 1) := by decide +kernel
theorem dX12_passes_106 : decode cX12_passes 106 = .ok (.iaload, 1) := by decide +kernel
theorem dX12_passes_107 : decode cX12_passes 107 = .ok (.iadd, 1) := by decide +kernel
theorem dX12_passes_108 : decode cX12_passes 108 = .ok (.iastore, 1) := by decide +kernel
theorem dX12_passes_109 : decode cX12_passes 109 = .ok (.iinc 3 1, 3) := by decide +kernel
theorem dX12_passes_112 : decode cX12_passes 112 = .ok (.goto (-66), 3) := by decide +kernel
theorem dX12_passes_115 : decode cX12_passes 115 = .ok (.iload_n 2, 1) := by decide +kernel
theorem dX12_passes_116 : decode cX12_passes 116 = .ok (.ifCond .ne 4, 3) := by decide +kernel
theorem dX12_passes_119 : decode cX12_passes 119 = .ok (.return_, 1) := by decide +kernel
theorem dX12_passes_120 : decode cX12_passes 120 = .ok (.aload_n 0, 1) := by decide +kernel
theorem dX12_passes_121 : decode cX12_passes 121 = .ok (.dup, 1) := by decide +kernel
theorem dX12_passes_122 : decode cX12_passes 122 = .ok (.getfield 537, 3) := by decide +kernel
theorem dX12_passes_125 : decode cX12_passes 125 = .ok (.iconst 1, 1) := by decide +kernel
theorem dX12_passes_126 : decode cX12_passes 126 = .ok (.iadd, 1) := by decide +kernel
theorem dX12_passes_127 : decode cX12_passes 127 = .ok (.putfield 537, 3) := by decide +kernel
theorem dX12_passes_130 : decode cX12_passes 130 = .ok (.aload_n 0, 1) := by decide +kernel
theorem dX12_passes_131 : decode cX12_passes 131 = .ok (.getfield 62, 3) := by decide +kernel
theorem dX12_passes_134 : decode cX12_passes 134 = .ok (.iload_n 1, 1) := by decide +kernel
theorem dX12_passes_135 : decode cX12_passes 135 = .ok (.aload_n 0, 1) := by decide +kernel
theorem dX12_passes_136 : decode cX12_passes 136 = .ok (.getfield 265, 3) := by decide +kernel
theorem dX12_passes_139 : decode cX12_passes 139 = .ok (.iastore, 1) := by decide +kernel
theorem dX12_passes_140 : decode cX12_passes 140 = .ok (.aload_n 0, 1) := by decide +kernel
theorem dX12_passes_141 : decode cX12_passes 141 = .ok (.getfield 59, 3) := by decide +kernel
theorem dX12_passes_144 : decode cX12_passes 144 = .ok (.iload_n 1, 1) := by decide +kernel
theorem dX12_passes_145 : decode cX12_passes 145 = .ok (.dup2, 1) := by decide +kernel
theorem dX12_passes_146 : decode cX12_passes 146 = .ok (.iaload, 1) := by decide +kernel
theorem dX12_passes_147 : decode cX12_passes 147 = .ok (.aload_n 0, 1) := by decide +kernel
theorem dX12_passes_148 : decode cX12_passes 148 = .ok (.getfield 265, 3) := by decide +kernel
theorem dX12_passes_151 : decode cX12_passes 151 = .ok (.iadd, 1) := by decide +kernel
theorem dX12_passes_152 : decode cX12_passes 152 = .ok (.iastore, 1) := by decide +kernel
theorem dX12_passes_153 : decode cX12_passes 153 = .ok (.return_, 1) := by decide +kernel
theorem dX12_pass_0 : decode cX12_pass 0 = .ok (.aload_n 0, 1) := by decide +kernel
theorem dX12_pass_1 : decode cX12_pass 1 = .ok (.iconst 0, 1) := by decide +kernel
theorem dX12_pass_2 : decode cX12_pass 2 = .ok (.putfield 1, 3) := by decide +kernel
theorem dX12_pass_5 : decode cX12_pass 5 = .ok (.iload_n 1, 1) := by decide +kernel
theorem dX12_pass_6 : decode cX12_pass 6 = .ok (.iconst 1, 1) := by decide +kernel
theorem dX12_pass_7 : decode cX12_pass 7 = .ok (.bipush 60, 2) := by decide +kernel
theorem dX12_pass_9 : decode cX12_pass 9 = .ok (.invokestatic 211, 3) := by decide +kernel
theorem dX12_pass_12 : decode cX12_pass 12 = .ok (.ifCond .eq 15, 3) := by decide +kernel
theorem dX12_pass_15 : decode cX12_pass 15 = .ok (.aload_n 0, 1) := by decide +kernel
theorem dX12_pass_16 : decode cX12_pass 16 = .ok (.getfield 223, 3) := by decide +kernel
theorem dX12_pass_19 : decode cX12_pass 19 = .ok (.iload_n 1, 1) := by decide +kernel
theorem dX12_pass_20 : decode cX12_pass 20 = .ok (.iadd, 1) := by decide +kernel
theorem dX12_pass_21 : decode cX12_pass 21 = .ok (.sipush 3000, 3) := by decide +kernel
theorem dX12_pass_24 : decode cX12_pass 24 = .ok (.if_icmp .lt 9, 3) := by decide +kernel
theorem dX12_pass_27 : decode cX12_pass 27 = .ok (.aload_n 0, 1) := by decide +kernel
theorem dX12_pass_28 : decode cX12_pass 28 = .ok (.iconst 2, 1) := by decide +kernel
theorem dX12_pass_29 : decode cX12_pass 29 = .ok (.invokevirtual 274, 3) := by decide +kernel
theorem dX12_pass_32 : decode cX12_pass 32 = .ok (.ireturn, 1) := by decide +kernel
theorem dX12_pass_33 : decode cX12_pass 33 = .ok (.aload_n 0, 1) := by decide +kernel
theorem dX12_pass_34 : decode cX12_pass 34 = .ok (.getfield 537, 3) := by decide +kernel
theorem dX12_pass_37 : decode cX12_pass 37 = .ok (.istore_n 2, 1) := by decide +kernel
theorem dX12_pass_38 : decode cX12_pass 38 = .ok (.iconst 0, 1) := by decide +kernel
theorem dX12_pass_39 : decode cX12_pass 39 = .ok (.istore_n 3, 1) := by decide +kernel
theorem dX12_pass_40 : decode cX12_pass 40 = .ok (.iload_n 3, 1) := by decide +kernel
theorem dX12_pass_41 : decode cX12_pass 41 = .ok (.iload_n 1, 1) := by decide +kernel
theorem dX12_pass_42 : decode cX12_pass 42 = .ok (.if_icmp .ge 40, 3) := by decide +kernel
theorem dX12_pass_45 : decode cX12_pass 45 = .ok (.iconst 0, 1) := by decide +kernel
theorem dX12_pass_46 : decode cX12_pass 46 = .ok (.istore 4, 2) := by decide +kernel
theorem dX12_pass_48 : decode cX12_pass 48 = .ok (.iload 4, 2) := by decide +kernel
theorem dX12_pass_50 : decode cX12_pass 50 = .ok (.iconst 2, 1) := by decide +kernel
theorem dX12_pass_51 : decode cX12_pass 51 = .ok (.if_icmp .ge 15, 3) := by decide +kernel
theorem dX12_pass_54 : decode cX12_pass 54 = .ok (.aload_n 0, 1) := by decide +kernel
theorem dX12_pass_55 : decode cX12_pass 55 = .ok (.iload 4, 2) := by decide +kernel
theorem dX12_pass_57 : decode cX12_pass 57 = .ok (.invokevirtual 540, 3) := by decide +kernel
theorem dX12_pass_60 : decode cX12_pass 60 = .ok (.iinc 4 1, 3) := by decide +kernel
theorem dX12_pass_63 : decode cX12_pass 63 = .ok (.goto (-15), 3) := by decide +kernel
theorem dX12_pass_66 : decode cX12_pass 66 = .ok (.aload_n 0, 1) := by decide +kernel
theorem dX12_pass_67 : decode cX12_pass 67 = .ok (.dup, 1) := by decide +kernel
theorem dX12_pass_68 : decode cX12_pass 68 = .ok (.getfield 223, 3) := by decide +kernel
theorem dX12_pass_71 : decode cX12_pass 71 = .ok (.iconst 1, 1) := by decide +kernel
theorem dX12_pass_72 : decode cX12_pass 72 = .ok (.iadd, 1) := by decide +kernel
theorem dX12_pass_73 : decode cX12_pass 73 = .ok (.putfield 223, 3) := by decide +kernel
theorem dX12_pass_76 : decode cX12_pass 76 = .ok (.iinc 3 1, 3) := by decide +kernel
theorem dX12_pass_79 : decode cX12_pass 79 = .ok (.goto (-39), 3) := by decide +kernel
theorem dX12_pass_82 : decode cX12_pass 82 = .ok (.aload_n 0, 1) := by decide +kernel
theorem dX12_pass_83 : decode cX12_pass 83 = .ok (.bipush (-2), 2) := by decide +kernel
theorem dX12_pass_85 : decode cX12_pass 85 = .ok (.putfield 22, 3) := by decide +kernel
theorem dX12_pass_88 : decode cX12_pass 88 = .ok (.aload_n 0, 1) := by decide +kernel
theorem dX12_pass_89 : decode cX12_pass 89 = .ok (.aload_n 0, 1) := by decide +kernel
theorem dX12_pass_90 : decode cX12_pass 90 = .ok (.getfield 537, 3) := by decide +kernel
theorem dX12_pass_93 : decode cX12_pass 93 = .ok (.iload_n 2, 1) := by decide +kernel
theorem dX12_pass_94 : decode cX12_pass 94 = .ok (.isub, 1) := by decide +kernel
theorem dX12_pass_95 : decode cX12_pass 95 = .ok (.invokevirtual 277, 3) := by decide +kernel
theorem dX12_pass_98 : decode cX12_pass 98 = .ok (.ireturn, 1) := by decide +kernel
theorem dX12_count_0 : decode cX12_count 0 = .ok (.aload_n 0, 1) := by decide +kernel
theorem dX12_count_1 : decode cX12_count 1 = .ok (.iconst 0, 1) := by decide +kernel
theorem dX12_count_2 : decode cX12_count 2 = .ok (.putfield 1, 3) := by decide +kernel
theorem dX12_count_5 : decode cX12_count 5 = .ok (.iload_n 1, 1) := by decide +kernel
theorem dX12_count_6 : decode cX12_count 6 = .ok (.tableswitch 136 0 9 #[54, 59, 64, 69, 74, 79, 116, 121, 126, 131], 54) := by decide +kernel
theorem dX12_count_60 : decode cX12_count 60 = .ok (.aload_n 0, 1) := by decide +kernel
theorem dX12_count_61 : decode cX12_count 61 = .ok (.getfield 246, 3) := by decide +kernel
theorem dX12_count_64 : decode cX12_count 64 = .ok (.ireturn, 1) := by decide +kernel
theorem dX12_count_65 : decode cX12_count 65 = .ok (.aload_n 0, 1) := by decide +kernel
theorem dX12_count_66 : decode cX12_count 66 = .ok (.getfield 312, 3) := by decide +kernel
theorem dX12_count_69 : decode cX12_count 69 = .ok (.ireturn, 1) := by decide +kernel
theorem dX12_count_70 : decode cX12_count 70 = .ok (.aload_n 0, 1) := by decide +kernel
theorem dX12_count_71 : decode cX12_count 71 = .ok (.getfield 483, 3) := by decide +kernel
theorem dX12_count_74 : decode cX12_count 74 = .ok (.ireturn, 1) := by decide +kernel
theorem dX12_count_75 : decode cX12_count 75 = .ok (.aload_n 0, 1) := by decide +kernel
theorem dX12_count_76 : decode cX12_count 76 = .ok (.getfield 486, 3) := by decide +kernel
theorem dX12_count_79 : decode cX12_count 79 = .ok (.ireturn, 1) := by decide +kernel
theorem dX12_count_80 : decode cX12_count 80 = .ok (.aload_n 0, 1) := by decide +kernel
theorem dX12_count_81 : decode cX12_count 81 = .ok (.getfield 528, 3) := by decide +kernel
theorem dX12_count_84 : decode cX12_count 84 = .ok (.ireturn, 1) := by decide +kernel
theorem dX12_count_85 : decode cX12_count 85 = .ok (.iconst 0, 1) := by decide +kernel
theorem dX12_count_86 : decode cX12_count 86 = .ok (.istore_n 2, 1) := by decide +kernel
theorem dX12_count_87 : decode cX12_count 87 = .ok (.iconst 0, 1) := by decide +kernel
theorem dX12_count_88 : decode cX12_count 88 = .ok (.istore_n 3, 1) := by decide +kernel
theorem dX12_count_89 : decode cX12_count 89 = .ok (.iload_n 3, 1) := by decide +kernel
theorem dX12_count_90 : decode cX12_count 90 = .ok (.aload_n 0, 1) := by decide +kernel
theorem dX12_count_91 : decode cX12_count 91 = .ok (.getfield 528, 3) := by decide +kernel
theorem dX12_count_94 : decode cX12_count 94 = .ok (.if_icmp .ge 26, 3) := by decide +kernel
theorem dX12_count_97 : decode cX12_count 97 = .ok (.iload_n 2, 1) := by decide +kernel
theorem dX12_count_98 : decode cX12_count 98 = .ok (.aload_n 0, 1) := by decide +kernel
theorem dX12_count_99 : decode cX12_count 99 = .ok (.getfield 179, 3) := by decide +kernel
theorem dX12_count_102 : decode cX12_count 102 = .ok (.iload_n 3, 1) := by decide +kernel
theorem dX12_count_103 : decode cX12_count 103 = .ok (.baload, 1) := by decide +kernel
theorem dX12_count_104 : decode cX12_count 104 = .ok (.ifCond .eq 7, 3) := by decide +kernel
theorem dX12_count_107 : decode cX12_count 107 = .ok (.iconst 1, 1) := by decide +kernel
theorem dX12_count_108 : decode cX12_count 108 = .ok (.goto 4, 3) := by decide +kernel
theorem dX12_count_111 : decode cX12_count 111 = .ok (.iconst 0, 1) := by decide +kernel
theorem dX12_count_112 : decode cX12_count 112 = .ok (.iadd, 1) := by decide +kernel
theorem dX12_count_113 : decode cX12_count 113 = .ok (.istore_n 2, 1) := by decide +kernel
theorem dX12_count_114 : decode cX12_count 114 = .ok (.iinc 3 1, 3) := by decide +kernel
theorem dX12_count_117 : decode cX12_count 117 = .ok (.goto (-28), 3) := by decide +kernel
theorem dX12_count_120 : decode cX12_count 120 = .ok (.iload_n 2, 1) := by decide +kernel
theorem dX12_count_121 : decode cX12_count 121 = .ok (.ireturn, 1) := by decide +kernel
theorem dX12_count_122 : decode cX12_count 122 = .ok (.aload_n 0, 1) := by decide +kernel
theorem dX12_count_123 : decode cX12_count 123 = .ok (.getfield 223, 3) := by decide +kernel
theorem dX12_count_126 : decode cX12_count 126 = .ok (.ireturn, 1) := by decide +kernel
theorem dX12_count_127 : decode cX12_count 127 = .ok (.aload_n 0, 1) := by decide +kernel
theorem dX12_count_128 : decode cX12_count 128 = .ok (.getfield 537, 3) := by decide +kernel
theorem dX12_count_131 : decode cX12_count 131 = .ok (.ireturn, 1) := by decide +kernel
theorem dX12_count_132 : decode cX12_count 132 = .ok (.aload_n 0, 1) := by decide +kernel
theorem dX12_count_133 : decode cX12_count 133 = .ok (.getfield 22, 3) := by decide +kernel
theorem dX12_count_136 : decode cX12_count 136 = .ok (.ireturn, 1) := by decide +kernel
theorem dX12_count_137 : decode cX12_count 137 = .ok (.aload_n 0, 1) := by decide +kernel
theorem dX12_count_138 : decode cX12_count 138 = .ok (.getfield 453, 3) := by decide +kernel
theorem dX12_count_141 : decode cX12_count 141 = .ok (.ireturn, 1) := by decide +kernel
theorem dX12_count_142 : decode cX12_count 142 = .ok (.iconst (-1), 1) := by decide +kernel
theorem dX12_count_143 : decode cX12_count 143 = .ok (.ireturn, 1) := by decide +kernel
theorem dX12_trouble_0 : decode cX12_trouble 0 = .ok (.aload_n 0, 1) := by decide +kernel
theorem dX12_trouble_1 : decode cX12_trouble 1 = .ok (.iconst 0, 1) := by decide +kernel
theorem dX12_trouble_2 : decode cX12_trouble 2 = .ok (.putfield 1, 3) := by decide +kernel
theorem dX12_trouble_5 : decode cX12_trouble 5 = .ok (.aload_n 0, 1) := by decide +kernel
theorem dX12_trouble_6 : decode cX12_trouble 6 = .ok (.getfield 7, 3) := by decide +kernel
theorem dX12_trouble_9 : decode cX12_trouble 9 = .ok (.ireturn, 1) := by decide +kernel
theorem dJ9_floorDiv_7cf53_0 : decode cJ9_floorDiv_7cf53 0 = .ok (.iload_n 0, 1) := by decide +kernel
theorem dJ9_floorDiv_7cf53_1 : decode cJ9_floorDiv_7cf53 1 = .ok (.iload_n 1, 1) := by decide +kernel
theorem dJ9_floorDiv_7cf53_2 : decode cJ9_floorDiv_7cf53 2 = .ok (.idiv, 1) := by decide +kernel
theorem dJ9_floorDiv_7cf53_3 : decode cJ9_floorDiv_7cf53 3 = .ok (.istore_n 2, 1) := by decide +kernel
theorem dJ9_floorDiv_7cf53_4 : decode cJ9_floorDiv_7cf53 4 = .ok (.iload_n 0, 1) := by decide +kernel
theorem dJ9_floorDiv_7cf53_5 : decode cJ9_floorDiv_7cf53 5 = .ok (.iload_n 1, 1) := by decide +kernel
theorem dJ9_floorDiv_7cf53_6 : decode cJ9_floorDiv_7cf53 6 = .ok (.ixor, 1) := by decide +kernel
theorem dJ9_floorDiv_7cf53_7 : decode cJ9_floorDiv_7cf53 7 = .ok (.ifCond .ge 14, 3) := by decide +kernel
theorem dJ9_floorDiv_7cf53_10 : decode cJ9_floorDiv_7cf53 10 = .ok (.iload_n 2, 1) := by decide +kernel
theorem dJ9_floorDiv_7cf53_11 : decode cJ9_floorDiv_7cf53 11 = .ok (.iload_n 1, 1) := by decide +kernel
theorem dJ9_floorDiv_7cf53_12 : decode cJ9_floorDiv_7cf53 12 = .ok (.imul, 1) := by decide +kernel
theorem dJ9_floorDiv_7cf53_13 : decode cJ9_floorDiv_7cf53 13 = .ok (.iload_n 0, 1) := by decide +kernel
theorem dJ9_floorDiv_7cf53_14 : decode cJ9_floorDiv_7cf53 14 = .ok (.if_icmp .eq 7, 3) := by decide +kernel
theorem dJ9_floorDiv_7cf53_17 : decode cJ9_floorDiv_7cf53 17 = .ok (.iload_n 2, 1) := by decide +kernel
theorem dJ9_floorDiv_7cf53_18 : decode cJ9_floorDiv_7cf53 18 = .ok (.iconst 1, 1) := by decide +kernel
theorem dJ9_floorDiv_7cf53_19 : decode cJ9_floorDiv_7cf53 19 = .ok (.isub, 1) := by decide +kernel
theorem dJ9_floorDiv_7cf53_20 : decode cJ9_floorDiv_7cf53 20 = .ok (.ireturn, 1) := by decide +kernel
theorem dJ9_floorDiv_7cf53_21 : decode cJ9_floorDiv_7cf53 21 = .ok (.iload_n 2, 1) := by decide +kernel
theorem dJ9_floorDiv_7cf53_22 : decode cJ9_floorDiv_7cf53 22 = .ok (.ireturn, 1) := by decide +kernel
theorem dJ9_max_7cf53_0 : decode cJ9_max_7cf53 0 = .ok (.iload_n 0, 1) := by decide +kernel
theorem dJ9_max_7cf53_1 : decode cJ9_max_7cf53 1 = .ok (.iload_n 1, 1) := by decide +kernel
theorem dJ9_max_7cf53_2 : decode cJ9_max_7cf53 2 = .ok (.if_icmp .lt 7, 3) := by decide +kernel
theorem dJ9_max_7cf53_5 : decode cJ9_max_7cf53 5 = .ok (.iload_n 0, 1) := by decide +kernel
theorem dJ9_max_7cf53_6 : decode cJ9_max_7cf53 6 = .ok (.goto 4, 3) := by decide +kernel
theorem dJ9_max_7cf53_9 : decode cJ9_max_7cf53 9 = .ok (.iload_n 1, 1) := by decide +kernel
theorem dJ9_max_7cf53_10 : decode cJ9_max_7cf53 10 = .ok (.ireturn, 1) := by decide +kernel
theorem dJ9_min_7cf53_0 : decode cJ9_min_7cf53 0 = .ok (.iload_n 0, 1) := by decide +kernel
theorem dJ9_min_7cf53_1 : decode cJ9_min_7cf53 1 = .ok (.iload_n 1, 1) := by decide +kernel
theorem dJ9_min_7cf53_2 : decode cJ9_min_7cf53 2 = .ok (.if_icmp .gt 7, 3) := by decide +kernel
theorem dJ9_min_7cf53_5 : decode cJ9_min_7cf53 5 = .ok (.iload_n 0, 1) := by decide +kernel
theorem dJ9_min_7cf53_6 : decode cJ9_min_7cf53 6 = .ok (.goto 4, 3) := by decide +kernel
theorem dJ9_min_7cf53_9 : decode cJ9_min_7cf53 9 = .ok (.iload_n 1, 1) := by decide +kernel
theorem dJ9_min_7cf53_10 : decode cJ9_min_7cf53 10 = .ok (.ireturn, 1) := by decide +kernel
theorem dJ9_min_f86c9_0 : decode cJ9_min_f86c9 0 = .ok (.lload_n 0, 1) := by decide +kernel
theorem dJ9_min_f86c9_1 : decode cJ9_min_f86c9 1 = .ok (.lload_n 2, 1) := by decide +kernel
theorem dJ9_min_f86c9_2 : decode cJ9_min_f86c9 2 = .ok (.lcmp, 1) := by decide +kernel
theorem dJ9_min_f86c9_3 : decode cJ9_min_f86c9 3 = .ok (.ifCond .gt 7, 3) := by decide +kernel
theorem dJ9_min_f86c9_6 : decode cJ9_min_f86c9 6 = .ok (.lload_n 0, 1) := by decide +kernel
theorem dJ9_min_f86c9_7 : decode cJ9_min_f86c9 7 = .ok (.goto 4, 3) := by decide +kernel
theorem dJ9_min_f86c9_10 : decode cJ9_min_f86c9 10 = .ok (.lload_n 2, 1) := by decide +kernel
theorem dJ9_min_f86c9_11 : decode cJ9_min_f86c9 11 = .ok (.lreturn, 1) := by decide +kernel
theorem dJ0_length_8abf5_0 : decode cJ0_length_8abf5 0 = .ok (.aload_n 0, 1) := by decide +kernel
theorem dJ0_length_8abf5_1 : decode cJ0_length_8abf5 1 = .ok (.getfield 9, 3) := by decide +kernel
theorem dJ0_length_8abf5_4 : decode cJ0_length_8abf5 4 = .ok (.arraylength, 1) := by decide +kernel
theorem dJ0_length_8abf5_5 : decode cJ0_length_8abf5 5 = .ok (.aload_n 0, 1) := by decide +kernel
theorem dJ0_length_8abf5_6 : decode cJ0_length_8abf5 6 = .ok (.invokevirtual 335, 3) := by decide +kernel
theorem dJ0_length_8abf5_9 : decode cJ0_length_8abf5 9 = .ok (.ishr, 1) := by decide +kernel
theorem dJ0_length_8abf5_10 : decode cJ0_length_8abf5 10 = .ok (.ireturn, 1) := by decide +kernel
theorem dJ0_charAt_5068e_0 : decode cJ0_charAt_5068e 0 = .ok (.aload_n 0, 1) := by decide +kernel
theorem dJ0_charAt_5068e_1 : decode cJ0_charAt_5068e 1 = .ok (.invokevirtual 492, 3) := by decide +kernel
theorem dJ0_charAt_5068e_4 : decode cJ0_charAt_5068e 4 = .ok (.ifCond .eq 12, 3) := by decide +kernel
theorem dJ0_charAt_5068e_7 : decode cJ0_charAt_5068e 7 = .ok (.aload_n 0, 1) := by decide +kernel
theorem dJ0_charAt_5068e_8 : decode cJ0_charAt_5068e 8 = .ok (.getfield 9, 3) := by decide +kernel
theorem dJ0_charAt_5068e_11 : decode cJ0_charAt_5068e 11 = .ok (.iload_n 1, 1) := by decide +kernel
theorem dJ0_charAt_5068e_12 : decode cJ0_charAt_5068e 12 = .ok (.invokestatic 495, 3) := by decide +kernel
theorem dJ0_charAt_5068e_15 : decode cJ0_charAt_5068e 15 = .ok (.ireturn, 1) := by decide +kernel
theorem dJ0_charAt_5068e_16 : decode cJ0_charAt_5068e 16 = .ok (.aload_n 0, 1) := by decide +kernel
theorem dJ0_charAt_5068e_17 : decode cJ0_charAt_5068e 17 = .ok (.getfield 9, 3) := by decide +kernel
theorem dJ0_charAt_5068e_20 : decode cJ0_charAt_5068e 20 = .ok (.iload_n 1, 1) := by decide +kernel
theorem dJ0_charAt_5068e_21 : decode cJ0_charAt_5068e 21 = .ok (.invokestatic 498, 3) := by decide +kernel
theorem dJ0_charAt_5068e_24 : decode cJ0_charAt_5068e 24 = .ok (.ireturn, 1) := by decide +kernel
theorem dJ0_coder_7d493_0 : decode cJ0_coder_7d493 0 = .ok (.getstatic 38, 3) := by decide +kernel
theorem dJ0_coder_7d493_3 : decode cJ0_coder_7d493 3 = .ok (.ifCond .eq 10, 3) := by decide +kernel
theorem dJ0_coder_7d493_6 : decode cJ0_coder_7d493 6 = .ok (.aload_n 0, 1) := by decide +kernel
theorem dJ0_coder_7d493_7 : decode cJ0_coder_7d493 7 = .ok (.getfield 15, 3) := by decide +kernel
theorem dJ0_coder_7d493_10 : decode cJ0_coder_7d493 10 = .ok (.goto 4, 3) := by decide +kernel
theorem dJ0_coder_7d493_13 : decode cJ0_coder_7d493 13 = .ok (.iconst 1, 1) := by decide +kernel
theorem dJ0_coder_7d493_14 : decode cJ0_coder_7d493 14 = .ok (.ireturn, 1) := by decide +kernel
theorem dJ0_isLatin1_aae02_0 : decode cJ0_isLatin1_aae02 0 = .ok (.getstatic 38, 3) := by decide +kernel
theorem dJ0_isLatin1_aae02_3 : decode cJ0_isLatin1_aae02 3 = .ok (.ifCond .eq 14, 3) := by decide +kernel
theorem dJ0_isLatin1_aae02_6 : decode cJ0_isLatin1_aae02 6 = .ok (.aload_n 0, 1) := by decide +kernel
theorem dJ0_isLatin1_aae02_7 : decode cJ0_isLatin1_aae02 7 = .ok (.getfield 15, 3) := by decide +kernel
theorem dJ0_isLatin1_aae02_10 : decode cJ0_isLatin1_aae02 10 = .ok (.ifCond .ne 7, 3) := by decide +kernel
theorem dJ0_isLatin1_aae02_13 : decode cJ0_isLatin1_aae02 13 = .ok (.iconst 1, 1) := by decide +kernel
theorem dJ0_isLatin1_aae02_14 : decode cJ0_isLatin1_aae02 14 = .ok (.goto 4, 3) := by decide +kernel
theorem dJ0_isLatin1_aae02_17 : decode cJ0_isLatin1_aae02 17 = .ok (.iconst 0, 1) := by decide +kernel
theorem dJ0_isLatin1_aae02_18 : decode cJ0_isLatin1_aae02 18 = .ok (.ireturn, 1) := by decide +kernel
theorem dJ0_checkIndex_df160_0 : decode cJ0_checkIndex_df160 0 = .ok (.iload_n 0, 1) := by decide +kernel
theorem dJ0_checkIndex_df160_1 : decode cJ0_checkIndex_df160 1 = .ok (.iload_n 1, 1) := by decide +kernel
theorem dJ0_checkIndex_df160_2 : decode cJ0_checkIndex_df160 2 = .ok (.getstatic 1053, 3) := by decide +kernel
theorem dJ0_checkIndex_df160_5 : decode cJ0_checkIndex_df160 5 = .ok (.invokestatic 1059, 3) := by decide +kernel
theorem dJ0_checkIndex_df160_8 : decode cJ0_checkIndex_df160 8 = .ok (.pop, 1) := by decide +kernel
theorem dJ0_checkIndex_df160_9 : decode cJ0_checkIndex_df160 9 = .ok (.return_, 1) := by decide +kernel
theorem dJ1_charAt_3b067_0 : decode cJ1_charAt_3b067 0 = .ok (.iload_n 1, 1) := by decide +kernel
theorem dJ1_charAt_3b067_1 : decode cJ1_charAt_3b067 1 = .ok (.aload_n 0, 1) := by decide +kernel
theorem dJ1_charAt_3b067_2 : decode cJ1_charAt_3b067 2 = .ok (.arraylength, 1) := by decide +kernel
theorem dJ1_charAt_3b067_3 : decode cJ1_charAt_3b067 3 = .ok (.invokestatic 9, 3) := by decide +kernel
theorem dJ1_charAt_3b067_6 : decode cJ1_charAt_3b067 6 = .ok (.aload_n 0, 1) := by decide +kernel
theorem dJ1_charAt_3b067_7 : decode cJ1_charAt_3b067 7 = .ok (.iload_n 1, 1) := by decide +kernel
theorem dJ1_charAt_3b067_8 : decode cJ1_charAt_3b067 8 = .ok (.baload, 1) := by decide +kernel
theorem dJ1_charAt_3b067_9 : decode cJ1_charAt_3b067 9 = .ok (.sipush 255, 3) := by decide +kernel
theorem dJ1_charAt_3b067_12 : decode cJ1_charAt_3b067 12 = .ok (.iand, 1) := by decide +kernel
theorem dJ1_charAt_3b067_13 : decode cJ1_charAt_3b067 13 = .ok (.i2c, 1) := by decide +kernel
theorem dJ1_charAt_3b067_14 : decode cJ1_charAt_3b067 14 = .ok (.ireturn, 1) := by decide +kernel
theorem dJ2_getChar_3b067_0 : decode cJ2_getChar_3b067 0 = .ok (.getstatic 44, 3) := by decide +kernel
theorem dJ2_getChar_3b067_3 : decode cJ2_getChar_3b067 3 = .ok (.ifCond .ne 25, 3) := by decide +kernel
theorem dJ2_getChar_3b067_6 : decode cJ2_getChar_3b067 6 = .ok (.iload_n 1, 1) := by decide +kernel
theorem dJ2_getChar_3b067_7 : decode cJ2_getChar_3b067 7 = .ok (.ifCond .lt 11, 3) := by decide +kernel
theorem dJ2_getChar_3b067_10 : decode cJ2_getChar_3b067 10 = .ok (.iload_n 1, 1) := by decide +kernel
theorem dJ2_getChar_3b067_11 : decode cJ2_getChar_3b067 11 = .ok (.aload_n 0, 1) := by decide +kernel
theorem dJ2_getChar_3b067_12 : decode cJ2_getChar_3b067 12 = .ok (.invokestatic 48, 3) := by decide +kernel
theorem dJ2_getChar_3b067_15 : decode cJ2_getChar_3b067 15 = .ok (.if_icmp .lt 13, 3) := by decide +kernel
theorem dJ2_getChar_3b067_18 : decode cJ2_getChar_3b067 18 = .ok (.new 52, 3) := by decide +kernel
theorem dJ2_getChar_3b067_21 : decode cJ2_getChar_3b067 21 = .ok (.dup, 1) := by decide +kernel
theorem dJ2_getChar_3b067_22 : decode cJ2_getChar_3b067 22 = .ok (.ldc 54, 2) := by decide +kernel
theorem dJ2_getChar_3b067_24 : decode cJ2_getChar_3b067 24 = .ok (.invokespecial 56, 3) := by decide +kernel
theorem dJ2_getChar_3b067_27 : decode cJ2_getChar_3b067 27 = .ok (.athrow, 1) := by decide +kernel
theorem dJ2_getChar_3b067_28 : decode cJ2_getChar_3b067 28 = .ok (.iload_n 1, 1) := by decide +kernel
theorem dJ2_getChar_3b067_29 : decode cJ2_getChar_3b067 29 = .ok (.iconst 1, 1) := by decide +kernel
theorem dJ2_getChar_3b067_30 : decode cJ2_getChar_3b067 30 = .ok (.ishl, 1) := by decide +kernel
theorem dJ2_getChar_3b067_31 : decode cJ2_getChar_3b067 31 = .ok (.istore_n 1, 1) := by decide +kernel
theorem dJ2_getChar_3b067_32 : decode cJ2_getChar_3b067 32 = .ok (.aload_n 0, 1) := by decide +kernel
theorem dJ2_getChar_3b067_33 : decode cJ2_getChar_3b067 33 = .ok (.iload_n 1, 1) := by decide +kernel
theorem dJ2_getChar_3b067_34 : decode cJ2_getChar_3b067 34 = .ok (.iinc 1 1, 3) := by decide +kernel
theorem dJ2_getChar_3b067_37 : decode cJ2_getChar_3b067 37 = .ok (.baload, 1) := by decide +kernel
theorem dJ2_getChar_3b067_38 : decode cJ2_getChar_3b067 38 = .ok (.sipush 255, 3) := by decide +kernel
theorem dJ2_getChar_3b067_41 : decode cJ2_getChar_3b067 41 = .ok (.iand, 1) := by decide +kernel
theorem dJ2_getChar_3b067_42 : decode cJ2_getChar_3b067 42 = .ok (.getstatic 59, 3) := by decide +kernel
theorem dJ2_getChar_3b067_45 : decode cJ2_getChar_3b067 45 = .ok (.ishl, 1) := by decide +kernel
theorem dJ2_getChar_3b067_46 : decode cJ2_getChar_3b067 46 = .ok (.aload_n 0, 1) := by decide +kernel
theorem dJ2_getChar_3b067_47 : decode cJ2_getChar_3b067 47 = .ok (.iload_n 1, 1) := by decide +kernel
theorem dJ2_getChar_3b067_48 : decode cJ2_getChar_3b067 48 = .ok (.baload, 1) := by decide +kernel
theorem dJ2_getChar_3b067_49 : decode cJ2_getChar_3b067 49 = .ok (.sipush 255, 3) := by decide +kernel
theorem dJ2_getChar_3b067_52 : decode cJ2_getChar_3b067 52 = .ok (.iand, 1) := by decide +kernel
theorem dJ2_getChar_3b067_53 : decode cJ2_getChar_3b067 53 = .ok (.getstatic 63, 3) := by decide +kernel
theorem dJ2_getChar_3b067_56 : decode cJ2_getChar_3b067 56 = .ok (.ishl, 1) := by decide +kernel
theorem dJ2_getChar_3b067_57 : decode cJ2_getChar_3b067 57 = .ok (.ior, 1) := by decide +kernel
theorem dJ2_getChar_3b067_58 : decode cJ2_getChar_3b067 58 = .ok (.i2c, 1) := by decide +kernel
theorem dJ2_getChar_3b067_59 : decode cJ2_getChar_3b067 59 = .ok (.ireturn, 1) := by decide +kernel
theorem dJ2_length_9d52b_0 : decode cJ2_length_9d52b 0 = .ok (.aload_n 0, 1) := by decide +kernel
theorem dJ2_length_9d52b_1 : decode cJ2_length_9d52b 1 = .ok (.arraylength, 1) := by decide +kernel
theorem dJ2_length_9d52b_2 : decode cJ2_length_9d52b 2 = .ok (.iconst 1, 1) := by decide +kernel
theorem dJ2_length_9d52b_3 : decode cJ2_length_9d52b 3 = .ok (.ishr, 1) := by decide +kernel
theorem dJ2_length_9d52b_4 : decode cJ2_length_9d52b 4 = .ok (.ireturn, 1) := by decide +kernel
theorem dJ2_charAt_3b067_0 : decode cJ2_charAt_3b067 0 = .ok (.iload_n 1, 1) := by decide +kernel
theorem dJ2_charAt_3b067_1 : decode cJ2_charAt_3b067 1 = .ok (.aload_n 0, 1) := by decide +kernel
theorem dJ2_charAt_3b067_2 : decode cJ2_charAt_3b067 2 = .ok (.invokestatic 67, 3) := by decide +kernel
theorem dJ2_charAt_3b067_5 : decode cJ2_charAt_3b067 5 = .ok (.aload_n 0, 1) := by decide +kernel
theorem dJ2_charAt_3b067_6 : decode cJ2_charAt_3b067 6 = .ok (.iload_n 1, 1) := by decide +kernel
theorem dJ2_charAt_3b067_7 : decode cJ2_charAt_3b067 7 = .ok (.invokestatic 71, 3) := by decide +kernel
theorem dJ2_charAt_3b067_10 : decode cJ2_charAt_3b067 10 = .ok (.ireturn, 1) := by decide +kernel
theorem dJ2_checkIndex_2214a_0 : decode cJ2_checkIndex_2214a 0 = .ok (.iload_n 0, 1) := by decide +kernel
theorem dJ2_checkIndex_2214a_1 : decode cJ2_checkIndex_2214a 1 = .ok (.aload_n 1, 1) := by decide +kernel
theorem dJ2_checkIndex_2214a_2 : decode cJ2_checkIndex_2214a 2 = .ok (.invokestatic 48, 3) := by decide +kernel
theorem dJ2_checkIndex_2214a_5 : decode cJ2_checkIndex_2214a 5 = .ok (.invokestatic 414, 3) := by decide +kernel
theorem dJ2_checkIndex_2214a_8 : decode cJ2_checkIndex_2214a 8 = .ok (.return_, 1) := by decide +kernel
theorem dJ7_fill_53178_0 : decode cJ7_fill_53178 0 = .ok (.iconst 0, 1) := by decide +kernel
theorem dJ7_fill_53178_1 : decode cJ7_fill_53178 1 = .ok (.istore_n 2, 1) := by decide +kernel
theorem dJ7_fill_53178_2 : decode cJ7_fill_53178 2 = .ok (.aload_n 0, 1) := by decide +kernel
theorem dJ7_fill_53178_3 : decode cJ7_fill_53178 3 = .ok (.arraylength, 1) := by decide +kernel
theorem dJ7_fill_53178_4 : decode cJ7_fill_53178 4 = .ok (.istore_n 3, 1) := by decide +kernel
theorem dJ7_fill_53178_5 : decode cJ7_fill_53178 5 = .ok (.iload_n 2, 1) := by decide +kernel
theorem dJ7_fill_53178_6 : decode cJ7_fill_53178 6 = .ok (.iload_n 3, 1) := by decide +kernel
theorem dJ7_fill_53178_7 : decode cJ7_fill_53178 7 = .ok (.if_icmp .ge 13, 3) := by decide +kernel
theorem dJ7_fill_53178_10 : decode cJ7_fill_53178 10 = .ok (.aload_n 0, 1) := by decide +kernel
theorem dJ7_fill_53178_11 : decode cJ7_fill_53178 11 = .ok (.iload_n 2, 1) := by decide +kernel
theorem dJ7_fill_53178_12 : decode cJ7_fill_53178 12 = .ok (.iload_n 1, 1) := by decide +kernel
theorem dJ7_fill_53178_13 : decode cJ7_fill_53178 13 = .ok (.iastore, 1) := by decide +kernel
theorem dJ7_fill_53178_14 : decode cJ7_fill_53178 14 = .ok (.iinc 2 1, 3) := by decide +kernel
theorem dJ7_fill_53178_17 : decode cJ7_fill_53178 17 = .ok (.goto (-12), 3) := by decide +kernel
theorem dJ7_fill_53178_20 : decode cJ7_fill_53178 20 = .ok (.return_, 1) := by decide +kernel
theorem dJ7_copyOf_59c91_0 : decode cJ7_copyOf_59c91 0 = .ok (.iload_n 1, 1) := by decide +kernel
theorem dJ7_copyOf_59c91_1 : decode cJ7_copyOf_59c91 1 = .ok (.aload_n 0, 1) := by decide +kernel
theorem dJ7_copyOf_59c91_2 : decode cJ7_copyOf_59c91 2 = .ok (.arraylength, 1) := by decide +kernel
theorem dJ7_copyOf_59c91_3 : decode cJ7_copyOf_59c91 3 = .ok (.if_icmp .ne 11, 3) := by decide +kernel
theorem dJ7_copyOf_59c91_6 : decode cJ7_copyOf_59c91 6 = .ok (.aload_n 0, 1) := by decide +kernel
theorem dJ7_copyOf_59c91_7 : decode cJ7_copyOf_59c91 7 = .ok (.invokevirtual 316, 3) := by decide +kernel
theorem dJ7_copyOf_59c91_10 : decode cJ7_copyOf_59c91 10 = .ok (.checkcast 317, 3) := by decide +kernel
theorem dJ7_copyOf_59c91_13 : decode cJ7_copyOf_59c91 13 = .ok (.areturn, 1) := by decide +kernel
theorem dJ7_copyOf_59c91_14 : decode cJ7_copyOf_59c91 14 = .ok (.iload_n 1, 1) := by decide +kernel
theorem dJ7_copyOf_59c91_15 : decode cJ7_copyOf_59c91 15 = .ok (.newarray .int, 2) := by decide +kernel
theorem dJ7_copyOf_59c91_17 : decode cJ7_copyOf_59c91 17 = .ok (.astore_n 2, 1) := by decide +kernel
theorem dJ7_copyOf_59c91_18 : decode cJ7_copyOf_59c91 18 = .ok (.aload_n 0, 1) := by decide +kernel
theorem dJ7_copyOf_59c91_19 : decode cJ7_copyOf_59c91 19 = .ok (.iconst 0, 1) := by decide +kernel
theorem dJ7_copyOf_59c91_20 : decode cJ7_copyOf_59c91 20 = .ok (.aload_n 2, 1) := by decide +kernel
theorem dJ7_copyOf_59c91_21 : decode cJ7_copyOf_59c91 21 = .ok (.iconst 0, 1) := by decide +kernel
theorem dJ7_copyOf_59c91_22 : decode cJ7_copyOf_59c91 22 = .ok (.aload_n 0, 1) := by decide +kernel
theorem dJ7_copyOf_59c91_23 : decode cJ7_copyOf_59c91 23 = .ok (.arraylength, 1) := by decide +kernel
theorem dJ7_copyOf_59c91_24 : decode cJ7_copyOf_59c91 24 = .ok (.iload_n 1, 1) := by decide +kernel
theorem dJ7_copyOf_59c91_25 : decode cJ7_copyOf_59c91 25 = .ok (.invokestatic 304, 3) := by decide +kernel
theorem dJ7_copyOf_59c91_28 : decode cJ7_copyOf_59c91 28 = .ok (.invokestatic 150, 3) := by decide +kernel
theorem dJ7_copyOf_59c91_31 : decode cJ7_copyOf_59c91 31 = .ok (.aload_n 2, 1) := by decide +kernel
theorem dJ7_copyOf_59c91_32 : decode cJ7_copyOf_59c91 32 = .ok (.areturn, 1) := by decide +kernel
theorem dJ3_checkIndex_8e157_0 : decode cJ3_checkIndex_8e157 0 = .ok (.iload_n 0, 1) := by decide +kernel
theorem dJ3_checkIndex_8e157_1 : decode cJ3_checkIndex_8e157 1 = .ok (.ifCond .lt 8, 3) := by decide +kernel
theorem dJ3_checkIndex_8e157_4 : decode cJ3_checkIndex_8e157 4 = .ok (.iload_n 0, 1) := by decide +kernel
theorem dJ3_checkIndex_8e157_5 : decode cJ3_checkIndex_8e157 5 = .ok (.iload_n 1, 1) := by decide +kernel
theorem dJ3_checkIndex_8e157_6 : decode cJ3_checkIndex_8e157 6 = .ok (.if_icmp .lt 10, 3) := by decide +kernel
theorem dJ3_checkIndex_8e157_9 : decode cJ3_checkIndex_8e157 9 = .ok (.aload_n 2, 1) := by decide +kernel
theorem dJ3_checkIndex_8e157_10 : decode cJ3_checkIndex_8e157 10 = .ok (.iload_n 0, 1) := by decide +kernel
theorem dJ3_checkIndex_8e157_11 : decode cJ3_checkIndex_8e157 11 = .ok (.iload_n 1, 1) := by decide +kernel
theorem dJ3_checkIndex_8e157_12 : decode cJ3_checkIndex_8e157 12 = .ok (.invokestatic 95, 3) := by decide +kernel
theorem dJ3_checkIndex_8e157_15 : decode cJ3_checkIndex_8e157 15 = .ok (.athrow, 1) := by decide +kernel
theorem dJ3_checkIndex_8e157_16 : decode cJ3_checkIndex_8e157 16 = .ok (.iload_n 0, 1) := by decide +kernel
theorem dJ3_checkIndex_8e157_17 : decode cJ3_checkIndex_8e157 17 = .ok (.ireturn, 1) := by decide +kernel
theorem dL_planned_0 : decode cL_planned 0 = .ok (.aload_n 2, 1) := by decide +kernel
theorem dL_planned_1 : decode cL_planned 1 = .ok (.iconst 0, 1) := by decide +kernel
theorem dL_planned_2 : decode cL_planned 2 = .ok (.aload_n 0, 1) := by decide +kernel
theorem dL_planned_3 : decode cL_planned 3 = .ok (.iload_n 1, 1) := by decide +kernel
theorem dL_planned_4 : decode cL_planned 4 = .ok (.invokevirtual 7, 3) := by decide +kernel
theorem dL_planned_7 : decode cL_planned 7 = .ok (.i2l, 1) := by decide +kernel
theorem dL_planned_8 : decode cL_planned 8 = .ok (.lastore, 1) := by decide +kernel
theorem dL_planned_9 : decode cL_planned 9 = .ok (.goto 6, 3) := by decide +kernel
theorem dL_planned_12 : decode cL_planned 12 = .ok (.astore_n 3, 1) := by decide +kernel
theorem dL_planned_13 : decode cL_planned 13 = .ok (.iconst 1, 1) := by decide +kernel
theorem dL_planned_14 : decode cL_planned 14 = .ok (.ireturn, 1) := by decide +kernel
theorem dL_planned_15 : decode cL_planned 15 = .ok (.iconst 0, 1) := by decide +kernel
theorem dL_planned_16 : decode cL_planned 16 = .ok (.ireturn, 1) := by decide +kernel
theorem dL_law_0 : decode cL_law 0 = .ok (.new 8, 3) := by decide +kernel
theorem dL_law_3 : decode cL_law 3 = .ok (.dup, 1) := by decide +kernel
theorem dL_law_4 : decode cL_law 4 = .ok (.invokespecial 15, 3) := by decide +kernel
theorem dL_law_7 : decode cL_law 7 = .ok (.astore_n 1, 1) := by decide +kernel
theorem dL_law_8 : decode cL_law 8 = .ok (.new 16, 3) := by decide +kernel
theorem dL_law_11 : decode cL_law 11 = .ok (.dup, 1) := by decide +kernel
theorem dL_law_12 : decode cL_law 12 = .ok (.invokespecial 18, 3) := by decide +kernel
theorem dL_law_15 : decode cL_law 15 = .ok (.astore_n 2, 1) := by decide +kernel
theorem dL_law_16 : decode cL_law 16 = .ok (.iconst 1, 1) := by decide +kernel
theorem dL_law_17 : decode cL_law 17 = .ok (.newarray .long, 2) := by decide +kernel
theorem dL_law_19 : decode cL_law 19 = .ok (.astore_n 3, 1) := by decide +kernel
theorem dL_law_20 : decode cL_law 20 = .ok (.iconst 0, 1) := by decide +kernel
theorem dL_law_21 : decode cL_law 21 = .ok (.istore 4, 2) := by decide +kernel
theorem dL_law_23 : decode cL_law 23 = .ok (.iload 4, 2) := by decide +kernel
theorem dL_law_25 : decode cL_law 25 = .ok (.aload_n 0, 1) := by decide +kernel
theorem dL_law_26 : decode cL_law 26 = .ok (.arraylength, 1) := by decide +kernel
theorem dL_law_27 : decode cL_law 27 = .ok (.bipush 6, 2) := by decide +kernel
theorem dL_law_29 : decode cL_law 29 = .ok (.isub, 1) := by decide +kernel
theorem dL_law_30 : decode cL_law 30 = .ok (.if_icmp .gt 1612, 3) := by decide +kernel
theorem dL_law_33 : decode cL_law 33 = .ok (.aload_n 0, 1) := by decide +kernel
theorem dL_law_34 : decode cL_law 34 = .ok (.iload 4, 2) := by decide +kernel
theorem dL_law_36 : decode cL_law 36 = .ok (.iaload, 1) := by decide +kernel
theorem dL_law_37 : decode cL_law 37 = .ok (.bipush 63, 2) := by decide +kernel
theorem dL_law_39 : decode cL_law 39 = .ok (.iand, 1) := by decide +kernel
theorem dL_law_40 : decode cL_law 40 = .ok (.tableswitch 1596 0 36 #[164, 237, 286, 335, 388, 425, 450, 487, 548, 585, 622, 647, 684, 740, 813, 886, 911, 924, 937, 962, 987, 1024, 1049, 1098, 1147, 1196, 1245, 1282, 1319, 1356, 1381, 1418, 1455, 1480, 1533, 1558, 1583], 164) := by decide +kernel
theorem dL_law_204 : decode cL_law 204 = .ok (.aload_n 1, 1) := by decide +kernel
theorem dL_law_205 : decode cL_law 205 = .ok (.aload_n 0, 1) := by decide +kernel
theorem dL_law_206 : decode cL_law 206 = .ok (.iload 4, 2) := by decide +kernel
theorem dL_law_208 : decode cL_law 208 = .ok (.iconst 1, 1) := by decide +kernel
theorem dL_law_209 : decode cL_law 209 = .ok (.iadd, 1) := by decide +kernel
theorem dL_law_210 : decode cL_law 210 = .ok (.iaload, 1) := by decide +kernel
theorem dL_law_211 : decode cL_law 211 = .ok (.aload_n 0, 1) := by decide +kernel
theorem dL_law_212 : decode cL_law 212 = .ok (.iload 4, 2) := by decide +kernel
theorem dL_law_214 : decode cL_law 214 = .ok (.iconst 2, 1) := by decide +kernel
theorem dL_law_215 : decode cL_law 215 = .ok (.iadd, 1) := by decide +kernel
theorem dL_law_216 : decode cL_law 216 = .ok (.iaload, 1) := by decide +kernel
theorem dL_law_217 : decode cL_law 217 = .ok (.aload_n 0, 1) := by decide +kernel
theorem dL_law_218 : decode cL_law 218 = .ok (.iload 4, 2) := by decide +kernel
theorem dL_law_220 : decode cL_law 220 = .ok (.iconst 3, 1) := by decide +kernel
theorem dL_law_221 : decode cL_law 221 = .ok (.iadd, 1) := by decide +kernel
theorem dL_law_222 : decode cL_law 222 = .ok (.iaload, 1) := by decide +kernel
theorem dL_law_223 : decode cL_law 223 = .ok (.aload_n 0, 1) := by decide +kernel
theorem dL_law_224 : decode cL_law 224 = .ok (.iload 4, 2) := by decide +kernel
theorem dL_law_226 : decode cL_law 226 = .ok (.iconst 4, 1) := by decide +kernel
theorem dL_law_227 : decode cL_law 227 = .ok (.iadd, 1) := by decide +kernel
theorem dL_law_228 : decode cL_law 228 = .ok (.iaload, 1) := by decide +kernel
theorem dL_law_229 : decode cL_law 229 = .ok (.aload_n 0, 1) := by decide +kernel
theorem dL_law_230 : decode cL_law 230 = .ok (.iload 4, 2) := by decide +kernel
theorem dL_law_232 : decode cL_law 232 = .ok (.iconst 5, 1) := by decide +kernel
theorem dL_law_233 : decode cL_law 233 = .ok (.iadd, 1) := by decide +kernel
theorem dL_law_234 : decode cL_law 234 = .ok (.iaload, 1) := by decide +kernel
theorem dL_law_235 : decode cL_law 235 = .ok (.invokevirtual 19, 3) := by decide +kernel
theorem dL_law_238 : decode cL_law 238 = .ok (.aload_n 2, 1) := by decide +kernel
theorem dL_law_239 : decode cL_law 239 = .ok (.aload_n 0, 1) := by decide +kernel
theorem dL_law_240 : decode cL_law 240 = .ok (.iload 4, 2) := by decide +kernel
theorem dL_law_242 : decode cL_law 242 = .ok (.iconst 1, 1) := by decide +kernel
theorem dL_law_243 : decode cL_law 243 = .ok (.iadd, 1) := by decide +kernel
theorem dL_law_244 : decode cL_law 244 = .ok (.iaload, 1) := by decide +kernel
theorem dL_law_245 : decode cL_law 245 = .ok (.aload_n 0, 1) := by decide +kernel
theorem dL_law_246 : decode cL_law 246 = .ok (.iload 4, 2) := by decide +kernel
theorem dL_law_248 : decode cL_law 248 = .ok (.iconst 2, 1) := by decide +kernel
theorem dL_law_249 : decode cL_law 249 = .ok (.iadd, 1) := by decide +kernel
theorem dL_law_250 : decode cL_law 250 = .ok (.iaload, 1) := by decide +kernel
theorem dL_law_251 : decode cL_law 251 = .ok (.aload_n 0, 1) := by decide +kernel
theorem dL_law_252 : decode cL_law 252 = .ok (.iload 4, 2) := by decide +kernel
theorem dL_law_254 : decode cL_law 254 = .ok (.iconst 3, 1) := by decide +kernel
theorem dL_law_255 : decode cL_law 255 = .ok (.iadd, 1) := by decide +kernel
theorem dL_law_256 : decode cL_law 256 = .ok (.iaload, 1) := by decide +kernel
theorem dL_law_257 : decode cL_law 257 = .ok (.aload_n 0, 1) := by decide +kernel
theorem dL_law_258 : decode cL_law 258 = .ok (.iload 4, 2) := by decide +kernel
theorem dL_law_260 : decode cL_law 260 = .ok (.iconst 4, 1) := by decide +kernel
theorem dL_law_261 : decode cL_law 261 = .ok (.iadd, 1) := by decide +kernel
theorem dL_law_262 : decode cL_law 262 = .ok (.iaload, 1) := by decide +kernel
theorem dL_law_263 : decode cL_law 263 = .ok (.aload_n 0, 1) := by decide +kernel
theorem dL_law_264 : decode cL_law 264 = .ok (.iload 4, 2) := by decide +kernel
theorem dL_law_266 : decode cL_law 266 = .ok (.iconst 5, 1) := by decide +kernel
theorem dL_law_267 : decode cL_law 267 = .ok (.iadd, 1) := by decide +kernel
theorem dL_law_268 : decode cL_law 268 = .ok (.iaload, 1) := by decide +kernel
theorem dL_law_269 : decode cL_law 269 = .ok (.invokevirtual 23, 3) := by decide +kernel
theorem dL_law_272 : decode cL_law 272 = .ok (.if_icmp .eq 1364, 3) := by decide +kernel
theorem dL_law_275 : decode cL_law 275 = .ok (.iconst 0, 1) := by decide +kernel
theorem dL_law_276 : decode cL_law 276 = .ok (.ireturn, 1) := by decide +kernel
theorem dL_law_277 : decode cL_law 277 = .ok (.aload_n 1, 1) := by decide +kernel
theorem dL_law_278 : decode cL_law 278 = .ok (.aload_n 0, 1) := by decide +kernel
theorem dL_law_279 : decode cL_law 279 = .ok (.iload 4, 2) := by decide +kernel
theorem dL_law_281 : decode cL_law 281 = .ok (.iconst 1, 1) := by decide +kernel
theorem dL_law_282 : decode cL_law 282 = .ok (.iadd, 1) := by decide +kernel
theorem dL_law_283 : decode cL_law 283 = .ok (.iaload, 1) := by decide +kernel
theorem dL_law_284 : decode cL_law 284 = .ok (.aload_n 0, 1) := by decide +kernel
theorem dL_law_285 : decode cL_law 285 = .ok (.iload 4, 2) := by decide +kernel
theorem dL_law_287 : decode cL_law 287 = .ok (.iconst 2, 1) := by decide +kernel
theorem dL_law_288 : decode cL_law 288 = .ok (.iadd, 1) := by decide +kernel
theorem dL_law_289 : decode cL_law 289 = .ok (.iaload, 1) := by decide +kernel
theorem dL_law_290 : decode cL_law 290 = .ok (.aload_n 0, 1) := by decide +kernel
theorem dL_law_291 : decode cL_law 291 = .ok (.iload 4, 2) := by decide +kernel
theorem dL_law_293 : decode cL_law 293 = .ok (.iconst 3, 1) := by decide +kernel
theorem dL_law_294 : decode cL_law 294 = .ok (.iadd, 1) := by decide +kernel
theorem dL_law_295 : decode cL_law 295 = .ok (.iaload, 1) := by decide +kernel
theorem dL_law_296 : decode cL_law 296 = .ok (.invokevirtual 24, 3) := by decide +kernel
theorem dL_law_299 : decode cL_law 299 = .ok (.aload_n 2, 1) := by decide +kernel
theorem dL_law_300 : decode cL_law 300 = .ok (.aload_n 0, 1) := by decide +kernel
theorem dL_law_301 : decode cL_law 301 = .ok (.iload 4, 2) := by decide +kernel
theorem dL_law_303 : decode cL_law 303 = .ok (.iconst 1, 1) := by decide +kernel
theorem dL_law_304 : decode cL_law 304 = .ok (.iadd, 1) := by decide +kernel
theorem dL_law_305 : decode cL_law 305 = .ok (.iaload, 1) := by decide +kernel
theorem dL_law_306 : decode cL_law 306 = .ok (.aload_n 0, 1) := by decide +kernel
theorem dL_law_307 : decode cL_law 307 = .ok (.iload 4, 2) := by decide +kernel
theorem dL_law_309 : decode cL_law 309 = .ok (.iconst 2, 1) := by decide +kernel
theorem dL_law_310 : decode cL_law 310 = .ok (.iadd, 1) := by decide +kernel
theorem dL_law_311 : decode cL_law 311 = .ok (.iaload, 1) := by decide +kernel
theorem dL_law_312 : decode cL_law 312 = .ok (.aload_n 0, 1) := by decide +kernel
theorem dL_law_313 : decode cL_law 313 = .ok (.iload 4, 2) := by decide +kernel
theorem dL_law_315 : decode cL_law 315 = .ok (.iconst 3, 1) := by decide +kernel
theorem dL_law_316 : decode cL_law 316 = .ok (.iadd, 1) := by decide +kernel
theorem dL_law_317 : decode cL_law 317 = .ok (.iaload, 1) := by decide +kernel
theorem dL_law_318 : decode cL_law 318 = .ok (.invokevirtual 28, 3) := by decide +kernel
theorem dL_law_321 : decode cL_law 321 = .ok (.if_icmp .eq 1315, 3) := by decide +kernel
theorem dL_law_324 : decode cL_law 324 = .ok (.iconst 0, 1) := by decide +kernel
theorem dL_law_325 : decode cL_law 325 = .ok (.ireturn, 1) := by decide +kernel
theorem dL_law_326 : decode cL_law 326 = .ok (.aload_n 1, 1) := by decide +kernel
theorem dL_law_327 : decode cL_law 327 = .ok (.aload_n 0, 1) := by decide +kernel
theorem dL_law_328 : decode cL_law 328 = .ok (.iload 4, 2) := by decide +kernel
theorem dL_law_330 : decode cL_law 330 = .ok (.iconst 1, 1) := by decide +kernel
theorem dL_law_331 : decode cL_law 331 = .ok (.iadd, 1) := by decide +kernel
theorem dL_law_332 : decode cL_law 332 = .ok (.iaload, 1) := by decide +kernel
theorem dL_law_333 : decode cL_law 333 = .ok (.aload_n 0, 1) := by decide +kernel
theorem dL_law_334 : decode cL_law 334 = .ok (.iload 4, 2) := by decide +kernel
theorem dL_law_336 : decode cL_law 336 = .ok (.iconst 2, 1) := by decide +kernel
theorem dL_law_337 : decode cL_law 337 = .ok (.iadd, 1) := by decide +kernel
theorem dL_law_338 : decode cL_law 338 = .ok (.iaload, 1) := by decide +kernel
theorem dL_law_339 : decode cL_law 339 = .ok (.aload_n 0, 1) := by decide +kernel
theorem dL_law_340 : decode cL_law 340 = .ok (.iload 4, 2) := by decide +kernel
theorem dL_law_342 : decode cL_law 342 = .ok (.iconst 3, 1) := by decide +kernel
theorem dL_law_343 : decode cL_law 343 = .ok (.iadd, 1) := by decide +kernel
theorem dL_law_344 : decode cL_law 344 = .ok (.iaload, 1) := by decide +kernel
theorem dL_law_345 : decode cL_law 345 = .ok (.invokevirtual 29, 3) := by decide +kernel
theorem dL_law_348 : decode cL_law 348 = .ok (.aload_n 2, 1) := by decide +kernel
theorem dL_law_349 : decode cL_law 349 = .ok (.aload_n 0, 1) := by decide +kernel
theorem dL_law_350 : decode cL_law 350 = .ok (.iload 4, 2) := by decide +kernel
theorem dL_law_352 : decode cL_law 352 = .ok (.iconst 1, 1) := by decide +kernel
theorem dL_law_353 : decode cL_law 353 = .ok (.iadd, 1) := by decide +kernel
theorem dL_law_354 : decode cL_law 354 = .ok (.iaload, 1) := by decide +kernel
theorem dL_law_355 : decode cL_law 355 = .ok (.aload_n 0, 1) := by decide +kernel
theorem dL_law_356 : decode cL_law 356 = .ok (.iload 4, 2) := by decide +kernel
theorem dL_law_358 : decode cL_law 358 = .ok (.iconst 2, 1) := by decide +kernel
theorem dL_law_359 : decode cL_law 359 = .ok (.iadd, 1) := by decide +kernel
theorem dL_law_360 : decode cL_law 360 = .ok (.iaload, 1) := by decide +kernel
theorem dL_law_361 : decode cL_law 361 = .ok (.aload_n 0, 1) := by decide +kernel
theorem dL_law_362 : decode cL_law 362 = .ok (.iload 4, 2) := by decide +kernel
theorem dL_law_364 : decode cL_law 364 = .ok (.iconst 3, 1) := by decide +kernel
theorem dL_law_365 : decode cL_law 365 = .ok (.iadd, 1) := by decide +kernel
theorem dL_law_366 : decode cL_law 366 = .ok (.iaload, 1) := by decide +kernel
theorem dL_law_367 : decode cL_law 367 = .ok (.invokevirtual 33, 3) := by decide +kernel
theorem dL_law_370 : decode cL_law 370 = .ok (.if_icmp .eq 1266, 3) := by decide +kernel
theorem dL_law_373 : decode cL_law 373 = .ok (.iconst 0, 1) := by decide +kernel
theorem dL_law_374 : decode cL_law 374 = .ok (.ireturn, 1) := by decide +kernel
theorem dL_law_375 : decode cL_law 375 = .ok (.aload_n 1, 1) := by decide +kernel
theorem dL_law_376 : decode cL_law 376 = .ok (.aload_n 0, 1) := by decide +kernel
theorem dL_law_377 : decode cL_law 377 = .ok (.iload 4, 2) := by decide +kernel
theorem dL_law_379 : decode cL_law 379 = .ok (.iconst 1, 1) := by decide +kernel
theorem dL_law_380 : decode cL_law 380 = .ok (.iadd, 1) := by decide +kernel
theorem dL_law_381 : decode cL_law 381 = .ok (.iaload, 1) := by decide +kernel
theorem dL_law_382 : decode cL_law 382 = .ok (.aload_n 0, 1) := by decide +kernel
theorem dL_law_383 : decode cL_law 383 = .ok (.iload 4, 2) := by decide +kernel
theorem dL_law_385 : decode cL_law 385 = .ok (.iconst 2, 1) := by decide +kernel
theorem dL_law_386 : decode cL_law 386 = .ok (.iadd, 1) := by decide +kernel
theorem dL_law_387 : decode cL_law 387 = .ok (.iaload, 1) := by decide +kernel
theorem dL_law_388 : decode cL_law 388 = .ok (.ifCond .eq 7, 3) := by decide +kernel
theorem dL_law_391 : decode cL_law 391 = .ok (.iconst 1, 1) := by decide +kernel
theorem dL_law_392 : decode cL_law 392 = .ok (.goto 4, 3) := by decide +kernel
theorem dL_law_395 : decode cL_law 395 = .ok (.iconst 0, 1) := by decide +kernel
theorem dL_law_396 : decode cL_law 396 = .ok (.invokevirtual 34, 3) := by decide +kernel
theorem dL_law_399 : decode cL_law 399 = .ok (.aload_n 2, 1) := by decide +kernel
theorem dL_law_400 : decode cL_law 400 = .ok (.aload_n 0, 1) := by decide +kernel
theorem dL_law_401 : decode cL_law 401 = .ok (.iload 4, 2) := by decide +kernel
theorem dL_law_403 : decode cL_law 403 = .ok (.iconst 1, 1) := by decide +kernel
theorem dL_law_404 : decode cL_law 404 = .ok (.iadd, 1) := by decide +kernel
theorem dL_law_405 : decode cL_law 405 = .ok (.iaload, 1) := by decide +kernel
theorem dL_law_406 : decode cL_law 406 = .ok (.aload_n 0, 1) := by decide +kernel
theorem dL_law_407 : decode cL_law 407 = .ok (.iload 4, 2) := by decide +kernel
theorem dL_law_409 : decode cL_law 409 = .ok (.iconst 2, 1) := by decide +kernel
theorem dL_law_410 : decode cL_law 410 = .ok (.iadd, 1) := by decide +kernel
theorem dL_law_411 : decode cL_law 411 = .ok (.iaload, 1) := by decide +kernel
theorem dL_law_412 : decode cL_law 412 = .ok (.ifCond .eq 7, 3) := by decide +kernel
theorem dL_law_415 : decode cL_law 415 = .ok (.iconst 1, 1) := by decide +kernel
theorem dL_law_416 : decode cL_law 416 = .ok (.goto 4, 3) := by decide +kernel
theorem dL_law_419 : decode cL_law 419 = .ok (.iconst 0, 1) := by decide +kernel
theorem dL_law_420 : decode cL_law 420 = .ok (.invokevirtual 38, 3) := by decide +kernel
theorem dL_law_423 : decode cL_law 423 = .ok (.if_icmp .eq 1213, 3) := by decide +kernel
theorem dL_law_426 : decode cL_law 426 = .ok (.iconst 0, 1) := by decide +kernel
theorem dL_law_427 : decode cL_law 427 = .ok (.ireturn, 1) := by decide +kernel
theorem dL_law_428 : decode cL_law 428 = .ok (.aload_n 1, 1) := by decide +kernel
theorem dL_law_429 : decode cL_law 429 = .ok (.aload_n 0, 1) := by decide +kernel
theorem dL_law_430 : decode cL_law 430 = .ok (.iload 4, 2) := by decide +kernel
theorem dL_law_432 : decode cL_law 432 = .ok (.iconst 1, 1) := by decide +kernel
theorem dL_law_433 : decode cL_law 433 = .ok (.iadd, 1) := by decide +kernel
theorem dL_law_434 : decode cL_law 434 = .ok (.iaload, 1) := by decide +kernel
theorem dL_law_435 : decode cL_law 435 = .ok (.aload_n 0, 1) := by decide +kernel
theorem dL_law_436 : decode cL_law 436 = .ok (.iload 4, 2) := by decide +kernel
theorem dL_law_438 : decode cL_law 438 = .ok (.iconst 2, 1) := by decide +kernel
theorem dL_law_439 : decode cL_law 439 = .ok (.iadd, 1) := by decide +kernel
theorem dL_law_440 : decode cL_law 440 = .ok (.iaload, 1) := by decide +kernel
theorem dL_law_441 : decode cL_law 441 = .ok (.invokevirtual 39, 3) := by decide +kernel
theorem dL_law_444 : decode cL_law 444 = .ok (.aload_n 2, 1) := by decide +kernel
theorem dL_law_445 : decode cL_law 445 = .ok (.aload_n 0, 1) := by decide +kernel
theorem dL_law_446 : decode cL_law 446 = .ok (.iload 4, 2) := by decide +kernel
theorem dL_law_448 : decode cL_law 448 = .ok (.iconst 1, 1) := by decide +kernel
theorem dL_law_449 : decode cL_law 449 = .ok (.iadd, 1) := by decide +kernel
theorem dL_law_450 : decode cL_law 450 = .ok (.iaload, 1) := by decide +kernel
theorem dL_law_451 : decode cL_law 451 = .ok (.aload_n 0, 1) := by decide +kernel
theorem dL_law_452 : decode cL_law 452 = .ok (.iload 4, 2) := by decide +kernel
theorem dL_law_454 : decode cL_law 454 = .ok (.iconst 2, 1) := by decide +kernel
theorem dL_law_455 : decode cL_law 455 = .ok (.iadd, 1) := by decide +kernel
theorem dL_law_456 : decode cL_law 456 = .ok (.iaload, 1) := by decide +kernel
theorem dL_law_457 : decode cL_law 457 = .ok (.invokevirtual 43, 3) := by decide +kernel
theorem dL_law_460 : decode cL_law 460 = .ok (.if_icmp .eq 1176, 3) := by decide +kernel
theorem dL_law_463 : decode cL_law 463 = .ok (.iconst 0, 1) := by decide +kernel
theorem dL_law_464 : decode cL_law 464 = .ok (.ireturn, 1) := by decide +kernel
theorem dL_law_465 : decode cL_law 465 = .ok (.aload_n 1, 1) := by decide +kernel
theorem dL_law_466 : decode cL_law 466 = .ok (.aload_n 0, 1) := by decide +kernel
theorem dL_law_467 : decode cL_law 467 = .ok (.iload 4, 2) := by decide +kernel
theorem dL_law_469 : decode cL_law 469 = .ok (.iconst 1, 1) := by decide +kernel
theorem dL_law_470 : decode cL_law 470 = .ok (.iadd, 1) := by decide +kernel
theorem dL_law_471 : decode cL_law 471 = .ok (.iaload, 1) := by decide +kernel
theorem dL_law_472 : decode cL_law 472 = .ok (.invokevirtual 44, 3) := by decide +kernel
theorem dL_law_475 : decode cL_law 475 = .ok (.aload_n 2, 1) := by decide +kernel
theorem dL_law_476 : decode cL_law 476 = .ok (.aload_n 0, 1) := by decide +kernel
theorem dL_law_477 : decode cL_law 477 = .ok (.iload 4, 2) := by decide +kernel
theorem dL_law_479 : decode cL_law 479 = .ok (.iconst 1, 1) := by decide +kernel
theorem dL_law_480 : decode cL_law 480 = .ok (.iadd, 1) := by decide +kernel
theorem dL_law_481 : decode cL_law 481 = .ok (.iaload, 1) := by decide +kernel
theorem dL_law_482 : decode cL_law 482 = .ok (.invokevirtual 47, 3) := by decide +kernel
theorem dL_law_485 : decode cL_law 485 = .ok (.if_icmp .eq 1151, 3) := by decide +kernel
theorem dL_law_488 : decode cL_law 488 = .ok (.iconst 0, 1) := by decide +kernel
theorem dL_law_489 : decode cL_law 489 = .ok (.ireturn, 1) := by decide +kernel
theorem dL_law_490 : decode cL_law 490 = .ok (.aload_n 1, 1) := by decide +kernel
theorem dL_law_491 : decode cL_law 491 = .ok (.aload_n 0, 1) := by decide +kernel
theorem dL_law_492 : decode cL_law 492 = .ok (.iload 4, 2) := by decide +kernel
theorem dL_law_494 : decode cL_law 494 = .ok (.iconst 1, 1) := by decide +kernel
theorem dL_law_495 : decode cL_law 495 = .ok (.iadd, 1) := by decide +kernel
theorem dL_law_496 : decode cL_law 496 = .ok (.iaload, 1) := by decide +kernel
theorem dL_law_497 : decode cL_law 497 = .ok (.aload_n 0, 1) := by decide +kernel
theorem dL_law_498 : decode cL_law 498 = .ok (.iload 4, 2) := by decide +kernel
theorem dL_law_500 : decode cL_law 500 = .ok (.iconst 2, 1) := by decide +kernel
theorem dL_law_501 : decode cL_law 501 = .ok (.iadd, 1) := by decide +kernel
theorem dL_law_502 : decode cL_law 502 = .ok (.iaload, 1) := by decide +kernel
theorem dL_law_503 : decode cL_law 503 = .ok (.invokevirtual 48, 3) := by decide +kernel
theorem dL_law_506 : decode cL_law 506 = .ok (.aload_n 2, 1) := by decide +kernel
theorem dL_law_507 : decode cL_law 507 = .ok (.aload_n 0, 1) := by decide +kernel
theorem dL_law_508 : decode cL_law 508 = .ok (.iload 4, 2) := by decide +kernel
theorem dL_law_510 : decode cL_law 510 = .ok (.iconst 1, 1) := by decide +kernel
theorem dL_law_511 : decode cL_law 511 = .ok (.iadd, 1) := by decide +kernel
theorem dL_law_512 : decode cL_law 512 = .ok (.iaload, 1) := by decide +kernel
theorem dL_law_513 : decode cL_law 513 = .ok (.aload_n 0, 1) := by decide +kernel
theorem dL_law_514 : decode cL_law 514 = .ok (.iload 4, 2) := by decide +kernel
theorem dL_law_516 : decode cL_law 516 = .ok (.iconst 2, 1) := by decide +kernel
theorem dL_law_517 : decode cL_law 517 = .ok (.iadd, 1) := by decide +kernel
theorem dL_law_518 : decode cL_law 518 = .ok (.iaload, 1) := by decide +kernel
theorem dL_law_519 : decode cL_law 519 = .ok (.invokevirtual 51, 3) := by decide +kernel
theorem dL_law_522 : decode cL_law 522 = .ok (.if_icmp .eq 1114, 3) := by decide +kernel
theorem dL_law_525 : decode cL_law 525 = .ok (.iconst 0, 1) := by decide +kernel
theorem dL_law_526 : decode cL_law 526 = .ok (.ireturn, 1) := by decide +kernel
theorem dL_law_527 : decode cL_law 527 = .ok (.aload_n 1, 1) := by decide +kernel
theorem dL_law_528 : decode cL_law 528 = .ok (.aload_n 0, 1) := by decide +kernel
theorem dL_law_529 : decode cL_law 529 = .ok (.iload 4, 2) := by decide +kernel
theorem dL_law_531 : decode cL_law 531 = .ok (.iconst 1, 1) := by decide +kernel
theorem dL_law_532 : decode cL_law 532 = .ok (.iadd, 1) := by decide +kernel
theorem dL_law_533 : decode cL_law 533 = .ok (.iaload, 1) := by decide +kernel
theorem dL_law_534 : decode cL_law 534 = .ok (.aload_n 0, 1) := by decide +kernel
theorem dL_law_535 : decode cL_law 535 = .ok (.iload 4, 2) := by decide +kernel
theorem dL_law_537 : decode cL_law 537 = .ok (.iconst 2, 1) := by decide +kernel
theorem dL_law_538 : decode cL_law 538 = .ok (.iadd, 1) := by decide +kernel
theorem dL_law_539 : decode cL_law 539 = .ok (.iaload, 1) := by decide +kernel
theorem dL_law_540 : decode cL_law 540 = .ok (.aload_n 0, 1) := by decide +kernel
theorem dL_law_541 : decode cL_law 541 = .ok (.iload 4, 2) := by decide +kernel
theorem dL_law_543 : decode cL_law 543 = .ok (.iconst 3, 1) := by decide +kernel
theorem dL_law_544 : decode cL_law 544 = .ok (.iadd, 1) := by decide +kernel
theorem dL_law_545 : decode cL_law 545 = .ok (.iaload, 1) := by decide +kernel
theorem dL_law_546 : decode cL_law 546 = .ok (.aload_n 0, 1) := by decide +kernel
theorem dL_law_547 : decode cL_law 547 = .ok (.iload 4, 2) := by decide +kernel
theorem dL_law_549 : decode cL_law 549 = .ok (.iconst 4, 1) := by decide +kernel
theorem dL_law_550 : decode cL_law 550 = .ok (.iadd, 1) := by decide +kernel
theorem dL_law_551 : decode cL_law 551 = .ok (.iaload, 1) := by decide +kernel
theorem dL_law_552 : decode cL_law 552 = .ok (.invokevirtual 52, 3) := by decide +kernel
theorem dL_law_555 : decode cL_law 555 = .ok (.aload_n 2, 1) := by decide +kernel
theorem dL_law_556 : decode cL_law 556 = .ok (.aload_n 0, 1) := by decide +kernel
theorem dL_law_557 : decode cL_law 557 = .ok (.iload 4, 2) := by decide +kernel
theorem dL_law_559 : decode cL_law 559 = .ok (.iconst 1, 1) := by decide +kernel
theorem dL_law_560 : decode cL_law 560 = .ok (.iadd, 1) := by decide +kernel
theorem dL_law_561 : decode cL_law 561 = .ok (.iaload, 1) := by decide +kernel
theorem dL_law_562 : decode cL_law 562 = .ok (.aload_n 0, 1) := by decide +kernel
theorem dL_law_563 : decode cL_law 563 = .ok (.iload 4, 2) := by decide +kernel
theorem dL_law_565 : decode cL_law 565 = .ok (.iconst 2, 1) := by decide +kernel
theorem dL_law_566 : decode cL_law 566 = .ok (.iadd, 1) := by decide +kernel
theorem dL_law_567 : decode cL_law 567 = .ok (.iaload, 1) := by decide +kernel
theorem dL_law_568 : decode cL_law 568 = .ok (.aload_n 0, 1) := by decide +kernel
theorem dL_law_569 : decode cL_law 569 = .ok (.iload 4, 2) := by decide +kernel
theorem dL_law_571 : decode cL_law 571 = .ok (.iconst 3, 1) := by decide +kernel
theorem dL_law_572 : decode cL_law 572 = .ok (.iadd, 1) := by decide +kernel
theorem dL_law_573 : decode cL_law 573 = .ok (.iaload, 1) := by decide +kernel
theorem dL_law_574 : decode cL_law 574 = .ok (.aload_n 0, 1) := by decide +kernel
theorem dL_law_575 : decode cL_law 575 = .ok (.iload 4, 2) := by decide +kernel
theorem dL_law_577 : decode cL_law 577 = .ok (.iconst 4, 1) := by decide +kernel
theorem dL_law_578 : decode cL_law 578 = .ok (.iadd, 1) := by decide +kernel
theorem dL_law_579 : decode cL_law 579 = .ok (.iaload, 1) := by decide +kernel
theorem dL_law_580 : decode cL_law 580 = .ok (.invokevirtual 56, 3) := by decide +kernel
theorem dL_law_583 : decode cL_law 583 = .ok (.if_icmp .eq 1053, 3) := by decide +kernel
theorem dL_law_586 : decode cL_law 586 = .ok (.iconst 0, 1) := by decide +kernel
theorem dL_law_587 : decode cL_law 587 = .ok (.ireturn, 1) := by decide +kernel
theorem dL_law_588 : decode cL_law 588 = .ok (.aload_n 1, 1) := by decide +kernel
theorem dL_law_589 : decode cL_law 589 = .ok (.aload_n 0, 1) := by decide +kernel
theorem dL_law_590 : decode cL_law 590 = .ok (.iload 4, 2) := by decide +kernel
theorem dL_law_592 : decode cL_law 592 = .ok (.iconst 1, 1) := by decide +kernel
theorem dL_law_593 : decode cL_law 593 = .ok (.iadd, 1) := by decide +kernel
theorem dL_law_594 : decode cL_law 594 = .ok (.iaload, 1) := by decide +kernel
theorem dL_law_595 : decode cL_law 595 = .ok (.aload_n 0, 1) := by decide +kernel
theorem dL_law_596 : decode cL_law 596 = .ok (.iload 4, 2) := by decide +kernel
theorem dL_law_598 : decode cL_law 598 = .ok (.iconst 2, 1) := by decide +kernel
theorem dL_law_599 : decode cL_law 599 = .ok (.iadd, 1) := by decide +kernel
theorem dL_law_600 : decode cL_law 600 = .ok (.iaload, 1) := by decide +kernel
theorem dL_law_601 : decode cL_law 601 = .ok (.invokevirtual 57, 3) := by decide +kernel
theorem dL_law_604 : decode cL_law 604 = .ok (.aload_n 2, 1) := by decide +kernel
theorem dL_law_605 : decode cL_law 605 = .ok (.aload_n 0, 1) := by decide +kernel
theorem dL_law_606 : decode cL_law 606 = .ok (.iload 4, 2) := by decide +kernel
theorem dL_law_608 : decode cL_law 608 = .ok (.iconst 1, 1) := by decide +kernel
theorem dL_law_609 : decode cL_law 609 = .ok (.iadd, 1) := by decide +kernel
theorem dL_law_610 : decode cL_law 610 = .ok (.iaload, 1) := by decide +kernel
theorem dL_law_611 : decode cL_law 611 = .ok (.aload_n 0, 1) := by decide +kernel
theorem dL_law_612 : decode cL_law 612 = .ok (.iload 4, 2) := by decide +kernel
theorem dL_law_614 : decode cL_law 614 = .ok (.iconst 2, 1) := by decide +kernel
theorem dL_law_615 : decode cL_law 615 = .ok (.iadd, 1) := by decide +kernel
theorem dL_law_616 : decode cL_law 616 = .ok (.iaload, 1) := by decide +kernel
theorem dL_law_617 : decode cL_law 617 = .ok (.invokevirtual 60, 3) := by decide +kernel
theorem dL_law_620 : decode cL_law 620 = .ok (.if_icmp .eq 1016, 3) := by decide +kernel
theorem dL_law_623 : decode cL_law 623 = .ok (.iconst 0, 1) := by decide +kernel
theorem dL_law_624 : decode cL_law 624 = .ok (.ireturn, 1) := by decide +kernel
theorem dL_law_625 : decode cL_law 625 = .ok (.aload_n 1, 1) := by decide +kernel
theorem dL_law_626 : decode cL_law 626 = .ok (.aload_n 0, 1) := by decide +kernel
theorem dL_law_627 : decode cL_law 627 = .ok (.iload 4, 2) := by decide +kernel
theorem dL_law_629 : decode cL_law 629 = .ok (.iconst 1, 1) := by decide +kernel
theorem dL_law_630 : decode cL_law 630 = .ok (.iadd, 1) := by decide +kernel
theorem dL_law_631 : decode cL_law 631 = .ok (.iaload, 1) := by decide +kernel
theorem dL_law_632 : decode cL_law 632 = .ok (.aload_n 0, 1) := by decide +kernel
theorem dL_law_633 : decode cL_law 633 = .ok (.iload 4, 2) := by decide +kernel
theorem dL_law_635 : decode cL_law 635 = .ok (.iconst 2, 1) := by decide +kernel
theorem dL_law_636 : decode cL_law 636 = .ok (.iadd, 1) := by decide +kernel
theorem dL_law_637 : decode cL_law 637 = .ok (.iaload, 1) := by decide +kernel
theorem dL_law_638 : decode cL_law 638 = .ok (.invokevirtual 61, 3) := by decide +kernel
theorem dL_law_641 : decode cL_law 641 = .ok (.aload_n 2, 1) := by decide +kernel
theorem dL_law_642 : decode cL_law 642 = .ok (.aload_n 0, 1) := by decide +kernel
theorem dL_law_643 : decode cL_law 643 = .ok (.iload 4, 2) := by decide +kernel
theorem dL_law_645 : decode cL_law 645 = .ok (.iconst 1, 1) := by decide +kernel
theorem dL_law_646 : decode cL_law 646 = .ok (.iadd, 1) := by decide +kernel
theorem dL_law_647 : decode cL_law 647 = .ok (.iaload, 1) := by decide +kernel
theorem dL_law_648 : decode cL_law 648 = .ok (.aload_n 0, 1) := by decide +kernel
theorem dL_law_649 : decode cL_law 649 = .ok (.iload 4, 2) := by decide +kernel
theorem dL_law_651 : decode cL_law 651 = .ok (.iconst 2, 1) := by decide +kernel
theorem dL_law_652 : decode cL_law 652 = .ok (.iadd, 1) := by decide +kernel
theorem dL_law_653 : decode cL_law 653 = .ok (.iaload, 1) := by decide +kernel
theorem dL_law_654 : decode cL_law 654 = .ok (.invokevirtual 65, 3) := by decide +kernel
theorem dL_law_657 : decode cL_law 657 = .ok (.if_icmp .eq 979, 3) := by decide +kernel
theorem dL_law_660 : decode cL_law 660 = .ok (.iconst 0, 1) := by decide +kernel
theorem dL_law_661 : decode cL_law 661 = .ok (.ireturn, 1) := by decide +kernel
theorem dL_law_662 : decode cL_law 662 = .ok (.aload_n 1, 1) := by decide +kernel
theorem dL_law_663 : decode cL_law 663 = .ok (.aload_n 0, 1) := by decide +kernel
theorem dL_law_664 : decode cL_law 664 = .ok (.iload 4, 2) := by decide +kernel
theorem dL_law_666 : decode cL_law 666 = .ok (.iconst 1, 1) := by decide +kernel
theorem dL_law_667 : decode cL_law 667 = .ok (.iadd, 1) := by decide +kernel
theorem dL_law_668 : decode cL_law 668 = .ok (.iaload, 1) := by decide +kernel
theorem dL_law_669 : decode cL_law 669 = .ok (.invokevirtual 66, 3) := by decide +kernel
theorem dL_law_672 : decode cL_law 672 = .ok (.aload_n 2, 1) := by decide +kernel
theorem dL_law_673 : decode cL_law 673 = .ok (.aload_n 0, 1) := by decide +kernel
theorem dL_law_674 : decode cL_law 674 = .ok (.iload 4, 2) := by decide +kernel
theorem dL_law_676 : decode cL_law 676 = .ok (.iconst 1, 1) := by decide +kernel
theorem dL_law_677 : decode cL_law 677 = .ok (.iadd, 1) := by decide +kernel
theorem dL_law_678 : decode cL_law 678 = .ok (.iaload, 1) := by decide +kernel
theorem dL_law_679 : decode cL_law 679 = .ok (.invokevirtual 70, 3) := by decide +kernel
theorem dL_law_682 : decode cL_law 682 = .ok (.if_icmp .eq 954, 3) := by decide +kernel
theorem dL_law_685 : decode cL_law 685 = .ok (.iconst 0, 1) := by decide +kernel
theorem dL_law_686 : decode cL_law 686 = .ok (.ireturn, 1) := by decide +kernel
theorem dL_law_687 : decode cL_law 687 = .ok (.aload_n 1, 1) := by decide +kernel
theorem dL_law_688 : decode cL_law 688 = .ok (.aload_n 0, 1) := by decide +kernel
theorem dL_law_689 : decode cL_law 689 = .ok (.iload 4, 2) := by decide +kernel
theorem dL_law_691 : decode cL_law 691 = .ok (.iconst 1, 1) := by decide +kernel
theorem dL_law_692 : decode cL_law 692 = .ok (.iadd, 1) := by decide +kernel
theorem dL_law_693 : decode cL_law 693 = .ok (.iaload, 1) := by decide +kernel
theorem dL_law_694 : decode cL_law 694 = .ok (.aload_n 0, 1) := by decide +kernel
theorem dL_law_695 : decode cL_law 695 = .ok (.iload 4, 2) := by decide +kernel
theorem dL_law_697 : decode cL_law 697 = .ok (.iconst 2, 1) := by decide +kernel
theorem dL_law_698 : decode cL_law 698 = .ok (.iadd, 1) := by decide +kernel
theorem dL_law_699 : decode cL_law 699 = .ok (.iaload, 1) := by decide +kernel
theorem dL_law_700 : decode cL_law 700 = .ok (.invokevirtual 71, 3) := by decide +kernel
theorem dL_law_703 : decode cL_law 703 = .ok (.aload_n 2, 1) := by decide +kernel
theorem dL_law_704 : decode cL_law 704 = .ok (.aload_n 0, 1) := by decide +kernel
theorem dL_law_705 : decode cL_law 705 = .ok (.iload 4, 2) := by decide +kernel
theorem dL_law_707 : decode cL_law 707 = .ok (.iconst 1, 1) := by decide +kernel
theorem dL_law_708 : decode cL_law 708 = .ok (.iadd, 1) := by decide +kernel
theorem dL_law_709 : decode cL_law 709 = .ok (.iaload, 1) := by decide +kernel
theorem dL_law_710 : decode cL_law 710 = .ok (.aload_n 0, 1) := by decide +kernel
theorem dL_law_711 : decode cL_law 711 = .ok (.iload 4, 2) := by decide +kernel
theorem dL_law_713 : decode cL_law 713 = .ok (.iconst 2, 1) := by decide +kernel
theorem dL_law_714 : decode cL_law 714 = .ok (.iadd, 1) := by decide +kernel
theorem dL_law_715 : decode cL_law 715 = .ok (.iaload, 1) := by decide +kernel
theorem dL_law_716 : decode cL_law 716 = .ok (.invokevirtual 74, 3) := by decide +kernel
theorem dL_law_719 : decode cL_law 719 = .ok (.if_icmp .eq 917, 3) := by decide +kernel
theorem dL_law_722 : decode cL_law 722 = .ok (.iconst 0, 1) := by decide +kernel
theorem dL_law_723 : decode cL_law 723 = .ok (.ireturn, 1) := by decide +kernel
theorem dL_law_724 : decode cL_law 724 = .ok (.aload_n 1, 1) := by decide +kernel
theorem dL_law_725 : decode cL_law 725 = .ok (.aload_n 0, 1) := by decide +kernel
theorem dL_law_726 : decode cL_law 726 = .ok (.iload 4, 2) := by decide +kernel
theorem dL_law_728 : decode cL_law 728 = .ok (.iconst 1, 1) := by decide +kernel
theorem dL_law_729 : decode cL_law 729 = .ok (.iadd, 1) := by decide +kernel
theorem dL_law_730 : decode cL_law 730 = .ok (.iaload, 1) := by decide +kernel
theorem dL_law_731 : decode cL_law 731 = .ok (.aload_n 3, 1) := by decide +kernel
theorem dL_law_732 : decode cL_law 732 = .ok (.invokestatic 75, 3) := by decide +kernel
theorem dL_law_735 : decode cL_law 735 = .ok (.istore 5, 2) := by decide +kernel
theorem dL_law_737 : decode cL_law 737 = .ok (.aload_n 2, 1) := by decide +kernel
theorem dL_law_738 : decode cL_law 738 = .ok (.aload_n 0, 1) := by decide +kernel
theorem dL_law_739 : decode cL_law 739 = .ok (.iload 4, 2) := by decide +kernel
theorem dL_law_741 : decode cL_law 741 = .ok (.iconst 1, 1) := by decide +kernel
theorem dL_law_742 : decode cL_law 742 = .ok (.iadd, 1) := by decide +kernel
theorem dL_law_743 : decode cL_law 743 = .ok (.iaload, 1) := by decide +kernel
theorem dL_law_744 : decode cL_law 744 = .ok (.invokevirtual 80, 3) := by decide +kernel
theorem dL_law_747 : decode cL_law 747 = .ok (.istore 6, 2) := by decide +kernel
theorem dL_law_749 : decode cL_law 749 = .ok (.aload_n 2, 1) := by decide +kernel
theorem dL_law_750 : decode cL_law 750 = .ok (.invokevirtual 81, 3) := by decide +kernel
theorem dL_law_753 : decode cL_law 753 = .ok (.iload 5, 2) := by decide +kernel
theorem dL_law_755 : decode cL_law 755 = .ok (.if_icmp .eq 5, 3) := by decide +kernel
theorem dL_law_758 : decode cL_law 758 = .ok (.iconst 0, 1) := by decide +kernel
theorem dL_law_759 : decode cL_law 759 = .ok (.ireturn, 1) := by decide +kernel
theorem dL_law_760 : decode cL_law 760 = .ok (.iload 5, 2) := by decide +kernel
theorem dL_law_762 : decode cL_law 762 = .ok (.ifCond .ne 15, 3) := by decide +kernel
theorem dL_law_765 : decode cL_law 765 = .ok (.aload_n 3, 1) := by decide +kernel
theorem dL_law_766 : decode cL_law 766 = .ok (.iconst 0, 1) := by decide +kernel
theorem dL_law_767 : decode cL_law 767 = .ok (.laload, 1) := by decide +kernel
theorem dL_law_768 : decode cL_law 768 = .ok (.iload 6, 2) := by decide +kernel
theorem dL_law_770 : decode cL_law 770 = .ok (.i2l, 1) := by decide +kernel
theorem dL_law_771 : decode cL_law 771 = .ok (.lcmp, 1) := by decide +kernel
theorem dL_law_772 : decode cL_law 772 = .ok (.ifCond .eq 5, 3) := by decide +kernel
theorem dL_law_775 : decode cL_law 775 = .ok (.iconst 0, 1) := by decide +kernel
theorem dL_law_776 : decode cL_law 776 = .ok (.ireturn, 1) := by decide +kernel
theorem dL_law_777 : decode cL_law 777 = .ok (.goto 859, 3) := by decide +kernel
theorem dL_law_780 : decode cL_law 780 = .ok (.aload_n 1, 1) := by decide +kernel
theorem dL_law_781 : decode cL_law 781 = .ok (.aload_n 0, 1) := by decide +kernel
theorem dL_law_782 : decode cL_law 782 = .ok (.iload 4, 2) := by decide +kernel
theorem dL_law_784 : decode cL_law 784 = .ok (.iconst 1, 1) := by decide +kernel
theorem dL_law_785 : decode cL_law 785 = .ok (.iadd, 1) := by decide +kernel
theorem dL_law_786 : decode cL_law 786 = .ok (.iaload, 1) := by decide +kernel
theorem dL_law_787 : decode cL_law 787 = .ok (.aload_n 0, 1) := by decide +kernel
theorem dL_law_788 : decode cL_law 788 = .ok (.iload 4, 2) := by decide +kernel
theorem dL_law_790 : decode cL_law 790 = .ok (.iconst 2, 1) := by decide +kernel
theorem dL_law_791 : decode cL_law 791 = .ok (.iadd, 1) := by decide +kernel
theorem dL_law_792 : decode cL_law 792 = .ok (.iaload, 1) := by decide +kernel
theorem dL_law_793 : decode cL_law 793 = .ok (.aload_n 0, 1) := by decide +kernel
theorem dL_law_794 : decode cL_law 794 = .ok (.iload 4, 2) := by decide +kernel
theorem dL_law_796 : decode cL_law 796 = .ok (.iconst 3, 1) := by decide +kernel
theorem dL_law_797 : decode cL_law 797 = .ok (.iadd, 1) := by decide +kernel
theorem dL_law_798 : decode cL_law 798 = .ok (.iaload, 1) := by decide +kernel
theorem dL_law_799 : decode cL_law 799 = .ok (.aload_n 0, 1) := by decide +kernel
theorem dL_law_800 : decode cL_law 800 = .ok (.iload 4, 2) := by decide +kernel
theorem dL_law_802 : decode cL_law 802 = .ok (.iconst 4, 1) := by decide +kernel
theorem dL_law_803 : decode cL_law 803 = .ok (.iadd, 1) := by decide +kernel
theorem dL_law_804 : decode cL_law 804 = .ok (.iaload, 1) := by decide +kernel
theorem dL_law_805 : decode cL_law 805 = .ok (.aload_n 0, 1) := by decide +kernel
theorem dL_law_806 : decode cL_law 806 = .ok (.iload 4, 2) := by decide +kernel
theorem dL_law_808 : decode cL_law 808 = .ok (.iconst 5, 1) := by decide +kernel
theorem dL_law_809 : decode cL_law 809 = .ok (.iadd, 1) := by decide +kernel
theorem dL_law_810 : decode cL_law 810 = .ok (.iaload, 1) := by decide +kernel
theorem dL_law_811 : decode cL_law 811 = .ok (.invokevirtual 85, 3) := by decide +kernel
theorem dL_law_814 : decode cL_law 814 = .ok (.aload_n 2, 1) := by decide +kernel
theorem dL_law_815 : decode cL_law 815 = .ok (.aload_n 0, 1) := by decide +kernel
theorem dL_law_816 : decode cL_law 816 = .ok (.iload 4, 2) := by decide +kernel
theorem dL_law_818 : decode cL_law 818 = .ok (.iconst 1, 1) := by decide +kernel
theorem dL_law_819 : decode cL_law 819 = .ok (.iadd, 1) := by decide +kernel
theorem dL_law_820 : decode cL_law 820 = .ok (.iaload, 1) := by decide +kernel
theorem dL_law_821 : decode cL_law 821 = .ok (.aload_n 0, 1) := by decide +kernel
theorem dL_law_822 : decode cL_law 822 = .ok (.iload 4, 2) := by decide +kernel
theorem dL_law_824 : decode cL_law 824 = .ok (.iconst 2, 1) := by decide +kernel
theorem dL_law_825 : decode cL_law 825 = .ok (.iadd, 1) := by decide +kernel
theorem dL_law_826 : decode cL_law 826 = .ok (.iaload, 1) := by decide +kernel
theorem dL_law_827 : decode cL_law 827 = .ok (.aload_n 0, 1) := by decide +kernel
theorem dL_law_828 : decode cL_law 828 = .ok (.iload 4, 2) := by decide +kernel
theorem dL_law_830 : decode cL_law 830 = .ok (.iconst 3, 1) := by decide +kernel
theorem dL_law_831 : decode cL_law 831 = .ok (.iadd, 1) := by decide +kernel
theorem dL_law_832 : decode cL_law 832 = .ok (.iaload, 1) := by decide +kernel
theorem dL_law_833 : decode cL_law 833 = .ok (.aload_n 0, 1) := by decide +kernel
theorem dL_law_834 : decode cL_law 834 = .ok (.iload 4, 2) := by decide +kernel
theorem dL_law_836 : decode cL_law 836 = .ok (.iconst 4, 1) := by decide +kernel
theorem dL_law_837 : decode cL_law 837 = .ok (.iadd, 1) := by decide +kernel
theorem dL_law_838 : decode cL_law 838 = .ok (.iaload, 1) := by decide +kernel
theorem dL_law_839 : decode cL_law 839 = .ok (.aload_n 0, 1) := by decide +kernel
theorem dL_law_840 : decode cL_law 840 = .ok (.iload 4, 2) := by decide +kernel
theorem dL_law_842 : decode cL_law 842 = .ok (.iconst 5, 1) := by decide +kernel
theorem dL_law_843 : decode cL_law 843 = .ok (.iadd, 1) := by decide +kernel
theorem dL_law_844 : decode cL_law 844 = .ok (.iaload, 1) := by decide +kernel
theorem dL_law_845 : decode cL_law 845 = .ok (.invokevirtual 89, 3) := by decide +kernel
theorem dL_law_848 : decode cL_law 848 = .ok (.if_icmp .eq 788, 3) := by decide +kernel
theorem dL_law_851 : decode cL_law 851 = .ok (.iconst 0, 1) := by decide +kernel
theorem dL_law_852 : decode cL_law 852 = .ok (.ireturn, 1) := by decide +kernel
theorem dL_law_853 : decode cL_law 853 = .ok (.aload_n 1, 1) := by decide +kernel
theorem dL_law_854 : decode cL_law 854 = .ok (.aload_n 0, 1) := by decide +kernel
theorem dL_law_855 : decode cL_law 855 = .ok (.iload 4, 2) := by decide +kernel
theorem dL_law_857 : decode cL_law 857 = .ok (.iconst 1, 1) := by decide +kernel
theorem dL_law_858 : decode cL_law 858 = .ok (.iadd, 1) := by decide +kernel
theorem dL_law_859 : decode cL_law 859 = .ok (.iaload, 1) := by decide +kernel
theorem dL_law_860 : decode cL_law 860 = .ok (.aload_n 0, 1) := by decide +kernel
theorem dL_law_861 : decode cL_law 861 = .ok (.iload 4, 2) := by decide +kernel
theorem dL_law_863 : decode cL_law 863 = .ok (.iconst 2, 1) := by decide +kernel
theorem dL_law_864 : decode cL_law 864 = .ok (.iadd, 1) := by decide +kernel
theorem dL_law_865 : decode cL_law 865 = .ok (.iaload, 1) := by decide +kernel
theorem dL_law_866 : decode cL_law 866 = .ok (.aload_n 0, 1) := by decide +kernel
theorem dL_law_867 : decode cL_law 867 = .ok (.iload 4, 2) := by decide +kernel
theorem dL_law_869 : decode cL_law 869 = .ok (.iconst 3, 1) := by decide +kernel
theorem dL_law_870 : decode cL_law 870 = .ok (.iadd, 1) := by decide +kernel
theorem dL_law_871 : decode cL_law 871 = .ok (.iaload, 1) := by decide +kernel
theorem dL_law_872 : decode cL_law 872 = .ok (.aload_n 0, 1) := by decide +kernel
theorem dL_law_873 : decode cL_law 873 = .ok (.iload 4, 2) := by decide +kernel
theorem dL_law_875 : decode cL_law 875 = .ok (.iconst 4, 1) := by decide +kernel
theorem dL_law_876 : decode cL_law 876 = .ok (.iadd, 1) := by decide +kernel
theorem dL_law_877 : decode cL_law 877 = .ok (.iaload, 1) := by decide +kernel
theorem dL_law_878 : decode cL_law 878 = .ok (.aload_n 0, 1) := by decide +kernel
theorem dL_law_879 : decode cL_law 879 = .ok (.iload 4, 2) := by decide +kernel
theorem dL_law_881 : decode cL_law 881 = .ok (.iconst 5, 1) := by decide +kernel
theorem dL_law_882 : decode cL_law 882 = .ok (.iadd, 1) := by decide +kernel
theorem dL_law_883 : decode cL_law 883 = .ok (.iaload, 1) := by decide +kernel
theorem dL_law_884 : decode cL_law 884 = .ok (.invokevirtual 90, 3) := by decide +kernel
theorem dL_law_887 : decode cL_law 887 = .ok (.aload_n 2, 1) := by decide +kernel
theorem dL_law_888 : decode cL_law 888 = .ok (.aload_n 0, 1) := by decide +kernel
theorem dL_law_889 : decode cL_law 889 = .ok (.iload 4, 2) := by decide +kernel
theorem dL_law_891 : decode cL_law 891 = .ok (.iconst 1, 1) := by decide +kernel
theorem dL_law_892 : decode cL_law 892 = .ok (.iadd, 1) := by decide +kernel
theorem dL_law_893 : decode cL_law 893 = .ok (.iaload, 1) := by decide +kernel
theorem dL_law_894 : decode cL_law 894 = .ok (.aload_n 0, 1) := by decide +kernel
theorem dL_law_895 : decode cL_law 895 = .ok (.iload 4, 2) := by decide +kernel
theorem dL_law_897 : decode cL_law 897 = .ok (.iconst 2, 1) := by decide +kernel
theorem dL_law_898 : decode cL_law 898 = .ok (.iadd, 1) := by decide +kernel
theorem dL_law_899 : decode cL_law 899 = .ok (.iaload, 1) := by decide +kernel
theorem dL_law_900 : decode cL_law 900 = .ok (.aload_n 0, 1) := by decide +kernel
theorem dL_law_901 : decode cL_law 901 = .ok (.iload 4, 2) := by decide +kernel
theorem dL_law_903 : decode cL_law 903 = .ok (.iconst 3, 1) := by decide +kernel
theorem dL_law_904 : decode cL_law 904 = .ok (.iadd, 1) := by decide +kernel
theorem dL_law_905 : decode cL_law 905 = .ok (.iaload, 1) := by decide +kernel
theorem dL_law_906 : decode cL_law 906 = .ok (.aload_n 0, 1) := by decide +kernel
theorem dL_law_907 : decode cL_law 907 = .ok (.iload 4, 2) := by decide +kernel
theorem dL_law_909 : decode cL_law 909 = .ok (.iconst 4, 1) := by decide +kernel
theorem dL_law_910 : decode cL_law 910 = .ok (.iadd, 1) := by decide +kernel
theorem dL_law_911 : decode cL_law 911 = .ok (.iaload, 1) := by decide +kernel
theorem dL_law_912 : decode cL_law 912 = .ok (.aload_n 0, 1) := by decide +kernel
theorem dL_law_913 : decode cL_law 913 = .ok (.iload 4, 2) := by decide +kernel
theorem dL_law_915 : decode cL_law 915 = .ok (.iconst 5, 1) := by decide +kernel
theorem dL_law_916 : decode cL_law 916 = .ok (.iadd, 1) := by decide +kernel
theorem dL_law_917 : decode cL_law 917 = .ok (.iaload, 1) := by decide +kernel
theorem dL_law_918 : decode cL_law 918 = .ok (.invokevirtual 93, 3) := by decide +kernel
theorem dL_law_921 : decode cL_law 921 = .ok (.if_icmp .eq 715, 3) := by decide +kernel
theorem dL_law_924 : decode cL_law 924 = .ok (.iconst 0, 1) := by decide +kernel
theorem dL_law_925 : decode cL_law 925 = .ok (.ireturn, 1) := by decide +kernel
theorem dL_law_926 : decode cL_law 926 = .ok (.aload_n 1, 1) := by decide +kernel
theorem dL_law_927 : decode cL_law 927 = .ok (.aload_n 0, 1) := by decide +kernel
theorem dL_law_928 : decode cL_law 928 = .ok (.iload 4, 2) := by decide +kernel
theorem dL_law_930 : decode cL_law 930 = .ok (.iconst 1, 1) := by decide +kernel
theorem dL_law_931 : decode cL_law 931 = .ok (.iadd, 1) := by decide +kernel
theorem dL_law_932 : decode cL_law 932 = .ok (.iaload, 1) := by decide +kernel
theorem dL_law_933 : decode cL_law 933 = .ok (.invokevirtual 94, 3) := by decide +kernel
theorem dL_law_936 : decode cL_law 936 = .ok (.aload_n 2, 1) := by decide +kernel
theorem dL_law_937 : decode cL_law 937 = .ok (.aload_n 0, 1) := by decide +kernel
theorem dL_law_938 : decode cL_law 938 = .ok (.iload 4, 2) := by decide +kernel
theorem dL_law_940 : decode cL_law 940 = .ok (.iconst 1, 1) := by decide +kernel
theorem dL_law_941 : decode cL_law 941 = .ok (.iadd, 1) := by decide +kernel
theorem dL_law_942 : decode cL_law 942 = .ok (.iaload, 1) := by decide +kernel
theorem dL_law_943 : decode cL_law 943 = .ok (.invokevirtual 97, 3) := by decide +kernel
theorem dL_law_946 : decode cL_law 946 = .ok (.if_icmp .eq 690, 3) := by decide +kernel
theorem dL_law_949 : decode cL_law 949 = .ok (.iconst 0, 1) := by decide +kernel
theorem dL_law_950 : decode cL_law 950 = .ok (.ireturn, 1) := by decide +kernel
theorem dL_law_951 : decode cL_law 951 = .ok (.aload_n 1, 1) := by decide +kernel
theorem dL_law_952 : decode cL_law 952 = .ok (.invokevirtual 98, 3) := by decide +kernel
theorem dL_law_955 : decode cL_law 955 = .ok (.aload_n 2, 1) := by decide +kernel
theorem dL_law_956 : decode cL_law 956 = .ok (.invokevirtual 101, 3) := by decide +kernel
theorem dL_law_959 : decode cL_law 959 = .ok (.if_icmp .eq 677, 3) := by decide +kernel
theorem dL_law_962 : decode cL_law 962 = .ok (.iconst 0, 1) := by decide +kernel
theorem dL_law_963 : decode cL_law 963 = .ok (.ireturn, 1) := by decide +kernel
theorem dL_law_964 : decode cL_law 964 = .ok (.aload_n 1, 1) := by decide +kernel
theorem dL_law_965 : decode cL_law 965 = .ok (.invokevirtual 102, 3) := by decide +kernel
theorem dL_law_968 : decode cL_law 968 = .ok (.aload_n 2, 1) := by decide +kernel
theorem dL_law_969 : decode cL_law 969 = .ok (.invokevirtual 105, 3) := by decide +kernel
theorem dL_law_972 : decode cL_law 972 = .ok (.if_icmp .eq 664, 3) := by decide +kernel
theorem dL_law_975 : decode cL_law 975 = .ok (.iconst 0, 1) := by decide +kernel
theorem dL_law_976 : decode cL_law 976 = .ok (.ireturn, 1) := by decide +kernel
theorem dL_law_977 : decode cL_law 977 = .ok (.aload_n 1, 1) := by decide +kernel
theorem dL_law_978 : decode cL_law 978 = .ok (.aload_n 0, 1) := by decide +kernel
theorem dL_law_979 : decode cL_law 979 = .ok (.iload 4, 2) := by decide +kernel
theorem dL_law_981 : decode cL_law 981 = .ok (.iconst 1, 1) := by decide +kernel
theorem dL_law_982 : decode cL_law 982 = .ok (.iadd, 1) := by decide +kernel
theorem dL_law_983 : decode cL_law 983 = .ok (.iaload, 1) := by decide +kernel
theorem dL_law_984 : decode cL_law 984 = .ok (.invokevirtual 106, 3) := by decide +kernel
theorem dL_law_987 : decode cL_law 987 = .ok (.aload_n 2, 1) := by decide +kernel
theorem dL_law_988 : decode cL_law 988 = .ok (.aload_n 0, 1) := by decide +kernel
theorem dL_law_989 : decode cL_law 989 = .ok (.iload 4, 2) := by decide +kernel
theorem dL_law_991 : decode cL_law 991 = .ok (.iconst 1, 1) := by decide +kernel
theorem dL_law_992 : decode cL_law 992 = .ok (.iadd, 1) := by decide +kernel
theorem dL_law_993 : decode cL_law 993 = .ok (.iaload, 1) := by decide +kernel
theorem dL_law_994 : decode cL_law 994 = .ok (.invokevirtual 109, 3) := by decide +kernel
theorem dL_law_997 : decode cL_law 997 = .ok (.if_icmp .eq 639, 3) := by decide +kernel
theorem dL_law_1000 : decode cL_law 1000 = .ok (.iconst 0, 1) := by decide +kernel
theorem dL_law_1001 : decode cL_law 1001 = .ok (.ireturn, 1) := by decide +kernel
theorem dL_law_1002 : decode cL_law 1002 = .ok (.aload_n 1, 1) := by decide +kernel
theorem dL_law_1003 : decode cL_law 1003 = .ok (.aload_n 0, 1) := by decide +kernel
theorem dL_law_1004 : decode cL_law 1004 = .ok (.iload 4, 2) := by decide +kernel
theorem dL_law_1006 : decode cL_law 1006 = .ok (.iconst 1, 1) := by decide +kernel
theorem dL_law_1007 : decode cL_law 1007 = .ok (.iadd, 1) := by decide +kernel
theorem dL_law_1008 : decode cL_law 1008 = .ok (.iaload, 1) := by decide +kernel
theorem dL_law_1009 : decode cL_law 1009 = .ok (.invokevirtual 110, 3) := by decide +kernel
theorem dL_law_1012 : decode cL_law 1012 = .ok (.aload_n 2, 1) := by decide +kernel
theorem dL_law_1013 : decode cL_law 1013 = .ok (.aload_n 0, 1) := by decide +kernel
theorem dL_law_1014 : decode cL_law 1014 = .ok (.iload 4, 2) := by decide +kernel
theorem dL_law_1016 : decode cL_law 1016 = .ok (.iconst 1, 1) := by decide +kernel
theorem dL_law_1017 : decode cL_law 1017 = .ok (.iadd, 1) := by decide +kernel
theorem dL_law_1018 : decode cL_law 1018 = .ok (.iaload, 1) := by decide +kernel
theorem dL_law_1019 : decode cL_law 1019 = .ok (.invokevirtual 113, 3) := by decide +kernel
theorem dL_law_1022 : decode cL_law 1022 = .ok (.if_icmp .eq 614, 3) := by decide +kernel
theorem dL_law_1025 : decode cL_law 1025 = .ok (.iconst 0, 1) := by decide +kernel
theorem dL_law_1026 : decode cL_law 1026 = .ok (.ireturn, 1) := by decide +kernel
theorem dL_law_1027 : decode cL_law 1027 = .ok (.aload_n 1, 1) := by decide +kernel
theorem dL_law_1028 : decode cL_law 1028 = .ok (.aload_n 0, 1) := by decide +kernel
theorem dL_law_1029 : decode cL_law 1029 = .ok (.iload 4, 2) := by decide +kernel
theorem dL_law_1031 : decode cL_law 1031 = .ok (.iconst 1, 1) := by decide +kernel
theorem dL_law_1032 : decode cL_law 1032 = .ok (.iadd, 1) := by decide +kernel
theorem dL_law_1033 : decode cL_law 1033 = .ok (.iaload, 1) := by decide +kernel
theorem dL_law_1034 : decode cL_law 1034 = .ok (.aload_n 0, 1) := by decide +kernel
theorem dL_law_1035 : decode cL_law 1035 = .ok (.iload 4, 2) := by decide +kernel
theorem dL_law_1037 : decode cL_law 1037 = .ok (.iconst 2, 1) := by decide +kernel
theorem dL_law_1038 : decode cL_law 1038 = .ok (.iadd, 1) := by decide +kernel
theorem dL_law_1039 : decode cL_law 1039 = .ok (.iaload, 1) := by decide +kernel
theorem dL_law_1040 : decode cL_law 1040 = .ok (.invokevirtual 114, 3) := by decide +kernel
theorem dL_law_1043 : decode cL_law 1043 = .ok (.aload_n 2, 1) := by decide +kernel
theorem dL_law_1044 : decode cL_law 1044 = .ok (.aload_n 0, 1) := by decide +kernel
theorem dL_law_1045 : decode cL_law 1045 = .ok (.iload 4, 2) := by decide +kernel
theorem dL_law_1047 : decode cL_law 1047 = .ok (.iconst 1, 1) := by decide +kernel
theorem dL_law_1048 : decode cL_law 1048 = .ok (.iadd, 1) := by decide +kernel
theorem dL_law_1049 : decode cL_law 1049 = .ok (.iaload, 1) := by decide +kernel
theorem dL_law_1050 : decode cL_law 1050 = .ok (.aload_n 0, 1) := by decide +kernel
theorem dL_law_1051 : decode cL_law 1051 = .ok (.iload 4, 2) := by decide +kernel
theorem dL_law_1053 : decode cL_law 1053 = .ok (.iconst 2, 1) := by decide +kernel
theorem dL_law_1054 : decode cL_law 1054 = .ok (.iadd, 1) := by decide +kernel
theorem dL_law_1055 : decode cL_law 1055 = .ok (.iaload, 1) := by decide +kernel
theorem dL_law_1056 : decode cL_law 1056 = .ok (.invokevirtual 117, 3) := by decide +kernel
theorem dL_law_1059 : decode cL_law 1059 = .ok (.if_icmp .eq 577, 3) := by decide +kernel
theorem dL_law_1062 : decode cL_law 1062 = .ok (.iconst 0, 1) := by decide +kernel
theorem dL_law_1063 : decode cL_law 1063 = .ok (.ireturn, 1) := by decide +kernel
theorem dL_law_1064 : decode cL_law 1064 = .ok (.aload_n 1, 1) := by decide +kernel
theorem dL_law_1065 : decode cL_law 1065 = .ok (.aload_n 0, 1) := by decide +kernel
theorem dL_law_1066 : decode cL_law 1066 = .ok (.iload 4, 2) := by decide +kernel
theorem dL_law_1068 : decode cL_law 1068 = .ok (.iconst 1, 1) := by decide +kernel
theorem dL_law_1069 : decode cL_law 1069 = .ok (.iadd, 1) := by decide +kernel
theorem dL_law_1070 : decode cL_law 1070 = .ok (.iaload, 1) := by decide +kernel
theorem dL_law_1071 : decode cL_law 1071 = .ok (.invokevirtual 118, 3) := by decide +kernel
theorem dL_law_1074 : decode cL_law 1074 = .ok (.aload_n 2, 1) := by decide +kernel
theorem dL_law_1075 : decode cL_law 1075 = .ok (.aload_n 0, 1) := by decide +kernel
theorem dL_law_1076 : decode cL_law 1076 = .ok (.iload 4, 2) := by decide +kernel
theorem dL_law_1078 : decode cL_law 1078 = .ok (.iconst 1, 1) := by decide +kernel
theorem dL_law_1079 : decode cL_law 1079 = .ok (.iadd, 1) := by decide +kernel
theorem dL_law_1080 : decode cL_law 1080 = .ok (.iaload, 1) := by decide +kernel
theorem dL_law_1081 : decode cL_law 1081 = .ok (.invokevirtual 121, 3) := by decide +kernel
theorem dL_law_1084 : decode cL_law 1084 = .ok (.if_icmp .eq 552, 3) := by decide +kernel
theorem dL_law_1087 : decode cL_law 1087 = .ok (.iconst 0, 1) := by decide +kernel
theorem dL_law_1088 : decode cL_law 1088 = .ok (.ireturn, 1) := by decide +kernel
theorem dL_law_1089 : decode cL_law 1089 = .ok (.aload_n 1, 1) := by decide +kernel
theorem dL_law_1090 : decode cL_law 1090 = .ok (.aload_n 0, 1) := by decide +kernel
theorem dL_law_1091 : decode cL_law 1091 = .ok (.iload 4, 2) := by decide +kernel
theorem dL_law_1093 : decode cL_law 1093 = .ok (.iconst 1, 1) := by decide +kernel
theorem dL_law_1094 : decode cL_law 1094 = .ok (.iadd, 1) := by decide +kernel
theorem dL_law_1095 : decode cL_law 1095 = .ok (.iaload, 1) := by decide +kernel
theorem dL_law_1096 : decode cL_law 1096 = .ok (.aload_n 0, 1) := by decide +kernel
theorem dL_law_1097 : decode cL_law 1097 = .ok (.iload 4, 2) := by decide +kernel
theorem dL_law_1099 : decode cL_law 1099 = .ok (.iconst 2, 1) := by decide +kernel
theorem dL_law_1100 : decode cL_law 1100 = .ok (.iadd, 1) := by decide +kernel
theorem dL_law_1101 : decode cL_law 1101 = .ok (.iaload, 1) := by decide +kernel
theorem dL_law_1102 : decode cL_law 1102 = .ok (.aload_n 0, 1) := by decide +kernel
theorem dL_law_1103 : decode cL_law 1103 = .ok (.iload 4, 2) := by decide +kernel
theorem dL_law_1105 : decode cL_law 1105 = .ok (.iconst 3, 1) := by decide +kernel
theorem dL_law_1106 : decode cL_law 1106 = .ok (.iadd, 1) := by decide +kernel
theorem dL_law_1107 : decode cL_law 1107 = .ok (.iaload, 1) := by decide +kernel
theorem dL_law_1108 : decode cL_law 1108 = .ok (.invokevirtual 122, 3) := by decide +kernel
theorem dL_law_1111 : decode cL_law 1111 = .ok (.aload_n 2, 1) := by decide +kernel
theorem dL_law_1112 : decode cL_law 1112 = .ok (.aload_n 0, 1) := by decide +kernel
theorem dL_law_1113 : decode cL_law 1113 = .ok (.iload 4, 2) := by decide +kernel
theorem dL_law_1115 : decode cL_law 1115 = .ok (.iconst 1, 1) := by decide +kernel
theorem dL_law_1116 : decode cL_law 1116 = .ok (.iadd, 1) := by decide +kernel
theorem dL_law_1117 : decode cL_law 1117 = .ok (.iaload, 1) := by decide +kernel
theorem dL_law_1118 : decode cL_law 1118 = .ok (.aload_n 0, 1) := by decide +kernel
theorem dL_law_1119 : decode cL_law 1119 = .ok (.iload 4, 2) := by decide +kernel
theorem dL_law_1121 : decode cL_law 1121 = .ok (.iconst 2, 1) := by decide +kernel
theorem dL_law_1122 : decode cL_law 1122 = .ok (.iadd, 1) := by decide +kernel
theorem dL_law_1123 : decode cL_law 1123 = .ok (.iaload, 1) := by decide +kernel
theorem dL_law_1124 : decode cL_law 1124 = .ok (.aload_n 0, 1) := by decide +kernel
theorem dL_law_1125 : decode cL_law 1125 = .ok (.iload 4, 2) := by decide +kernel
theorem dL_law_1127 : decode cL_law 1127 = .ok (.iconst 3, 1) := by decide +kernel
theorem dL_law_1128 : decode cL_law 1128 = .ok (.iadd, 1) := by decide +kernel
theorem dL_law_1129 : decode cL_law 1129 = .ok (.iaload, 1) := by decide +kernel
theorem dL_law_1130 : decode cL_law 1130 = .ok (.invokevirtual 125, 3) := by decide +kernel
theorem dL_law_1133 : decode cL_law 1133 = .ok (.if_icmp .eq 503, 3) := by decide +kernel
theorem dL_law_1136 : decode cL_law 1136 = .ok (.iconst 0, 1) := by decide +kernel
theorem dL_law_1137 : decode cL_law 1137 = .ok (.ireturn, 1) := by decide +kernel
theorem dL_law_1138 : decode cL_law 1138 = .ok (.aload_n 1, 1) := by decide +kernel
theorem dL_law_1139 : decode cL_law 1139 = .ok (.aload_n 0, 1) := by decide +kernel
theorem dL_law_1140 : decode cL_law 1140 = .ok (.iload 4, 2) := by decide +kernel
theorem dL_law_1142 : decode cL_law 1142 = .ok (.iconst 1, 1) := by decide +kernel
theorem dL_law_1143 : decode cL_law 1143 = .ok (.iadd, 1) := by decide +kernel
theorem dL_law_1144 : decode cL_law 1144 = .ok (.iaload, 1) := by decide +kernel
theorem dL_law_1145 : decode cL_law 1145 = .ok (.aload_n 0, 1) := by decide +kernel
theorem dL_law_1146 : decode cL_law 1146 = .ok (.iload 4, 2) := by decide +kernel
theorem dL_law_1148 : decode cL_law 1148 = .ok (.iconst 2, 1) := by decide +kernel
theorem dL_law_1149 : decode cL_law 1149 = .ok (.iadd, 1) := by decide +kernel
theorem dL_law_1150 : decode cL_law 1150 = .ok (.iaload, 1) := by decide +kernel
theorem dL_law_1151 : decode cL_law 1151 = .ok (.aload_n 0, 1) := by decide +kernel
theorem dL_law_1152 : decode cL_law 1152 = .ok (.iload 4, 2) := by decide +kernel
theorem dL_law_1154 : decode cL_law 1154 = .ok (.iconst 3, 1) := by decide +kernel
theorem dL_law_1155 : decode cL_law 1155 = .ok (.iadd, 1) := by decide +kernel
theorem dL_law_1156 : decode cL_law 1156 = .ok (.iaload, 1) := by decide +kernel
theorem dL_law_1157 : decode cL_law 1157 = .ok (.invokevirtual 126, 3) := by decide +kernel
theorem dL_law_1160 : decode cL_law 1160 = .ok (.aload_n 2, 1) := by decide +kernel
theorem dL_law_1161 : decode cL_law 1161 = .ok (.aload_n 0, 1) := by decide +kernel
theorem dL_law_1162 : decode cL_law 1162 = .ok (.iload 4, 2) := by decide +kernel
theorem dL_law_1164 : decode cL_law 1164 = .ok (.iconst 1, 1) := by decide +kernel
theorem dL_law_1165 : decode cL_law 1165 = .ok (.iadd, 1) := by decide +kernel
theorem dL_law_1166 : decode cL_law 1166 = .ok (.iaload, 1) := by decide +kernel
theorem dL_law_1167 : decode cL_law 1167 = .ok (.aload_n 0, 1) := by decide +kernel
theorem dL_law_1168 : decode cL_law 1168 = .ok (.iload 4, 2) := by decide +kernel
theorem dL_law_1170 : decode cL_law 1170 = .ok (.iconst 2, 1) := by decide +kernel
theorem dL_law_1171 : decode cL_law 1171 = .ok (.iadd, 1) := by decide +kernel
theorem dL_law_1172 : decode cL_law 1172 = .ok (.iaload, 1) := by decide +kernel
theorem dL_law_1173 : decode cL_law 1173 = .ok (.aload_n 0, 1) := by decide +kernel
theorem dL_law_1174 : decode cL_law 1174 = .ok (.iload 4, 2) := by decide +kernel
theorem dL_law_1176 : decode cL_law 1176 = .ok (.iconst 3, 1) := by decide +kernel
theorem dL_law_1177 : decode cL_law 1177 = .ok (.iadd, 1) := by decide +kernel
theorem dL_law_1178 : decode cL_law 1178 = .ok (.iaload, 1) := by decide +kernel
theorem dL_law_1179 : decode cL_law 1179 = .ok (.invokevirtual 129, 3) := by decide +kernel
theorem dL_law_1182 : decode cL_law 1182 = .ok (.if_icmp .eq 454, 3) := by decide +kernel
theorem dL_law_1185 : decode cL_law 1185 = .ok (.iconst 0, 1) := by decide +kernel
theorem dL_law_1186 : decode cL_law 1186 = .ok (.ireturn, 1) := by decide +kernel
theorem dL_law_1187 : decode cL_law 1187 = .ok (.aload_n 1, 1) := by decide +kernel
theorem dL_law_1188 : decode cL_law 1188 = .ok (.aload_n 0, 1) := by decide +kernel
theorem dL_law_1189 : decode cL_law 1189 = .ok (.iload 4, 2) := by decide +kernel
theorem dL_law_1191 : decode cL_law 1191 = .ok (.iconst 1, 1) := by decide +kernel
theorem dL_law_1192 : decode cL_law 1192 = .ok (.iadd, 1) := by decide +kernel
theorem dL_law_1193 : decode cL_law 1193 = .ok (.iaload, 1) := by decide +kernel
theorem dL_law_1194 : decode cL_law 1194 = .ok (.aload_n 0, 1) := by decide +kernel
theorem dL_law_1195 : decode cL_law 1195 = .ok (.iload 4, 2) := by decide +kernel
theorem dL_law_1197 : decode cL_law 1197 = .ok (.iconst 2, 1) := by decide +kernel
theorem dL_law_1198 : decode cL_law 1198 = .ok (.iadd, 1) := by decide +kernel
theorem dL_law_1199 : decode cL_law 1199 = .ok (.iaload, 1) := by decide +kernel
theorem dL_law_1200 : decode cL_law 1200 = .ok (.aload_n 0, 1) := by decide +kernel
theorem dL_law_1201 : decode cL_law 1201 = .ok (.iload 4, 2) := by decide +kernel
theorem dL_law_1203 : decode cL_law 1203 = .ok (.iconst 3, 1) := by decide +kernel
theorem dL_law_1204 : decode cL_law 1204 = .ok (.iadd, 1) := by decide +kernel
theorem dL_law_1205 : decode cL_law 1205 = .ok (.iaload, 1) := by decide +kernel
theorem dL_law_1206 : decode cL_law 1206 = .ok (.invokevirtual 130, 3) := by decide +kernel
theorem dL_law_1209 : decode cL_law 1209 = .ok (.aload_n 2, 1) := by decide +kernel
theorem dL_law_1210 : decode cL_law 1210 = .ok (.aload_n 0, 1) := by decide +kernel
theorem dL_law_1211 : decode cL_law 1211 = .ok (.iload 4, 2) := by decide +kernel
theorem dL_law_1213 : decode cL_law 1213 = .ok (.iconst 1, 1) := by decide +kernel
theorem dL_law_1214 : decode cL_law 1214 = .ok (.iadd, 1) := by decide +kernel
theorem dL_law_1215 : decode cL_law 1215 = .ok (.iaload, 1) := by decide +kernel
theorem dL_law_1216 : decode cL_law 1216 = .ok (.aload_n 0, 1) := by decide +kernel
theorem dL_law_1217 : decode cL_law 1217 = .ok (.iload 4, 2) := by decide +kernel
theorem dL_law_1219 : decode cL_law 1219 = .ok (.iconst 2, 1) := by decide +kernel
theorem dL_law_1220 : decode cL_law 1220 = .ok (.iadd, 1) := by decide +kernel
theorem dL_law_1221 : decode cL_law 1221 = .ok (.iaload, 1) := by decide +kernel
theorem dL_law_1222 : decode cL_law 1222 = .ok (.aload_n 0, 1) := by decide +kernel
theorem dL_law_1223 : decode cL_law 1223 = .ok (.iload 4, 2) := by decide +kernel
theorem dL_law_1225 : decode cL_law 1225 = .ok (.iconst 3, 1) := by decide +kernel
theorem dL_law_1226 : decode cL_law 1226 = .ok (.iadd, 1) := by decide +kernel
theorem dL_law_1227 : decode cL_law 1227 = .ok (.iaload, 1) := by decide +kernel
theorem dL_law_1228 : decode cL_law 1228 = .ok (.invokevirtual 133, 3) := by decide +kernel
theorem dL_law_1231 : decode cL_law 1231 = .ok (.if_icmp .eq 405, 3) := by decide +kernel
theorem dL_law_1234 : decode cL_law 1234 = .ok (.iconst 0, 1) := by decide +kernel
theorem dL_law_1235 : decode cL_law 1235 = .ok (.ireturn, 1) := by decide +kernel
theorem dL_law_1236 : decode cL_law 1236 = .ok (.aload_n 1, 1) := by decide +kernel
theorem dL_law_1237 : decode cL_law 1237 = .ok (.aload_n 0, 1) := by decide +kernel
theorem dL_law_1238 : decode cL_law 1238 = .ok (.iload 4, 2) := by decide +kernel
theorem dL_law_1240 : decode cL_law 1240 = .ok (.iconst 1, 1) := by decide +kernel
theorem dL_law_1241 : decode cL_law 1241 = .ok (.iadd, 1) := by decide +kernel
theorem dL_law_1242 : decode cL_law 1242 = .ok (.iaload, 1) := by decide +kernel
theorem dL_law_1243 : decode cL_law 1243 = .ok (.aload_n 0, 1) := by decide +kernel
theorem dL_law_1244 : decode cL_law 1244 = .ok (.iload 4, 2) := by decide +kernel
theorem dL_law_1246 : decode cL_law 1246 = .ok (.iconst 2, 1) := by decide +kernel
theorem dL_law_1247 : decode cL_law 1247 = .ok (.iadd, 1) := by decide +kernel
theorem dL_law_1248 : decode cL_law 1248 = .ok (.iaload, 1) := by decide +kernel
theorem dL_law_1249 : decode cL_law 1249 = .ok (.aload_n 0, 1) := by decide +kernel
theorem dL_law_1250 : decode cL_law 1250 = .ok (.iload 4, 2) := by decide +kernel
theorem dL_law_1252 : decode cL_law 1252 = .ok (.iconst 3, 1) := by decide +kernel
theorem dL_law_1253 : decode cL_law 1253 = .ok (.iadd, 1) := by decide +kernel
theorem dL_law_1254 : decode cL_law 1254 = .ok (.iaload, 1) := by decide +kernel
theorem dL_law_1255 : decode cL_law 1255 = .ok (.invokevirtual 134, 3) := by decide +kernel
theorem dL_law_1258 : decode cL_law 1258 = .ok (.aload_n 2, 1) := by decide +kernel
theorem dL_law_1259 : decode cL_law 1259 = .ok (.aload_n 0, 1) := by decide +kernel
theorem dL_law_1260 : decode cL_law 1260 = .ok (.iload 4, 2) := by decide +kernel
theorem dL_law_1262 : decode cL_law 1262 = .ok (.iconst 1, 1) := by decide +kernel
theorem dL_law_1263 : decode cL_law 1263 = .ok (.iadd, 1) := by decide +kernel
theorem dL_law_1264 : decode cL_law 1264 = .ok (.iaload, 1) := by decide +kernel
theorem dL_law_1265 : decode cL_law 1265 = .ok (.aload_n 0, 1) := by decide +kernel
theorem dL_law_1266 : decode cL_law 1266 = .ok (.iload 4, 2) := by decide +kernel
theorem dL_law_1268 : decode cL_law 1268 = .ok (.iconst 2, 1) := by decide +kernel
theorem dL_law_1269 : decode cL_law 1269 = .ok (.iadd, 1) := by decide +kernel
theorem dL_law_1270 : decode cL_law 1270 = .ok (.iaload, 1) := by decide +kernel
theorem dL_law_1271 : decode cL_law 1271 = .ok (.aload_n 0, 1) := by decide +kernel
theorem dL_law_1272 : decode cL_law 1272 = .ok (.iload 4, 2) := by decide +kernel
theorem dL_law_1274 : decode cL_law 1274 = .ok (.iconst 3, 1) := by decide +kernel
theorem dL_law_1275 : decode cL_law 1275 = .ok (.iadd, 1) := by decide +kernel
theorem dL_law_1276 : decode cL_law 1276 = .ok (.iaload, 1) := by decide +kernel
theorem dL_law_1277 : decode cL_law 1277 = .ok (.invokevirtual 137, 3) := by decide +kernel
theorem dL_law_1280 : decode cL_law 1280 = .ok (.if_icmp .eq 356, 3) := by decide +kernel
theorem dL_law_1283 : decode cL_law 1283 = .ok (.iconst 0, 1) := by decide +kernel
theorem dL_law_1284 : decode cL_law 1284 = .ok (.ireturn, 1) := by decide +kernel
theorem dL_law_1285 : decode cL_law 1285 = .ok (.aload_n 1, 1) := by decide +kernel
theorem dL_law_1286 : decode cL_law 1286 = .ok (.aload_n 0, 1) := by decide +kernel
theorem dL_law_1287 : decode cL_law 1287 = .ok (.iload 4, 2) := by decide +kernel
theorem dL_law_1289 : decode cL_law 1289 = .ok (.iconst 1, 1) := by decide +kernel
theorem dL_law_1290 : decode cL_law 1290 = .ok (.iadd, 1) := by decide +kernel
theorem dL_law_1291 : decode cL_law 1291 = .ok (.iaload, 1) := by decide +kernel
theorem dL_law_1292 : decode cL_law 1292 = .ok (.aload_n 0, 1) := by decide +kernel
theorem dL_law_1293 : decode cL_law 1293 = .ok (.iload 4, 2) := by decide +kernel
theorem dL_law_1295 : decode cL_law 1295 = .ok (.iconst 2, 1) := by decide +kernel
theorem dL_law_1296 : decode cL_law 1296 = .ok (.iadd, 1) := by decide +kernel
theorem dL_law_1297 : decode cL_law 1297 = .ok (.iaload, 1) := by decide +kernel
theorem dL_law_1298 : decode cL_law 1298 = .ok (.invokevirtual 138, 3) := by decide +kernel
theorem dL_law_1301 : decode cL_law 1301 = .ok (.aload_n 2, 1) := by decide +kernel
theorem dL_law_1302 : decode cL_law 1302 = .ok (.aload_n 0, 1) := by decide +kernel
theorem dL_law_1303 : decode cL_law 1303 = .ok (.iload 4, 2) := by decide +kernel
theorem dL_law_1305 : decode cL_law 1305 = .ok (.iconst 1, 1) := by decide +kernel
theorem dL_law_1306 : decode cL_law 1306 = .ok (.iadd, 1) := by decide +kernel
theorem dL_law_1307 : decode cL_law 1307 = .ok (.iaload, 1) := by decide +kernel
theorem dL_law_1308 : decode cL_law 1308 = .ok (.aload_n 0, 1) := by decide +kernel
theorem dL_law_1309 : decode cL_law 1309 = .ok (.iload 4, 2) := by decide +kernel
theorem dL_law_1311 : decode cL_law 1311 = .ok (.iconst 2, 1) := by decide +kernel
theorem dL_law_1312 : decode cL_law 1312 = .ok (.iadd, 1) := by decide +kernel
theorem dL_law_1313 : decode cL_law 1313 = .ok (.iaload, 1) := by decide +kernel
theorem dL_law_1314 : decode cL_law 1314 = .ok (.invokevirtual 141, 3) := by decide +kernel
theorem dL_law_1317 : decode cL_law 1317 = .ok (.if_icmp .eq 319, 3) := by decide +kernel
theorem dL_law_1320 : decode cL_law 1320 = .ok (.iconst 0, 1) := by decide +kernel
theorem dL_law_1321 : decode cL_law 1321 = .ok (.ireturn, 1) := by decide +kernel
theorem dL_law_1322 : decode cL_law 1322 = .ok (.aload_n 1, 1) := by decide +kernel
theorem dL_law_1323 : decode cL_law 1323 = .ok (.aload_n 0, 1) := by decide +kernel
theorem dL_law_1324 : decode cL_law 1324 = .ok (.iload 4, 2) := by decide +kernel
theorem dL_law_1326 : decode cL_law 1326 = .ok (.iconst 1, 1) := by decide +kernel
theorem dL_law_1327 : decode cL_law 1327 = .ok (.iadd, 1) := by decide +kernel
theorem dL_law_1328 : decode cL_law 1328 = .ok (.iaload, 1) := by decide +kernel
theorem dL_law_1329 : decode cL_law 1329 = .ok (.aload_n 0, 1) := by decide +kernel
theorem dL_law_1330 : decode cL_law 1330 = .ok (.iload 4, 2) := by decide +kernel
theorem dL_law_1332 : decode cL_law 1332 = .ok (.iconst 2, 1) := by decide +kernel
theorem dL_law_1333 : decode cL_law 1333 = .ok (.iadd, 1) := by decide +kernel
theorem dL_law_1334 : decode cL_law 1334 = .ok (.iaload, 1) := by decide +kernel
theorem dL_law_1335 : decode cL_law 1335 = .ok (.invokevirtual 142, 3) := by decide +kernel
theorem dL_law_1338 : decode cL_law 1338 = .ok (.aload_n 2, 1) := by decide +kernel
theorem dL_law_1339 : decode cL_law 1339 = .ok (.aload_n 0, 1) := by decide +kernel
theorem dL_law_1340 : decode cL_law 1340 = .ok (.iload 4, 2) := by decide +kernel
theorem dL_law_1342 : decode cL_law 1342 = .ok (.iconst 1, 1) := by decide +kernel
theorem dL_law_1343 : decode cL_law 1343 = .ok (.iadd, 1) := by decide +kernel
theorem dL_law_1344 : decode cL_law 1344 = .ok (.iaload, 1) := by decide +kernel
theorem dL_law_1345 : decode cL_law 1345 = .ok (.aload_n 0, 1) := by decide +kernel
theorem dL_law_1346 : decode cL_law 1346 = .ok (.iload 4, 2) := by decide +kernel
theorem dL_law_1348 : decode cL_law 1348 = .ok (.iconst 2, 1) := by decide +kernel
theorem dL_law_1349 : decode cL_law 1349 = .ok (.iadd, 1) := by decide +kernel
theorem dL_law_1350 : decode cL_law 1350 = .ok (.iaload, 1) := by decide +kernel
theorem dL_law_1351 : decode cL_law 1351 = .ok (.invokevirtual 145, 3) := by decide +kernel
theorem dL_law_1354 : decode cL_law 1354 = .ok (.if_icmp .eq 282, 3) := by decide +kernel
theorem dL_law_1357 : decode cL_law 1357 = .ok (.iconst 0, 1) := by decide +kernel
theorem dL_law_1358 : decode cL_law 1358 = .ok (.ireturn, 1) := by decide +kernel
theorem dL_law_1359 : decode cL_law 1359 = .ok (.aload_n 1, 1) := by decide +kernel
theorem dL_law_1360 : decode cL_law 1360 = .ok (.aload_n 0, 1) := by decide +kernel
theorem dL_law_1361 : decode cL_law 1361 = .ok (.iload 4, 2) := by decide +kernel
theorem dL_law_1363 : decode cL_law 1363 = .ok (.iconst 1, 1) := by decide +kernel
theorem dL_law_1364 : decode cL_law 1364 = .ok (.iadd, 1) := by decide +kernel
theorem dL_law_1365 : decode cL_law 1365 = .ok (.iaload, 1) := by decide +kernel
theorem dL_law_1366 : decode cL_law 1366 = .ok (.aload_n 0, 1) := by decide +kernel
theorem dL_law_1367 : decode cL_law 1367 = .ok (.iload 4, 2) := by decide +kernel
theorem dL_law_1369 : decode cL_law 1369 = .ok (.iconst 2, 1) := by decide +kernel
theorem dL_law_1370 : decode cL_law 1370 = .ok (.iadd, 1) := by decide +kernel
theorem dL_law_1371 : decode cL_law 1371 = .ok (.iaload, 1) := by decide +kernel
theorem dL_law_1372 : decode cL_law 1372 = .ok (.invokevirtual 146, 3) := by decide +kernel
theorem dL_law_1375 : decode cL_law 1375 = .ok (.aload_n 2, 1) := by decide +kernel
theorem dL_law_1376 : decode cL_law 1376 = .ok (.aload_n 0, 1) := by decide +kernel
theorem dL_law_1377 : decode cL_law 1377 = .ok (.iload 4, 2) := by decide +kernel
theorem dL_law_1379 : decode cL_law 1379 = .ok (.iconst 1, 1) := by decide +kernel
theorem dL_law_1380 : decode cL_law 1380 = .ok (.iadd, 1) := by decide +kernel
theorem dL_law_1381 : decode cL_law 1381 = .ok (.iaload, 1) := by decide +kernel
theorem dL_law_1382 : decode cL_law 1382 = .ok (.aload_n 0, 1) := by decide +kernel
theorem dL_law_1383 : decode cL_law 1383 = .ok (.iload 4, 2) := by decide +kernel
theorem dL_law_1385 : decode cL_law 1385 = .ok (.iconst 2, 1) := by decide +kernel
theorem dL_law_1386 : decode cL_law 1386 = .ok (.iadd, 1) := by decide +kernel
theorem dL_law_1387 : decode cL_law 1387 = .ok (.iaload, 1) := by decide +kernel
theorem dL_law_1388 : decode cL_law 1388 = .ok (.invokevirtual 149, 3) := by decide +kernel
theorem dL_law_1391 : decode cL_law 1391 = .ok (.if_icmp .eq 245, 3) := by decide +kernel
theorem dL_law_1394 : decode cL_law 1394 = .ok (.iconst 0, 1) := by decide +kernel
theorem dL_law_1395 : decode cL_law 1395 = .ok (.ireturn, 1) := by decide +kernel
theorem dL_law_1396 : decode cL_law 1396 = .ok (.aload_n 1, 1) := by decide +kernel
theorem dL_law_1397 : decode cL_law 1397 = .ok (.aload_n 0, 1) := by decide +kernel
theorem dL_law_1398 : decode cL_law 1398 = .ok (.iload 4, 2) := by decide +kernel
theorem dL_law_1400 : decode cL_law 1400 = .ok (.iconst 1, 1) := by decide +kernel
theorem dL_law_1401 : decode cL_law 1401 = .ok (.iadd, 1) := by decide +kernel
theorem dL_law_1402 : decode cL_law 1402 = .ok (.iaload, 1) := by decide +kernel
theorem dL_law_1403 : decode cL_law 1403 = .ok (.invokevirtual 150, 3) := by decide +kernel
theorem dL_law_1406 : decode cL_law 1406 = .ok (.aload_n 2, 1) := by decide +kernel
theorem dL_law_1407 : decode cL_law 1407 = .ok (.aload_n 0, 1) := by decide +kernel
theorem dL_law_1408 : decode cL_law 1408 = .ok (.iload 4, 2) := by decide +kernel
theorem dL_law_1410 : decode cL_law 1410 = .ok (.iconst 1, 1) := by decide +kernel
theorem dL_law_1411 : decode cL_law 1411 = .ok (.iadd, 1) := by decide +kernel
theorem dL_law_1412 : decode cL_law 1412 = .ok (.iaload, 1) := by decide +kernel
theorem dL_law_1413 : decode cL_law 1413 = .ok (.invokevirtual 153, 3) := by decide +kernel
theorem dL_law_1416 : decode cL_law 1416 = .ok (.if_icmp .eq 220, 3) := by decide +kernel
theorem dL_law_1419 : decode cL_law 1419 = .ok (.iconst 0, 1) := by decide +kernel
theorem dL_law_1420 : decode cL_law 1420 = .ok (.ireturn, 1) := by decide +kernel
theorem dL_law_1421 : decode cL_law 1421 = .ok (.aload_n 1, 1) := by decide +kernel
theorem dL_law_1422 : decode cL_law 1422 = .ok (.aload_n 0, 1) := by decide +kernel
theorem dL_law_1423 : decode cL_law 1423 = .ok (.iload 4, 2) := by decide +kernel
theorem dL_law_1425 : decode cL_law 1425 = .ok (.iconst 1, 1) := by decide +kernel
theorem dL_law_1426 : decode cL_law 1426 = .ok (.iadd, 1) := by decide +kernel
theorem dL_law_1427 : decode cL_law 1427 = .ok (.iaload, 1) := by decide +kernel
theorem dL_law_1428 : decode cL_law 1428 = .ok (.aload_n 0, 1) := by decide +kernel
theorem dL_law_1429 : decode cL_law 1429 = .ok (.iload 4, 2) := by decide +kernel
theorem dL_law_1431 : decode cL_law 1431 = .ok (.iconst 2, 1) := by decide +kernel
theorem dL_law_1432 : decode cL_law 1432 = .ok (.iadd, 1) := by decide +kernel
theorem dL_law_1433 : decode cL_law 1433 = .ok (.iaload, 1) := by decide +kernel
theorem dL_law_1434 : decode cL_law 1434 = .ok (.invokevirtual 154, 3) := by decide +kernel
theorem dL_law_1437 : decode cL_law 1437 = .ok (.aload_n 2, 1) := by decide +kernel
theorem dL_law_1438 : decode cL_law 1438 = .ok (.aload_n 0, 1) := by decide +kernel
theorem dL_law_1439 : decode cL_law 1439 = .ok (.iload 4, 2) := by decide +kernel
theorem dL_law_1441 : decode cL_law 1441 = .ok (.iconst 1, 1) := by decide +kernel
theorem dL_law_1442 : decode cL_law 1442 = .ok (.iadd, 1) := by decide +kernel
theorem dL_law_1443 : decode cL_law 1443 = .ok (.iaload, 1) := by decide +kernel
theorem dL_law_1444 : decode cL_law 1444 = .ok (.aload_n 0, 1) := by decide +kernel
theorem dL_law_1445 : decode cL_law 1445 = .ok (.iload 4, 2) := by decide +kernel
theorem dL_law_1447 : decode cL_law 1447 = .ok (.iconst 2, 1) := by decide +kernel
theorem dL_law_1448 : decode cL_law 1448 = .ok (.iadd, 1) := by decide +kernel
theorem dL_law_1449 : decode cL_law 1449 = .ok (.iaload, 1) := by decide +kernel
theorem dL_law_1450 : decode cL_law 1450 = .ok (.invokevirtual 157, 3) := by decide +kernel
theorem dL_law_1453 : decode cL_law 1453 = .ok (.if_icmp .eq 183, 3) := by decide +kernel
theorem dL_law_1456 : decode cL_law 1456 = .ok (.iconst 0, 1) := by decide +kernel
theorem dL_law_1457 : decode cL_law 1457 = .ok (.ireturn, 1) := by decide +kernel
theorem dL_law_1458 : decode cL_law 1458 = .ok (.aload_n 1, 1) := by decide +kernel
theorem dL_law_1459 : decode cL_law 1459 = .ok (.aload_n 0, 1) := by decide +kernel
theorem dL_law_1460 : decode cL_law 1460 = .ok (.iload 4, 2) := by decide +kernel
theorem dL_law_1462 : decode cL_law 1462 = .ok (.iconst 1, 1) := by decide +kernel
theorem dL_law_1463 : decode cL_law 1463 = .ok (.iadd, 1) := by decide +kernel
theorem dL_law_1464 : decode cL_law 1464 = .ok (.iaload, 1) := by decide +kernel
theorem dL_law_1465 : decode cL_law 1465 = .ok (.aload_n 0, 1) := by decide +kernel
theorem dL_law_1466 : decode cL_law 1466 = .ok (.iload 4, 2) := by decide +kernel
theorem dL_law_1468 : decode cL_law 1468 = .ok (.iconst 2, 1) := by decide +kernel
theorem dL_law_1469 : decode cL_law 1469 = .ok (.iadd, 1) := by decide +kernel
theorem dL_law_1470 : decode cL_law 1470 = .ok (.iaload, 1) := by decide +kernel
theorem dL_law_1471 : decode cL_law 1471 = .ok (.invokevirtual 158, 3) := by decide +kernel
theorem dL_law_1474 : decode cL_law 1474 = .ok (.aload_n 2, 1) := by decide +kernel
theorem dL_law_1475 : decode cL_law 1475 = .ok (.aload_n 0, 1) := by decide +kernel
theorem dL_law_1476 : decode cL_law 1476 = .ok (.iload 4, 2) := by decide +kernel
theorem dL_law_1478 : decode cL_law 1478 = .ok (.iconst 1, 1) := by decide +kernel
theorem dL_law_1479 : decode cL_law 1479 = .ok (.iadd, 1) := by decide +kernel
theorem dL_law_1480 : decode cL_law 1480 = .ok (.iaload, 1) := by decide +kernel
theorem dL_law_1481 : decode cL_law 1481 = .ok (.aload_n 0, 1) := by decide +kernel
theorem dL_law_1482 : decode cL_law 1482 = .ok (.iload 4, 2) := by decide +kernel
theorem dL_law_1484 : decode cL_law 1484 = .ok (.iconst 2, 1) := by decide +kernel
theorem dL_law_1485 : decode cL_law 1485 = .ok (.iadd, 1) := by decide +kernel
theorem dL_law_1486 : decode cL_law 1486 = .ok (.iaload, 1) := by decide +kernel
theorem dL_law_1487 : decode cL_law 1487 = .ok (.invokevirtual 161, 3) := by decide +kernel
theorem dL_law_1490 : decode cL_law 1490 = .ok (.if_icmp .eq 146, 3) := by decide +kernel
theorem dL_law_1493 : decode cL_law 1493 = .ok (.iconst 0, 1) := by decide +kernel
theorem dL_law_1494 : decode cL_law 1494 = .ok (.ireturn, 1) := by decide +kernel
theorem dL_law_1495 : decode cL_law 1495 = .ok (.aload_n 1, 1) := by decide +kernel
theorem dL_law_1496 : decode cL_law 1496 = .ok (.aload_n 0, 1) := by decide +kernel
theorem dL_law_1497 : decode cL_law 1497 = .ok (.iload 4, 2) := by decide +kernel
theorem dL_law_1499 : decode cL_law 1499 = .ok (.iconst 1, 1) := by decide +kernel
theorem dL_law_1500 : decode cL_law 1500 = .ok (.iadd, 1) := by decide +kernel
theorem dL_law_1501 : decode cL_law 1501 = .ok (.iaload, 1) := by decide +kernel
theorem dL_law_1502 : decode cL_law 1502 = .ok (.invokevirtual 162, 3) := by decide +kernel
theorem dL_law_1505 : decode cL_law 1505 = .ok (.aload_n 2, 1) := by decide +kernel
theorem dL_law_1506 : decode cL_law 1506 = .ok (.aload_n 0, 1) := by decide +kernel
theorem dL_law_1507 : decode cL_law 1507 = .ok (.iload 4, 2) := by decide +kernel
theorem dL_law_1509 : decode cL_law 1509 = .ok (.iconst 1, 1) := by decide +kernel
theorem dL_law_1510 : decode cL_law 1510 = .ok (.iadd, 1) := by decide +kernel
theorem dL_law_1511 : decode cL_law 1511 = .ok (.iaload, 1) := by decide +kernel
theorem dL_law_1512 : decode cL_law 1512 = .ok (.invokevirtual 165, 3) := by decide +kernel
theorem dL_law_1515 : decode cL_law 1515 = .ok (.if_icmp .eq 121, 3) := by decide +kernel
theorem dL_law_1518 : decode cL_law 1518 = .ok (.iconst 0, 1) := by decide +kernel
theorem dL_law_1519 : decode cL_law 1519 = .ok (.ireturn, 1) := by decide +kernel
theorem dL_law_1520 : decode cL_law 1520 = .ok (.aload_n 1, 1) := by decide +kernel
theorem dL_law_1521 : decode cL_law 1521 = .ok (.aload_n 0, 1) := by decide +kernel
theorem dL_law_1522 : decode cL_law 1522 = .ok (.iload 4, 2) := by decide +kernel
theorem dL_law_1524 : decode cL_law 1524 = .ok (.iconst 1, 1) := by decide +kernel
theorem dL_law_1525 : decode cL_law 1525 = .ok (.iadd, 1) := by decide +kernel
theorem dL_law_1526 : decode cL_law 1526 = .ok (.iaload, 1) := by decide +kernel
theorem dL_law_1527 : decode cL_law 1527 = .ok (.aload_n 0, 1) := by decide +kernel
theorem dL_law_1528 : decode cL_law 1528 = .ok (.iload 4, 2) := by decide +kernel
theorem dL_law_1530 : decode cL_law 1530 = .ok (.iconst 2, 1) := by decide +kernel
theorem dL_law_1531 : decode cL_law 1531 = .ok (.iadd, 1) := by decide +kernel
theorem dL_law_1532 : decode cL_law 1532 = .ok (.iaload, 1) := by decide +kernel
theorem dL_law_1533 : decode cL_law 1533 = .ok (.ifCond .eq 7, 3) := by decide +kernel
theorem dL_law_1536 : decode cL_law 1536 = .ok (.iconst 1, 1) := by decide +kernel
theorem dL_law_1537 : decode cL_law 1537 = .ok (.goto 4, 3) := by decide +kernel
theorem dL_law_1540 : decode cL_law 1540 = .ok (.iconst 0, 1) := by decide +kernel
theorem dL_law_1541 : decode cL_law 1541 = .ok (.invokevirtual 166, 3) := by decide +kernel
theorem dL_law_1544 : decode cL_law 1544 = .ok (.aload_n 2, 1) := by decide +kernel
theorem dL_law_1545 : decode cL_law 1545 = .ok (.aload_n 0, 1) := by decide +kernel
theorem dL_law_1546 : decode cL_law 1546 = .ok (.iload 4, 2) := by decide +kernel
theorem dL_law_1548 : decode cL_law 1548 = .ok (.iconst 1, 1) := by decide +kernel
theorem dL_law_1549 : decode cL_law 1549 = .ok (.iadd, 1) := by decide +kernel
theorem dL_law_1550 : decode cL_law 1550 = .ok (.iaload, 1) := by decide +kernel
theorem dL_law_1551 : decode cL_law 1551 = .ok (.aload_n 0, 1) := by decide +kernel
theorem dL_law_1552 : decode cL_law 1552 = .ok (.iload 4, 2) := by decide +kernel
theorem dL_law_1554 : decode cL_law 1554 = .ok (.iconst 2, 1) := by decide +kernel
theorem dL_law_1555 : decode cL_law 1555 = .ok (.iadd, 1) := by decide +kernel
theorem dL_law_1556 : decode cL_law 1556 = .ok (.iaload, 1) := by decide +kernel
theorem dL_law_1557 : decode cL_law 1557 = .ok (.ifCond .eq 7, 3) := by decide +kernel
theorem dL_law_1560 : decode cL_law 1560 = .ok (.iconst 1, 1) := by decide +kernel
theorem dL_law_1561 : decode cL_law 1561 = .ok (.goto 4, 3) := by decide +kernel
theorem dL_law_1564 : decode cL_law 1564 = .ok (.iconst 0, 1) := by decide +kernel
theorem dL_law_1565 : decode cL_law 1565 = .ok (.invokevirtual 170, 3) := by decide +kernel
theorem dL_law_1568 : decode cL_law 1568 = .ok (.if_icmp .eq 68, 3) := by decide +kernel
theorem dL_law_1571 : decode cL_law 1571 = .ok (.iconst 0, 1) := by decide +kernel
theorem dL_law_1572 : decode cL_law 1572 = .ok (.ireturn, 1) := by decide +kernel
theorem dL_law_1573 : decode cL_law 1573 = .ok (.aload_n 1, 1) := by decide +kernel
theorem dL_law_1574 : decode cL_law 1574 = .ok (.aload_n 0, 1) := by decide +kernel
theorem dL_law_1575 : decode cL_law 1575 = .ok (.iload 4, 2) := by decide +kernel
theorem dL_law_1577 : decode cL_law 1577 = .ok (.iconst 1, 1) := by decide +kernel
theorem dL_law_1578 : decode cL_law 1578 = .ok (.iadd, 1) := by decide +kernel
theorem dL_law_1579 : decode cL_law 1579 = .ok (.iaload, 1) := by decide +kernel
theorem dL_law_1580 : decode cL_law 1580 = .ok (.invokevirtual 171, 3) := by decide +kernel
theorem dL_law_1583 : decode cL_law 1583 = .ok (.aload_n 2, 1) := by decide +kernel
theorem dL_law_1584 : decode cL_law 1584 = .ok (.aload_n 0, 1) := by decide +kernel
theorem dL_law_1585 : decode cL_law 1585 = .ok (.iload 4, 2) := by decide +kernel
theorem dL_law_1587 : decode cL_law 1587 = .ok (.iconst 1, 1) := by decide +kernel
theorem dL_law_1588 : decode cL_law 1588 = .ok (.iadd, 1) := by decide +kernel
theorem dL_law_1589 : decode cL_law 1589 = .ok (.iaload, 1) := by decide +kernel
theorem dL_law_1590 : decode cL_law 1590 = .ok (.invokevirtual 174, 3) := by decide +kernel
theorem dL_law_1593 : decode cL_law 1593 = .ok (.if_icmp .eq 43, 3) := by decide +kernel
theorem dL_law_1596 : decode cL_law 1596 = .ok (.iconst 0, 1) := by decide +kernel
theorem dL_law_1597 : decode cL_law 1597 = .ok (.ireturn, 1) := by decide +kernel
theorem dL_law_1598 : decode cL_law 1598 = .ok (.aload_n 1, 1) := by decide +kernel
theorem dL_law_1599 : decode cL_law 1599 = .ok (.aload_n 0, 1) := by decide +kernel
theorem dL_law_1600 : decode cL_law 1600 = .ok (.iload 4, 2) := by decide +kernel
theorem dL_law_1602 : decode cL_law 1602 = .ok (.iconst 1, 1) := by decide +kernel
theorem dL_law_1603 : decode cL_law 1603 = .ok (.iadd, 1) := by decide +kernel
theorem dL_law_1604 : decode cL_law 1604 = .ok (.iaload, 1) := by decide +kernel
theorem dL_law_1605 : decode cL_law 1605 = .ok (.invokevirtual 175, 3) := by decide +kernel
theorem dL_law_1608 : decode cL_law 1608 = .ok (.aload_n 2, 1) := by decide +kernel
theorem dL_law_1609 : decode cL_law 1609 = .ok (.aload_n 0, 1) := by decide +kernel
theorem dL_law_1610 : decode cL_law 1610 = .ok (.iload 4, 2) := by decide +kernel
theorem dL_law_1612 : decode cL_law 1612 = .ok (.iconst 1, 1) := by decide +kernel
theorem dL_law_1613 : decode cL_law 1613 = .ok (.iadd, 1) := by decide +kernel
theorem dL_law_1614 : decode cL_law 1614 = .ok (.iaload, 1) := by decide +kernel
theorem dL_law_1615 : decode cL_law 1615 = .ok (.invokevirtual 178, 3) := by decide +kernel
theorem dL_law_1618 : decode cL_law 1618 = .ok (.if_icmp .eq 18, 3) := by decide +kernel
theorem dL_law_1621 : decode cL_law 1621 = .ok (.iconst 0, 1) := by decide +kernel
theorem dL_law_1622 : decode cL_law 1622 = .ok (.ireturn, 1) := by decide +kernel
theorem dL_law_1623 : decode cL_law 1623 = .ok (.aload_n 1, 1) := by decide +kernel
theorem dL_law_1624 : decode cL_law 1624 = .ok (.invokevirtual 179, 3) := by decide +kernel
theorem dL_law_1627 : decode cL_law 1627 = .ok (.aload_n 2, 1) := by decide +kernel
theorem dL_law_1628 : decode cL_law 1628 = .ok (.invokevirtual 182, 3) := by decide +kernel
theorem dL_law_1631 : decode cL_law 1631 = .ok (.if_icmp .eq 5, 3) := by decide +kernel
theorem dL_law_1634 : decode cL_law 1634 = .ok (.iconst 0, 1) := by decide +kernel
theorem dL_law_1635 : decode cL_law 1635 = .ok (.ireturn, 1) := by decide +kernel
theorem dL_law_1636 : decode cL_law 1636 = .ok (.iinc 4 6, 3) := by decide +kernel
theorem dL_law_1639 : decode cL_law 1639 = .ok (.goto (-1616), 3) := by decide +kernel
theorem dL_law_1642 : decode cL_law 1642 = .ok (.iconst 1, 1) := by decide +kernel
theorem dL_law_1643 : decode cL_law 1643 = .ok (.ireturn, 1) := by decide +kernel
