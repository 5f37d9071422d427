theorem dX9_right_0 : decode cX9_right 0 = .ok (.aload_n 0, 1) := by decide +kernel
theorem dX9_right_1 : decode cX9_right 1 = .ok (.iload_n 1, 1) := by decide +kernel
theorem dX9_right_2 : decode cX9_right 2 = .ok (.invokevirtual 66, 3) := by decide +kernel
theorem dX9_right_5 : decode cX9_right 5 = .ok (.ifnull 10, 3) := by decide +kernel
theorem dX9_right_8 : decode cX9_right 8 = .ok (.iload_n 2, 1) := by decide +kernel
theorem dX9_right_9 : decode cX9_right 9 = .ok (.invokestatic 70, 3) := by decide +kernel
theorem dX9_right_12 : decode cX9_right 12 = .ok (.ifCond .ne 6, 3) := by decide +kernel
theorem dX9_right_15 : decode cX9_right 15 = .ok (.ldc 100, 2) := by decide +kernel
theorem dX9_right_17 : decode cX9_right 17 = .ok (.ireturn, 1) := by decide +kernel
theorem dX9_right_18 : decode cX9_right 18 = .ok (.aload_n 0, 1) := by decide +kernel
theorem dX9_right_19 : decode cX9_right 19 = .ok (.getfield 45, 3) := by decide +kernel
theorem dX9_right_22 : decode cX9_right 22 = .ok (.iload_n 1, 1) := by decide +kernel
theorem dX9_right_23 : decode cX9_right 23 = .ok (.iload_n 2, 1) := by decide +kernel
theorem dX9_right_24 : decode cX9_right 24 = .ok (.invokestatic 117, 3) := by decide +kernel
theorem dX9_right_27 : decode cX9_right 27 = .ok (.iload_n 3, 1) := by decide +kernel
theorem dX9_right_28 : decode cX9_right 28 = .ok (.iload_n 3, 1) := by decide +kernel
theorem dX9_right_29 : decode cX9_right 29 = .ok (.invokevirtual 295, 3) := by decide +kernel
theorem dX9_right_32 : decode cX9_right 32 = .ok (.istore 4, 2) := by decide +kernel
theorem dX9_right_34 : decode cX9_right 34 = .ok (.iload 4, 2) := by decide +kernel
theorem dX9_right_36 : decode cX9_right 36 = .ok (.iconst (-1), 1) := by decide +kernel
theorem dX9_right_37 : decode cX9_right 37 = .ok (.if_icmp .ne 8, 3) := by decide +kernel
theorem dX9_right_40 : decode cX9_right 40 = .ok (.ldc 100, 2) := by decide +kernel
theorem dX9_right_42 : decode cX9_right 42 = .ok (.goto 16, 3) := by decide +kernel
theorem dX9_right_45 : decode cX9_right 45 = .ok (.aload_n 0, 1) := by decide +kernel
theorem dX9_right_46 : decode cX9_right 46 = .ok (.getfield 45, 3) := by decide +kernel
theorem dX9_right_49 : decode cX9_right 49 = .ok (.iload 4, 2) := by decide +kernel
theorem dX9_right_51 : decode cX9_right 51 = .ok (.aload_n 0, 1) := by decide +kernel
theorem dX9_right_52 : decode cX9_right 52 = .ok (.getfield 121, 3) := by decide +kernel
theorem dX9_right_55 : decode cX9_right 55 = .ok (.invokevirtual 298, 3) := by decide +kernel
theorem dX9_right_58 : decode cX9_right 58 = .ok (.ireturn, 1) := by decide +kernel
theorem dX9_height_0 : decode cX9_height 0 = .ok (.iload_n 1, 1) := by decide +kernel
theorem dX9_height_1 : decode cX9_height 1 = .ok (.invokestatic 280, 3) := by decide +kernel
theorem dX9_height_4 : decode cX9_height 4 = .ok (.ifCond .ne 9, 3) := by decide +kernel
theorem dX9_height_7 : decode cX9_height 7 = .ok (.aload_n 0, 1) := by decide +kernel
theorem dX9_height_8 : decode cX9_height 8 = .ok (.iconst 1, 1) := by decide +kernel
theorem dX9_height_9 : decode cX9_height 9 = .ok (.invokevirtual 74, 3) := by decide +kernel
theorem dX9_height_12 : decode cX9_height 12 = .ok (.ireturn, 1) := by decide +kernel
theorem dX9_height_13 : decode cX9_height 13 = .ok (.iload_n 2, 1) := by decide +kernel
theorem dX9_height_14 : decode cX9_height 14 = .ok (.iconst 0, 1) := by decide +kernel
theorem dX9_height_15 : decode cX9_height 15 = .ok (.sipush 999, 3) := by decide +kernel
theorem dX9_height_18 : decode cX9_height 18 = .ok (.invokestatic 78, 3) := by decide +kernel
theorem dX9_height_21 : decode cX9_height 21 = .ok (.ifCond .ne 9, 3) := by decide +kernel
theorem dX9_height_24 : decode cX9_height 24 = .ok (.aload_n 0, 1) := by decide +kernel
theorem dX9_height_25 : decode cX9_height 25 = .ok (.iconst 2, 1) := by decide +kernel
theorem dX9_height_26 : decode cX9_height 26 = .ok (.invokevirtual 74, 3) := by decide +kernel
theorem dX9_height_29 : decode cX9_height 29 = .ok (.ireturn, 1) := by decide +kernel
theorem dX9_height_30 : decode cX9_height 30 = .ok (.aload_n 0, 1) := by decide +kernel
theorem dX9_height_31 : decode cX9_height 31 = .ok (.getfield 52, 3) := by decide +kernel
theorem dX9_height_34 : decode cX9_height 34 = .ok (.getfield 301, 3) := by decide +kernel
theorem dX9_height_37 : decode cX9_height 37 = .ok (.iload_n 1, 1) := by decide +kernel
theorem dX9_height_38 : decode cX9_height 38 = .ok (.iload_n 2, 1) := by decide +kernel
theorem dX9_height_39 : decode cX9_height 39 = .ok (.iastore, 1) := by decide +kernel
theorem dX9_height_40 : decode cX9_height 40 = .ok (.aload_n 0, 1) := by decide +kernel
theorem dX9_height_41 : decode cX9_height 41 = .ok (.invokevirtual 86, 3) := by decide +kernel
theorem dX9_height_44 : decode cX9_height 44 = .ok (.ireturn, 1) := by decide +kernel
theorem dX9_land_0 : decode cX9_land 0 = .ok (.iload_n 1, 1) := by decide +kernel
theorem dX9_land_1 : decode cX9_land 1 = .ok (.ifCond .lt 19, 3) := by decide +kernel
theorem dX9_land_4 : decode cX9_land 4 = .ok (.iload_n 1, 1) := by decide +kernel
theorem dX9_land_5 : decode cX9_land 5 = .ok (.getstatic 304, 3) := by decide +kernel
theorem dX9_land_8 : decode cX9_land 8 = .ok (.arraylength, 1) := by decide +kernel
theorem dX9_land_9 : decode cX9_land 9 = .ok (.if_icmp .ge 11, 3) := by decide +kernel
theorem dX9_land_12 : decode cX9_land 12 = .ok (.iload_n 1, 1) := by decide +kernel
theorem dX9_land_13 : decode cX9_land 13 = .ok (.getstatic 307, 3) := by decide +kernel
theorem dX9_land_16 : decode cX9_land 16 = .ok (.arraylength, 1) := by decide +kernel
theorem dX9_land_17 : decode cX9_land 17 = .ok (.if_icmp .lt 9, 3) := by decide +kernel
theorem dX9_land_20 : decode cX9_land 20 = .ok (.aload_n 0, 1) := by decide +kernel
theorem dX9_land_21 : decode cX9_land 21 = .ok (.iconst 1, 1) := by decide +kernel
theorem dX9_land_22 : decode cX9_land 22 = .ok (.invokevirtual 74, 3) := by decide +kernel
theorem dX9_land_25 : decode cX9_land 25 = .ok (.ireturn, 1) := by decide +kernel
theorem dX9_land_26 : decode cX9_land 26 = .ok (.iload_n 2, 1) := by decide +kernel
theorem dX9_land_27 : decode cX9_land 27 = .ok (.getstatic 304, 3) := by decide +kernel
theorem dX9_land_30 : decode cX9_land 30 = .ok (.iload_n 1, 1) := by decide +kernel
theorem dX9_land_31 : decode cX9_land 31 = .ok (.iaload, 1) := by decide +kernel
theorem dX9_land_32 : decode cX9_land 32 = .ok (.getstatic 307, 3) := by decide +kernel
theorem dX9_land_35 : decode cX9_land 35 = .ok (.iload_n 1, 1) := by decide +kernel
theorem dX9_land_36 : decode cX9_land 36 = .ok (.iaload, 1) := by decide +kernel
theorem dX9_land_37 : decode cX9_land 37 = .ok (.invokestatic 78, 3) := by decide +kernel
theorem dX9_land_40 : decode cX9_land 40 = .ok (.ifCond .ne 9, 3) := by decide +kernel
theorem dX9_land_43 : decode cX9_land 43 = .ok (.aload_n 0, 1) := by decide +kernel
theorem dX9_land_44 : decode cX9_land 44 = .ok (.iconst 2, 1) := by decide +kernel
theorem dX9_land_45 : decode cX9_land 45 = .ok (.invokevirtual 74, 3) := by decide +kernel
theorem dX9_land_48 : decode cX9_land 48 = .ok (.ireturn, 1) := by decide +kernel
theorem dX9_land_49 : decode cX9_land 49 = .ok (.aload_n 0, 1) := by decide +kernel
theorem dX9_land_50 : decode cX9_land 50 = .ok (.getfield 52, 3) := by decide +kernel
theorem dX9_land_53 : decode cX9_land 53 = .ok (.iload_n 1, 1) := by decide +kernel
theorem dX9_land_54 : decode cX9_land 54 = .ok (.iload_n 2, 1) := by decide +kernel
theorem dX9_land_55 : decode cX9_land 55 = .ok (.invokevirtual 310, 3) := by decide +kernel
theorem dX9_land_58 : decode cX9_land 58 = .ok (.aload_n 0, 1) := by decide +kernel
theorem dX9_land_59 : decode cX9_land 59 = .ok (.invokevirtual 86, 3) := by decide +kernel
theorem dX9_land_62 : decode cX9_land 62 = .ok (.ireturn, 1) := by decide +kernel
theorem dX9_runOut_0 : decode cX9_runOut 0 = .ok (.aload_n 0, 1) := by decide +kernel
theorem dX9_runOut_1 : decode cX9_runOut 1 = .ok (.iload_n 1, 1) := by decide +kernel
theorem dX9_runOut_2 : decode cX9_runOut 2 = .ok (.invokevirtual 66, 3) := by decide +kernel
theorem dX9_runOut_5 : decode cX9_runOut 5 = .ok (.astore_n 3, 1) := by decide +kernel
theorem dX9_runOut_6 : decode cX9_runOut 6 = .ok (.aload_n 3, 1) := by decide +kernel
theorem dX9_runOut_7 : decode cX9_runOut 7 = .ok (.ifnonnull 9, 3) := by decide +kernel
theorem dX9_runOut_10 : decode cX9_runOut 10 = .ok (.aload_n 0, 1) := by decide +kernel
theorem dX9_runOut_11 : decode cX9_runOut 11 = .ok (.iconst 1, 1) := by decide +kernel
theorem dX9_runOut_12 : decode cX9_runOut 12 = .ok (.invokevirtual 162, 3) := by decide +kernel
theorem dX9_runOut_15 : decode cX9_runOut 15 = .ok (.ireturn, 1) := by decide +kernel
theorem dX9_runOut_16 : decode cX9_runOut 16 = .ok (.iload_n 2, 1) := by decide +kernel
theorem dX9_runOut_17 : decode cX9_runOut 17 = .ok (.iconst 0, 1) := by decide +kernel
theorem dX9_runOut_18 : decode cX9_runOut 18 = .ok (.ldc_w 311, 3) := by decide +kernel
theorem dX9_runOut_21 : decode cX9_runOut 21 = .ok (.invokestatic 78, 3) := by decide +kernel
theorem dX9_runOut_24 : decode cX9_runOut 24 = .ok (.ifCond .ne 9, 3) := by decide +kernel
theorem dX9_runOut_27 : decode cX9_runOut 27 = .ok (.aload_n 0, 1) := by decide +kernel
theorem dX9_runOut_28 : decode cX9_runOut 28 = .ok (.iconst 2, 1) := by decide +kernel
theorem dX9_runOut_29 : decode cX9_runOut 29 = .ok (.invokevirtual 162, 3) := by decide +kernel
theorem dX9_runOut_32 : decode cX9_runOut 32 = .ok (.ireturn, 1) := by decide +kernel
theorem dX9_runOut_33 : decode cX9_runOut 33 = .ok (.aload_n 0, 1) := by decide +kernel
theorem dX9_runOut_34 : decode cX9_runOut 34 = .ok (.aload_n 0, 1) := by decide +kernel
theorem dX9_runOut_35 : decode cX9_runOut 35 = .ok (.getfield 52, 3) := by decide +kernel
theorem dX9_runOut_38 : decode cX9_runOut 38 = .ok (.aload_n 3, 1) := by decide +kernel
theorem dX9_runOut_39 : decode cX9_runOut 39 = .ok (.getfield 312, 3) := by decide +kernel
theorem dX9_runOut_42 : decode cX9_runOut 42 = .ok (.iload_n 2, 1) := by decide +kernel
theorem dX9_runOut_43 : decode cX9_runOut 43 = .ok (.invokevirtual 315, 3) := by decide +kernel
theorem dX9_runOut_46 : decode cX9_runOut 46 = .ok (.invokevirtual 169, 3) := by decide +kernel
theorem dX9_runOut_49 : decode cX9_runOut 49 = .ok (.ireturn, 1) := by decide +kernel
theorem dX9_arrives_0 : decode cX9_arrives 0 = .ok (.iload_n 1, 1) := by decide +kernel
theorem dX9_arrives_1 : decode cX9_arrives 1 = .ok (.invokestatic 280, 3) := by decide +kernel
theorem dX9_arrives_4 : decode cX9_arrives 4 = .ok (.ifCond .eq 13, 3) := by decide +kernel
theorem dX9_arrives_7 : decode cX9_arrives 7 = .ok (.aload_n 0, 1) := by decide +kernel
theorem dX9_arrives_8 : decode cX9_arrives 8 = .ok (.getfield 52, 3) := by decide +kernel
theorem dX9_arrives_11 : decode cX9_arrives 11 = .ok (.getfield 318, 3) := by decide +kernel
theorem dX9_arrives_14 : decode cX9_arrives 14 = .ok (.ifCond .ne 5, 3) := by decide +kernel
theorem dX9_arrives_17 : decode cX9_arrives 17 = .ok (.iconst (-1), 1) := by decide +kernel
theorem dX9_arrives_18 : decode cX9_arrives 18 = .ok (.ireturn, 1) := by decide +kernel
theorem dX9_arrives_19 : decode cX9_arrives 19 = .ok (.aload_n 0, 1) := by decide +kernel
theorem dX9_arrives_20 : decode cX9_arrives 20 = .ok (.getfield 52, 3) := by decide +kernel
theorem dX9_arrives_23 : decode cX9_arrives 23 = .ok (.getfield 321, 3) := by decide +kernel
theorem dX9_arrives_26 : decode cX9_arrives 26 = .ok (.iload_n 1, 1) := by decide +kernel
theorem dX9_arrives_27 : decode cX9_arrives 27 = .ok (.iaload, 1) := by decide +kernel
theorem dX9_arrives_28 : decode cX9_arrives 28 = .ok (.ireturn, 1) := by decide +kernel
theorem dX9_village_0 : decode cX9_village 0 = .ok (.iload_n 1, 1) := by decide +kernel
theorem dX9_village_1 : decode cX9_village 1 = .ok (.invokestatic 280, 3) := by decide +kernel
theorem dX9_village_4 : decode cX9_village 4 = .ok (.ifCond .ne 9, 3) := by decide +kernel
theorem dX9_village_7 : decode cX9_village 7 = .ok (.aload_n 0, 1) := by decide +kernel
theorem dX9_village_8 : decode cX9_village 8 = .ok (.iconst 1, 1) := by decide +kernel
theorem dX9_village_9 : decode cX9_village 9 = .ok (.invokevirtual 162, 3) := by decide +kernel
theorem dX9_village_12 : decode cX9_village 12 = .ok (.ireturn, 1) := by decide +kernel
theorem dX9_village_13 : decode cX9_village 13 = .ok (.iload_n 2, 1) := by decide +kernel
theorem dX9_village_14 : decode cX9_village 14 = .ok (.iconst 1, 1) := by decide +kernel
theorem dX9_village_15 : decode cX9_village 15 = .ok (.sipush 9999, 3) := by decide +kernel
theorem dX9_village_18 : decode cX9_village 18 = .ok (.invokestatic 78, 3) := by decide +kernel
theorem dX9_village_21 : decode cX9_village 21 = .ok (.ifCond .ne 9, 3) := by decide +kernel
theorem dX9_village_24 : decode cX9_village 24 = .ok (.aload_n 0, 1) := by decide +kernel
theorem dX9_village_25 : decode cX9_village 25 = .ok (.iconst 2, 1) := by decide +kernel
theorem dX9_village_26 : decode cX9_village 26 = .ok (.invokevirtual 162, 3) := by decide +kernel
theorem dX9_village_29 : decode cX9_village 29 = .ok (.ireturn, 1) := by decide +kernel
theorem dX9_village_30 : decode cX9_village 30 = .ok (.aload_n 0, 1) := by decide +kernel
theorem dX9_village_31 : decode cX9_village 31 = .ok (.getfield 324, 3) := by decide +kernel
theorem dX9_village_34 : decode cX9_village 34 = .ok (.aload_n 0, 1) := by decide +kernel
theorem dX9_village_35 : decode cX9_village 35 = .ok (.getfield 58, 3) := by decide +kernel
theorem dX9_village_38 : decode cX9_village 38 = .ok (.arraylength, 1) := by decide +kernel
theorem dX9_village_39 : decode cX9_village 39 = .ok (.if_icmp .lt 9, 3) := by decide +kernel
theorem dX9_village_42 : decode cX9_village 42 = .ok (.aload_n 0, 1) := by decide +kernel
theorem dX9_village_43 : decode cX9_village 43 = .ok (.iconst 3, 1) := by decide +kernel
theorem dX9_village_44 : decode cX9_village 44 = .ok (.invokevirtual 162, 3) := by decide +kernel
theorem dX9_village_47 : decode cX9_village 47 = .ok (.ireturn, 1) := by decide +kernel
theorem dX9_village_48 : decode cX9_village 48 = .ok (.aload_n 0, 1) := by decide +kernel
theorem dX9_village_49 : decode cX9_village 49 = .ok (.getfield 58, 3) := by decide +kernel
theorem dX9_village_52 : decode cX9_village 52 = .ok (.aload_n 0, 1) := by decide +kernel
theorem dX9_village_53 : decode cX9_village 53 = .ok (.getfield 324, 3) := by decide +kernel
theorem dX9_village_56 : decode cX9_village 56 = .ok (.new 56, 3) := by decide +kernel
theorem dX9_village_59 : decode cX9_village 59 = .ok (.dup, 1) := by decide +kernel
theorem dX9_village_60 : decode cX9_village 60 = .ok (.iload_n 1, 1) := by decide +kernel
theorem dX9_village_61 : decode cX9_village 61 = .ok (.iload_n 2, 1) := by decide +kernel
theorem dX9_village_62 : decode cX9_village 62 = .ok (.invokespecial 327, 3) := by decide +kernel
theorem dX9_village_65 : decode cX9_village 65 = .ok (.aastore, 1) := by decide +kernel
theorem dX9_village_66 : decode cX9_village 66 = .ok (.aload_n 0, 1) := by decide +kernel
theorem dX9_village_67 : decode cX9_village 67 = .ok (.dup, 1) := by decide +kernel
theorem dX9_village_68 : decode cX9_village 68 = .ok (.getfield 324, 3) := by decide +kernel
theorem dX9_village_71 : decode cX9_village 71 = .ok (.iconst 1, 1) := by decide +kernel
theorem dX9_village_72 : decode cX9_village 72 = .ok (.iadd, 1) := by decide +kernel
theorem dX9_village_73 : decode cX9_village 73 = .ok (.putfield 324, 3) := by decide +kernel
theorem dX9_village_76 : decode cX9_village 76 = .ok (.aload_n 0, 1) := by decide +kernel
theorem dX9_village_77 : decode cX9_village 77 = .ok (.aload_n 0, 1) := by decide +kernel
theorem dX9_village_78 : decode cX9_village 78 = .ok (.getfield 324, 3) := by decide +kernel
theorem dX9_village_81 : decode cX9_village 81 = .ok (.iconst 1, 1) := by decide +kernel
theorem dX9_village_82 : decode cX9_village 82 = .ok (.isub, 1) := by decide +kernel
theorem dX9_village_83 : decode cX9_village 83 = .ok (.invokevirtual 169, 3) := by decide +kernel
theorem dX9_village_86 : decode cX9_village 86 = .ok (.ireturn, 1) := by decide +kernel
theorem dX9_climb_0 : decode cX9_climb 0 = .ok (.aload_n 0, 1) := by decide +kernel
theorem dX9_climb_1 : decode cX9_climb 1 = .ok (.iload_n 1, 1) := by decide +kernel
theorem dX9_climb_2 : decode cX9_climb 2 = .ok (.invokevirtual 329, 3) := by decide +kernel
theorem dX9_climb_5 : decode cX9_climb 5 = .ok (.astore_n 3, 1) := by decide +kernel
theorem dX9_climb_6 : decode cX9_climb 6 = .ok (.aload_n 3, 1) := by decide +kernel
theorem dX9_climb_7 : decode cX9_climb 7 = .ok (.ifnull 13, 3) := by decide +kernel
theorem dX9_climb_10 : decode cX9_climb 10 = .ok (.aload_n 0, 1) := by decide +kernel
theorem dX9_climb_11 : decode cX9_climb 11 = .ok (.getfield 52, 3) := by decide +kernel
theorem dX9_climb_14 : decode cX9_climb 14 = .ok (.getfield 318, 3) := by decide +kernel
theorem dX9_climb_17 : decode cX9_climb 17 = .ok (.ifCond .ne 9, 3) := by decide +kernel
theorem dX9_climb_20 : decode cX9_climb 20 = .ok (.aload_n 0, 1) := by decide +kernel
theorem dX9_climb_21 : decode cX9_climb 21 = .ok (.iconst 1, 1) := by decide +kernel
theorem dX9_climb_22 : decode cX9_climb 22 = .ok (.invokevirtual 162, 3) := by decide +kernel
theorem dX9_climb_25 : decode cX9_climb 25 = .ok (.ireturn, 1) := by decide +kernel
theorem dX9_climb_26 : decode cX9_climb 26 = .ok (.iload_n 2, 1) := by decide +kernel
theorem dX9_climb_27 : decode cX9_climb 27 = .ok (.iconst 0, 1) := by decide +kernel
theorem dX9_climb_28 : decode cX9_climb 28 = .ok (.sipush 500, 3) := by decide +kernel
theorem dX9_climb_31 : decode cX9_climb 31 = .ok (.invokestatic 78, 3) := by decide +kernel
theorem dX9_climb_34 : decode cX9_climb 34 = .ok (.ifCond .ne 9, 3) := by decide +kernel
theorem dX9_climb_37 : decode cX9_climb 37 = .ok (.aload_n 0, 1) := by decide +kernel
theorem dX9_climb_38 : decode cX9_climb 38 = .ok (.iconst 2, 1) := by decide +kernel
theorem dX9_climb_39 : decode cX9_climb 39 = .ok (.invokevirtual 162, 3) := by decide +kernel
theorem dX9_climb_42 : decode cX9_climb 42 = .ok (.ireturn, 1) := by decide +kernel
theorem dX9_climb_43 : decode cX9_climb 43 = .ok (.aload_n 0, 1) := by decide +kernel
theorem dX9_climb_44 : decode cX9_climb 44 = .ok (.aload_n 0, 1) := by decide +kernel
theorem dX9_climb_45 : decode cX9_climb 45 = .ok (.getfield 52, 3) := by decide +kernel
theorem dX9_climb_48 : decode cX9_climb 48 = .ok (.aload_n 3, 1) := by decide +kernel
theorem dX9_climb_49 : decode cX9_climb 49 = .ok (.getfield 333, 3) := by decide +kernel
theorem dX9_climb_52 : decode cX9_climb 52 = .ok (.iload_n 2, 1) := by decide +kernel
theorem dX9_climb_53 : decode cX9_climb 53 = .ok (.invokevirtual 334, 3) := by decide +kernel
theorem dX9_climb_56 : decode cX9_climb 56 = .ok (.invokevirtual 169, 3) := by decide +kernel
theorem dX9_climb_59 : decode cX9_climb 59 = .ok (.ireturn, 1) := by decide +kernel
theorem dX9_lost_0 : decode cX9_lost 0 = .ok (.aload_n 0, 1) := by decide +kernel
theorem dX9_lost_1 : decode cX9_lost 1 = .ok (.getfield 52, 3) := by decide +kernel
theorem dX9_lost_4 : decode cX9_lost 4 = .ok (.getfield 318, 3) := by decide +kernel
theorem dX9_lost_7 : decode cX9_lost 7 = .ok (.ifCond .ne 9, 3) := by decide +kernel
theorem dX9_lost_10 : decode cX9_lost 10 = .ok (.aload_n 0, 1) := by decide +kernel
theorem dX9_lost_11 : decode cX9_lost 11 = .ok (.iconst 1, 1) := by decide +kernel
theorem dX9_lost_12 : decode cX9_lost 12 = .ok (.invokevirtual 162, 3) := by decide +kernel
theorem dX9_lost_15 : decode cX9_lost 15 = .ok (.ireturn, 1) := by decide +kernel
theorem dX9_lost_16 : decode cX9_lost 16 = .ok (.iload_n 1, 1) := by decide +kernel
theorem dX9_lost_17 : decode cX9_lost 17 = .ok (.iconst 0, 1) := by decide +kernel
theorem dX9_lost_18 : decode cX9_lost 18 = .ok (.sipush 500, 3) := by decide +kernel
theorem dX9_lost_21 : decode cX9_lost 21 = .ok (.invokestatic 78, 3) := by decide +kernel
theorem dX9_lost_24 : decode cX9_lost 24 = .ok (.ifCond .ne 9, 3) := by decide +kernel
theorem dX9_lost_27 : decode cX9_lost 27 = .ok (.aload_n 0, 1) := by decide +kernel
theorem dX9_lost_28 : decode cX9_lost 28 = .ok (.iconst 2, 1) := by decide +kernel
theorem dX9_lost_29 : decode cX9_lost 29 = .ok (.invokevirtual 162, 3) := by decide +kernel
theorem dX9_lost_32 : decode cX9_lost 32 = .ok (.ireturn, 1) := by decide +kernel
theorem dX9_lost_33 : decode cX9_lost 33 = .ok (.iconst 0, 1) := by decide +kernel
theorem dX9_lost_34 : decode cX9_lost 34 = .ok (.istore_n 2, 1) := by decide +kernel
theorem dX9_lost_35 : decode cX9_lost 35 = .ok (.iconst 0, 1) := by decide +kernel
theorem dX9_lost_36 : decode cX9_lost 36 = .ok (.istore_n 3, 1) := by decide +kernel
theorem dX9_lost_37 : decode cX9_lost 37 = .ok (.iload_n 3, 1) := by decide +kernel
theorem dX9_lost_38 : decode cX9_lost 38 = .ok (.aload_n 0, 1) := by decide +kernel
theorem dX9_lost_39 : decode cX9_lost 39 = .ok (.getfield 324, 3) := by decide +kernel
theorem dX9_lost_42 : decode cX9_lost 42 = .ok (.if_icmp .ge 55, 3) := by decide +kernel
theorem dX9_lost_45 : decode cX9_lost 45 = .ok (.aload_n 0, 1) := by decide +kernel
theorem dX9_lost_46 : decode cX9_lost 46 = .ok (.iload_n 3, 1) := by decide +kernel
theorem dX9_lost_47 : decode cX9_lost 47 = .ok (.invokevirtual 329, 3) := by decide +kernel
theorem dX9_lost_50 : decode cX9_lost 50 = .ok (.astore 4, 2) := by decide +kernel
theorem dX9_lost_52 : decode cX9_lost 52 = .ok (.aload 4, 2) := by decide +kernel
theorem dX9_lost_54 : decode cX9_lost 54 = .ok (.ifnull 37, 3) := by decide +kernel
theorem dX9_lost_57 : decode cX9_lost 57 = .ok (.aload 4, 2) := by decide +kernel
theorem dX9_lost_59 : decode cX9_lost 59 = .ok (.getfield 337, 3) := by decide +kernel
theorem dX9_lost_62 : decode cX9_lost 62 = .ok (.ifCond .ne 29, 3) := by decide +kernel
theorem dX9_lost_65 : decode cX9_lost 65 = .ok (.aload_n 0, 1) := by decide +kernel
theorem dX9_lost_66 : decode cX9_lost 66 = .ok (.getfield 52, 3) := by decide +kernel
theorem dX9_lost_69 : decode cX9_lost 69 = .ok (.aload 4, 2) := by decide +kernel
theorem dX9_lost_71 : decode cX9_lost 71 = .ok (.getfield 333, 3) := by decide +kernel
theorem dX9_lost_74 : decode cX9_lost 74 = .ok (.iload_n 1, 1) := by decide +kernel
theorem dX9_lost_75 : decode cX9_lost 75 = .ok (.invokevirtual 334, 3) := by decide +kernel
theorem dX9_lost_78 : decode cX9_lost 78 = .ok (.bipush (-2), 2) := by decide +kernel
theorem dX9_lost_80 : decode cX9_lost 80 = .ok (.if_icmp .ne 11, 3) := by decide +kernel
theorem dX9_lost_83 : decode cX9_lost 83 = .ok (.iload_n 2, 1) := by decide +kernel
theorem dX9_lost_84 : decode cX9_lost 84 = .ok (.aload 4, 2) := by decide +kernel
theorem dX9_lost_86 : decode cX9_lost 86 = .ok (.getfield 340, 3) := by decide +kernel
theorem dX9_lost_89 : decode cX9_lost 89 = .ok (.iadd, 1) := by decide +kernel
theorem dX9_lost_90 : decode cX9_lost 90 = .ok (.istore_n 2, 1) := by decide +kernel
theorem dX9_lost_91 : decode cX9_lost 91 = .ok (.iinc 3 1, 3) := by decide +kernel
theorem dX9_lost_94 : decode cX9_lost 94 = .ok (.goto (-57), 3) := by decide +kernel
theorem dX9_lost_97 : decode cX9_lost 97 = .ok (.aload_n 0, 1) := by decide +kernel
theorem dX9_lost_98 : decode cX9_lost 98 = .ok (.iload_n 2, 1) := by decide +kernel
theorem dX9_lost_99 : decode cX9_lost 99 = .ok (.invokevirtual 169, 3) := by decide +kernel
theorem dX9_lost_102 : decode cX9_lost 102 = .ok (.ireturn, 1) := by decide +kernel
theorem dX9_moved_0 : decode cX9_moved 0 = .ok (.aload_n 0, 1) := by decide +kernel
theorem dX9_moved_1 : decode cX9_moved 1 = .ok (.iload_n 1, 1) := by decide +kernel
theorem dX9_moved_2 : decode cX9_moved 2 = .ok (.invokevirtual 329, 3) := by decide +kernel
theorem dX9_moved_5 : decode cX9_moved 5 = .ok (.astore_n 3, 1) := by decide +kernel
theorem dX9_moved_6 : decode cX9_moved 6 = .ok (.aload_n 3, 1) := by decide +kernel
theorem dX9_moved_7 : decode cX9_moved 7 = .ok (.ifnonnull 9, 3) := by decide +kernel
theorem dX9_moved_10 : decode cX9_moved 10 = .ok (.aload_n 0, 1) := by decide +kernel
theorem dX9_moved_11 : decode cX9_moved 11 = .ok (.iconst 1, 1) := by decide +kernel
theorem dX9_moved_12 : decode cX9_moved 12 = .ok (.invokevirtual 74, 3) := by decide +kernel
theorem dX9_moved_15 : decode cX9_moved 15 = .ok (.ireturn, 1) := by decide +kernel
theorem dX9_moved_16 : decode cX9_moved 16 = .ok (.aload_n 3, 1) := by decide +kernel
theorem dX9_moved_17 : decode cX9_moved 17 = .ok (.getfield 337, 3) := by decide +kernel
theorem dX9_moved_20 : decode cX9_moved 20 = .ok (.iload_n 2, 1) := by decide +kernel
theorem dX9_moved_21 : decode cX9_moved 21 = .ok (.if_icmp .ne 9, 3) := by decide +kernel
theorem dX9_moved_24 : decode cX9_moved 24 = .ok (.aload_n 0, 1) := by decide +kernel
theorem dX9_moved_25 : decode cX9_moved 25 = .ok (.iconst 5, 1) := by decide +kernel
theorem dX9_moved_26 : decode cX9_moved 26 = .ok (.invokevirtual 74, 3) := by decide +kernel
theorem dX9_moved_29 : decode cX9_moved 29 = .ok (.ireturn, 1) := by decide +kernel
theorem dX9_moved_30 : decode cX9_moved 30 = .ok (.iload_n 2, 1) := by decide +kernel
theorem dX9_moved_31 : decode cX9_moved 31 = .ok (.ifCond .ne 21, 3) := by decide +kernel
theorem dX9_moved_34 : decode cX9_moved 34 = .ok (.aload_n 0, 1) := by decide +kernel
theorem dX9_moved_35 : decode cX9_moved 35 = .ok (.aload_n 3, 1) := by decide +kernel
theorem dX9_moved_36 : decode cX9_moved 36 = .ok (.getfield 333, 3) := by decide +kernel
theorem dX9_moved_39 : decode cX9_moved 39 = .ok (.invokevirtual 283, 3) := by decide +kernel
theorem dX9_moved_42 : decode cX9_moved 42 = .ok (.ifCond .ne 10, 3) := by decide +kernel
theorem dX9_moved_45 : decode cX9_moved 45 = .ok (.aload_n 0, 1) := by decide +kernel
theorem dX9_moved_46 : decode cX9_moved 46 = .ok (.bipush 6, 2) := by decide +kernel
theorem dX9_moved_48 : decode cX9_moved 48 = .ok (.invokevirtual 74, 3) := by decide +kernel
theorem dX9_moved_51 : decode cX9_moved 51 = .ok (.ireturn, 1) := by decide +kernel
theorem dX9_moved_52 : decode cX9_moved 52 = .ok (.aload_n 3, 1) := by decide +kernel
theorem dX9_moved_53 : decode cX9_moved 53 = .ok (.iload_n 2, 1) := by decide +kernel
theorem dX9_moved_54 : decode cX9_moved 54 = .ok (.putfield 337, 3) := by decide +kernel
theorem dX9_moved_57 : decode cX9_moved 57 = .ok (.aload_n 0, 1) := by decide +kernel
theorem dX9_moved_58 : decode cX9_moved 58 = .ok (.invokevirtual 86, 3) := by decide +kernel
theorem dX9_moved_61 : decode cX9_moved 61 = .ok (.ireturn, 1) := by decide +kernel
theorem dX9_pass_0 : decode cX9_pass 0 = .ok (.iload_n 1, 1) := by decide +kernel
theorem dX9_pass_1 : decode cX9_pass 1 = .ok (.iconst 1, 1) := by decide +kernel
theorem dX9_pass_2 : decode cX9_pass 2 = .ok (.bipush 60, 2) := by decide +kernel
theorem dX9_pass_4 : decode cX9_pass 4 = .ok (.invokestatic 78, 3) := by decide +kernel
theorem dX9_pass_7 : decode cX9_pass 7 = .ok (.ifCond .eq 15, 3) := by decide +kernel
theorem dX9_pass_10 : decode cX9_pass 10 = .ok (.aload_n 0, 1) := by decide +kernel
theorem dX9_pass_11 : decode cX9_pass 11 = .ok (.getfield 121, 3) := by decide +kernel
theorem dX9_pass_14 : decode cX9_pass 14 = .ok (.iload_n 1, 1) := by decide +kernel
theorem dX9_pass_15 : decode cX9_pass 15 = .ok (.iadd, 1) := by decide +kernel
theorem dX9_pass_16 : decode cX9_pass 16 = .ok (.sipush 2999, 3) := by decide +kernel
theorem dX9_pass_19 : decode cX9_pass 19 = .ok (.if_icmp .le 9, 3) := by decide +kernel
theorem dX9_pass_22 : decode cX9_pass 22 = .ok (.aload_n 0, 1) := by decide +kernel
theorem dX9_pass_23 : decode cX9_pass 23 = .ok (.iconst 2, 1) := by decide +kernel
theorem dX9_pass_24 : decode cX9_pass 24 = .ok (.invokevirtual 162, 3) := by decide +kernel
theorem dX9_pass_27 : decode cX9_pass 27 = .ok (.ireturn, 1) := by decide +kernel
theorem dX9_pass_28 : decode cX9_pass 28 = .ok (.iconst 0, 1) := by decide +kernel
theorem dX9_pass_29 : decode cX9_pass 29 = .ok (.istore_n 2, 1) := by decide +kernel
theorem dX9_pass_30 : decode cX9_pass 30 = .ok (.iconst 0, 1) := by decide +kernel
theorem dX9_pass_31 : decode cX9_pass 31 = .ok (.istore_n 3, 1) := by decide +kernel
theorem dX9_pass_32 : decode cX9_pass 32 = .ok (.iload_n 3, 1) := by decide +kernel
theorem dX9_pass_33 : decode cX9_pass 33 = .ok (.iload_n 1, 1) := by decide +kernel
theorem dX9_pass_34 : decode cX9_pass 34 = .ok (.if_icmp .ge 16, 3) := by decide +kernel
theorem dX9_pass_37 : decode cX9_pass 37 = .ok (.iload_n 2, 1) := by decide +kernel
theorem dX9_pass_38 : decode cX9_pass 38 = .ok (.aload_n 0, 1) := by decide +kernel
theorem dX9_pass_39 : decode cX9_pass 39 = .ok (.invokevirtual 343, 3) := by decide +kernel
theorem dX9_pass_42 : decode cX9_pass 42 = .ok (.iadd, 1) := by decide +kernel
theorem dX9_pass_43 : decode cX9_pass 43 = .ok (.istore_n 2, 1) := by decide +kernel
theorem dX9_pass_44 : decode cX9_pass 44 = .ok (.iinc 3 1, 3) := by decide +kernel
theorem dX9_pass_47 : decode cX9_pass 47 = .ok (.goto (-15), 3) := by decide +kernel
theorem dX9_pass_50 : decode cX9_pass 50 = .ok (.aload_n 0, 1) := by decide +kernel
theorem dX9_pass_51 : decode cX9_pass 51 = .ok (.dup, 1) := by decide +kernel
theorem dX9_pass_52 : decode cX9_pass 52 = .ok (.getfield 121, 3) := by decide +kernel
theorem dX9_pass_55 : decode cX9_pass 55 = .ok (.iload_n 1, 1) := by decide +kernel
theorem dX9_pass_56 : decode cX9_pass 56 = .ok (.iadd, 1) := by decide +kernel
theorem dX9_pass_57 : decode cX9_pass 57 = .ok (.putfield 121, 3) := by decide +kernel
theorem dX9_pass_60 : decode cX9_pass 60 = .ok (.aload_n 0, 1) := by decide +kernel
theorem dX9_pass_61 : decode cX9_pass 61 = .ok (.bipush (-2), 2) := by decide +kernel
theorem dX9_pass_63 : decode cX9_pass 63 = .ok (.putfield 62, 3) := by decide +kernel
theorem dX9_pass_66 : decode cX9_pass 66 = .ok (.aload_n 0, 1) := by decide +kernel
theorem dX9_pass_67 : decode cX9_pass 67 = .ok (.dup, 1) := by decide +kernel
theorem dX9_pass_68 : decode cX9_pass 68 = .ok (.getfield 346, 3) := by decide +kernel
theorem dX9_pass_71 : decode cX9_pass 71 = .ok (.iload_n 2, 1) := by decide +kernel
theorem dX9_pass_72 : decode cX9_pass 72 = .ok (.iadd, 1) := by decide +kernel
theorem dX9_pass_73 : decode cX9_pass 73 = .ok (.putfield 346, 3) := by decide +kernel
theorem dX9_pass_76 : decode cX9_pass 76 = .ok (.aload_n 0, 1) := by decide +kernel
theorem dX9_pass_77 : decode cX9_pass 77 = .ok (.iload_n 2, 1) := by decide +kernel
theorem dX9_pass_78 : decode cX9_pass 78 = .ok (.invokevirtual 169, 3) := by decide +kernel
theorem dX9_pass_81 : decode cX9_pass 81 = .ok (.ireturn, 1) := by decide +kernel
theorem dX9_count_0 : decode cX9_count 0 = .ok (.iload_n 1, 1) := by decide +kernel
theorem dX9_count_1 : decode cX9_count 1 = .ok (.tableswitch 117 0 9 #[55, 60, 68, 76, 84, 89, 94, 99, 104, 109], 55) := by decide +kernel
theorem dX9_count_56 : decode cX9_count 56 = .ok (.aload_n 0, 1) := by decide +kernel
theorem dX9_count_57 : decode cX9_count 57 = .ok (.getfield 172, 3) := by decide +kernel
theorem dX9_count_60 : decode cX9_count 60 = .ok (.ireturn, 1) := by decide +kernel
theorem dX9_count_61 : decode cX9_count 61 = .ok (.aload_n 0, 1) := by decide +kernel
theorem dX9_count_62 : decode cX9_count 62 = .ok (.getfield 38, 3) := by decide +kernel
theorem dX9_count_65 : decode cX9_count 65 = .ok (.getfield 252, 3) := by decide +kernel
theorem dX9_count_68 : decode cX9_count 68 = .ok (.ireturn, 1) := by decide +kernel
theorem dX9_count_69 : decode cX9_count 69 = .ok (.aload_n 0, 1) := by decide +kernel
theorem dX9_count_70 : decode cX9_count 70 = .ok (.getfield 45, 3) := by decide +kernel
theorem dX9_count_73 : decode cX9_count 73 = .ok (.getfield 349, 3) := by decide +kernel
theorem dX9_count_76 : decode cX9_count 76 = .ok (.ireturn, 1) := by decide +kernel
theorem dX9_count_77 : decode cX9_count 77 = .ok (.aload_n 0, 1) := by decide +kernel
theorem dX9_count_78 : decode cX9_count 78 = .ok (.getfield 45, 3) := by decide +kernel
theorem dX9_count_81 : decode cX9_count 81 = .ok (.getfield 352, 3) := by decide +kernel
theorem dX9_count_84 : decode cX9_count 84 = .ok (.ireturn, 1) := by decide +kernel
theorem dX9_count_85 : decode cX9_count 85 = .ok (.aload_n 0, 1) := by decide +kernel
theorem dX9_count_86 : decode cX9_count 86 = .ok (.getfield 324, 3) := by decide +kernel
theorem dX9_count_89 : decode cX9_count 89 = .ok (.ireturn, 1) := by decide +kernel
theorem dX9_count_90 : decode cX9_count 90 = .ok (.aload_n 0, 1) := by decide +kernel
theorem dX9_count_91 : decode cX9_count 91 = .ok (.invokevirtual 355, 3) := by decide +kernel
theorem dX9_count_94 : decode cX9_count 94 = .ok (.ireturn, 1) := by decide +kernel
theorem dX9_count_95 : decode cX9_count 95 = .ok (.aload_n 0, 1) := by decide +kernel
theorem dX9_count_96 : decode cX9_count 96 = .ok (.getfield 121, 3) := by decide +kernel
theorem dX9_count_99 : decode cX9_count 99 = .ok (.ireturn, 1) := by decide +kernel
theorem dX9_count_100 : decode cX9_count 100 = .ok (.aload_n 0, 1) := by decide +kernel
theorem dX9_count_101 : decode cX9_count 101 = .ok (.getfield 346, 3) := by decide +kernel
theorem dX9_count_104 : decode cX9_count 104 = .ok (.ireturn, 1) := by decide +kernel
theorem dX9_count_105 : decode cX9_count 105 = .ok (.aload_n 0, 1) := by decide +kernel
theorem dX9_count_106 : decode cX9_count 106 = .ok (.getfield 62, 3) := by decide +kernel
theorem dX9_count_109 : decode cX9_count 109 = .ok (.ireturn, 1) := by decide +kernel
theorem dX9_count_110 : decode cX9_count 110 = .ok (.aload_n 0, 1) := by decide +kernel
theorem dX9_count_111 : decode cX9_count 111 = .ok (.getfield 38, 3) := by decide +kernel
theorem dX9_count_114 : decode cX9_count 114 = .ok (.getfield 241, 3) := by decide +kernel
theorem dX9_count_117 : decode cX9_count 117 = .ok (.ireturn, 1) := by decide +kernel
theorem dX9_count_118 : decode cX9_count 118 = .ok (.iconst (-1), 1) := by decide +kernel
theorem dX9_count_119 : decode cX9_count 119 = .ok (.ireturn, 1) := by decide +kernel
theorem dX9_trouble_0 : decode cX9_trouble 0 = .ok (.aload_n 0, 1) := by decide +kernel
theorem dX9_trouble_1 : decode cX9_trouble 1 = .ok (.getfield 258, 3) := by decide +kernel
theorem dX9_trouble_4 : decode cX9_trouble 4 = .ok (.ireturn, 1) := by decide +kernel
theorem dX9_denied_0 : decode cX9_denied 0 = .ok (.aload_n 0, 1) := by decide +kernel
theorem dX9_denied_1 : decode cX9_denied 1 = .ok (.iload_n 1, 1) := by decide +kernel
theorem dX9_denied_2 : decode cX9_denied 2 = .ok (.putfield 258, 3) := by decide +kernel
theorem dX9_denied_5 : decode cX9_denied 5 = .ok (.iconst 0, 1) := by decide +kernel
theorem dX9_denied_6 : decode cX9_denied 6 = .ok (.ireturn, 1) := by decide +kernel
theorem dX9_granted_0 : decode cX9_granted 0 = .ok (.aload_n 0, 1) := by decide +kernel
theorem dX9_granted_1 : decode cX9_granted 1 = .ok (.iconst 0, 1) := by decide +kernel
theorem dX9_granted_2 : decode cX9_granted 2 = .ok (.putfield 258, 3) := by decide +kernel
theorem dX9_granted_5 : decode cX9_granted 5 = .ok (.iconst 1, 1) := by decide +kernel
theorem dX9_granted_6 : decode cX9_granted 6 = .ok (.ireturn, 1) := by decide +kernel
theorem dX9_refused_0 : decode cX9_refused 0 = .ok (.aload_n 0, 1) := by decide +kernel
theorem dX9_refused_1 : decode cX9_refused 1 = .ok (.iload_n 1, 1) := by decide +kernel
theorem dX9_refused_2 : decode cX9_refused 2 = .ok (.putfield 258, 3) := by decide +kernel
theorem dX9_refused_5 : decode cX9_refused 5 = .ok (.iconst (-1), 1) := by decide +kernel
theorem dX9_refused_6 : decode cX9_refused 6 = .ok (.ireturn, 1) := by decide +kernel
theorem dX9_answered_0 : decode cX9_answered 0 = .ok (.aload_n 0, 1) := by decide +kernel
theorem dX9_answered_1 : decode cX9_answered 1 = .ok (.iconst 0, 1) := by decide +kernel
theorem dX9_answered_2 : decode cX9_answered 2 = .ok (.putfield 258, 3) := by decide +kernel
theorem dX9_answered_5 : decode cX9_answered 5 = .ok (.iload_n 1, 1) := by decide +kernel
theorem dX9_answered_6 : decode cX9_answered 6 = .ok (.ireturn, 1) := by decide +kernel
theorem dX9_isWithin_0 : decode cX9_isWithin 0 = .ok (.iload_n 0, 1) := by decide +kernel
theorem dX9_isWithin_1 : decode cX9_isWithin 1 = .ok (.iload_n 1, 1) := by decide +kernel
theorem dX9_isWithin_2 : decode cX9_isWithin 2 = .ok (.if_icmp .lt 12, 3) := by decide +kernel
theorem dX9_isWithin_5 : decode cX9_isWithin 5 = .ok (.iload_n 0, 1) := by decide +kernel
theorem dX9_isWithin_6 : decode cX9_isWithin 6 = .ok (.iload_n 2, 1) := by decide +kernel
theorem dX9_isWithin_7 : decode cX9_isWithin 7 = .ok (.if_icmp .gt 7, 3) := by decide +kernel
theorem dX9_isWithin_10 : decode cX9_isWithin 10 = .ok (.iconst 1, 1) := by decide +kernel
theorem dX9_isWithin_11 : decode cX9_isWithin 11 = .ok (.goto 4, 3) := by decide +kernel
theorem dX9_isWithin_14 : decode cX9_isWithin 14 = .ok (.iconst 0, 1) := by decide +kernel
theorem dX9_isWithin_15 : decode cX9_isWithin 15 = .ok (.ireturn, 1) := by decide +kernel
theorem dX9_isLayer_0 : decode cX9_isLayer 0 = .ok (.iload_n 0, 1) := by decide +kernel
theorem dX9_isLayer_1 : decode cX9_isLayer 1 = .ok (.ifCond .lt 13, 3) := by decide +kernel
theorem dX9_isLayer_4 : decode cX9_isLayer 4 = .ok (.iload_n 0, 1) := by decide +kernel
theorem dX9_isLayer_5 : decode cX9_isLayer 5 = .ok (.bipush 10, 2) := by decide +kernel
theorem dX9_isLayer_7 : decode cX9_isLayer 7 = .ok (.if_icmp .ge 7, 3) := by decide +kernel
theorem dX9_isLayer_10 : decode cX9_isLayer 10 = .ok (.iconst 1, 1) := by decide +kernel
theorem dX9_isLayer_11 : decode cX9_isLayer 11 = .ok (.goto 4, 3) := by decide +kernel
theorem dX9_isLayer_14 : decode cX9_isLayer 14 = .ok (.iconst 0, 1) := by decide +kernel
theorem dX9_isLayer_15 : decode cX9_isLayer 15 = .ok (.ireturn, 1) := by decide +kernel
theorem dX9_isCell_0 : decode cX9_isCell 0 = .ok (.iload_n 0, 1) := by decide +kernel
theorem dX9_isCell_1 : decode cX9_isCell 1 = .ok (.ifCond .lt 14, 3) := by decide +kernel
theorem dX9_isCell_4 : decode cX9_isCell 4 = .ok (.iload_n 0, 1) := by decide +kernel
theorem dX9_isCell_5 : decode cX9_isCell 5 = .ok (.sipush 400, 3) := by decide +kernel
theorem dX9_isCell_8 : decode cX9_isCell 8 = .ok (.if_icmp .ge 7, 3) := by decide +kernel
theorem dX9_isCell_11 : decode cX9_isCell 11 = .ok (.iconst 1, 1) := by decide +kernel
theorem dX9_isCell_12 : decode cX9_isCell 12 = .ok (.goto 4, 3) := by decide +kernel
theorem dX9_isCell_15 : decode cX9_isCell 15 = .ok (.iconst 0, 1) := by decide +kernel
theorem dX9_isCell_16 : decode cX9_isCell 16 = .ok (.ireturn, 1) := by decide +kernel
theorem dX9_stringOf_0 : decode cX9_stringOf 0 = .ok (.iload_n 0, 1) := by decide +kernel
theorem dX9_stringOf_1 : decode cX9_stringOf 1 = .ok (.bipush 10, 2) := by decide +kernel
theorem dX9_stringOf_3 : decode cX9_stringOf 3 = .ok (.imul, 1) := by decide +kernel
theorem dX9_stringOf_4 : decode cX9_stringOf 4 = .ok (.iload_n 1, 1) := by decide +kernel
theorem dX9_stringOf_5 : decode cX9_stringOf 5 = .ok (.iadd, 1) := by decide +kernel
theorem dX9_stringOf_6 : decode cX9_stringOf 6 = .ok (.ireturn, 1) := by decide +kernel
theorem dX9_lakeAt_0 : decode cX9_lakeAt 0 = .ok (.iload_n 1, 1) := by decide +kernel
theorem dX9_lakeAt_1 : decode cX9_lakeAt 1 = .ok (.ifCond .lt 21, 3) := by decide +kernel
theorem dX9_lakeAt_4 : decode cX9_lakeAt 4 = .ok (.iload_n 1, 1) := by decide +kernel
theorem dX9_lakeAt_5 : decode cX9_lakeAt 5 = .ok (.aload_n 0, 1) := by decide +kernel
theorem dX9_lakeAt_6 : decode cX9_lakeAt 6 = .ok (.getfield 11, 3) := by decide +kernel
theorem dX9_lakeAt_9 : decode cX9_lakeAt 9 = .ok (.arraylength, 1) := by decide +kernel
theorem dX9_lakeAt_10 : decode cX9_lakeAt 10 = .ok (.if_icmp .ge 12, 3) := by decide +kernel
theorem dX9_lakeAt_13 : decode cX9_lakeAt 13 = .ok (.aload_n 0, 1) := by decide +kernel
theorem dX9_lakeAt_14 : decode cX9_lakeAt 14 = .ok (.getfield 11, 3) := by decide +kernel
theorem dX9_lakeAt_17 : decode cX9_lakeAt 17 = .ok (.iload_n 1, 1) := by decide +kernel
theorem dX9_lakeAt_18 : decode cX9_lakeAt 18 = .ok (.aaload, 1) := by decide +kernel
theorem dX9_lakeAt_19 : decode cX9_lakeAt 19 = .ok (.goto 4, 3) := by decide +kernel
theorem dX9_lakeAt_22 : decode cX9_lakeAt 22 = .ok (.aconst_null, 1) := by decide +kernel
theorem dX9_lakeAt_23 : decode cX9_lakeAt 23 = .ok (.areturn, 1) := by decide +kernel
theorem dX9_pipeAt_0 : decode cX9_pipeAt 0 = .ok (.iload_n 1, 1) := by decide +kernel
theorem dX9_pipeAt_1 : decode cX9_pipeAt 1 = .ok (.ifCond .lt 29, 3) := by decide +kernel
theorem dX9_pipeAt_4 : decode cX9_pipeAt 4 = .ok (.iload_n 1, 1) := by decide +kernel
theorem dX9_pipeAt_5 : decode cX9_pipeAt 5 = .ok (.aload_n 0, 1) := by decide +kernel
theorem dX9_pipeAt_6 : decode cX9_pipeAt 6 = .ok (.getfield 172, 3) := by decide +kernel
theorem dX9_pipeAt_9 : decode cX9_pipeAt 9 = .ok (.if_icmp .ge 21, 3) := by decide +kernel
theorem dX9_pipeAt_12 : decode cX9_pipeAt 12 = .ok (.iload_n 1, 1) := by decide +kernel
theorem dX9_pipeAt_13 : decode cX9_pipeAt 13 = .ok (.aload_n 0, 1) := by decide +kernel
theorem dX9_pipeAt_14 : decode cX9_pipeAt 14 = .ok (.getfield 24, 3) := by decide +kernel
theorem dX9_pipeAt_17 : decode cX9_pipeAt 17 = .ok (.arraylength, 1) := by decide +kernel
theorem dX9_pipeAt_18 : decode cX9_pipeAt 18 = .ok (.if_icmp .ge 12, 3) := by decide +kernel
theorem dX9_pipeAt_21 : decode cX9_pipeAt 21 = .ok (.aload_n 0, 1) := by decide +kernel
theorem dX9_pipeAt_22 : decode cX9_pipeAt 22 = .ok (.getfield 24, 3) := by decide +kernel
theorem dX9_pipeAt_25 : decode cX9_pipeAt 25 = .ok (.iload_n 1, 1) := by decide +kernel
theorem dX9_pipeAt_26 : decode cX9_pipeAt 26 = .ok (.aaload, 1) := by decide +kernel
theorem dX9_pipeAt_27 : decode cX9_pipeAt 27 = .ok (.goto 4, 3) := by decide +kernel
theorem dX9_pipeAt_30 : decode cX9_pipeAt 30 = .ok (.aconst_null, 1) := by decide +kernel
theorem dX9_pipeAt_31 : decode cX9_pipeAt 31 = .ok (.areturn, 1) := by decide +kernel
theorem dX9_villageAt_0 : decode cX9_villageAt 0 = .ok (.iload_n 1, 1) := by decide +kernel
theorem dX9_villageAt_1 : decode cX9_villageAt 1 = .ok (.ifCond .lt 29, 3) := by decide +kernel
theorem dX9_villageAt_4 : decode cX9_villageAt 4 = .ok (.iload_n 1, 1) := by decide +kernel
theorem dX9_villageAt_5 : decode cX9_villageAt 5 = .ok (.aload_n 0, 1) := by decide +kernel
theorem dX9_villageAt_6 : decode cX9_villageAt 6 = .ok (.getfield 324, 3) := by decide +kernel
theorem dX9_villageAt_9 : decode cX9_villageAt 9 = .ok (.if_icmp .ge 21, 3) := by decide +kernel
theorem dX9_villageAt_12 : decode cX9_villageAt 12 = .ok (.iload_n 1, 1) := by decide +kernel
theorem dX9_villageAt_13 : decode cX9_villageAt 13 = .ok (.aload_n 0, 1) := by decide +kernel
theorem dX9_villageAt_14 : decode cX9_villageAt 14 = .ok (.getfield 58, 3) := by decide +kernel
theorem dX9_villageAt_17 : decode cX9_villageAt 17 = .ok (.arraylength, 1) := by decide +kernel
theorem dX9_villageAt_18 : decode cX9_villageAt 18 = .ok (.if_icmp .ge 12, 3) := by decide +kernel
theorem dX9_villageAt_21 : decode cX9_villageAt 21 = .ok (.aload_n 0, 1) := by decide +kernel
theorem dX9_villageAt_22 : decode cX9_villageAt 22 = .ok (.getfield 58, 3) := by decide +kernel
theorem dX9_villageAt_25 : decode cX9_villageAt 25 = .ok (.iload_n 1, 1) := by decide +kernel
theorem dX9_villageAt_26 : decode cX9_villageAt 26 = .ok (.aaload, 1) := by decide +kernel
theorem dX9_villageAt_27 : decode cX9_villageAt 27 = .ok (.goto 4, 3) := by decide +kernel
theorem dX9_villageAt_30 : decode cX9_villageAt 30 = .ok (.aconst_null, 1) := by decide +kernel
theorem dX9_villageAt_31 : decode cX9_villageAt 31 = .ok (.areturn, 1) := by decide +kernel
theorem dX9_villagesAway_0 : decode cX9_villagesAway 0 = .ok (.iconst 0, 1) := by decide +kernel
theorem dX9_villagesAway_1 : decode cX9_villagesAway 1 = .ok (.istore_n 1, 1) := by decide +kernel
theorem dX9_villagesAway_2 : decode cX9_villagesAway 2 = .ok (.iconst 0, 1) := by decide +kernel
theorem dX9_villagesAway_3 : decode cX9_villagesAway 3 = .ok (.istore_n 2, 1) := by decide +kernel
theorem dX9_villagesAway_4 : decode cX9_villagesAway 4 = .ok (.iload_n 2, 1) := by decide +kernel
theorem dX9_villagesAway_5 : decode cX9_villagesAway 5 = .ok (.aload_n 0, 1) := by decide +kernel
theorem dX9_villagesAway_6 : decode cX9_villagesAway 6 = .ok (.getfield 324, 3) := by decide +kernel
theorem dX9_villagesAway_9 : decode cX9_villagesAway 9 = .ok (.if_icmp .ge 29, 3) := by decide +kernel
theorem dX9_villagesAway_12 : decode cX9_villagesAway 12 = .ok (.aload_n 0, 1) := by decide +kernel
theorem dX9_villagesAway_13 : decode cX9_villagesAway 13 = .ok (.iload_n 2, 1) := by decide +kernel
theorem dX9_villagesAway_14 : decode cX9_villagesAway 14 = .ok (.invokevirtual 329, 3) := by decide +kernel
theorem dX9_villagesAway_17 : decode cX9_villagesAway 17 = .ok (.astore_n 3, 1) := by decide +kernel
theorem dX9_villagesAway_18 : decode cX9_villagesAway 18 = .ok (.aload_n 3, 1) := by decide +kernel
theorem dX9_villagesAway_19 : decode cX9_villagesAway 19 = .ok (.ifnull 13, 3) := by decide +kernel
theorem dX9_villagesAway_22 : decode cX9_villagesAway 22 = .ok (.aload_n 3, 1) := by decide +kernel
theorem dX9_villagesAway_23 : decode cX9_villagesAway 23 = .ok (.getfield 337, 3) := by decide +kernel
theorem dX9_villagesAway_26 : decode cX9_villagesAway 26 = .ok (.ifCond .eq 6, 3) := by decide +kernel
theorem dX9_villagesAway_29 : decode cX9_villagesAway 29 = .ok (.iinc 1 1, 3) := by decide +kernel
theorem dX9_villagesAway_32 : decode cX9_villagesAway 32 = .ok (.iinc 2 1, 3) := by decide +kernel
theorem dX9_villagesAway_35 : decode cX9_villagesAway 35 = .ok (.goto (-31), 3) := by decide +kernel
theorem dX9_villagesAway_38 : decode cX9_villagesAway 38 = .ok (.iload_n 1, 1) := by decide +kernel
theorem dX9_villagesAway_39 : decode cX9_villagesAway 39 = .ok (.ireturn, 1) := by decide +kernel
theorem dX9_goOnADay_0 : decode cX9_goOnADay 0 = .ok (.iconst 0, 1) := by decide +kernel
theorem dX9_goOnADay_1 : decode cX9_goOnADay 1 = .ok (.istore_n 1, 1) := by decide +kernel
theorem dX9_goOnADay_2 : decode cX9_goOnADay 2 = .ok (.iconst 0, 1) := by decide +kernel
theorem dX9_goOnADay_3 : decode cX9_goOnADay 3 = .ok (.istore_n 2, 1) := by decide +kernel
theorem dX9_goOnADay_4 : decode cX9_goOnADay 4 = .ok (.iload_n 2, 1) := by decide +kernel
theorem dX9_goOnADay_5 : decode cX9_goOnADay 5 = .ok (.aload_n 0, 1) := by decide +kernel
theorem dX9_goOnADay_6 : decode cX9_goOnADay 6 = .ok (.getfield 11, 3) := by decide +kernel
theorem dX9_goOnADay_9 : decode cX9_goOnADay 9 = .ok (.arraylength, 1) := by decide +kernel
theorem dX9_goOnADay_10 : decode cX9_goOnADay 10 = .ok (.if_icmp .ge 30, 3) := by decide +kernel
theorem dX9_goOnADay_13 : decode cX9_goOnADay 13 = .ok (.aload_n 0, 1) := by decide +kernel
theorem dX9_goOnADay_14 : decode cX9_goOnADay 14 = .ok (.getfield 11, 3) := by decide +kernel
theorem dX9_goOnADay_17 : decode cX9_goOnADay 17 = .ok (.iload_n 2, 1) := by decide +kernel
theorem dX9_goOnADay_18 : decode cX9_goOnADay 18 = .ok (.aaload, 1) := by decide +kernel
theorem dX9_goOnADay_19 : decode cX9_goOnADay 19 = .ok (.astore_n 3, 1) := by decide +kernel
theorem dX9_goOnADay_20 : decode cX9_goOnADay 20 = .ok (.aload_n 3, 1) := by decide +kernel
theorem dX9_goOnADay_21 : decode cX9_goOnADay 21 = .ok (.ifnull 13, 3) := by decide +kernel
theorem dX9_goOnADay_24 : decode cX9_goOnADay 24 = .ok (.aload_n 3, 1) := by decide +kernel
theorem dX9_goOnADay_25 : decode cX9_goOnADay 25 = .ok (.invokevirtual 358, 3) := by decide +kernel
theorem dX9_goOnADay_28 : decode cX9_goOnADay 28 = .ok (.ifCond .eq 6, 3) := by decide +kernel
theorem dX9_goOnADay_31 : decode cX9_goOnADay 31 = .ok (.iinc 1 1, 3) := by decide +kernel
theorem dX9_goOnADay_34 : decode cX9_goOnADay 34 = .ok (.iinc 2 1, 3) := by decide +kernel
theorem dX9_goOnADay_37 : decode cX9_goOnADay 37 = .ok (.goto (-33), 3) := by decide +kernel
theorem dX9_goOnADay_40 : decode cX9_goOnADay 40 = .ok (.iload_n 1, 1) := by decide +kernel
theorem dX9_goOnADay_41 : decode cX9_goOnADay 41 = .ok (.ireturn, 1) := by decide +kernel
theorem dX9_fullTold_0 : decode cX9_fullTold 0 = .ok (.iconst 0, 1) := by decide +kernel
theorem dX9_fullTold_1 : decode cX9_fullTold 1 = .ok (.istore_n 3, 1) := by decide +kernel
theorem dX9_fullTold_2 : decode cX9_fullTold 2 = .ok (.iconst 0, 1) := by decide +kernel
theorem dX9_fullTold_3 : decode cX9_fullTold 3 = .ok (.istore 4, 2) := by decide +kernel
theorem dX9_fullTold_5 : decode cX9_fullTold 5 = .ok (.iload 4, 2) := by decide +kernel
theorem dX9_fullTold_7 : decode cX9_fullTold 7 = .ok (.bipush 10, 2) := by decide +kernel
theorem dX9_fullTold_9 : decode cX9_fullTold 9 = .ok (.if_icmp .ge 46, 3) := by decide +kernel
theorem dX9_fullTold_12 : decode cX9_fullTold 12 = .ok (.aload_n 2, 1) := by decide +kernel
theorem dX9_fullTold_13 : decode cX9_fullTold 13 = .ok (.iload 4, 2) := by decide +kernel
theorem dX9_fullTold_15 : decode cX9_fullTold 15 = .ok (.invokevirtual 114, 3) := by decide +kernel
theorem dX9_fullTold_18 : decode cX9_fullTold 18 = .ok (.istore 5, 2) := by decide +kernel
theorem dX9_fullTold_20 : decode cX9_fullTold 20 = .ok (.iload_n 3, 1) := by decide +kernel
theorem dX9_fullTold_21 : decode cX9_fullTold 21 = .ok (.aload_n 0, 1) := by decide +kernel
theorem dX9_fullTold_22 : decode cX9_fullTold 22 = .ok (.getfield 45, 3) := by decide +kernel
theorem dX9_fullTold_25 : decode cX9_fullTold 25 = .ok (.iload_n 1, 1) := by decide +kernel
theorem dX9_fullTold_26 : decode cX9_fullTold 26 = .ok (.iload 4, 2) := by decide +kernel
theorem dX9_fullTold_28 : decode cX9_fullTold 28 = .ok (.invokestatic 117, 3) := by decide +kernel
theorem dX9_fullTold_31 : decode cX9_fullTold 31 = .ok (.aload_n 0, 1) := by decide +kernel
theorem dX9_fullTold_32 : decode cX9_fullTold 32 = .ok (.getfield 121, 3) := by decide +kernel
theorem dX9_fullTold_35 : decode cX9_fullTold 35 = .ok (.iload 5, 2) := by decide +kernel
theorem dX9_fullTold_37 : decode cX9_fullTold 37 = .ok (.invokevirtual 124, 3) := by decide +kernel
theorem dX9_fullTold_40 : decode cX9_fullTold 40 = .ok (.iload 5, 2) := by decide +kernel
theorem dX9_fullTold_42 : decode cX9_fullTold 42 = .ok (.invokestatic 361, 3) := by decide +kernel
theorem dX9_fullTold_45 : decode cX9_fullTold 45 = .ok (.invokestatic 364, 3) := by decide +kernel
theorem dX9_fullTold_48 : decode cX9_fullTold 48 = .ok (.istore_n 3, 1) := by decide +kernel
theorem dX9_fullTold_49 : decode cX9_fullTold 49 = .ok (.iinc 4 1, 3) := by decide +kernel
theorem dX9_fullTold_52 : decode cX9_fullTold 52 = .ok (.goto (-47), 3) := by decide +kernel
theorem dX9_fullTold_55 : decode cX9_fullTold 55 = .ok (.iload_n 3, 1) := by decide +kernel
theorem dX9_fullTold_56 : decode cX9_fullTold 56 = .ok (.ireturn, 1) := by decide +kernel
theorem dX9_fullBy_0 : decode cX9_fullBy 0 = .ok (.iload_n 0, 1) := by decide +kernel
theorem dX9_fullBy_1 : decode cX9_fullBy 1 = .ok (.ifCond .gt 5, 3) := by decide +kernel
theorem dX9_fullBy_4 : decode cX9_fullBy 4 = .ok (.iconst 0, 1) := by decide +kernel
theorem dX9_fullBy_5 : decode cX9_fullBy 5 = .ok (.ireturn, 1) := by decide +kernel
theorem dX9_fullBy_6 : decode cX9_fullBy 6 = .ok (.iload_n 1, 1) := by decide +kernel
theorem dX9_fullBy_7 : decode cX9_fullBy 7 = .ok (.ifCond .gt 9, 3) := by decide +kernel
theorem dX9_fullBy_10 : decode cX9_fullBy 10 = .ok (.sipush 999, 3) := by decide +kernel
theorem dX9_fullBy_13 : decode cX9_fullBy 13 = .ok (.goto 15, 3) := by decide +kernel
theorem dX9_fullBy_16 : decode cX9_fullBy 16 = .ok (.sipush 999, 3) := by decide +kernel
theorem dX9_fullBy_19 : decode cX9_fullBy 19 = .ok (.iload_n 0, 1) := by decide +kernel
theorem dX9_fullBy_20 : decode cX9_fullBy 20 = .ok (.bipush 100, 2) := by decide +kernel
theorem dX9_fullBy_22 : decode cX9_fullBy 22 = .ok (.imul, 1) := by decide +kernel
theorem dX9_fullBy_23 : decode cX9_fullBy 23 = .ok (.iload_n 1, 1) := by decide +kernel
theorem dX9_fullBy_24 : decode cX9_fullBy 24 = .ok (.idiv, 1) := by decide +kernel
theorem dX9_fullBy_25 : decode cX9_fullBy 25 = .ok (.invokestatic 369, 3) := by decide +kernel
theorem dX9_fullBy_28 : decode cX9_fullBy 28 = .ok (.ireturn, 1) := by decide +kernel
theorem dX9_daysToBurst_0 : decode cX9_daysToBurst 0 = .ok (.aload_n 0, 1) := by decide +kernel
theorem dX9_daysToBurst_1 : decode cX9_daysToBurst 1 = .ok (.getfield 18, 3) := by decide +kernel
theorem dX9_daysToBurst_4 : decode cX9_daysToBurst 4 = .ok (.aload_n 1, 1) := by decide +kernel
theorem dX9_daysToBurst_5 : decode cX9_daysToBurst 5 = .ok (.invokevirtual 225, 3) := by decide +kernel
theorem dX9_daysToBurst_8 : decode cX9_daysToBurst 8 = .ok (.iconst 1, 1) := by decide +kernel
theorem dX9_daysToBurst_9 : decode cX9_daysToBurst 9 = .ok (.istore_n 2, 1) := by decide +kernel
theorem dX9_daysToBurst_10 : decode cX9_daysToBurst 10 = .ok (.iload_n 2, 1) := by decide +kernel
theorem dX9_daysToBurst_11 : decode cX9_daysToBurst 11 = .ok (.sipush 365, 3) := by decide +kernel
theorem dX9_daysToBurst_14 : decode cX9_daysToBurst 14 = .ok (.if_icmp .gt 21, 3) := by decide +kernel
theorem dX9_daysToBurst_17 : decode cX9_daysToBurst 17 = .ok (.aload_n 0, 1) := by decide +kernel
theorem dX9_daysToBurst_18 : decode cX9_daysToBurst 18 = .ok (.getfield 18, 3) := by decide +kernel
theorem dX9_daysToBurst_21 : decode cX9_daysToBurst 21 = .ok (.invokevirtual 358, 3) := by decide +kernel
theorem dX9_daysToBurst_24 : decode cX9_daysToBurst 24 = .ok (.ifCond .eq 5, 3) := by decide +kernel
theorem dX9_daysToBurst_27 : decode cX9_daysToBurst 27 = .ok (.iload_n 2, 1) := by decide +kernel
theorem dX9_daysToBurst_28 : decode cX9_daysToBurst 28 = .ok (.ireturn, 1) := by decide +kernel
theorem dX9_daysToBurst_29 : decode cX9_daysToBurst 29 = .ok (.iinc 2 1, 3) := by decide +kernel
theorem dX9_daysToBurst_32 : decode cX9_daysToBurst 32 = .ok (.goto (-22), 3) := by decide +kernel
theorem dX9_daysToBurst_35 : decode cX9_daysToBurst 35 = .ok (.bipush (-2), 2) := by decide +kernel
theorem dX9_daysToBurst_37 : decode cX9_daysToBurst 37 = .ok (.ireturn, 1) := by decide +kernel
theorem dX9_daysToFull_0 : decode cX9_daysToFull 0 = .ok (.aload_n 0, 1) := by decide +kernel
theorem dX9_daysToFull_1 : decode cX9_daysToFull 1 = .ok (.getfield 18, 3) := by decide +kernel
theorem dX9_daysToFull_4 : decode cX9_daysToFull 4 = .ok (.aload_n 1, 1) := by decide +kernel
theorem dX9_daysToFull_5 : decode cX9_daysToFull 5 = .ok (.invokevirtual 225, 3) := by decide +kernel
theorem dX9_daysToFull_8 : decode cX9_daysToFull 8 = .ok (.iconst 0, 1) := by decide +kernel
theorem dX9_daysToFull_9 : decode cX9_daysToFull 9 = .ok (.istore_n 3, 1) := by decide +kernel
theorem dX9_daysToFull_10 : decode cX9_daysToFull 10 = .ok (.iload_n 3, 1) := by decide +kernel
theorem dX9_daysToFull_11 : decode cX9_daysToFull 11 = .ok (.sipush 365, 3) := by decide +kernel
theorem dX9_daysToFull_14 : decode cX9_daysToFull 14 = .ok (.if_icmp .gt 35, 3) := by decide +kernel
theorem dX9_daysToFull_17 : decode cX9_daysToFull 17 = .ok (.aload_n 0, 1) := by decide +kernel
theorem dX9_daysToFull_18 : decode cX9_daysToFull 18 = .ok (.getfield 18, 3) := by decide +kernel
theorem dX9_daysToFull_21 : decode cX9_daysToFull 21 = .ok (.invokevirtual 136, 3) := by decide +kernel
theorem dX9_daysToFull_24 : decode cX9_daysToFull 24 = .ok (.iload_n 2, 1) := by decide +kernel
theorem dX9_daysToFull_25 : decode cX9_daysToFull 25 = .ok (.if_icmp .lt 5, 3) := by decide +kernel
theorem dX9_daysToFull_28 : decode cX9_daysToFull 28 = .ok (.iload_n 3, 1) := by decide +kernel
theorem dX9_daysToFull_29 : decode cX9_daysToFull 29 = .ok (.ireturn, 1) := by decide +kernel
theorem dX9_daysToFull_30 : decode cX9_daysToFull 30 = .ok (.aload_n 0, 1) := by decide +kernel
theorem dX9_daysToFull_31 : decode cX9_daysToFull 31 = .ok (.getfield 18, 3) := by decide +kernel
theorem dX9_daysToFull_34 : decode cX9_daysToFull 34 = .ok (.invokevirtual 358, 3) := by decide +kernel
theorem dX9_daysToFull_37 : decode cX9_daysToFull 37 = .ok (.ifCond .eq 6, 3) := by decide +kernel
theorem dX9_daysToFull_40 : decode cX9_daysToFull 40 = .ok (.bipush (-2), 2) := by decide +kernel
theorem dX9_daysToFull_42 : decode cX9_daysToFull 42 = .ok (.ireturn, 1) := by decide +kernel
theorem dX9_daysToFull_43 : decode cX9_daysToFull 43 = .ok (.iinc 3 1, 3) := by decide +kernel
theorem dX9_daysToFull_46 : decode cX9_daysToFull 46 = .ok (.goto (-36), 3) := by decide +kernel
theorem dX9_daysToFull_49 : decode cX9_daysToFull 49 = .ok (.bipush (-2), 2) := by decide +kernel
theorem dX9_daysToFull_51 : decode cX9_daysToFull 51 = .ok (.ireturn, 1) := by decide +kernel
theorem dX9_bestByMoves_0 : decode cX9_bestByMoves 0 = .ok (.iconst 1, 1) := by decide +kernel
theorem dX9_bestByMoves_1 : decode cX9_bestByMoves 1 = .ok (.istore 5, 2) := by decide +kernel
theorem dX9_bestByMoves_3 : decode cX9_bestByMoves 3 = .ok (.iconst 0, 1) := by decide +kernel
theorem dX9_bestByMoves_4 : decode cX9_bestByMoves 4 = .ok (.istore 6, 2) := by decide +kernel
theorem dX9_bestByMoves_6 : decode cX9_bestByMoves 6 = .ok (.iload 6, 2) := by decide +kernel
theorem dX9_bestByMoves_8 : decode cX9_bestByMoves 8 = .ok (.aload_n 1, 1) := by decide +kernel
theorem dX9_bestByMoves_9 : decode cX9_bestByMoves 9 = .ok (.getfield 224, 3) := by decide +kernel
theorem dX9_bestByMoves_12 : decode cX9_bestByMoves 12 = .ok (.if_icmp .ge 16, 3) := by decide +kernel
theorem dX9_bestByMoves_15 : decode cX9_bestByMoves 15 = .ok (.iload 5, 2) := by decide +kernel
theorem dX9_bestByMoves_17 : decode cX9_bestByMoves 17 = .ok (.bipush 10, 2) := by decide +kernel
theorem dX9_bestByMoves_19 : decode cX9_bestByMoves 19 = .ok (.imul, 1) := by decide +kernel
theorem dX9_bestByMoves_20 : decode cX9_bestByMoves 20 = .ok (.istore 5, 2) := by decide +kernel
theorem dX9_bestByMoves_22 : decode cX9_bestByMoves 22 = .ok (.iinc 6 1, 3) := by decide +kernel
theorem dX9_bestByMoves_25 : decode cX9_bestByMoves 25 = .ok (.goto (-19), 3) := by decide +kernel
theorem dX9_bestByMoves_28 : decode cX9_bestByMoves 28 = .ok (.iload 4, 2) := by decide +kernel
theorem dX9_bestByMoves_30 : decode cX9_bestByMoves 30 = .ok (.istore 6, 2) := by decide +kernel
theorem dX9_bestByMoves_32 : decode cX9_bestByMoves 32 = .ok (.iconst 0, 1) := by decide +kernel
theorem dX9_bestByMoves_33 : decode cX9_bestByMoves 33 = .ok (.istore 7, 2) := by decide +kernel
theorem dX9_bestByMoves_35 : decode cX9_bestByMoves 35 = .ok (.iload 7, 2) := by decide +kernel
theorem dX9_bestByMoves_37 : decode cX9_bestByMoves 37 = .ok (.iload 5, 2) := by decide +kernel
theorem dX9_bestByMoves_39 : decode cX9_bestByMoves 39 = .ok (.if_icmp .ge 122, 3) := by decide +kernel
theorem dX9_bestByMoves_42 : decode cX9_bestByMoves 42 = .ok (.iload 6, 2) := by decide +kernel
theorem dX9_bestByMoves_44 : decode cX9_bestByMoves 44 = .ok (.iconst 1, 1) := by decide +kernel
theorem dX9_bestByMoves_45 : decode cX9_bestByMoves 45 = .ok (.if_icmp .le 116, 3) := by decide +kernel
theorem dX9_bestByMoves_48 : decode cX9_bestByMoves 48 = .ok (.aload_n 0, 1) := by decide +kernel
theorem dX9_bestByMoves_49 : decode cX9_bestByMoves 49 = .ok (.iload 7, 2) := by decide +kernel
theorem dX9_bestByMoves_51 : decode cX9_bestByMoves 51 = .ok (.aload_n 1, 1) := by decide +kernel
theorem dX9_bestByMoves_52 : decode cX9_bestByMoves 52 = .ok (.getfield 224, 3) := by decide +kernel
theorem dX9_bestByMoves_55 : decode cX9_bestByMoves 55 = .ok (.invokevirtual 372, 3) := by decide +kernel
theorem dX9_bestByMoves_58 : decode cX9_bestByMoves 58 = .ok (.aload_n 1, 1) := by decide +kernel
theorem dX9_bestByMoves_59 : decode cX9_bestByMoves 59 = .ok (.aload_n 0, 1) := by decide +kernel
theorem dX9_bestByMoves_60 : decode cX9_bestByMoves 60 = .ok (.getfield 28, 3) := by decide +kernel
theorem dX9_bestByMoves_63 : decode cX9_bestByMoves 63 = .ok (.invokevirtual 375, 3) := by decide +kernel
theorem dX9_bestByMoves_66 : decode cX9_bestByMoves 66 = .ok (.iload_n 3, 1) := by decide +kernel
theorem dX9_bestByMoves_67 : decode cX9_bestByMoves 67 = .ok (.if_icmp .ne 88, 3) := by decide +kernel
theorem dX9_bestByMoves_70 : decode cX9_bestByMoves 70 = .ok (.aload_n 0, 1) := by decide +kernel
theorem dX9_bestByMoves_71 : decode cX9_bestByMoves 71 = .ok (.getfield 18, 3) := by decide +kernel
theorem dX9_bestByMoves_74 : decode cX9_bestByMoves 74 = .ok (.aload_n 1, 1) := by decide +kernel
theorem dX9_bestByMoves_75 : decode cX9_bestByMoves 75 = .ok (.invokevirtual 225, 3) := by decide +kernel
theorem dX9_bestByMoves_78 : decode cX9_bestByMoves 78 = .ok (.iconst 0, 1) := by decide +kernel
theorem dX9_bestByMoves_79 : decode cX9_bestByMoves 79 = .ok (.istore 8, 2) := by decide +kernel
theorem dX9_bestByMoves_81 : decode cX9_bestByMoves 81 = .ok (.iload 8, 2) := by decide +kernel
theorem dX9_bestByMoves_83 : decode cX9_bestByMoves 83 = .ok (.aload_n 1, 1) := by decide +kernel
theorem dX9_bestByMoves_84 : decode cX9_bestByMoves 84 = .ok (.getfield 224, 3) := by decide +kernel
theorem dX9_bestByMoves_87 : decode cX9_bestByMoves 87 = .ok (.if_icmp .ge 35, 3) := by decide +kernel
theorem dX9_bestByMoves_90 : decode cX9_bestByMoves 90 = .ok (.iload 8, 2) := by decide +kernel
theorem dX9_bestByMoves_92 : decode cX9_bestByMoves 92 = .ok (.aload_n 0, 1) := by decide +kernel
theorem dX9_bestByMoves_93 : decode cX9_bestByMoves 93 = .ok (.getfield 28, 3) := by decide +kernel
theorem dX9_bestByMoves_96 : decode cX9_bestByMoves 96 = .ok (.arraylength, 1) := by decide +kernel
theorem dX9_bestByMoves_97 : decode cX9_bestByMoves 97 = .ok (.if_icmp .ge 25, 3) := by decide +kernel
theorem dX9_bestByMoves_100 : decode cX9_bestByMoves 100 = .ok (.aload_n 0, 1) := by decide +kernel
theorem dX9_bestByMoves_101 : decode cX9_bestByMoves 101 = .ok (.getfield 18, 3) := by decide +kernel
theorem dX9_bestByMoves_104 : decode cX9_bestByMoves 104 = .ok (.iload 8, 2) := by decide +kernel
theorem dX9_bestByMoves_106 : decode cX9_bestByMoves 106 = .ok (.aload_n 0, 1) := by decide +kernel
theorem dX9_bestByMoves_107 : decode cX9_bestByMoves 107 = .ok (.getfield 28, 3) := by decide +kernel
theorem dX9_bestByMoves_110 : decode cX9_bestByMoves 110 = .ok (.iload 8, 2) := by decide +kernel
theorem dX9_bestByMoves_112 : decode cX9_bestByMoves 112 = .ok (.iaload, 1) := by decide +kernel
theorem dX9_bestByMoves_113 : decode cX9_bestByMoves 113 = .ok (.invokevirtual 229, 3) := by decide +kernel
theorem dX9_bestByMoves_116 : decode cX9_bestByMoves 116 = .ok (.iinc 8 1, 3) := by decide +kernel
theorem dX9_bestByMoves_119 : decode cX9_bestByMoves 119 = .ok (.goto (-38), 3) := by decide +kernel
theorem dX9_bestByMoves_122 : decode cX9_bestByMoves 122 = .ok (.aload_n 0, 1) := by decide +kernel
theorem dX9_bestByMoves_123 : decode cX9_bestByMoves 123 = .ok (.getfield 18, 3) := by decide +kernel
theorem dX9_bestByMoves_126 : decode cX9_bestByMoves 126 = .ok (.iload_n 2, 1) := by decide +kernel
theorem dX9_bestByMoves_127 : decode cX9_bestByMoves 127 = .ok (.iload 6, 2) := by decide +kernel
theorem dX9_bestByMoves_129 : decode cX9_bestByMoves 129 = .ok (.iconst 1, 1) := by decide +kernel
theorem dX9_bestByMoves_130 : decode cX9_bestByMoves 130 = .ok (.isub, 1) := by decide +kernel
theorem dX9_bestByMoves_131 : decode cX9_bestByMoves 131 = .ok (.invokevirtual 232, 3) := by decide +kernel
theorem dX9_bestByMoves_134 : decode cX9_bestByMoves 134 = .ok (.istore 8, 2) := by decide +kernel
theorem dX9_bestByMoves_136 : decode cX9_bestByMoves 136 = .ok (.iload 8, 2) := by decide +kernel
theorem dX9_bestByMoves_138 : decode cX9_bestByMoves 138 = .ok (.bipush (-2), 2) := by decide +kernel
theorem dX9_bestByMoves_140 : decode cX9_bestByMoves 140 = .ok (.if_icmp .eq 15, 3) := by decide +kernel
theorem dX9_bestByMoves_143 : decode cX9_bestByMoves 143 = .ok (.iload 8, 2) := by decide +kernel
theorem dX9_bestByMoves_145 : decode cX9_bestByMoves 145 = .ok (.istore 6, 2) := by decide +kernel
theorem dX9_bestByMoves_147 : decode cX9_bestByMoves 147 = .ok (.aload_n 0, 1) := by decide +kernel
theorem dX9_bestByMoves_148 : decode cX9_bestByMoves 148 = .ok (.aload_n 1, 1) := by decide +kernel
theorem dX9_bestByMoves_149 : decode cX9_bestByMoves 149 = .ok (.getfield 224, 3) := by decide +kernel
theorem dX9_bestByMoves_152 : decode cX9_bestByMoves 152 = .ok (.invokevirtual 379, 3) := by decide +kernel
theorem dX9_bestByMoves_155 : decode cX9_bestByMoves 155 = .ok (.iinc 7 1, 3) := by decide +kernel
theorem dX9_bestByMoves_158 : decode cX9_bestByMoves 158 = .ok (.goto (-123), 3) := by decide +kernel
theorem dX9_bestByMoves_161 : decode cX9_bestByMoves 161 = .ok (.iload 6, 2) := by decide +kernel
theorem dX9_bestByMoves_163 : decode cX9_bestByMoves 163 = .ok (.ireturn, 1) := by decide +kernel
theorem dX9_spreadTrial_0 : decode cX9_spreadTrial 0 = .ok (.iload_n 1, 1) := by decide +kernel
theorem dX9_spreadTrial_1 : decode cX9_spreadTrial 1 = .ok (.istore_n 3, 1) := by decide +kernel
theorem dX9_spreadTrial_2 : decode cX9_spreadTrial 2 = .ok (.iload_n 2, 1) := by decide +kernel
theorem dX9_spreadTrial_3 : decode cX9_spreadTrial 3 = .ok (.aload_n 0, 1) := by decide +kernel
theorem dX9_spreadTrial_4 : decode cX9_spreadTrial 4 = .ok (.getfield 28, 3) := by decide +kernel
theorem dX9_spreadTrial_7 : decode cX9_spreadTrial 7 = .ok (.arraylength, 1) := by decide +kernel
theorem dX9_spreadTrial_8 : decode cX9_spreadTrial 8 = .ok (.invokestatic 369, 3) := by decide +kernel
theorem dX9_spreadTrial_11 : decode cX9_spreadTrial 11 = .ok (.iconst 1, 1) := by decide +kernel
theorem dX9_spreadTrial_12 : decode cX9_spreadTrial 12 = .ok (.isub, 1) := by decide +kernel
theorem dX9_spreadTrial_13 : decode cX9_spreadTrial 13 = .ok (.istore 4, 2) := by decide +kernel
theorem dX9_spreadTrial_15 : decode cX9_spreadTrial 15 = .ok (.iload 4, 2) := by decide +kernel
theorem dX9_spreadTrial_17 : decode cX9_spreadTrial 17 = .ok (.ifCond .lt 25, 3) := by decide +kernel
theorem dX9_spreadTrial_20 : decode cX9_spreadTrial 20 = .ok (.aload_n 0, 1) := by decide +kernel
theorem dX9_spreadTrial_21 : decode cX9_spreadTrial 21 = .ok (.getfield 28, 3) := by decide +kernel
theorem dX9_spreadTrial_24 : decode cX9_spreadTrial 24 = .ok (.iload 4, 2) := by decide +kernel
theorem dX9_spreadTrial_26 : decode cX9_spreadTrial 26 = .ok (.iload_n 3, 1) := by decide +kernel
theorem dX9_spreadTrial_27 : decode cX9_spreadTrial 27 = .ok (.bipush 10, 2) := by decide +kernel
theorem dX9_spreadTrial_29 : decode cX9_spreadTrial 29 = .ok (.irem, 1) := by decide +kernel
theorem dX9_spreadTrial_30 : decode cX9_spreadTrial 30 = .ok (.iastore, 1) := by decide +kernel
theorem dX9_spreadTrial_31 : decode cX9_spreadTrial 31 = .ok (.iload_n 3, 1) := by decide +kernel
theorem dX9_spreadTrial_32 : decode cX9_spreadTrial 32 = .ok (.bipush 10, 2) := by decide +kernel
theorem dX9_spreadTrial_34 : decode cX9_spreadTrial 34 = .ok (.idiv, 1) := by decide +kernel
theorem dX9_spreadTrial_35 : decode cX9_spreadTrial 35 = .ok (.istore_n 3, 1) := by decide +kernel
theorem dX9_spreadTrial_36 : decode cX9_spreadTrial 36 = .ok (.iinc 4 (-1), 3) := by decide +kernel
theorem dX9_spreadTrial_39 : decode cX9_spreadTrial 39 = .ok (.goto (-24), 3) := by decide +kernel
theorem dX9_spreadTrial_42 : decode cX9_spreadTrial 42 = .ok (.return_, 1) := by decide +kernel
theorem dX9_keepTrial_0 : decode cX9_keepTrial 0 = .ok (.iconst 0, 1) := by decide +kernel
theorem dX9_keepTrial_1 : decode cX9_keepTrial 1 = .ok (.istore_n 2, 1) := by decide +kernel
theorem dX9_keepTrial_2 : decode cX9_keepTrial 2 = .ok (.iload_n 2, 1) := by decide +kernel
theorem dX9_keepTrial_3 : decode cX9_keepTrial 3 = .ok (.aload_n 0, 1) := by decide +kernel
theorem dX9_keepTrial_4 : decode cX9_keepTrial 4 = .ok (.getfield 32, 3) := by decide +kernel
theorem dX9_keepTrial_7 : decode cX9_keepTrial 7 = .ok (.arraylength, 1) := by decide +kernel
theorem dX9_keepTrial_8 : decode cX9_keepTrial 8 = .ok (.if_icmp .ge 30, 3) := by decide +kernel
theorem dX9_keepTrial_11 : decode cX9_keepTrial 11 = .ok (.iload_n 2, 1) := by decide +kernel
theorem dX9_keepTrial_12 : decode cX9_keepTrial 12 = .ok (.aload_n 0, 1) := by decide +kernel
theorem dX9_keepTrial_13 : decode cX9_keepTrial 13 = .ok (.getfield 28, 3) := by decide +kernel
theorem dX9_keepTrial_16 : decode cX9_keepTrial 16 = .ok (.arraylength, 1) := by decide +kernel
theorem dX9_keepTrial_17 : decode cX9_keepTrial 17 = .ok (.if_icmp .ge 21, 3) := by decide +kernel
theorem dX9_keepTrial_20 : decode cX9_keepTrial 20 = .ok (.aload_n 0, 1) := by decide +kernel
theorem dX9_keepTrial_21 : decode cX9_keepTrial 21 = .ok (.getfield 32, 3) := by decide +kernel
theorem dX9_keepTrial_24 : decode cX9_keepTrial 24 = .ok (.iload_n 2, 1) := by decide +kernel
theorem dX9_keepTrial_25 : decode cX9_keepTrial 25 = .ok (.aload_n 0, 1) := by decide +kernel
theorem dX9_keepTrial_26 : decode cX9_keepTrial 26 = .ok (.getfield 28, 3) := by decide +kernel
theorem dX9_keepTrial_29 : decode cX9_keepTrial 29 = .ok (.iload_n 2, 1) := by decide +kernel
theorem dX9_keepTrial_30 : decode cX9_keepTrial 30 = .ok (.iaload, 1) := by decide +kernel
theorem dX9_keepTrial_31 : decode cX9_keepTrial 31 = .ok (.iastore, 1) := by decide +kernel
theorem dX9_keepTrial_32 : decode cX9_keepTrial 32 = .ok (.iinc 2 1, 3) := by decide +kernel
theorem dX9_keepTrial_35 : decode cX9_keepTrial 35 = .ok (.goto (-33), 3) := by decide +kernel
theorem dX9_keepTrial_38 : decode cX9_keepTrial 38 = .ok (.aload_n 0, 1) := by decide +kernel
theorem dX9_keepTrial_39 : decode cX9_keepTrial 39 = .ok (.iload_n 1, 1) := by decide +kernel
theorem dX9_keepTrial_40 : decode cX9_keepTrial 40 = .ok (.putfield 218, 3) := by decide +kernel
theorem dX9_keepTrial_43 : decode cX9_keepTrial 43 = .ok (.return_, 1) := by decide +kernel
theorem dX9_crewMayGo_0 : decode cX9_crewMayGo 0 = .ok (.aload_n 0, 1) := by decide +kernel
theorem dX9_crewMayGo_1 : decode cX9_crewMayGo 1 = .ok (.getfield 62, 3) := by decide +kernel
theorem dX9_crewMayGo_4 : decode cX9_crewMayGo 4 = .ok (.bipush (-2), 2) := by decide +kernel
theorem dX9_crewMayGo_6 : decode cX9_crewMayGo 6 = .ok (.if_icmp .eq 13, 3) := by decide +kernel
theorem dX9_crewMayGo_9 : decode cX9_crewMayGo 9 = .ok (.aload_n 0, 1) := by decide +kernel
theorem dX9_crewMayGo_10 : decode cX9_crewMayGo 10 = .ok (.getfield 62, 3) := by decide +kernel
theorem dX9_crewMayGo_13 : decode cX9_crewMayGo 13 = .ok (.iload_n 1, 1) := by decide +kernel
theorem dX9_crewMayGo_14 : decode cX9_crewMayGo 14 = .ok (.if_icmp .eq 5, 3) := by decide +kernel
theorem dX9_crewMayGo_17 : decode cX9_crewMayGo 17 = .ok (.iconst 0, 1) := by decide +kernel
theorem dX9_crewMayGo_18 : decode cX9_crewMayGo 18 = .ok (.ireturn, 1) := by decide +kernel
theorem dX9_crewMayGo_19 : decode cX9_crewMayGo 19 = .ok (.aload_n 0, 1) := by decide +kernel
theorem dX9_crewMayGo_20 : decode cX9_crewMayGo 20 = .ok (.iload_n 1, 1) := by decide +kernel
theorem dX9_crewMayGo_21 : decode cX9_crewMayGo 21 = .ok (.aload_n 2, 1) := by decide +kernel
theorem dX9_crewMayGo_22 : decode cX9_crewMayGo 22 = .ok (.iconst 0, 1) := by decide +kernel
theorem dX9_crewMayGo_23 : decode cX9_crewMayGo 23 = .ok (.invokevirtual 270, 3) := by decide +kernel
theorem dX9_crewMayGo_26 : decode cX9_crewMayGo 26 = .ok (.aload_n 0, 1) := by decide +kernel
theorem dX9_crewMayGo_27 : decode cX9_crewMayGo 27 = .ok (.getfield 38, 3) := by decide +kernel
theorem dX9_crewMayGo_30 : decode cX9_crewMayGo 30 = .ok (.invokevirtual 274, 3) := by decide +kernel
theorem dX9_crewMayGo_33 : decode cX9_crewMayGo 33 = .ok (.ireturn, 1) := by decide +kernel
theorem dX9_folkMayLive_0 : decode cX9_folkMayLive 0 = .ok (.iload_n 1, 1) := by decide +kernel
theorem dX9_folkMayLive_1 : decode cX9_folkMayLive 1 = .ok (.invokestatic 280, 3) := by decide +kernel
theorem dX9_folkMayLive_4 : decode cX9_folkMayLive 4 = .ok (.ifCond .ne 5, 3) := by decide +kernel
theorem dX9_folkMayLive_7 : decode cX9_folkMayLive 7 = .ok (.iconst 0, 1) := by decide +kernel
theorem dX9_folkMayLive_8 : decode cX9_folkMayLive 8 = .ok (.ireturn, 1) := by decide +kernel
theorem dX9_folkMayLive_9 : decode cX9_folkMayLive 9 = .ok (.iconst 0, 1) := by decide +kernel
theorem dX9_folkMayLive_10 : decode cX9_folkMayLive 10 = .ok (.istore_n 2, 1) := by decide +kernel
theorem dX9_folkMayLive_11 : decode cX9_folkMayLive 11 = .ok (.iload_n 2, 1) := by decide +kernel
theorem dX9_folkMayLive_12 : decode cX9_folkMayLive 12 = .ok (.aload_n 0, 1) := by decide +kernel
theorem dX9_folkMayLive_13 : decode cX9_folkMayLive 13 = .ok (.getfield 11, 3) := by decide +kernel
theorem dX9_folkMayLive_16 : decode cX9_folkMayLive 16 = .ok (.arraylength, 1) := by decide +kernel
theorem dX9_folkMayLive_17 : decode cX9_folkMayLive 17 = .ok (.if_icmp .ge 48, 3) := by decide +kernel
theorem dX9_folkMayLive_20 : decode cX9_folkMayLive 20 = .ok (.aload_n 0, 1) := by decide +kernel
theorem dX9_folkMayLive_21 : decode cX9_folkMayLive 21 = .ok (.getfield 11, 3) := by decide +kernel
theorem dX9_folkMayLive_24 : decode cX9_folkMayLive 24 = .ok (.iload_n 2, 1) := by decide +kernel
theorem dX9_folkMayLive_25 : decode cX9_folkMayLive 25 = .ok (.aaload, 1) := by decide +kernel
theorem dX9_folkMayLive_26 : decode cX9_folkMayLive 26 = .ok (.astore_n 3, 1) := by decide +kernel
theorem dX9_folkMayLive_27 : decode cX9_folkMayLive 27 = .ok (.aload_n 3, 1) := by decide +kernel
theorem dX9_folkMayLive_28 : decode cX9_folkMayLive 28 = .ok (.ifnull 31, 3) := by decide +kernel
theorem dX9_folkMayLive_31 : decode cX9_folkMayLive 31 = .ok (.aload_n 0, 1) := by decide +kernel
theorem dX9_folkMayLive_32 : decode cX9_folkMayLive 32 = .ok (.iload_n 2, 1) := by decide +kernel
theorem dX9_folkMayLive_33 : decode cX9_folkMayLive 33 = .ok (.aload_n 3, 1) := by decide +kernel
theorem dX9_folkMayLive_34 : decode cX9_folkMayLive 34 = .ok (.aload_n 0, 1) := by decide +kernel
theorem dX9_folkMayLive_35 : decode cX9_folkMayLive 35 = .ok (.getfield 52, 3) := by decide +kernel
theorem dX9_folkMayLive_38 : decode cX9_folkMayLive 38 = .ok (.getfield 301, 3) := by decide +kernel
theorem dX9_folkMayLive_41 : decode cX9_folkMayLive 41 = .ok (.iload_n 1, 1) := by decide +kernel
theorem dX9_folkMayLive_42 : decode cX9_folkMayLive 42 = .ok (.iaload, 1) := by decide +kernel
theorem dX9_folkMayLive_43 : decode cX9_folkMayLive 43 = .ok (.invokevirtual 270, 3) := by decide +kernel
theorem dX9_folkMayLive_46 : decode cX9_folkMayLive 46 = .ok (.aload_n 0, 1) := by decide +kernel
theorem dX9_folkMayLive_47 : decode cX9_folkMayLive 47 = .ok (.getfield 38, 3) := by decide +kernel
theorem dX9_folkMayLive_50 : decode cX9_folkMayLive 50 = .ok (.iconst 3, 1) := by decide +kernel
theorem dX9_folkMayLive_51 : decode cX9_folkMayLive 51 = .ok (.invokevirtual 382, 3) := by decide +kernel
theorem dX9_folkMayLive_54 : decode cX9_folkMayLive 54 = .ok (.ifCond .ne 5, 3) := by decide +kernel
theorem dX9_folkMayLive_57 : decode cX9_folkMayLive 57 = .ok (.iconst 0, 1) := by decide +kernel
theorem dX9_folkMayLive_58 : decode cX9_folkMayLive 58 = .ok (.ireturn, 1) := by decide +kernel
theorem dX9_folkMayLive_59 : decode cX9_folkMayLive 59 = .ok (.iinc 2 1, 3) := by decide +kernel
theorem dX9_folkMayLive_62 : decode cX9_folkMayLive 62 = .ok (.goto (-51), 3) := by decide +kernel
theorem dX9_folkMayLive_65 : decode cX9_folkMayLive 65 = .ok (.iconst 1, 1) := by decide +kernel
theorem dX9_folkMayLive_66 : decode cX9_folkMayLive 66 = .ok (.ireturn, 1) := by decide +kernel
theorem dX9_tellNames_0 : decode cX9_tellNames 0 = .ok (.aload_n 0, 1) := by decide +kernel
theorem dX9_tellNames_1 : decode cX9_tellNames 1 = .ok (.getfield 38, 3) := by decide +kernel
theorem dX9_tellNames_4 : decode cX9_tellNames 4 = .ok (.iconst 0, 1) := by decide +kernel
theorem dX9_tellNames_5 : decode cX9_tellNames 5 = .ok (.aload_n 0, 1) := by decide +kernel
theorem dX9_tellNames_6 : decode cX9_tellNames 6 = .ok (.iload_n 1, 1) := by decide +kernel
theorem dX9_tellNames_7 : decode cX9_tellNames 7 = .ok (.aload_n 2, 1) := by decide +kernel
theorem dX9_tellNames_8 : decode cX9_tellNames 8 = .ok (.invokevirtual 132, 3) := by decide +kernel
theorem dX9_tellNames_11 : decode cX9_tellNames 11 = .ok (.invokevirtual 385, 3) := by decide +kernel
theorem dX9_tellNames_14 : decode cX9_tellNames 14 = .ok (.aload_n 0, 1) := by decide +kernel
theorem dX9_tellNames_15 : decode cX9_tellNames 15 = .ok (.getfield 38, 3) := by decide +kernel
theorem dX9_tellNames_18 : decode cX9_tellNames 18 = .ok (.iconst 1, 1) := by decide +kernel
theorem dX9_tellNames_19 : decode cX9_tellNames 19 = .ok (.invokevirtual 388, 3) := by decide +kernel
theorem dX9_tellNames_22 : decode cX9_tellNames 22 = .ok (.ifCond .eq 33, 3) := by decide +kernel
theorem dX9_tellNames_25 : decode cX9_tellNames 25 = .ok (.aload_n 0, 1) := by decide +kernel
theorem dX9_tellNames_26 : decode cX9_tellNames 26 = .ok (.aload_n 2, 1) := by decide +kernel
theorem dX9_tellNames_27 : decode cX9_tellNames 27 = .ok (.invokevirtual 158, 3) := by decide +kernel
theorem dX9_tellNames_30 : decode cX9_tellNames 30 = .ok (.istore 4, 2) := by decide +kernel
theorem dX9_tellNames_32 : decode cX9_tellNames 32 = .ok (.aload_n 0, 1) := by decide +kernel
theorem dX9_tellNames_33 : decode cX9_tellNames 33 = .ok (.getfield 38, 3) := by decide +kernel
theorem dX9_tellNames_36 : decode cX9_tellNames 36 = .ok (.iconst 1, 1) := by decide +kernel
theorem dX9_tellNames_37 : decode cX9_tellNames 37 = .ok (.iload 4, 2) := by decide +kernel
theorem dX9_tellNames_39 : decode cX9_tellNames 39 = .ok (.bipush (-2), 2) := by decide +kernel
theorem dX9_tellNames_41 : decode cX9_tellNames 41 = .ok (.if_icmp .ne 9, 3) := by decide +kernel
theorem dX9_tellNames_44 : decode cX9_tellNames 44 = .ok (.sipush 999, 3) := by decide +kernel
theorem dX9_tellNames_47 : decode cX9_tellNames 47 = .ok (.goto 5, 3) := by decide +kernel
theorem dX9_tellNames_50 : decode cX9_tellNames 50 = .ok (.iload 4, 2) := by decide +kernel
theorem dX9_tellNames_52 : decode cX9_tellNames 52 = .ok (.invokevirtual 385, 3) := by decide +kernel
theorem dX9_tellNames_55 : decode cX9_tellNames 55 = .ok (.aload_n 0, 1) := by decide +kernel
theorem dX9_tellNames_56 : decode cX9_tellNames 56 = .ok (.getfield 38, 3) := by decide +kernel
theorem dX9_tellNames_59 : decode cX9_tellNames 59 = .ok (.iconst 2, 1) := by decide +kernel
theorem dX9_tellNames_60 : decode cX9_tellNames 60 = .ok (.aload_n 2, 1) := by decide +kernel
theorem dX9_tellNames_61 : decode cX9_tellNames 61 = .ok (.invokevirtual 391, 3) := by decide +kernel
theorem dX9_tellNames_64 : decode cX9_tellNames 64 = .ok (.invokevirtual 385, 3) := by decide +kernel
theorem dX9_tellNames_67 : decode cX9_tellNames 67 = .ok (.aload_n 0, 1) := by decide +kernel
theorem dX9_tellNames_68 : decode cX9_tellNames 68 = .ok (.getfield 38, 3) := by decide +kernel
theorem dX9_tellNames_71 : decode cX9_tellNames 71 = .ok (.iconst 3, 1) := by decide +kernel
theorem dX9_tellNames_72 : decode cX9_tellNames 72 = .ok (.aload_n 2, 1) := by decide +kernel
theorem dX9_tellNames_73 : decode cX9_tellNames 73 = .ok (.getfield 394, 3) := by decide +kernel
theorem dX9_tellNames_76 : decode cX9_tellNames 76 = .ok (.invokevirtual 385, 3) := by decide +kernel
theorem dX9_tellNames_79 : decode cX9_tellNames 79 = .ok (.aload_n 0, 1) := by decide +kernel
theorem dX9_tellNames_80 : decode cX9_tellNames 80 = .ok (.getfield 38, 3) := by decide +kernel
theorem dX9_tellNames_83 : decode cX9_tellNames 83 = .ok (.iconst 4, 1) := by decide +kernel
theorem dX9_tellNames_84 : decode cX9_tellNames 84 = .ok (.aload_n 0, 1) := by decide +kernel
theorem dX9_tellNames_85 : decode cX9_tellNames 85 = .ok (.iload_n 1, 1) := by decide +kernel
theorem dX9_tellNames_86 : decode cX9_tellNames 86 = .ok (.invokevirtual 397, 3) := by decide +kernel
theorem dX9_tellNames_89 : decode cX9_tellNames 89 = .ok (.invokevirtual 385, 3) := by decide +kernel
theorem dX9_tellNames_92 : decode cX9_tellNames 92 = .ok (.aload_n 0, 1) := by decide +kernel
theorem dX9_tellNames_93 : decode cX9_tellNames 93 = .ok (.getfield 38, 3) := by decide +kernel
theorem dX9_tellNames_96 : decode cX9_tellNames 96 = .ok (.iconst 5, 1) := by decide +kernel
theorem dX9_tellNames_97 : decode cX9_tellNames 97 = .ok (.aload_n 0, 1) := by decide +kernel
theorem dX9_tellNames_98 : decode cX9_tellNames 98 = .ok (.getfield 267, 3) := by decide +kernel
theorem dX9_tellNames_101 : decode cX9_tellNames 101 = .ok (.invokevirtual 385, 3) := by decide +kernel
theorem dX9_tellNames_104 : decode cX9_tellNames 104 = .ok (.aload_n 0, 1) := by decide +kernel
theorem dX9_tellNames_105 : decode cX9_tellNames 105 = .ok (.getfield 38, 3) := by decide +kernel
theorem dX9_tellNames_108 : decode cX9_tellNames 108 = .ok (.bipush 6, 2) := by decide +kernel
theorem dX9_tellNames_110 : decode cX9_tellNames 110 = .ok (.iload_n 1, 1) := by decide +kernel
theorem dX9_tellNames_111 : decode cX9_tellNames 111 = .ok (.invokevirtual 385, 3) := by decide +kernel
theorem dX9_tellNames_114 : decode cX9_tellNames 114 = .ok (.aload_n 0, 1) := by decide +kernel
theorem dX9_tellNames_115 : decode cX9_tellNames 115 = .ok (.getfield 38, 3) := by decide +kernel
theorem dX9_tellNames_118 : decode cX9_tellNames 118 = .ok (.bipush 7, 2) := by decide +kernel
theorem dX9_tellNames_120 : decode cX9_tellNames 120 = .ok (.aload_n 0, 1) := by decide +kernel
theorem dX9_tellNames_121 : decode cX9_tellNames 121 = .ok (.getfield 121, 3) := by decide +kernel
theorem dX9_tellNames_124 : decode cX9_tellNames 124 = .ok (.invokevirtual 385, 3) := by decide +kernel
theorem dX9_tellNames_127 : decode cX9_tellNames 127 = .ok (.aload_n 0, 1) := by decide +kernel
theorem dX9_tellNames_128 : decode cX9_tellNames 128 = .ok (.getfield 38, 3) := by decide +kernel
theorem dX9_tellNames_131 : decode cX9_tellNames 131 = .ok (.bipush 8, 2) := by decide +kernel
theorem dX9_tellNames_133 : decode cX9_tellNames 133 = .ok (.iload_n 3, 1) := by decide +kernel
theorem dX9_tellNames_134 : decode cX9_tellNames 134 = .ok (.invokevirtual 385, 3) := by decide +kernel
theorem dX9_tellNames_137 : decode cX9_tellNames 137 = .ok (.return_, 1) := by decide +kernel
theorem dX9_deadStrings_0 : decode cX9_deadStrings 0 = .ok (.iconst 0, 1) := by decide +kernel
theorem dX9_deadStrings_1 : decode cX9_deadStrings 1 = .ok (.istore_n 2, 1) := by decide +kernel
theorem dX9_deadStrings_2 : decode cX9_deadStrings 2 = .ok (.iconst 0, 1) := by decide +kernel
theorem dX9_deadStrings_3 : decode cX9_deadStrings 3 = .ok (.istore_n 3, 1) := by decide +kernel
theorem dX9_deadStrings_4 : decode cX9_deadStrings 4 = .ok (.iload_n 3, 1) := by decide +kernel
theorem dX9_deadStrings_5 : decode cX9_deadStrings 5 = .ok (.bipush 10, 2) := by decide +kernel
theorem dX9_deadStrings_7 : decode cX9_deadStrings 7 = .ok (.if_icmp .ge 31, 3) := by decide +kernel
theorem dX9_deadStrings_10 : decode cX9_deadStrings 10 = .ok (.aload_n 0, 1) := by decide +kernel
theorem dX9_deadStrings_11 : decode cX9_deadStrings 11 = .ok (.getfield 45, 3) := by decide +kernel
theorem dX9_deadStrings_14 : decode cX9_deadStrings 14 = .ok (.iload_n 1, 1) := by decide +kernel
theorem dX9_deadStrings_15 : decode cX9_deadStrings 15 = .ok (.iload_n 3, 1) := by decide +kernel
theorem dX9_deadStrings_16 : decode cX9_deadStrings 16 = .ok (.invokestatic 117, 3) := by decide +kernel
theorem dX9_deadStrings_19 : decode cX9_deadStrings 19 = .ok (.aload_n 0, 1) := by decide +kernel
theorem dX9_deadStrings_20 : decode cX9_deadStrings 20 = .ok (.getfield 121, 3) := by decide +kernel
theorem dX9_deadStrings_23 : decode cX9_deadStrings 23 = .ok (.invokevirtual 128, 3) := by decide +kernel
theorem dX9_deadStrings_26 : decode cX9_deadStrings 26 = .ok (.ifCond .eq 6, 3) := by decide +kernel
theorem dX9_deadStrings_29 : decode cX9_deadStrings 29 = .ok (.iinc 2 1, 3) := by decide +kernel
theorem dX9_deadStrings_32 : decode cX9_deadStrings 32 = .ok (.iinc 3 1, 3) := by decide +kernel
theorem dX9_deadStrings_35 : decode cX9_deadStrings 35 = .ok (.goto (-31), 3) := by decide +kernel
theorem dX9_deadStrings_38 : decode cX9_deadStrings 38 = .ok (.iload_n 2, 1) := by decide +kernel
theorem dX9_deadStrings_39 : decode cX9_deadStrings 39 = .ok (.ireturn, 1) := by decide +kernel
theorem dX9_troubleOfSounding_0 : decode cX9_troubleOfSounding 0 = .ok (.aload_n 0, 1) := by decide +kernel
theorem dX9_troubleOfSounding_1 : decode cX9_troubleOfSounding 1 = .ok (.iload_n 1, 1) := by decide +kernel
theorem dX9_troubleOfSounding_2 : decode cX9_troubleOfSounding 2 = .ok (.invokevirtual 66, 3) := by decide +kernel
theorem dX9_troubleOfSounding_5 : decode cX9_troubleOfSounding 5 = .ok (.ifnull 10, 3) := by decide +kernel
theorem dX9_troubleOfSounding_8 : decode cX9_troubleOfSounding 8 = .ok (.iload_n 2, 1) := by decide +kernel
theorem dX9_troubleOfSounding_9 : decode cX9_troubleOfSounding 9 = .ok (.invokestatic 70, 3) := by decide +kernel
theorem dX9_troubleOfSounding_12 : decode cX9_troubleOfSounding 12 = .ok (.ifCond .ne 5, 3) := by decide +kernel
theorem dX9_troubleOfSounding_15 : decode cX9_troubleOfSounding 15 = .ok (.iconst 1, 1) := by decide +kernel
theorem dX9_troubleOfSounding_16 : decode cX9_troubleOfSounding 16 = .ok (.ireturn, 1) := by decide +kernel
theorem dX9_troubleOfSounding_17 : decode cX9_troubleOfSounding 17 = .ok (.iload_n 3, 1) := by decide +kernel
theorem dX9_troubleOfSounding_18 : decode cX9_troubleOfSounding 18 = .ok (.iconst 0, 1) := by decide +kernel
theorem dX9_troubleOfSounding_19 : decode cX9_troubleOfSounding 19 = .ok (.ldc 77, 2) := by decide +kernel
theorem dX9_troubleOfSounding_21 : decode cX9_troubleOfSounding 21 = .ok (.invokestatic 78, 3) := by decide +kernel
theorem dX9_troubleOfSounding_24 : decode cX9_troubleOfSounding 24 = .ok (.ifCond .ne 5, 3) := by decide +kernel
theorem dX9_troubleOfSounding_27 : decode cX9_troubleOfSounding 27 = .ok (.iconst 2, 1) := by decide +kernel
theorem dX9_troubleOfSounding_28 : decode cX9_troubleOfSounding 28 = .ok (.ireturn, 1) := by decide +kernel
theorem dX9_troubleOfSounding_29 : decode cX9_troubleOfSounding 29 = .ok (.aload_n 0, 1) := by decide +kernel
theorem dX9_troubleOfSounding_30 : decode cX9_troubleOfSounding 30 = .ok (.getfield 45, 3) := by decide +kernel
theorem dX9_troubleOfSounding_33 : decode cX9_troubleOfSounding 33 = .ok (.iload_n 1, 1) := by decide +kernel
theorem dX9_troubleOfSounding_34 : decode cX9_troubleOfSounding 34 = .ok (.iload_n 2, 1) := by decide +kernel
theorem dX9_troubleOfSounding_35 : decode cX9_troubleOfSounding 35 = .ok (.invokestatic 117, 3) := by decide +kernel
theorem dX9_troubleOfSounding_38 : decode cX9_troubleOfSounding 38 = .ok (.aload_n 0, 1) := by decide +kernel
theorem dX9_troubleOfSounding_39 : decode cX9_troubleOfSounding 39 = .ok (.getfield 121, 3) := by decide +kernel
theorem dX9_troubleOfSounding_42 : decode cX9_troubleOfSounding 42 = .ok (.aload_n 0, 1) := by decide +kernel
theorem dX9_troubleOfSounding_43 : decode cX9_troubleOfSounding 43 = .ok (.getfield 121, 3) := by decide +kernel
theorem dX9_troubleOfSounding_46 : decode cX9_troubleOfSounding 46 = .ok (.invokevirtual 295, 3) := by decide +kernel
theorem dX9_troubleOfSounding_49 : decode cX9_troubleOfSounding 49 = .ok (.iconst (-1), 1) := by decide +kernel
theorem dX9_troubleOfSounding_50 : decode cX9_troubleOfSounding 50 = .ok (.if_icmp .ne 5, 3) := by decide +kernel
theorem dX9_troubleOfSounding_53 : decode cX9_troubleOfSounding 53 = .ok (.iconst 5, 1) := by decide +kernel
theorem dX9_troubleOfSounding_54 : decode cX9_troubleOfSounding 54 = .ok (.ireturn, 1) := by decide +kernel
theorem dX9_troubleOfSounding_55 : decode cX9_troubleOfSounding 55 = .ok (.aload_n 0, 1) := by decide +kernel
theorem dX9_troubleOfSounding_56 : decode cX9_troubleOfSounding 56 = .ok (.getfield 45, 3) := by decide +kernel
theorem dX9_troubleOfSounding_59 : decode cX9_troubleOfSounding 59 = .ok (.getfield 352, 3) := by decide +kernel
theorem dX9_troubleOfSounding_62 : decode cX9_troubleOfSounding 62 = .ok (.bipush 60, 2) := by decide +kernel
theorem dX9_troubleOfSounding_64 : decode cX9_troubleOfSounding 64 = .ok (.if_icmp .lt 7, 3) := by decide +kernel
theorem dX9_troubleOfSounding_67 : decode cX9_troubleOfSounding 67 = .ok (.iconst 3, 1) := by decide +kernel
theorem dX9_troubleOfSounding_68 : decode cX9_troubleOfSounding 68 = .ok (.goto 4, 3) := by decide +kernel
theorem dX9_troubleOfSounding_71 : decode cX9_troubleOfSounding 71 = .ok (.iconst 0, 1) := by decide +kernel
theorem dX9_troubleOfSounding_72 : decode cX9_troubleOfSounding 72 = .ok (.ireturn, 1) := by decide +kernel
theorem dX10_init_0 : decode cX10_init 0 = .ok (.aload_n 0, 1) := by decide +kernel
theorem dX10_init_1 : decode cX10_init 1 = .ok (.invokespecial 3, 3) := by decide +kernel
theorem dX10_init_4 : decode cX10_init 4 = .ok (.aload_n 0, 1) := by decide +kernel
theorem dX10_init_5 : decode cX10_init 5 = .ok (.sipush 300, 3) := by decide +kernel
theorem dX10_init_8 : decode cX10_init 8 = .ok (.newarray .int, 2) := by decide +kernel
theorem dX10_init_10 : decode cX10_init 10 = .ok (.putfield 9, 3) := by decide +kernel
theorem dX10_init_13 : decode cX10_init 13 = .ok (.aload_n 0, 1) := by decide +kernel
theorem dX10_init_14 : decode cX10_init 14 = .ok (.sipush 300, 3) := by decide +kernel
theorem dX10_init_17 : decode cX10_init 17 = .ok (.newarray .int, 2) := by decide +kernel
theorem dX10_init_19 : decode cX10_init 19 = .ok (.putfield 15, 3) := by decide +kernel
theorem dX10_init_22 : decode cX10_init 22 = .ok (.return_, 1) := by decide +kernel
theorem dX10_put_0 : decode cX10_put 0 = .ok (.aload_n 0, 1) := by decide +kernel
theorem dX10_put_1 : decode cX10_put 1 = .ok (.getfield 9, 3) := by decide +kernel
theorem dX10_put_4 : decode cX10_put 4 = .ok (.aload_n 0, 1) := by decide +kernel
theorem dX10_put_5 : decode cX10_put 5 = .ok (.getfield 18, 3) := by decide +kernel
theorem dX10_put_8 : decode cX10_put 8 = .ok (.iload_n 1, 1) := by decide +kernel
theorem dX10_put_9 : decode cX10_put 9 = .ok (.iastore, 1) := by decide +kernel
theorem dX10_put_10 : decode cX10_put 10 = .ok (.aload_n 0, 1) := by decide +kernel
theorem dX10_put_11 : decode cX10_put 11 = .ok (.getfield 15, 3) := by decide +kernel
theorem dX10_put_14 : decode cX10_put 14 = .ok (.aload_n 0, 1) := by decide +kernel
theorem dX10_put_15 : decode cX10_put 15 = .ok (.getfield 18, 3) := by decide +kernel
theorem dX10_put_18 : decode cX10_put 18 = .ok (.iload_n 2, 1) := by decide +kernel
theorem dX10_put_19 : decode cX10_put 19 = .ok (.iastore, 1) := by decide +kernel
theorem dX10_put_20 : decode cX10_put 20 = .ok (.aload_n 0, 1) := by decide +kernel
theorem dX10_put_21 : decode cX10_put 21 = .ok (.dup, 1) := by decide +kernel
theorem dX10_put_22 : decode cX10_put 22 = .ok (.getfield 18, 3) := by decide +kernel
theorem dX10_put_25 : decode cX10_put 25 = .ok (.iconst 1, 1) := by decide +kernel
theorem dX10_put_26 : decode cX10_put 26 = .ok (.iadd, 1) := by decide +kernel
theorem dX10_put_27 : decode cX10_put 27 = .ok (.putfield 18, 3) := by decide +kernel
theorem dX10_put_30 : decode cX10_put 30 = .ok (.return_, 1) := by decide +kernel
theorem dX11_init_0 : decode cX11_init 0 = .ok (.aload_n 0, 1) := by decide +kernel
theorem dX11_init_1 : decode cX11_init 1 = .ok (.aconst_null, 1) := by decide +kernel
theorem dX11_init_2 : decode cX11_init 2 = .ok (.aconst_null, 1) := by decide +kernel
theorem dX11_init_3 : decode cX11_init 3 = .ok (.iconst 0, 1) := by decide +kernel
theorem dX11_init_4 : decode cX11_init 4 = .ok (.iconst 0, 1) := by decide +kernel
theorem dX11_init_5 : decode cX11_init 5 = .ok (.invokespecial 1, 3) := by decide +kernel
theorem dX11_init_8 : decode cX11_init 8 = .ok (.return_, 1) := by decide +kernel
theorem dX12_thrown_0 : decode cX12_thrown 0 = .ok (.aload_n 0, 1) := by decide +kernel
theorem dX12_thrown_1 : decode cX12_thrown 1 = .ok (.getfield 1, 3) := by decide +kernel
theorem dX12_thrown_4 : decode cX12_thrown 4 = .ok (.ireturn, 1) := by decide +kernel
theorem dX12_refused_0 : decode cX12_refused 0 = .ok (.aload_n 0, 1) := by decide +kernel
theorem dX12_refused_1 : decode cX12_refused 1 = .ok (.iload_n 1, 1) := by decide +kernel
theorem dX12_refused_2 : decode cX12_refused 2 = .ok (.putfield 7, 3) := by decide +kernel
theorem dX12_refused_5 : decode cX12_refused 5 = .ok (.aload_n 0, 1) := by decide +kernel
theorem dX12_refused_6 : decode cX12_refused 6 = .ok (.iconst (-1), 1) := by decide +kernel
theorem dX12_refused_7 : decode cX12_refused 7 = .ok (.putfield 10, 3) := by decide +kernel
theorem dX12_refused_10 : decode cX12_refused 10 = .ok (.iconst (-1), 1) := by decide +kernel
theorem dX12_refused_11 : decode cX12_refused 11 = .ok (.ireturn, 1) := by decide +kernel
theorem dX12_nothing_0 : decode cX12_nothing 0 = .ok (.aload_n 0, 1) := by decide +kernel
theorem dX12_nothing_1 : decode cX12_nothing 1 = .ok (.iload_n 1, 1) := by decide +kernel
theorem dX12_nothing_2 : decode cX12_nothing 2 = .ok (.putfield 7, 3) := by decide +kernel
theorem dX12_nothing_5 : decode cX12_nothing 5 = .ok (.aload_n 0, 1) := by decide +kernel
theorem dX12_nothing_6 : decode cX12_nothing 6 = .ok (.iconst (-1), 1) := by decide +kernel
theorem dX12_nothing_7 : decode cX12_nothing 7 = .ok (.putfield 10, 3) := by decide +kernel
theorem dX12_nothing_10 : decode cX12_nothing 10 = .ok (.ldc 15, 2) := by decide +kernel
theorem dX12_nothing_12 : decode cX12_nothing 12 = .ok (.ireturn, 1) := by decide +kernel
theorem dX12_denied_0 : decode cX12_denied 0 = .ok (.aload_n 0, 1) := by decide +kernel
theorem dX12_denied_1 : decode cX12_denied 1 = .ok (.iload_n 1, 1) := by decide +kernel
theorem dX12_denied_2 : decode cX12_denied 2 = .ok (.putfield 7, 3) := by decide +kernel
theorem dX12_denied_5 : decode cX12_denied 5 = .ok (.aload_n 0, 1) := by decide +kernel
theorem dX12_denied_6 : decode cX12_denied 6 = .ok (.iconst (-1), 1) := by decide +kernel
theorem dX12_denied_7 : decode cX12_denied 7 = .ok (.putfield 10, 3) := by decide +kernel
theorem dX12_denied_10 : decode cX12_denied 10 = .ok (.iconst 0, 1) := by decide +kernel
theorem dX12_denied_11 : decode cX12_denied 11 = .ok (.ireturn, 1) := by decide +kernel
theorem dX12_done_0 : decode cX12_done 0 = .ok (.aload_n 0, 1) := by decide +kernel
theorem dX12_done_1 : decode cX12_done 1 = .ok (.iconst 0, 1) := by decide +kernel
theorem dX12_done_2 : decode cX12_done 2 = .ok (.putfield 7, 3) := by decide +kernel
theorem dX12_done_5 : decode cX12_done 5 = .ok (.aload_n 0, 1) := by decide +kernel
theorem dX12_done_6 : decode cX12_done 6 = .ok (.iconst (-1), 1) := by decide +kernel
theorem dX12_done_7 : decode cX12_done 7 = .ok (.putfield 10, 3) := by decide +kernel
theorem dX12_done_10 : decode cX12_done 10 = .ok (.iload_n 1, 1) := by decide +kernel
theorem dX12_done_11 : decode cX12_done 11 = .ok (.ireturn, 1) := by decide +kernel
theorem dX12_granted_0 : decode cX12_granted 0 = .ok (.aload_n 0, 1) := by decide +kernel
theorem dX12_granted_1 : decode cX12_granted 1 = .ok (.iconst 0, 1) := by decide +kernel
theorem dX12_granted_2 : decode cX12_granted 2 = .ok (.putfield 7, 3) := by decide +kernel
theorem dX12_granted_5 : decode cX12_granted 5 = .ok (.aload_n 0, 1) := by decide +kernel
theorem dX12_granted_6 : decode cX12_granted 6 = .ok (.iconst (-1), 1) := by decide +kernel
theorem dX12_granted_7 : decode cX12_granted 7 = .ok (.putfield 10, 3) := by decide +kernel
theorem dX12_granted_10 : decode cX12_granted 10 = .ok (.iconst 1, 1) := by decide +kernel
theorem dX12_granted_11 : decode cX12_granted 11 = .ok (.ireturn, 1) := by decide +kernel
theorem dX12_in_0 : decode cX12_in 0 = .ok (.iload_n 0, 1) := by decide +kernel
theorem dX12_in_1 : decode cX12_in 1 = .ok (.iload_n 1, 1) := by decide +kernel
theorem dX12_in_2 : decode cX12_in 2 = .ok (.if_icmp .lt 12, 3) := by decide +kernel
theorem dX12_in_5 : decode cX12_in 5 = .ok (.iload_n 0, 1) := by decide +kernel
theorem dX12_in_6 : decode cX12_in 6 = .ok (.iload_n 2, 1) := by decide +kernel
theorem dX12_in_7 : decode cX12_in 7 = .ok (.if_icmp .gt 7, 3) := by decide +kernel
theorem dX12_in_10 : decode cX12_in 10 = .ok (.iconst 1, 1) := by decide +kernel
theorem dX12_in_11 : decode cX12_in 11 = .ok (.goto 4, 3) := by decide +kernel
theorem dX12_in_14 : decode cX12_in 14 = .ok (.iconst 0, 1) := by decide +kernel
theorem dX12_in_15 : decode cX12_in 15 = .ok (.ireturn, 1) := by decide +kernel
theorem dX12_init_0 : decode cX12_init 0 = .ok (.aload_n 0, 1) := by decide +kernel
theorem dX12_init_1 : decode cX12_init 1 = .ok (.invokespecial 16, 3) := by decide +kernel
theorem dX12_init_4 : decode cX12_init 4 = .ok (.aload_n 0, 1) := by decide +kernel
theorem dX12_init_5 : decode cX12_init 5 = .ok (.iconst (-1), 1) := by decide +kernel
theorem dX12_init_6 : decode cX12_init 6 = .ok (.putfield 10, 3) := by decide +kernel
theorem dX12_init_9 : decode cX12_init 9 = .ok (.aload_n 0, 1) := by decide +kernel
theorem dX12_init_10 : decode cX12_init 10 = .ok (.bipush (-2), 2) := by decide +kernel
theorem dX12_init_12 : decode cX12_init 12 = .ok (.putfield 22, 3) := by decide +kernel
theorem dX12_init_15 : decode cX12_init 15 = .ok (.aload_n 0, 1) := by decide +kernel
theorem dX12_init_16 : decode cX12_init 16 = .ok (.bipush 20, 2) := by decide +kernel
theorem dX12_init_18 : decode cX12_init 18 = .ok (.newarray .int, 2) := by decide +kernel
theorem dX12_init_20 : decode cX12_init 20 = .ok (.putfield 25, 3) := by decide +kernel
theorem dX12_init_23 : decode cX12_init 23 = .ok (.aload_n 0, 1) := by decide +kernel
theorem dX12_init_24 : decode cX12_init 24 = .ok (.bipush 20, 2) := by decide +kernel
theorem dX12_init_26 : decode cX12_init 26 = .ok (.newarray .int, 2) := by decide +kernel
theorem dX12_init_28 : decode cX12_init 28 = .ok (.putfield 29, 3) := by decide +kernel
theorem dX12_init_31 : decode cX12_init 31 = .ok (.aload_n 0, 1) := by decide +kernel
theorem dX12_init_32 : decode cX12_init 32 = .ok (.bipush 20, 2) := by decide +kernel
theorem dX12_init_34 : decode cX12_init 34 = .ok (.newarray .int, 2) := by decide +kernel
theorem dX12_init_36 : decode cX12_init 36 = .ok (.putfield 32, 3) := by decide +kernel
theorem dX12_init_39 : decode cX12_init 39 = .ok (.aload_n 0, 1) := by decide +kernel
theorem dX12_init_40 : decode cX12_init 40 = .ok (.iconst 2, 1) := by decide +kernel
theorem dX12_init_41 : decode cX12_init 41 = .ok (.newarray .int, 2) := by decide +kernel
theorem dX12_init_43 : decode cX12_init 43 = .ok (.putfield 35, 3) := by decide +kernel
theorem dX12_init_46 : decode cX12_init 46 = .ok (.aload_n 0, 1) := by decide +kernel
theorem dX12_init_47 : decode cX12_init 47 = .ok (.iconst 2, 1) := by decide +kernel
theorem dX12_init_48 : decode cX12_init 48 = .ok (.newarray .int, 2) := by decide +kernel
theorem dX12_init_50 : decode cX12_init 50 = .ok (.putfield 38, 3) := by decide +kernel
theorem dX12_init_53 : decode cX12_init 53 = .ok (.aload_n 0, 1) := by decide +kernel
theorem dX12_init_54 : decode cX12_init 54 = .ok (.iconst 2, 1) := by decide +kernel
theorem dX12_init_55 : decode cX12_init 55 = .ok (.newarray .int, 2) := by decide +kernel
theorem dX12_init_57 : decode cX12_init 57 = .ok (.putfield 41, 3) := by decide +kernel
theorem dX12_init_60 : decode cX12_init 60 = .ok (.aload_n 0, 1) := by decide +kernel
theorem dX12_init_61 : decode cX12_init 61 = .ok (.iconst 2, 1) := by decide +kernel
theorem dX12_init_62 : decode cX12_init 62 = .ok (.newarray .int, 2) := by decide +kernel
theorem dX12_init_64 : decode cX12_init 64 = .ok (.putfield 44, 3) := by decide +kernel
theorem dX12_init_67 : decode cX12_init 67 = .ok (.aload_n 0, 1) := by decide +kernel
theorem dX12_init_68 : decode cX12_init 68 = .ok (.iconst 2, 1) := by decide +kernel
theorem dX12_init_69 : decode cX12_init 69 = .ok (.newarray .int, 2) := by decide +kernel
theorem dX12_init_71 : decode cX12_init 71 = .ok (.putfield 47, 3) := by decide +kernel
theorem dX12_init_74 : decode cX12_init 74 = .ok (.aload_n 0, 1) := by decide +kernel
theorem dX12_init_75 : decode cX12_init 75 = .ok (.iconst 2, 1) := by decide +kernel
theorem dX12_init_76 : decode cX12_init 76 = .ok (.newarray .int, 2) := by decide +kernel
theorem dX12_init_78 : decode cX12_init 78 = .ok (.putfield 50, 3) := by decide +kernel
theorem dX12_init_81 : decode cX12_init 81 = .ok (.aload_n 0, 1) := by decide +kernel
theorem dX12_init_82 : decode cX12_init 82 = .ok (.iconst 2, 1) := by decide +kernel
theorem dX12_init_83 : decode cX12_init 83 = .ok (.newarray .int, 2) := by decide +kernel
theorem dX12_init_85 : decode cX12_init 85 = .ok (.putfield 53, 3) := by decide +kernel
theorem dX12_init_88 : decode cX12_init 88 = .ok (.aload_n 0, 1) := by decide +kernel
theorem dX12_init_89 : decode cX12_init 89 = .ok (.iconst 2, 1) := by decide +kernel
theorem dX12_init_90 : decode cX12_init 90 = .ok (.newarray .int, 2) := by decide +kernel
theorem dX12_init_92 : decode cX12_init 92 = .ok (.putfield 56, 3) := by decide +kernel
theorem dX12_init_95 : decode cX12_init 95 = .ok (.aload_n 0, 1) := by decide +kernel
theorem dX12_init_96 : decode cX12_init 96 = .ok (.iconst 2, 1) := by decide +kernel
theorem dX12_init_97 : decode cX12_init 97 = .ok (.newarray .int, 2) := by decide +kernel
theorem dX12_init_99 : decode cX12_init 99 = .ok (.putfield 59, 3) := by decide +kernel
theorem dX12_init_102 : decode cX12_init 102 = .ok (.aload_n 0, 1) := by decide +kernel
theorem dX12_init_103 : decode cX12_init 103 = .ok (.iconst 2, 1) := by decide +kernel
theorem dX12_init_104 : decode cX12_init 104 = .ok (.newarray .int, 2) := by decide +kernel
theorem dX12_init_106 : decode cX12_init 106 = .ok (.putfield 62, 3) := by decide +kernel
theorem dX12_init_109 : decode cX12_init 109 = .ok (.aload_n 0, 1) := by decide +kernel
theorem dX12_init_110 : decode cX12_init 110 = .ok (.bipush 10, 2) := by decide +kernel
theorem dX12_init_112 : decode cX12_init 112 = .ok (.newarray .int, 2) := by decide +kernel
theorem dX12_init_114 : decode cX12_init 114 = .ok (.putfield 65, 3) := by decide +kernel
theorem dX12_init_117 : decode cX12_init 117 = .ok (.aload_n 0, 1) := by decide +kernel
theorem dX12_init_118 : decode cX12_init 118 = .ok (.bipush 10, 2) := by decide +kernel
theorem dX12_init_120 : decode cX12_init 120 = .ok (.newarray .int, 2) := by decide +kernel
theorem dX12_init_122 : decode cX12_init 122 = .ok (.putfield 68, 3) := by decide +kernel
theorem dX12_init_125 : decode cX12_init 125 = .ok (.aload_n 0, 1) := by decide +kernel
theorem dX12_init_126 : decode cX12_init 126 = .ok (.bipush 10, 2) := by decide +kernel
theorem dX12_init_128 : decode cX12_init 128 = .ok (.newarray .int, 2) := by decide +kernel
theorem dX12_init_130 : decode cX12_init 130 = .ok (.putfield 71, 3) := by decide +kernel
theorem dX12_init_133 : decode cX12_init 133 = .ok (.aload_n 0, 1) := by decide +kernel
theorem dX12_init_134 : decode cX12_init 134 = .ok (.bipush 6, 2) := by decide +kernel
theorem dX12_init_136 : decode cX12_init 136 = .ok (.newarray .int, 2) := by decide +kernel
theorem dX12_init_138 : decode cX12_init 138 = .ok (.putfield 74, 3) := by decide +kernel
theorem dX12_init_141 : decode cX12_init 141 = .ok (.aload_n 0, 1) := by decide +kernel
theorem dX12_init_142 : decode cX12_init 142 = .ok (.bipush 6, 2) := by decide +kernel
theorem dX12_init_144 : decode cX12_init 144 = .ok (.newarray .int, 2) := by decide +kernel
theorem dX12_init_146 : decode cX12_init 146 = .ok (.putfield 77, 3) := by decide +kernel
theorem dX12_init_149 : decode cX12_init 149 = .ok (.aload_n 0, 1) := by decide +kernel
theorem dX12_init_150 : decode cX12_init 150 = .ok (.bipush 6, 2) := by decide +kernel
theorem dX12_init_152 : decode cX12_init 152 = .ok (.newarray .boolean, 2) := by decide +kernel
theorem dX12_init_154 : decode cX12_init 154 = .ok (.putfield 80, 3) := by decide +kernel
theorem dX12_init_157 : decode cX12_init 157 = .ok (.aload_n 0, 1) := by decide +kernel
theorem dX12_init_158 : decode cX12_init 158 = .ok (.bipush 6, 2) := by decide +kernel
theorem dX12_init_160 : decode cX12_init 160 = .ok (.newarray .int, 2) := by decide +kernel
theorem dX12_init_162 : decode cX12_init 162 = .ok (.putfield 84, 3) := by decide +kernel
theorem dX12_init_165 : decode cX12_init 165 = .ok (.aload_n 0, 1) := by decide +kernel
theorem dX12_init_166 : decode cX12_init 166 = .ok (.bipush 6, 2) := by decide +kernel
theorem dX12_init_168 : decode cX12_init 168 = .ok (.newarray .int, 2) := by decide +kernel
theorem dX12_init_170 : decode cX12_init 170 = .ok (.putfield 87, 3) := by decide +kernel
theorem dX12_init_173 : decode cX12_init 173 = .ok (.aload_n 0, 1) := by decide +kernel
theorem dX12_init_174 : decode cX12_init 174 = .ok (.bipush 6, 2) := by decide +kernel
theorem dX12_init_176 : decode cX12_init 176 = .ok (.newarray .int, 2) := by decide +kernel
theorem dX12_init_178 : decode cX12_init 178 = .ok (.putfield 90, 3) := by decide +kernel
theorem dX12_init_181 : decode cX12_init 181 = .ok (.aload_n 0, 1) := by decide +kernel
theorem dX12_init_182 : decode cX12_init 182 = .ok (.bipush 6, 2) := by decide +kernel
theorem dX12_init_184 : decode cX12_init 184 = .ok (.newarray .int, 2) := by decide +kernel
theorem dX12_init_186 : decode cX12_init 186 = .ok (.putfield 93, 3) := by decide +kernel
theorem dX12_init_189 : decode cX12_init 189 = .ok (.aload_n 0, 1) := by decide +kernel
theorem dX12_init_190 : decode cX12_init 190 = .ok (.bipush 6, 2) := by decide +kernel
theorem dX12_init_192 : decode cX12_init 192 = .ok (.newarray .int, 2) := by decide +kernel
theorem dX12_init_194 : decode cX12_init 194 = .ok (.putfield 96, 3) := by decide +kernel
theorem dX12_init_197 : decode cX12_init 197 = .ok (.aload_n 0, 1) := by decide +kernel
theorem dX12_init_198 : decode cX12_init 198 = .ok (.bipush 6, 2) := by decide +kernel
theorem dX12_init_200 : decode cX12_init 200 = .ok (.newarray .int, 2) := by decide +kernel
theorem dX12_init_202 : decode cX12_init 202 = .ok (.putfield 99, 3) := by decide +kernel
theorem dX12_init_205 : decode cX12_init 205 = .ok (.aload_n 0, 1) := by decide +kernel
theorem dX12_init_206 : decode cX12_init 206 = .ok (.bipush 6, 2) := by decide +kernel
theorem dX12_init_208 : decode cX12_init 208 = .ok (.newarray .boolean, 2) := by decide +kernel
theorem dX12_init_210 : decode cX12_init 210 = .ok (.putfield 102, 3) := by decide +kernel
theorem dX12_init_213 : decode cX12_init 213 = .ok (.aload_n 0, 1) := by decide +kernel
theorem dX12_init_214 : decode cX12_init 214 = .ok (.iconst 3, 1) := by decide +kernel
theorem dX12_init_215 : decode cX12_init 215 = .ok (.newarray .int, 2) := by decide +kernel
theorem dX12_init_217 : decode cX12_init 217 = .ok (.putfield 105, 3) := by decide +kernel
theorem dX12_init_220 : decode cX12_init 220 = .ok (.aload_n 0, 1) := by decide +kernel
theorem dX12_init_221 : decode cX12_init 221 = .ok (.iconst 3, 1) := by decide +kernel
theorem dX12_init_222 : decode cX12_init 222 = .ok (.newarray .int, 2) := by decide +kernel
theorem dX12_init_224 : decode cX12_init 224 = .ok (.putfield 108, 3) := by decide +kernel
theorem dX12_init_227 : decode cX12_init 227 = .ok (.aload_n 0, 1) := by decide +kernel
theorem dX12_init_228 : decode cX12_init 228 = .ok (.iconst 3, 1) := by decide +kernel
theorem dX12_init_229 : decode cX12_init 229 = .ok (.newarray .int, 2) := by decide +kernel
theorem dX12_init_231 : decode cX12_init 231 = .ok (.putfield 111, 3) := by decide +kernel
theorem dX12_init_234 : decode cX12_init 234 = .ok (.aload_n 0, 1) := by decide +kernel
theorem dX12_init_235 : decode cX12_init 235 = .ok (.iconst 3, 1) := by decide +kernel
theorem dX12_init_236 : decode cX12_init 236 = .ok (.newarray .int, 2) := by decide +kernel
theorem dX12_init_238 : decode cX12_init 238 = .ok (.putfield 114, 3) := by decide +kernel
theorem dX12_init_241 : decode cX12_init 241 = .ok (.aload_n 0, 1) := by decide +kernel
theorem dX12_init_242 : decode cX12_init 242 = .ok (.bipush 17, 2) := by decide +kernel
theorem dX12_init_244 : decode cX12_init 244 = .ok (.anewarray 117, 3) := by decide +kernel
theorem dX12_init_247 : decode cX12_init 247 = .ok (.putfield 119, 3) := by decide +kernel
theorem dX12_init_250 : decode cX12_init 250 = .ok (.aload_n 0, 1) := by decide +kernel
theorem dX12_init_251 : decode cX12_init 251 = .ok (.new 123, 3) := by decide +kernel
theorem dX12_init_254 : decode cX12_init 254 = .ok (.dup, 1) := by decide +kernel
theorem dX12_init_255 : decode cX12_init 255 = .ok (.invokespecial 125, 3) := by decide +kernel
theorem dX12_init_258 : decode cX12_init 258 = .ok (.putfield 126, 3) := by decide +kernel
theorem dX12_init_261 : decode cX12_init 261 = .ok (.aload_n 0, 1) := by decide +kernel
theorem dX12_init_262 : decode cX12_init 262 = .ok (.sipush 300, 3) := by decide +kernel
theorem dX12_init_265 : decode cX12_init 265 = .ok (.newarray .byte, 2) := by decide +kernel
theorem dX12_init_267 : decode cX12_init 267 = .ok (.putfield 130, 3) := by decide +kernel
theorem dX12_init_270 : decode cX12_init 270 = .ok (.aload_n 0, 1) := by decide +kernel
theorem dX12_init_271 : decode cX12_init 271 = .ok (.sipush 300, 3) := by decide +kernel
theorem dX12_init_274 : decode cX12_init 274 = .ok (.newarray .int, 2) := by decide +kernel
theorem dX12_init_276 : decode cX12_init 276 = .ok (.putfield 134, 3) := by decide +kernel
theorem dX12_init_279 : decode cX12_init 279 = .ok (.aload_n 0, 1) := by decide +kernel
theorem dX12_init_280 : decode cX12_init 280 = .ok (.sipush 300, 3) := by decide +kernel
theorem dX12_init_283 : decode cX12_init 283 = .ok (.newarray .int, 2) := by decide +kernel
theorem dX12_init_285 : decode cX12_init 285 = .ok (.putfield 137, 3) := by decide +kernel
theorem dX12_init_288 : decode cX12_init 288 = .ok (.aload_n 0, 1) := by decide +kernel
theorem dX12_init_289 : decode cX12_init 289 = .ok (.sipush 300, 3) := by decide +kernel
theorem dX12_init_292 : decode cX12_init 292 = .ok (.newarray .int, 2) := by decide +kernel
theorem dX12_init_294 : decode cX12_init 294 = .ok (.putfield 140, 3) := by decide +kernel
theorem dX12_init_297 : decode cX12_init 297 = .ok (.aload_n 0, 1) := by decide +kernel
theorem dX12_init_298 : decode cX12_init 298 = .ok (.sipush 300, 3) := by decide +kernel
theorem dX12_init_301 : decode cX12_init 301 = .ok (.newarray .int, 2) := by decide +kernel
theorem dX12_init_303 : decode cX12_init 303 = .ok (.putfield 143, 3) := by decide +kernel
theorem dX12_init_306 : decode cX12_init 306 = .ok (.aload_n 0, 1) := by decide +kernel
theorem dX12_init_307 : decode cX12_init 307 = .ok (.bipush 60, 2) := by decide +kernel
theorem dX12_init_309 : decode cX12_init 309 = .ok (.newarray .int, 2) := by decide +kernel
theorem dX12_init_311 : decode cX12_init 311 = .ok (.putfield 146, 3) := by decide +kernel
theorem dX12_init_314 : decode cX12_init 314 = .ok (.aload_n 0, 1) := by decide +kernel
theorem dX12_init_315 : decode cX12_init 315 = .ok (.bipush 60, 2) := by decide +kernel
theorem dX12_init_317 : decode cX12_init 317 = .ok (.newarray .int, 2) := by decide +kernel
theorem dX12_init_319 : decode cX12_init 319 = .ok (.putfield 149, 3) := by decide +kernel
theorem dX12_init_322 : decode cX12_init 322 = .ok (.aload_n 0, 1) := by decide +kernel
theorem dX12_init_323 : decode cX12_init 323 = .ok (.bipush 60, 2) := by decide +kernel
theorem dX12_init_325 : decode cX12_init 325 = .ok (.newarray .int, 2) := by decide +kernel
theorem dX12_init_327 : decode cX12_init 327 = .ok (.putfield 152, 3) := by decide +kernel
theorem dX12_init_330 : decode cX12_init 330 = .ok (.aload_n 0, 1) := by decide +kernel
theorem dX12_init_331 : decode cX12_init 331 = .ok (.bipush 20, 2) := by decide +kernel
theorem dX12_init_333 : decode cX12_init 333 = .ok (.putfield 155, 3) := by decide +kernel
theorem dX12_init_336 : decode cX12_init 336 = .ok (.aload_n 0, 1) := by decide +kernel
theorem dX12_init_337 : decode cX12_init 337 = .ok (.bipush 100, 2) := by decide +kernel
theorem dX12_init_339 : decode cX12_init 339 = .ok (.putfield 158, 3) := by decide +kernel
theorem dX12_init_342 : decode cX12_init 342 = .ok (.aload_n 0, 1) := by decide +kernel
theorem dX12_init_343 : decode cX12_init 343 = .ok (.iconst 5, 1) := by decide +kernel
theorem dX12_init_344 : decode cX12_init 344 = .ok (.putfield 161, 3) := by decide +kernel
theorem dX12_init_347 : decode cX12_init 347 = .ok (.aload_n 0, 1) := by decide +kernel
theorem dX12_init_348 : decode cX12_init 348 = .ok (.sipush 400, 3) := by decide +kernel
theorem dX12_init_351 : decode cX12_init 351 = .ok (.newarray .int, 2) := by decide +kernel
theorem dX12_init_353 : decode cX12_init 353 = .ok (.putfield 164, 3) := by decide +kernel
theorem dX12_init_356 : decode cX12_init 356 = .ok (.aload_n 0, 1) := by decide +kernel
theorem dX12_init_357 : decode cX12_init 357 = .ok (.sipush 400, 3) := by decide +kernel
theorem dX12_init_360 : decode cX12_init 360 = .ok (.newarray .int, 2) := by decide +kernel
theorem dX12_init_362 : decode cX12_init 362 = .ok (.putfield 167, 3) := by decide +kernel
theorem dX12_init_365 : decode cX12_init 365 = .ok (.aload_n 0, 1) := by decide +kernel
theorem dX12_init_366 : decode cX12_init 366 = .ok (.sipush 400, 3) := by decide +kernel
theorem dX12_init_369 : decode cX12_init 369 = .ok (.newarray .int, 2) := by decide +kernel
theorem dX12_init_371 : decode cX12_init 371 = .ok (.putfield 170, 3) := by decide +kernel
theorem dX12_init_374 : decode cX12_init 374 = .ok (.aload_n 0, 1) := by decide +kernel
theorem dX12_init_375 : decode cX12_init 375 = .ok (.bipush 20, 2) := by decide +kernel
theorem dX12_init_377 : decode cX12_init 377 = .ok (.newarray .int, 2) := by decide +kernel
theorem dX12_init_379 : decode cX12_init 379 = .ok (.putfield 173, 3) := by decide +kernel
theorem dX12_init_382 : decode cX12_init 382 = .ok (.aload_n 0, 1) := by decide +kernel
theorem dX12_init_383 : decode cX12_init 383 = .ok (.bipush 20, 2) := by decide +kernel
theorem dX12_init_385 : decode cX12_init 385 = .ok (.newarray .int, 2) := by decide +kernel
theorem dX12_init_387 : decode cX12_init 387 = .ok (.putfield 176, 3) := by decide +kernel
theorem dX12_init_390 : decode cX12_init 390 = .ok (.aload_n 0, 1) := by decide +kernel
theorem dX12_init_391 : decode cX12_init 391 = .ok (.bipush 20, 2) := by decide +kernel
theorem dX12_init_393 : decode cX12_init 393 = .ok (.newarray .boolean, 2) := by decide +kernel
theorem dX12_init_395 : decode cX12_init 395 = .ok (.putfield 179, 3) := by decide +kernel
theorem dX12_init_398 : decode cX12_init 398 = .ok (.iconst 0, 1) := by decide +kernel
theorem dX12_init_399 : decode cX12_init 399 = .ok (.istore_n 1, 1) := by decide +kernel
theorem dX12_init_400 : decode cX12_init 400 = .ok (.iload_n 1, 1) := by decide +kernel
theorem dX12_init_401 : decode cX12_init 401 = .ok (.iconst 2, 1) := by decide +kernel
theorem dX12_init_402 : decode cX12_init 402 = .ok (.if_icmp .ge 26, 3) := by decide +kernel
theorem dX12_init_405 : decode cX12_init 405 = .ok (.aload_n 0, 1) := by decide +kernel
theorem dX12_init_406 : decode cX12_init 406 = .ok (.getfield 35, 3) := by decide +kernel
theorem dX12_init_409 : decode cX12_init 409 = .ok (.iload_n 1, 1) := by decide +kernel
theorem dX12_init_410 : decode cX12_init 410 = .ok (.sipush 1000, 3) := by decide +kernel
theorem dX12_init_413 : decode cX12_init 413 = .ok (.iastore, 1) := by decide +kernel
theorem dX12_init_414 : decode cX12_init 414 = .ok (.aload_n 0, 1) := by decide +kernel
theorem dX12_init_415 : decode cX12_init 415 = .ok (.getfield 44, 3) := by decide +kernel
theorem dX12_init_418 : decode cX12_init 418 = .ok (.iload_n 1, 1) := by decide +kernel
theorem dX12_init_419 : decode cX12_init 419 = .ok (.bipush 10, 2) := by decide +kernel
theorem dX12_init_421 : decode cX12_init 421 = .ok (.iastore, 1) := by decide +kernel
theorem dX12_init_422 : decode cX12_init 422 = .ok (.iinc 1 1, 3) := by decide +kernel
theorem dX12_init_425 : decode cX12_init 425 = .ok (.goto (-25), 3) := by decide +kernel
theorem dX12_init_428 : decode cX12_init 428 = .ok (.aload_n 0, 1) := by decide +kernel
theorem dX12_init_429 : decode cX12_init 429 = .ok (.getfield 47, 3) := by decide +kernel
theorem dX12_init_432 : decode cX12_init 432 = .ok (.iconst 1, 1) := by decide +kernel
theorem dX12_init_433 : decode cX12_init 433 = .ok (.sipush 399, 3) := by decide +kernel
theorem dX12_init_436 : decode cX12_init 436 = .ok (.iastore, 1) := by decide +kernel
theorem dX12_init_437 : decode cX12_init 437 = .ok (.return_, 1) := by decide +kernel
theorem dX12_isLake_0 : decode cX12_isLake 0 = .ok (.iload_n 0, 1) := by decide +kernel
theorem dX12_isLake_1 : decode cX12_isLake 1 = .ok (.ifCond .lt 12, 3) := by decide +kernel
theorem dX12_isLake_4 : decode cX12_isLake 4 = .ok (.iload_n 0, 1) := by decide +kernel
theorem dX12_isLake_5 : decode cX12_isLake 5 = .ok (.iconst 2, 1) := by decide +kernel
theorem dX12_isLake_6 : decode cX12_isLake 6 = .ok (.if_icmp .ge 7, 3) := by decide +kernel
theorem dX12_isLake_9 : decode cX12_isLake 9 = .ok (.iconst 1, 1) := by decide +kernel
theorem dX12_isLake_10 : decode cX12_isLake 10 = .ok (.goto 4, 3) := by decide +kernel
theorem dX12_isLake_13 : decode cX12_isLake 13 = .ok (.iconst 0, 1) := by decide +kernel
theorem dX12_isLake_14 : decode cX12_isLake 14 = .ok (.ireturn, 1) := by decide +kernel
theorem dX12_isLayer_0 : decode cX12_isLayer 0 = .ok (.iload_n 0, 1) := by decide +kernel
theorem dX12_isLayer_1 : decode cX12_isLayer 1 = .ok (.invokestatic 182, 3) := by decide +kernel
theorem dX12_isLayer_4 : decode cX12_isLayer 4 = .ok (.ifCond .eq 17, 3) := by decide +kernel
theorem dX12_isLayer_7 : decode cX12_isLayer 7 = .ok (.iload_n 1, 1) := by decide +kernel
theorem dX12_isLayer_8 : decode cX12_isLayer 8 = .ok (.ifCond .lt 13, 3) := by decide +kernel
theorem dX12_isLayer_11 : decode cX12_isLayer 11 = .ok (.iload_n 1, 1) := by decide +kernel
theorem dX12_isLayer_12 : decode cX12_isLayer 12 = .ok (.bipush 10, 2) := by decide +kernel
theorem dX12_isLayer_14 : decode cX12_isLayer 14 = .ok (.if_icmp .ge 7, 3) := by decide +kernel
theorem dX12_isLayer_17 : decode cX12_isLayer 17 = .ok (.iconst 1, 1) := by decide +kernel
theorem dX12_isLayer_18 : decode cX12_isLayer 18 = .ok (.goto 4, 3) := by decide +kernel
theorem dX12_isLayer_21 : decode cX12_isLayer 21 = .ok (.iconst 0, 1) := by decide +kernel
theorem dX12_isLayer_22 : decode cX12_isLayer 22 = .ok (.ireturn, 1) := by decide +kernel
theorem dX12_holds_0 : decode cX12_holds 0 = .ok (.iconst 0, 1) := by decide +kernel
theorem dX12_holds_1 : decode cX12_holds 1 = .ok (.aload_n 0, 1) := by decide +kernel
theorem dX12_holds_2 : decode cX12_holds 2 = .ok (.getfield 35, 3) := by decide +kernel
theorem dX12_holds_5 : decode cX12_holds 5 = .ok (.iload_n 1, 1) := by decide +kernel
theorem dX12_holds_6 : decode cX12_holds 6 = .ok (.iaload, 1) := by decide +kernel
theorem dX12_holds_7 : decode cX12_holds 7 = .ok (.iload_n 2, 1) := by decide +kernel
theorem dX12_holds_8 : decode cX12_holds 8 = .ok (.iconst 1, 1) := by decide +kernel
theorem dX12_holds_9 : decode cX12_holds 9 = .ok (.iadd, 1) := by decide +kernel
theorem dX12_holds_10 : decode cX12_holds 10 = .ok (.imul, 1) := by decide +kernel
theorem dX12_holds_11 : decode cX12_holds 11 = .ok (.aload_n 0, 1) := by decide +kernel
theorem dX12_holds_12 : decode cX12_holds 12 = .ok (.getfield 38, 3) := by decide +kernel
theorem dX12_holds_15 : decode cX12_holds 15 = .ok (.iload_n 1, 1) := by decide +kernel
theorem dX12_holds_16 : decode cX12_holds 16 = .ok (.iaload, 1) := by decide +kernel
theorem dX12_holds_17 : decode cX12_holds 17 = .ok (.isub, 1) := by decide +kernel
theorem dX12_holds_18 : decode cX12_holds 18 = .ok (.invokestatic 186, 3) := by decide +kernel
theorem dX12_holds_21 : decode cX12_holds 21 = .ok (.ireturn, 1) := by decide +kernel
theorem dX12_weight_0 : decode cX12_weight 0 = .ok (.iconst 4, 1) := by decide +kernel
theorem dX12_weight_1 : decode cX12_weight 1 = .ok (.iload_n 2, 1) := by decide +kernel
theorem dX12_weight_2 : decode cX12_weight 2 = .ok (.imul, 1) := by decide +kernel
theorem dX12_weight_3 : decode cX12_weight 3 = .ok (.iload_n 1, 1) := by decide +kernel
theorem dX12_weight_4 : decode cX12_weight 4 = .ok (.isub, 1) := by decide +kernel
theorem dX12_weight_5 : decode cX12_weight 5 = .ok (.iload_n 0, 1) := by decide +kernel
theorem dX12_weight_6 : decode cX12_weight 6 = .ok (.bipush 50, 2) := by decide +kernel
theorem dX12_weight_8 : decode cX12_weight 8 = .ok (.idiv, 1) := by decide +kernel
theorem dX12_weight_9 : decode cX12_weight 9 = .ok (.iadd, 1) := by decide +kernel
theorem dX12_weight_10 : decode cX12_weight 10 = .ok (.ireturn, 1) := by decide +kernel
theorem dX12_share_0 : decode cX12_share 0 = .ok (.aload_n 0, 1) := by decide +kernel
theorem dX12_share_1 : decode cX12_share 1 = .ok (.iload_n 1, 1) := by decide +kernel
theorem dX12_share_2 : decode cX12_share 2 = .ok (.iload_n 2, 1) := by decide +kernel
theorem dX12_share_3 : decode cX12_share 3 = .ok (.invokevirtual 192, 3) := by decide +kernel
theorem dX12_share_6 : decode cX12_share 6 = .ok (.istore 4, 2) := by decide +kernel
theorem dX12_share_8 : decode cX12_share 8 = .ok (.iload 4, 2) := by decide +kernel
theorem dX12_share_10 : decode cX12_share 10 = .ok (.ifCond .ne 17, 3) := by decide +kernel
theorem dX12_share_13 : decode cX12_share 13 = .ok (.iload_n 3, 1) := by decide +kernel
theorem dX12_share_14 : decode cX12_share 14 = .ok (.ifCond .ne 7, 3) := by decide +kernel
theorem dX12_share_17 : decode cX12_share 17 = .ok (.iconst 0, 1) := by decide +kernel
theorem dX12_share_18 : decode cX12_share 18 = .ok (.goto 26, 3) := by decide +kernel
theorem dX12_share_21 : decode cX12_share 21 = .ok (.sipush 999, 3) := by decide +kernel
theorem dX12_share_24 : decode cX12_share 24 = .ok (.goto 20, 3) := by decide +kernel
theorem dX12_share_27 : decode cX12_share 27 = .ok (.ldc2_w 195, 3) := by decide +kernel
theorem dX12_share_30 : decode cX12_share 30 = .ok (.ldc2_w 197, 3) := by decide +kernel
theorem dX12_share_33 : decode cX12_share 33 = .ok (.iload_n 3, 1) := by decide +kernel
theorem dX12_share_34 : decode cX12_share 34 = .ok (.i2l, 1) := by decide +kernel
theorem dX12_share_35 : decode cX12_share 35 = .ok (.lmul, 1) := by decide +kernel
theorem dX12_share_36 : decode cX12_share 36 = .ok (.iload 4, 2) := by decide +kernel
theorem dX12_share_38 : decode cX12_share 38 = .ok (.i2l, 1) := by decide +kernel
theorem dX12_share_39 : decode cX12_share 39 = .ok (.ldiv, 1) := by decide +kernel
theorem dX12_share_40 : decode cX12_share 40 = .ok (.invokestatic 199, 3) := by decide +kernel
theorem dX12_share_43 : decode cX12_share 43 = .ok (.l2i, 1) := by decide +kernel
theorem dX12_share_44 : decode cX12_share 44 = .ok (.ireturn, 1) := by decide +kernel
theorem dX12_layer_0 : decode cX12_layer 0 = .ok (.aload_n 0, 1) := by decide +kernel
theorem dX12_layer_1 : decode cX12_layer 1 = .ok (.iconst 0, 1) := by decide +kernel
theorem dX12_layer_2 : decode cX12_layer 2 = .ok (.putfield 1, 3) := by decide +kernel
theorem dX12_layer_5 : decode cX12_layer 5 = .ok (.iload_n 1, 1) := by decide +kernel
theorem dX12_layer_6 : decode cX12_layer 6 = .ok (.iload_n 2, 1) := by decide +kernel
theorem dX12_layer_7 : decode cX12_layer 7 = .ok (.invokestatic 203, 3) := by decide +kernel
theorem dX12_layer_10 : decode cX12_layer 10 = .ok (.ifCond .ne 9, 3) := by decide +kernel
theorem dX12_layer_13 : decode cX12_layer 13 = .ok (.aload_n 0, 1) := by decide +kernel
theorem dX12_layer_14 : decode cX12_layer 14 = .ok (.iconst 1, 1) := by decide +kernel
theorem dX12_layer_15 : decode cX12_layer 15 = .ok (.invokevirtual 207, 3) := by decide +kernel
theorem dX12_layer_18 : decode cX12_layer 18 = .ok (.ireturn, 1) := by decide +kernel
theorem dX12_layer_19 : decode cX12_layer 19 = .ok (.iload_n 3, 1) := by decide +kernel
theorem dX12_layer_20 : decode cX12_layer 20 = .ok (.iconst 0, 1) := by decide +kernel
theorem dX12_layer_21 : decode cX12_layer 21 = .ok (.ldc 210, 2) := by decide +kernel
theorem dX12_layer_23 : decode cX12_layer 23 = .ok (.invokestatic 211, 3) := by decide +kernel
theorem dX12_layer_26 : decode cX12_layer 26 = .ok (.ifCond .eq 27, 3) := by decide +kernel
theorem dX12_layer_29 : decode cX12_layer 29 = .ok (.iload 4, 2) := by decide +kernel
theorem dX12_layer_31 : decode cX12_layer 31 = .ok (.iconst 0, 1) := by decide +kernel
theorem dX12_layer_32 : decode cX12_layer 32 = .ok (.sipush 400, 3) := by decide +kernel
theorem dX12_layer_35 : decode cX12_layer 35 = .ok (.invokestatic 211, 3) := by decide +kernel
theorem dX12_layer_38 : decode cX12_layer 38 = .ok (.ifCond .eq 15, 3) := by decide +kernel
theorem dX12_layer_41 : decode cX12_layer 41 = .ok (.iload 5, 2) := by decide +kernel
theorem dX12_layer_43 : decode cX12_layer 43 = .ok (.iconst 0, 1) := by decide +kernel
theorem dX12_layer_44 : decode cX12_layer 44 = .ok (.sipush 1000, 3) := by decide +kernel
theorem dX12_layer_47 : decode cX12_layer 47 = .ok (.invokestatic 211, 3) := by decide +kernel
theorem dX12_layer_50 : decode cX12_layer 50 = .ok (.ifCond .ne 9, 3) := by decide +kernel
theorem dX12_layer_53 : decode cX12_layer 53 = .ok (.aload_n 0, 1) := by decide +kernel
theorem dX12_layer_54 : decode cX12_layer 54 = .ok (.iconst 2, 1) := by decide +kernel
theorem dX12_layer_55 : decode cX12_layer 55 = .ok (.invokevirtual 207, 3) := by decide +kernel
theorem dX12_layer_58 : decode cX12_layer 58 = .ok (.ireturn, 1) := by decide +kernel
theorem dX12_layer_59 : decode cX12_layer 59 = .ok (.bipush 10, 2) := by decide +kernel
theorem dX12_layer_61 : decode cX12_layer 61 = .ok (.iload_n 1, 1) := by decide +kernel
theorem dX12_layer_62 : decode cX12_layer 62 = .ok (.imul, 1) := by decide +kernel
theorem dX12_layer_63 : decode cX12_layer 63 = .ok (.iload_n 2, 1) := by decide +kernel
theorem dX12_layer_64 : decode cX12_layer 64 = .ok (.iadd, 1) := by decide +kernel
theorem dX12_layer_65 : decode cX12_layer 65 = .ok (.istore 6, 2) := by decide +kernel
theorem dX12_layer_67 : decode cX12_layer 67 = .ok (.aload_n 0, 1) := by decide +kernel
theorem dX12_layer_68 : decode cX12_layer 68 = .ok (.getfield 50, 3) := by decide +kernel
theorem dX12_layer_71 : decode cX12_layer 71 = .ok (.iload_n 1, 1) := by decide +kernel
theorem dX12_layer_72 : decode cX12_layer 72 = .ok (.dup2, 1) := by decide +kernel
theorem dX12_layer_73 : decode cX12_layer 73 = .ok (.iaload, 1) := by decide +kernel
theorem dX12_layer_74 : decode cX12_layer 74 = .ok (.iload_n 3, 1) := by decide +kernel
theorem dX12_layer_75 : decode cX12_layer 75 = .ok (.aload_n 0, 1) := by decide +kernel
theorem dX12_layer_76 : decode cX12_layer 76 = .ok (.getfield 25, 3) := by decide +kernel
theorem dX12_layer_79 : decode cX12_layer 79 = .ok (.iload 6, 2) := by decide +kernel
theorem dX12_layer_81 : decode cX12_layer 81 = .ok (.iaload, 1) := by decide +kernel
theorem dX12_layer_82 : decode cX12_layer 82 = .ok (.isub, 1) := by decide +kernel
theorem dX12_layer_83 : decode cX12_layer 83 = .ok (.iadd, 1) := by decide +kernel
theorem dX12_layer_84 : decode cX12_layer 84 = .ok (.iastore, 1) := by decide +kernel
theorem dX12_layer_85 : decode cX12_layer 85 = .ok (.aload_n 0, 1) := by decide +kernel
theorem dX12_layer_86 : decode cX12_layer 86 = .ok (.getfield 25, 3) := by decide +kernel
theorem dX12_layer_89 : decode cX12_layer 89 = .ok (.iload 6, 2) := by decide +kernel
theorem dX12_layer_91 : decode cX12_layer 91 = .ok (.iload_n 3, 1) := by decide +kernel
theorem dX12_layer_92 : decode cX12_layer 92 = .ok (.iastore, 1) := by decide +kernel
theorem dX12_layer_93 : decode cX12_layer 93 = .ok (.aload_n 0, 1) := by decide +kernel
theorem dX12_layer_94 : decode cX12_layer 94 = .ok (.getfield 29, 3) := by decide +kernel
theorem dX12_layer_97 : decode cX12_layer 97 = .ok (.iload 6, 2) := by decide +kernel
theorem dX12_layer_99 : decode cX12_layer 99 = .ok (.iload 4, 2) := by decide +kernel
theorem dX12_layer_101 : decode cX12_layer 101 = .ok (.iastore, 1) := by decide +kernel
theorem dX12_layer_102 : decode cX12_layer 102 = .ok (.aload_n 0, 1) := by decide +kernel
theorem dX12_layer_103 : decode cX12_layer 103 = .ok (.getfield 32, 3) := by decide +kernel
theorem dX12_layer_106 : decode cX12_layer 106 = .ok (.iload 6, 2) := by decide +kernel
theorem dX12_layer_108 : decode cX12_layer 108 = .ok (.iload 5, 2) := by decide +kernel
theorem dX12_layer_110 : decode cX12_layer 110 = .ok (.iastore, 1) := by decide +kernel
theorem dX12_layer_111 : decode cX12_layer 111 = .ok (.aload_n 0, 1) := by decide +kernel
theorem dX12_layer_112 : decode cX12_layer 112 = .ok (.invokevirtual 215, 3) := by decide +kernel
theorem dX12_layer_115 : decode cX12_layer 115 = .ok (.ireturn, 1) := by decide +kernel
theorem dX12_set_0 : decode cX12_set 0 = .ok (.aload_n 0, 1) := by decide +kernel
theorem dX12_set_1 : decode cX12_set 1 = .ok (.iconst 0, 1) := by decide +kernel
theorem dX12_set_2 : decode cX12_set 2 = .ok (.putfield 1, 3) := by decide +kernel
theorem dX12_set_5 : decode cX12_set 5 = .ok (.iload_n 1, 1) := by decide +kernel
theorem dX12_set_6 : decode cX12_set 6 = .ok (.invokestatic 182, 3) := by decide +kernel
theorem dX12_set_9 : decode cX12_set 9 = .ok (.ifCond .eq 12, 3) := by decide +kernel
theorem dX12_set_12 : decode cX12_set 12 = .ok (.iload_n 2, 1) := by decide +kernel
theorem dX12_set_13 : decode cX12_set 13 = .ok (.iconst 0, 1) := by decide +kernel
theorem dX12_set_14 : decode cX12_set 14 = .ok (.iconst 4, 1) := by decide +kernel
theorem dX12_set_15 : decode cX12_set 15 = .ok (.invokestatic 211, 3) := by decide +kernel
theorem dX12_set_18 : decode cX12_set 18 = .ok (.ifCond .ne 9, 3) := by decide +kernel
theorem dX12_set_21 : decode cX12_set 21 = .ok (.aload_n 0, 1) := by decide +kernel
theorem dX12_set_22 : decode cX12_set 22 = .ok (.iconst 1, 1) := by decide +kernel
theorem dX12_set_23 : decode cX12_set 23 = .ok (.invokevirtual 207, 3) := by decide +kernel
theorem dX12_set_26 : decode cX12_set 26 = .ok (.ireturn, 1) := by decide +kernel
theorem dX12_set_27 : decode cX12_set 27 = .ok (.iload_n 2, 1) := by decide +kernel
theorem dX12_set_28 : decode cX12_set 28 = .ok (.ifCond .ne 7, 3) := by decide +kernel
theorem dX12_set_31 : decode cX12_set 31 = .ok (.iconst 1, 1) := by decide +kernel
theorem dX12_set_32 : decode cX12_set 32 = .ok (.goto 13, 3) := by decide +kernel
theorem dX12_set_35 : decode cX12_set 35 = .ok (.iload_n 2, 1) := by decide +kernel
theorem dX12_set_36 : decode cX12_set 36 = .ok (.iconst 3, 1) := by decide +kernel
theorem dX12_set_37 : decode cX12_set 37 = .ok (.if_icmp .ne 7, 3) := by decide +kernel
theorem dX12_set_40 : decode cX12_set 40 = .ok (.iconst 2, 1) := by decide +kernel
theorem dX12_set_41 : decode cX12_set 41 = .ok (.goto 4, 3) := by decide +kernel
theorem dX12_set_44 : decode cX12_set 44 = .ok (.iconst 0, 1) := by decide +kernel
theorem dX12_set_45 : decode cX12_set 45 = .ok (.istore 4, 2) := by decide +kernel
theorem dX12_set_47 : decode cX12_set 47 = .ok (.iload_n 2, 1) := by decide +kernel
theorem dX12_set_48 : decode cX12_set 48 = .ok (.ifCond .eq 8, 3) := by decide +kernel
theorem dX12_set_51 : decode cX12_set 51 = .ok (.iload_n 2, 1) := by decide +kernel
theorem dX12_set_52 : decode cX12_set 52 = .ok (.iconst 2, 1) := by decide +kernel
theorem dX12_set_53 : decode cX12_set 53 = .ok (.if_icmp .ne 9, 3) := by decide +kernel
theorem dX12_set_56 : decode cX12_set 56 = .ok (.sipush 10000, 3) := by decide +kernel
theorem dX12_set_59 : decode cX12_set 59 = .ok (.goto 28, 3) := by decide +kernel
theorem dX12_set_62 : decode cX12_set 62 = .ok (.iload_n 2, 1) := by decide +kernel
theorem dX12_set_63 : decode cX12_set 63 = .ok (.iconst 1, 1) := by decide +kernel
theorem dX12_set_64 : decode cX12_set 64 = .ok (.if_icmp .ne 9, 3) := by decide +kernel
theorem dX12_set_67 : decode cX12_set 67 = .ok (.sipush 20000, 3) := by decide +kernel
theorem dX12_set_70 : decode cX12_set 70 = .ok (.goto 17, 3) := by decide +kernel
theorem dX12_set_73 : decode cX12_set 73 = .ok (.iload_n 2, 1) := by decide +kernel
theorem dX12_set_74 : decode cX12_set 74 = .ok (.iconst 3, 1) := by decide +kernel
theorem dX12_set_75 : decode cX12_set 75 = .ok (.if_icmp .ne 9, 3) := by decide +kernel
theorem dX12_set_78 : decode cX12_set 78 = .ok (.sipush 1000, 3) := by decide +kernel
theorem dX12_set_81 : decode cX12_set 81 = .ok (.goto 6, 3) := by decide +kernel
theorem dX12_set_84 : decode cX12_set 84 = .ok (.sipush 399, 3) := by decide +kernel
theorem dX12_set_87 : decode cX12_set 87 = .ok (.istore 5, 2) := by decide +kernel
theorem dX12_set_89 : decode cX12_set 89 = .ok (.iload_n 3, 1) := by decide +kernel
theorem dX12_set_90 : decode cX12_set 90 = .ok (.iload 4, 2) := by decide +kernel
theorem dX12_set_92 : decode cX12_set 92 = .ok (.iload 5, 2) := by decide +kernel
theorem dX12_set_94 : decode cX12_set 94 = .ok (.invokestatic 211, 3) := by decide +kernel
theorem dX12_set_97 : decode cX12_set 97 = .ok (.ifCond .ne 9, 3) := by decide +kernel
theorem dX12_set_100 : decode cX12_set 100 = .ok (.aload_n 0, 1) := by decide +kernel
theorem dX12_set_101 : decode cX12_set 101 = .ok (.iconst 2, 1) := by decide +kernel
theorem dX12_set_102 : decode cX12_set 102 = .ok (.invokevirtual 207, 3) := by decide +kernel
theorem dX12_set_105 : decode cX12_set 105 = .ok (.ireturn, 1) := by decide +kernel
theorem dX12_set_106 : decode cX12_set 106 = .ok (.iload_n 2, 1) := by decide +kernel
theorem dX12_set_107 : decode cX12_set 107 = .ok (.tableswitch 69 0 3 #[29, 39, 49, 59], 29) := by decide +kernel
theorem dX12_set_136 : decode cX12_set 136 = .ok (.aload_n 0, 1) := by decide +kernel
theorem dX12_set_137 : decode cX12_set 137 = .ok (.getfield 35, 3) := by decide +kernel
theorem dX12_set_140 : decode cX12_set 140 = .ok (.iload_n 1, 1) := by decide +kernel
theorem dX12_set_141 : decode cX12_set 141 = .ok (.iload_n 3, 1) := by decide +kernel
theorem dX12_set_142 : decode cX12_set 142 = .ok (.iastore, 1) := by decide +kernel
theorem dX12_set_143 : decode cX12_set 143 = .ok (.goto 40, 3) := by decide +kernel
theorem dX12_set_146 : decode cX12_set 146 = .ok (.aload_n 0, 1) := by decide +kernel
theorem dX12_set_147 : decode cX12_set 147 = .ok (.getfield 38, 3) := by decide +kernel
theorem dX12_set_150 : decode cX12_set 150 = .ok (.iload_n 1, 1) := by decide +kernel
theorem dX12_set_151 : decode cX12_set 151 = .ok (.iload_n 3, 1) := by decide +kernel
theorem dX12_set_152 : decode cX12_set 152 = .ok (.iastore, 1) := by decide +kernel
theorem dX12_set_153 : decode cX12_set 153 = .ok (.goto 30, 3) := by decide +kernel
theorem dX12_set_156 : decode cX12_set 156 = .ok (.aload_n 0, 1) := by decide +kernel
theorem dX12_set_157 : decode cX12_set 157 = .ok (.getfield 41, 3) := by decide +kernel
theorem dX12_set_160 : decode cX12_set 160 = .ok (.iload_n 1, 1) := by decide +kernel
theorem dX12_set_161 : decode cX12_set 161 = .ok (.iload_n 3, 1) := by decide +kernel
theorem dX12_set_162 : decode cX12_set 162 = .ok (.iastore, 1) := by decide +kernel
theorem dX12_set_163 : decode cX12_set 163 = .ok (.goto 20, 3) := by decide +kernel
theorem dX12_set_166 : decode cX12_set 166 = .ok (.aload_n 0, 1) := by decide +kernel
theorem dX12_set_167 : decode cX12_set 167 = .ok (.getfield 44, 3) := by decide +kernel
theorem dX12_set_170 : decode cX12_set 170 = .ok (.iload_n 1, 1) := by decide +kernel
theorem dX12_set_171 : decode cX12_set 171 = .ok (.iload_n 3, 1) := by decide +kernel
theorem dX12_set_172 : decode cX12_set 172 = .ok (.iastore, 1) := by decide +kernel
theorem dX12_set_173 : decode cX12_set 173 = .ok (.goto 10, 3) := by decide +kernel
theorem dX12_set_176 : decode cX12_set 176 = .ok (.aload_n 0, 1) := by decide +kernel
theorem dX12_set_177 : decode cX12_set 177 = .ok (.getfield 47, 3) := by decide +kernel
theorem dX12_set_180 : decode cX12_set 180 = .ok (.iload_n 1, 1) := by decide +kernel
theorem dX12_set_181 : decode cX12_set 181 = .ok (.iload_n 3, 1) := by decide +kernel
theorem dX12_set_182 : decode cX12_set 182 = .ok (.iastore, 1) := by decide +kernel
theorem dX12_set_183 : decode cX12_set 183 = .ok (.aload_n 0, 1) := by decide +kernel
theorem dX12_set_184 : decode cX12_set 184 = .ok (.invokevirtual 215, 3) := by decide +kernel
theorem dX12_set_187 : decode cX12_set 187 = .ok (.ireturn, 1) := by decide +kernel
theorem dX12_of_0 : decode cX12_of 0 = .ok (.aload_n 0, 1) := by decide +kernel
theorem dX12_of_1 : decode cX12_of 1 = .ok (.iconst 0, 1) := by decide +kernel
theorem dX12_of_2 : decode cX12_of 2 = .ok (.putfield 1, 3) := by decide +kernel
theorem dX12_of_5 : decode cX12_of 5 = .ok (.iload_n 1, 1) := by decide +kernel
theorem dX12_of_6 : decode cX12_of 6 = .ok (.iload_n 2, 1) := by decide +kernel
theorem dX12_of_7 : decode cX12_of 7 = .ok (.invokestatic 203, 3) := by decide +kernel
theorem dX12_of_10 : decode cX12_of 10 = .ok (.ifCond .ne 6, 3) := by decide +kernel
theorem dX12_of_13 : decode cX12_of 13 = .ok (.ldc 15, 2) := by decide +kernel
theorem dX12_of_15 : decode cX12_of 15 = .ok (.ireturn, 1) := by decide +kernel
theorem dX12_of_16 : decode cX12_of 16 = .ok (.bipush 10, 2) := by decide +kernel
theorem dX12_of_18 : decode cX12_of 18 = .ok (.iload_n 1, 1) := by decide +kernel
theorem dX12_of_19 : decode cX12_of 19 = .ok (.imul, 1) := by decide +kernel
theorem dX12_of_20 : decode cX12_of 20 = .ok (.iload_n 2, 1) := by decide +kernel
theorem dX12_of_21 : decode cX12_of 21 = .ok (.iadd, 1) := by decide +kernel
theorem dX12_of_22 : decode cX12_of 22 = .ok (.istore 4, 2) := by decide +kernel
theorem dX12_of_24 : decode cX12_of 24 = .ok (.iload_n 3, 1) := by decide +kernel
theorem dX12_of_25 : decode cX12_of 25 = .ok (.tableswitch 129 0 6 #[43, 51, 59, 67, 92, 99, 110], 43) := by decide +kernel
theorem dX12_of_68 : decode cX12_of 68 = .ok (.aload_n 0, 1) := by decide +kernel
theorem dX12_of_69 : decode cX12_of 69 = .ok (.getfield 25, 3) := by decide +kernel
theorem dX12_of_72 : decode cX12_of 72 = .ok (.iload 4, 2) := by decide +kernel
theorem dX12_of_74 : decode cX12_of 74 = .ok (.iaload, 1) := by decide +kernel
theorem dX12_of_75 : decode cX12_of 75 = .ok (.ireturn, 1) := by decide +kernel
theorem dX12_of_76 : decode cX12_of 76 = .ok (.aload_n 0, 1) := by decide +kernel
theorem dX12_of_77 : decode cX12_of 77 = .ok (.getfield 29, 3) := by decide +kernel
theorem dX12_of_80 : decode cX12_of 80 = .ok (.iload 4, 2) := by decide +kernel
theorem dX12_of_82 : decode cX12_of 82 = .ok (.iaload, 1) := by decide +kernel
theorem dX12_of_83 : decode cX12_of 83 = .ok (.ireturn, 1) := by decide +kernel
theorem dX12_of_84 : decode cX12_of 84 = .ok (.aload_n 0, 1) := by decide +kernel
theorem dX12_of_85 : decode cX12_of 85 = .ok (.getfield 32, 3) := by decide +kernel
theorem dX12_of_88 : decode cX12_of 88 = .ok (.iload 4, 2) := by decide +kernel
theorem dX12_of_90 : decode cX12_of 90 = .ok (.iaload, 1) := by decide +kernel
theorem dX12_of_91 : decode cX12_of 91 = .ok (.ireturn, 1) := by decide +kernel
theorem dX12_of_92 : decode cX12_of 92 = .ok (.aload_n 0, 1) := by decide +kernel
theorem dX12_of_93 : decode cX12_of 93 = .ok (.getfield 25, 3) := by decide +kernel
theorem dX12_of_96 : decode cX12_of 96 = .ok (.iload 4, 2) := by decide +kernel
theorem dX12_of_98 : decode cX12_of 98 = .ok (.iaload, 1) := by decide +kernel
theorem dX12_of_99 : decode cX12_of 99 = .ok (.aload_n 0, 1) := by decide +kernel
theorem dX12_of_100 : decode cX12_of 100 = .ok (.getfield 29, 3) := by decide +kernel
theorem dX12_of_103 : decode cX12_of 103 = .ok (.iload 4, 2) := by decide +kernel
theorem dX12_of_105 : decode cX12_of 105 = .ok (.iaload, 1) := by decide +kernel
theorem dX12_of_106 : decode cX12_of 106 = .ok (.aload_n 0, 1) := by decide +kernel
theorem dX12_of_107 : decode cX12_of 107 = .ok (.getfield 32, 3) := by decide +kernel
theorem dX12_of_110 : decode cX12_of 110 = .ok (.iload 4, 2) := by decide +kernel
theorem dX12_of_112 : decode cX12_of 112 = .ok (.iaload, 1) := by decide +kernel
theorem dX12_of_113 : decode cX12_of 113 = .ok (.invokestatic 219, 3) := by decide +kernel
theorem dX12_of_116 : decode cX12_of 116 = .ok (.ireturn, 1) := by decide +kernel
theorem dX12_of_117 : decode cX12_of 117 = .ok (.aload_n 0, 1) := by decide +kernel
theorem dX12_of_118 : decode cX12_of 118 = .ok (.iload_n 1, 1) := by decide +kernel
theorem dX12_of_119 : decode cX12_of 119 = .ok (.iload_n 2, 1) := by decide +kernel
theorem dX12_of_120 : decode cX12_of 120 = .ok (.invokevirtual 192, 3) := by decide +kernel
theorem dX12_of_123 : decode cX12_of 123 = .ok (.ireturn, 1) := by decide +kernel
theorem dX12_of_124 : decode cX12_of 124 = .ok (.aload_n 0, 1) := by decide +kernel
theorem dX12_of_125 : decode cX12_of 125 = .ok (.iload_n 1, 1) := by decide +kernel
theorem dX12_of_126 : decode cX12_of 126 = .ok (.iload_n 2, 1) := by decide +kernel
theorem dX12_of_127 : decode cX12_of 127 = .ok (.aload_n 0, 1) := by decide +kernel
theorem dX12_of_128 : decode cX12_of 128 = .ok (.getfield 223, 3) := by decide +kernel
theorem dX12_of_131 : decode cX12_of 131 = .ok (.invokevirtual 226, 3) := by decide +kernel
theorem dX12_of_134 : decode cX12_of 134 = .ok (.ireturn, 1) := by decide +kernel
theorem dX12_of_135 : decode cX12_of 135 = .ok (.aload_n 0, 1) := by decide +kernel
theorem dX12_of_136 : decode cX12_of 136 = .ok (.iload_n 1, 1) := by decide +kernel
theorem dX12_of_137 : decode cX12_of 137 = .ok (.iload_n 2, 1) := by decide +kernel
theorem dX12_of_138 : decode cX12_of 138 = .ok (.aload_n 0, 1) := by decide +kernel
theorem dX12_of_139 : decode cX12_of 139 = .ok (.getfield 223, 3) := by decide +kernel
theorem dX12_of_142 : decode cX12_of 142 = .ok (.invokevirtual 229, 3) := by decide +kernel
theorem dX12_of_145 : decode cX12_of 145 = .ok (.ifCond .eq 7, 3) := by decide +kernel
theorem dX12_of_148 : decode cX12_of 148 = .ok (.iconst 1, 1) := by decide +kernel
theorem dX12_of_149 : decode cX12_of 149 = .ok (.goto 4, 3) := by decide +kernel
theorem dX12_of_152 : decode cX12_of 152 = .ok (.iconst 0, 1) := by decide +kernel
theorem dX12_of_153 : decode cX12_of 153 = .ok (.ireturn, 1) := by decide +kernel
theorem dX12_of_154 : decode cX12_of 154 = .ok (.ldc 15, 2) := by decide +kernel
theorem dX12_of_156 : decode cX12_of 156 = .ok (.ireturn, 1) := by decide +kernel
theorem dX12_fullTold_0 : decode cX12_fullTold 0 = .ok (.iconst 0, 1) := by decide +kernel
theorem dX12_fullTold_1 : decode cX12_fullTold 1 = .ok (.istore_n 2, 1) := by decide +kernel
theorem dX12_fullTold_2 : decode cX12_fullTold 2 = .ok (.iconst 0, 1) := by decide +kernel
theorem dX12_fullTold_3 : decode cX12_fullTold 3 = .ok (.istore_n 3, 1) := by decide +kernel
theorem dX12_fullTold_4 : decode cX12_fullTold 4 = .ok (.iload_n 3, 1) := by decide +kernel
theorem dX12_fullTold_5 : decode cX12_fullTold 5 = .ok (.bipush 10, 2) := by decide +kernel
theorem dX12_fullTold_7 : decode cX12_fullTold 7 = .ok (.if_icmp .ge 30, 3) := by decide +kernel
theorem dX12_fullTold_10 : decode cX12_fullTold 10 = .ok (.iload_n 2, 1) := by decide +kernel
theorem dX12_fullTold_11 : decode cX12_fullTold 11 = .ok (.aload_n 0, 1) := by decide +kernel
theorem dX12_fullTold_12 : decode cX12_fullTold 12 = .ok (.iload_n 1, 1) := by decide +kernel
theorem dX12_fullTold_13 : decode cX12_fullTold 13 = .ok (.iload_n 3, 1) := by decide +kernel
theorem dX12_fullTold_14 : decode cX12_fullTold 14 = .ok (.aload_n 0, 1) := by decide +kernel
theorem dX12_fullTold_15 : decode cX12_fullTold 15 = .ok (.iload_n 1, 1) := by decide +kernel
theorem dX12_fullTold_16 : decode cX12_fullTold 16 = .ok (.iload_n 3, 1) := by decide +kernel
theorem dX12_fullTold_17 : decode cX12_fullTold 17 = .ok (.aload_n 0, 1) := by decide +kernel
theorem dX12_fullTold_18 : decode cX12_fullTold 18 = .ok (.getfield 223, 3) := by decide +kernel
theorem dX12_fullTold_21 : decode cX12_fullTold 21 = .ok (.invokevirtual 226, 3) := by decide +kernel
theorem dX12_fullTold_24 : decode cX12_fullTold 24 = .ok (.invokevirtual 232, 3) := by decide +kernel
theorem dX12_fullTold_27 : decode cX12_fullTold 27 = .ok (.invokestatic 186, 3) := by decide +kernel
theorem dX12_fullTold_30 : decode cX12_fullTold 30 = .ok (.istore_n 2, 1) := by decide +kernel
theorem dX12_fullTold_31 : decode cX12_fullTold 31 = .ok (.iinc 3 1, 3) := by decide +kernel
theorem dX12_fullTold_34 : decode cX12_fullTold 34 = .ok (.goto (-30), 3) := by decide +kernel
theorem dX12_fullTold_37 : decode cX12_fullTold 37 = .ok (.iload_n 2, 1) := by decide +kernel
theorem dX12_fullTold_38 : decode cX12_fullTold 38 = .ok (.ireturn, 1) := by decide +kernel
theorem dX12_full_0 : decode cX12_full 0 = .ok (.aload_n 0, 1) := by decide +kernel
theorem dX12_full_1 : decode cX12_full 1 = .ok (.iconst 0, 1) := by decide +kernel
theorem dX12_full_2 : decode cX12_full 2 = .ok (.putfield 1, 3) := by decide +kernel
theorem dX12_full_5 : decode cX12_full 5 = .ok (.iload_n 1, 1) := by decide +kernel
theorem dX12_full_6 : decode cX12_full 6 = .ok (.invokestatic 182, 3) := by decide +kernel
theorem dX12_full_9 : decode cX12_full 9 = .ok (.ifCond .ne 5, 3) := by decide +kernel
theorem dX12_full_12 : decode cX12_full 12 = .ok (.iconst (-1), 1) := by decide +kernel
theorem dX12_full_13 : decode cX12_full 13 = .ok (.ireturn, 1) := by decide +kernel
theorem dX12_full_14 : decode cX12_full 14 = .ok (.iload_n 2, 1) := by decide +kernel
theorem dX12_full_15 : decode cX12_full 15 = .ok (.ifCond .eq 9, 3) := by decide +kernel
theorem dX12_full_18 : decode cX12_full 18 = .ok (.aload_n 0, 1) := by decide +kernel
theorem dX12_full_19 : decode cX12_full 19 = .ok (.iload_n 1, 1) := by decide +kernel
theorem dX12_full_20 : decode cX12_full 20 = .ok (.invokevirtual 235, 3) := by decide +kernel
theorem dX12_full_23 : decode cX12_full 23 = .ok (.ireturn, 1) := by decide +kernel
theorem dX12_full_24 : decode cX12_full 24 = .ok (.aload_n 0, 1) := by decide +kernel
theorem dX12_full_25 : decode cX12_full 25 = .ok (.iload_n 1, 1) := by decide +kernel
theorem dX12_full_26 : decode cX12_full 26 = .ok (.invokevirtual 239, 3) := by decide +kernel
theorem dX12_full_29 : decode cX12_full 29 = .ok (.aload_n 0, 1) := by decide +kernel
theorem dX12_full_30 : decode cX12_full 30 = .ok (.iload_n 1, 1) := by decide +kernel
theorem dX12_full_31 : decode cX12_full 31 = .ok (.invokevirtual 243, 3) := by decide +kernel
theorem dX12_full_34 : decode cX12_full 34 = .ok (.ireturn, 1) := by decide +kernel
theorem dX12_led_0 : decode cX12_led 0 = .ok (.aload_n 0, 1) := by decide +kernel
theorem dX12_led_1 : decode cX12_led 1 = .ok (.iconst 0, 1) := by decide +kernel
theorem dX12_led_2 : decode cX12_led 2 = .ok (.putfield 1, 3) := by decide +kernel
theorem dX12_led_5 : decode cX12_led 5 = .ok (.iload_n 1, 1) := by decide +kernel
theorem dX12_led_6 : decode cX12_led 6 = .ok (.invokestatic 182, 3) := by decide +kernel
theorem dX12_led_9 : decode cX12_led 9 = .ok (.ifCond .ne 6, 3) := by decide +kernel
theorem dX12_led_12 : decode cX12_led 12 = .ok (.ldc 15, 2) := by decide +kernel
theorem dX12_led_14 : decode cX12_led 14 = .ok (.ireturn, 1) := by decide +kernel
theorem dX12_led_15 : decode cX12_led 15 = .ok (.iload_n 2, 1) := by decide +kernel
theorem dX12_led_16 : decode cX12_led 16 = .ok (.tableswitch 110 0 5 #[40, 47, 54, 61, 68, 103], 40) := by decide +kernel
theorem dX12_led_56 : decode cX12_led 56 = .ok (.aload_n 0, 1) := by decide +kernel
theorem dX12_led_57 : decode cX12_led 57 = .ok (.getfield 50, 3) := by decide +kernel
theorem dX12_led_60 : decode cX12_led 60 = .ok (.iload_n 1, 1) := by decide +kernel
theorem dX12_led_61 : decode cX12_led 61 = .ok (.iaload, 1) := by decide +kernel
theorem dX12_led_62 : decode cX12_led 62 = .ok (.ireturn, 1) := by decide +kernel
theorem dX12_led_63 : decode cX12_led 63 = .ok (.aload_n 0, 1) := by decide +kernel
theorem dX12_led_64 : decode cX12_led 64 = .ok (.getfield 53, 3) := by decide +kernel
theorem dX12_led_67 : decode cX12_led 67 = .ok (.iload_n 1, 1) := by decide +kernel
theorem dX12_led_68 : decode cX12_led 68 = .ok (.iaload, 1) := by decide +kernel
theorem dX12_led_69 : decode cX12_led 69 = .ok (.ireturn, 1) := by decide +kernel
theorem dX12_led_70 : decode cX12_led 70 = .ok (.aload_n 0, 1) := by decide +kernel
theorem dX12_led_71 : decode cX12_led 71 = .ok (.getfield 56, 3) := by decide +kernel
theorem dX12_led_74 : decode cX12_led 74 = .ok (.iload_n 1, 1) := by decide +kernel
theorem dX12_led_75 : decode cX12_led 75 = .ok (.iaload, 1) := by decide +kernel
theorem dX12_led_76 : decode cX12_led 76 = .ok (.ireturn, 1) := by decide +kernel
theorem dX12_led_77 : decode cX12_led 77 = .ok (.aload_n 0, 1) := by decide +kernel
theorem dX12_led_78 : decode cX12_led 78 = .ok (.getfield 59, 3) := by decide +kernel
theorem dX12_led_81 : decode cX12_led 81 = .ok (.iload_n 1, 1) := by decide +kernel
theorem dX12_led_82 : decode cX12_led 82 = .ok (.iaload, 1) := by decide +kernel
theorem dX12_led_83 : decode cX12_led 83 = .ok (.ireturn, 1) := by decide +kernel
theorem dX12_led_84 : decode cX12_led 84 = .ok (.iconst 0, 1) := by decide +kernel
theorem dX12_led_85 : decode cX12_led 85 = .ok (.istore_n 3, 1) := by decide +kernel
theorem dX12_led_86 : decode cX12_led 86 = .ok (.iconst 0, 1) := by decide +kernel
theorem dX12_led_87 : decode cX12_led 87 = .ok (.istore 4, 2) := by decide +kernel
theorem dX12_led_89 : decode cX12_led 89 = .ok (.iload 4, 2) := by decide +kernel
theorem dX12_led_91 : decode cX12_led 91 = .ok (.bipush 10, 2) := by decide +kernel
theorem dX12_led_93 : decode cX12_led 93 = .ok (.if_icmp .ge 24, 3) := by decide +kernel
theorem dX12_led_96 : decode cX12_led 96 = .ok (.iload_n 3, 1) := by decide +kernel
theorem dX12_led_97 : decode cX12_led 97 = .ok (.aload_n 0, 1) := by decide +kernel
theorem dX12_led_98 : decode cX12_led 98 = .ok (.getfield 25, 3) := by decide +kernel
theorem dX12_led_101 : decode cX12_led 101 = .ok (.bipush 10, 2) := by decide +kernel
theorem dX12_led_103 : decode cX12_led 103 = .ok (.iload_n 1, 1) := by decide +kernel
theorem dX12_led_104 : decode cX12_led 104 = .ok (.imul, 1) := by decide +kernel
theorem dX12_led_105 : decode cX12_led 105 = .ok (.iload 4, 2) := by decide +kernel
theorem dX12_led_107 : decode cX12_led 107 = .ok (.iadd, 1) := by decide +kernel
theorem dX12_led_108 : decode cX12_led 108 = .ok (.iaload, 1) := by decide +kernel
theorem dX12_led_109 : decode cX12_led 109 = .ok (.iadd, 1) := by decide +kernel
theorem dX12_led_110 : decode cX12_led 110 = .ok (.istore_n 3, 1) := by decide +kernel
theorem dX12_led_111 : decode cX12_led 111 = .ok (.iinc 4 1, 3) := by decide +kernel
theorem dX12_led_114 : decode cX12_led 114 = .ok (.goto (-25), 3) := by decide +kernel
theorem dX12_led_117 : decode cX12_led 117 = .ok (.iload_n 3, 1) := by decide +kernel
theorem dX12_led_118 : decode cX12_led 118 = .ok (.ireturn, 1) := by decide +kernel
theorem dX12_led_119 : decode cX12_led 119 = .ok (.aload_n 0, 1) := by decide +kernel
theorem dX12_led_120 : decode cX12_led 120 = .ok (.getfield 62, 3) := by decide +kernel
theorem dX12_led_123 : decode cX12_led 123 = .ok (.iload_n 1, 1) := by decide +kernel
theorem dX12_led_124 : decode cX12_led 124 = .ok (.iaload, 1) := by decide +kernel
theorem dX12_led_125 : decode cX12_led 125 = .ok (.ireturn, 1) := by decide +kernel
theorem dX12_led_126 : decode cX12_led 126 = .ok (.ldc 15, 2) := by decide +kernel
theorem dX12_led_128 : decode cX12_led 128 = .ok (.ireturn, 1) := by decide +kernel
theorem dX12_takes_0 : decode cX12_takes 0 = .ok (.iconst 0, 1) := by decide +kernel
theorem dX12_takes_1 : decode cX12_takes 1 = .ok (.istore_n 2, 1) := by decide +kernel
theorem dX12_takes_2 : decode cX12_takes 2 = .ok (.iload_n 2, 1) := by decide +kernel
theorem dX12_takes_3 : decode cX12_takes 3 = .ok (.bipush 10, 2) := by decide +kernel
theorem dX12_takes_5 : decode cX12_takes 5 = .ok (.if_icmp .ge 60, 3) := by decide +kernel
theorem dX12_takes_8 : decode cX12_takes 8 = .ok (.aload_n 0, 1) := by decide +kernel
theorem dX12_takes_9 : decode cX12_takes 9 = .ok (.getfield 65, 3) := by decide +kernel
theorem dX12_takes_12 : decode cX12_takes 12 = .ok (.iload_n 2, 1) := by decide +kernel
theorem dX12_takes_13 : decode cX12_takes 13 = .ok (.aload_n 0, 1) := by decide +kernel
theorem dX12_takes_14 : decode cX12_takes 14 = .ok (.getfield 25, 3) := by decide +kernel
theorem dX12_takes_17 : decode cX12_takes 17 = .ok (.bipush 10, 2) := by decide +kernel
theorem dX12_takes_19 : decode cX12_takes 19 = .ok (.iload_n 1, 1) := by decide +kernel
theorem dX12_takes_20 : decode cX12_takes 20 = .ok (.imul, 1) := by decide +kernel
theorem dX12_takes_21 : decode cX12_takes 21 = .ok (.iload_n 2, 1) := by decide +kernel
theorem dX12_takes_22 : decode cX12_takes 22 = .ok (.iadd, 1) := by decide +kernel
theorem dX12_takes_23 : decode cX12_takes 23 = .ok (.iaload, 1) := by decide +kernel
theorem dX12_takes_24 : decode cX12_takes 24 = .ok (.iastore, 1) := by decide +kernel
theorem dX12_takes_25 : decode cX12_takes 25 = .ok (.aload_n 0, 1) := by decide +kernel
theorem dX12_takes_26 : decode cX12_takes 26 = .ok (.getfield 68, 3) := by decide +kernel
theorem dX12_takes_29 : decode cX12_takes 29 = .ok (.iload_n 2, 1) := by decide +kernel
theorem dX12_takes_30 : decode cX12_takes 30 = .ok (.aload_n 0, 1) := by decide +kernel
theorem dX12_takes_31 : decode cX12_takes 31 = .ok (.getfield 29, 3) := by decide +kernel
theorem dX12_takes_34 : decode cX12_takes 34 = .ok (.bipush 10, 2) := by decide +kernel
theorem dX12_takes_36 : decode cX12_takes 36 = .ok (.iload_n 1, 1) := by decide +kernel
theorem dX12_takes_37 : decode cX12_takes 37 = .ok (.imul, 1) := by decide +kernel
theorem dX12_takes_38 : decode cX12_takes 38 = .ok (.iload_n 2, 1) := by decide +kernel
theorem dX12_takes_39 : decode cX12_takes 39 = .ok (.iadd, 1) := by decide +kernel
theorem dX12_takes_40 : decode cX12_takes 40 = .ok (.iaload, 1) := by decide +kernel
theorem dX12_takes_41 : decode cX12_takes 41 = .ok (.iastore, 1) := by decide +kernel
theorem dX12_takes_42 : decode cX12_takes 42 = .ok (.aload_n 0, 1) := by decide +kernel
theorem dX12_takes_43 : decode cX12_takes 43 = .ok (.getfield 71, 3) := by decide +kernel
theorem dX12_takes_46 : decode cX12_takes 46 = .ok (.iload_n 2, 1) := by decide +kernel
theorem dX12_takes_47 : decode cX12_takes 47 = .ok (.aload_n 0, 1) := by decide +kernel
theorem dX12_takes_48 : decode cX12_takes 48 = .ok (.getfield 32, 3) := by decide +kernel
theorem dX12_takes_51 : decode cX12_takes 51 = .ok (.bipush 10, 2) := by decide +kernel
theorem dX12_takes_53 : decode cX12_takes 53 = .ok (.iload_n 1, 1) := by decide +kernel
theorem dX12_takes_54 : decode cX12_takes 54 = .ok (.imul, 1) := by decide +kernel
theorem dX12_takes_55 : decode cX12_takes 55 = .ok (.iload_n 2, 1) := by decide +kernel
theorem dX12_takes_56 : decode cX12_takes 56 = .ok (.iadd, 1) := by decide +kernel
theorem dX12_takes_57 : decode cX12_takes 57 = .ok (.iaload, 1) := by decide +kernel
theorem dX12_takes_58 : decode cX12_takes 58 = .ok (.iastore, 1) := by decide +kernel
theorem dX12_takes_59 : decode cX12_takes 59 = .ok (.iinc 2 1, 3) := by decide +kernel
theorem dX12_takes_62 : decode cX12_takes 62 = .ok (.goto (-60), 3) := by decide +kernel
theorem dX12_takes_65 : decode cX12_takes 65 = .ok (.iconst 0, 1) := by decide +kernel
theorem dX12_takes_66 : decode cX12_takes 66 = .ok (.istore_n 2, 1) := by decide +kernel
theorem dX12_takes_67 : decode cX12_takes 67 = .ok (.iload_n 2, 1) := by decide +kernel
theorem dX12_takes_68 : decode cX12_takes 68 = .ok (.aload_n 0, 1) := by decide +kernel
theorem dX12_takes_69 : decode cX12_takes 69 = .ok (.getfield 246, 3) := by decide +kernel
theorem dX12_takes_72 : decode cX12_takes 72 = .ok (.if_icmp .ge 33, 3) := by decide +kernel
theorem dX12_takes_75 : decode cX12_takes 75 = .ok (.aload_n 0, 1) := by decide +kernel
theorem dX12_takes_76 : decode cX12_takes 76 = .ok (.getfield 74, 3) := by decide +kernel
theorem dX12_takes_79 : decode cX12_takes 79 = .ok (.iload_n 2, 1) := by decide +kernel
theorem dX12_takes_80 : decode cX12_takes 80 = .ok (.aload_n 0, 1) := by decide +kernel
theorem dX12_takes_81 : decode cX12_takes 81 = .ok (.getfield 87, 3) := by decide +kernel
theorem dX12_takes_84 : decode cX12_takes 84 = .ok (.iload_n 2, 1) := by decide +kernel
theorem dX12_takes_85 : decode cX12_takes 85 = .ok (.iaload, 1) := by decide +kernel
theorem dX12_takes_86 : decode cX12_takes 86 = .ok (.iastore, 1) := by decide +kernel
theorem dX12_takes_87 : decode cX12_takes 87 = .ok (.aload_n 0, 1) := by decide +kernel
theorem dX12_takes_88 : decode cX12_takes 88 = .ok (.getfield 80, 3) := by decide +kernel
theorem dX12_takes_91 : decode cX12_takes 91 = .ok (.iload_n 2, 1) := by decide +kernel
theorem dX12_takes_92 : decode cX12_takes 92 = .ok (.aload_n 0, 1) := by decide +kernel
theorem dX12_takes_93 : decode cX12_takes 93 = .ok (.getfield 102, 3) := by decide +kernel
theorem dX12_takes_96 : decode cX12_takes 96 = .ok (.iload_n 2, 1) := by decide +kernel
theorem dX12_takes_97 : decode cX12_takes 97 = .ok (.baload, 1) := by decide +kernel
theorem dX12_takes_98 : decode cX12_takes 98 = .ok (.bastore, 1) := by decide +kernel
theorem dX12_takes_99 : decode cX12_takes 99 = .ok (.iinc 2 1, 3) := by decide +kernel
theorem dX12_takes_102 : decode cX12_takes 102 = .ok (.goto (-35), 3) := by decide +kernel
theorem dX12_takes_105 : decode cX12_takes 105 = .ok (.return_, 1) := by decide +kernel
theorem dX12_weightHere_0 : decode cX12_weightHere 0 = .ok (.aload_n 0, 1) := by decide +kernel
theorem dX12_weightHere_1 : decode cX12_weightHere 1 = .ok (.getfield 65, 3) := by decide +kernel
theorem dX12_weightHere_4 : decode cX12_weightHere 4 = .ok (.iload_n 1, 1) := by decide +kernel
theorem dX12_weightHere_5 : decode cX12_weightHere 5 = .ok (.iaload, 1) := by decide +kernel
theorem dX12_weightHere_6 : decode cX12_weightHere 6 = .ok (.aload_n 0, 1) := by decide +kernel
theorem dX12_weightHere_7 : decode cX12_weightHere 7 = .ok (.getfield 68, 3) := by decide +kernel
theorem dX12_weightHere_10 : decode cX12_weightHere 10 = .ok (.iload_n 1, 1) := by decide +kernel
theorem dX12_weightHere_11 : decode cX12_weightHere 11 = .ok (.iaload, 1) := by decide +kernel
theorem dX12_weightHere_12 : decode cX12_weightHere 12 = .ok (.aload_n 0, 1) := by decide +kernel
theorem dX12_weightHere_13 : decode cX12_weightHere 13 = .ok (.getfield 71, 3) := by decide +kernel
theorem dX12_weightHere_16 : decode cX12_weightHere 16 = .ok (.iload_n 1, 1) := by decide +kernel
theorem dX12_weightHere_17 : decode cX12_weightHere 17 = .ok (.iaload, 1) := by decide +kernel
theorem dX12_weightHere_18 : decode cX12_weightHere 18 = .ok (.invokestatic 219, 3) := by decide +kernel
theorem dX12_weightHere_21 : decode cX12_weightHere 21 = .ok (.ireturn, 1) := by decide +kernel
theorem dX12_halves_0 : decode cX12_halves 0 = .ok (.aload_n 0, 1) := by decide +kernel
theorem dX12_halves_1 : decode cX12_halves 1 = .ok (.iload_n 1, 1) := by decide +kernel
theorem dX12_halves_2 : decode cX12_halves 2 = .ok (.iaload, 1) := by decide +kernel
theorem dX12_halves_3 : decode cX12_halves 3 = .ok (.aload_n 0, 1) := by decide +kernel
theorem dX12_halves_4 : decode cX12_halves 4 = .ok (.iload_n 1, 1) := by decide +kernel
theorem dX12_halves_5 : decode cX12_halves 5 = .ok (.iconst 1, 1) := by decide +kernel
theorem dX12_halves_6 : decode cX12_halves 6 = .ok (.iadd, 1) := by decide +kernel
theorem dX12_halves_7 : decode cX12_halves 7 = .ok (.iaload, 1) := by decide +kernel
theorem dX12_halves_8 : decode cX12_halves 8 = .ok (.iadd, 1) := by decide +kernel
theorem dX12_halves_9 : decode cX12_halves 9 = .ok (.istore_n 2, 1) := by decide +kernel
theorem dX12_halves_10 : decode cX12_halves 10 = .ok (.aload_n 0, 1) := by decide +kernel
theorem dX12_halves_11 : decode cX12_halves 11 = .ok (.iload_n 1, 1) := by decide +kernel
theorem dX12_halves_12 : decode cX12_halves 12 = .ok (.iload_n 2, 1) := by decide +kernel
theorem dX12_halves_13 : decode cX12_halves 13 = .ok (.iconst 2, 1) := by decide +kernel
theorem dX12_halves_14 : decode cX12_halves 14 = .ok (.idiv, 1) := by decide +kernel
theorem dX12_halves_15 : decode cX12_halves 15 = .ok (.iastore, 1) := by decide +kernel
theorem dX12_halves_16 : decode cX12_halves 16 = .ok (.aload_n 0, 1) := by decide +kernel
theorem dX12_halves_17 : decode cX12_halves 17 = .ok (.iload_n 1, 1) := by decide +kernel
theorem dX12_halves_18 : decode cX12_halves 18 = .ok (.iconst 1, 1) := by decide +kernel
theorem dX12_halves_19 : decode cX12_halves 19 = .ok (.iadd, 1) := by decide +kernel
theorem dX12_halves_20 : decode cX12_halves 20 = .ok (.iload_n 2, 1) := by decide +kernel
theorem dX12_halves_21 : decode cX12_halves 21 = .ok (.iload_n 2, 1) := by decide +kernel
theorem dX12_halves_22 : decode cX12_halves 22 = .ok (.iconst 2, 1) := by decide +kernel
theorem dX12_halves_23 : decode cX12_halves 23 = .ok (.idiv, 1) := by decide +kernel
theorem dX12_halves_24 : decode cX12_halves 24 = .ok (.isub, 1) := by decide +kernel
theorem dX12_halves_25 : decode cX12_halves 25 = .ok (.iastore, 1) := by decide +kernel
theorem dX12_halves_26 : decode cX12_halves 26 = .ok (.return_, 1) := by decide +kernel
theorem dX12_mixes_0 : decode cX12_mixes 0 = .ok (.aload_n 0, 1) := by decide +kernel
theorem dX12_mixes_1 : decode cX12_mixes 1 = .ok (.getfield 65, 3) := by decide +kernel
theorem dX12_mixes_4 : decode cX12_mixes 4 = .ok (.iload_n 1, 1) := by decide +kernel
theorem dX12_mixes_5 : decode cX12_mixes 5 = .ok (.invokestatic 249, 3) := by decide +kernel
theorem dX12_mixes_8 : decode cX12_mixes 8 = .ok (.aload_n 0, 1) := by decide +kernel
theorem dX12_mixes_9 : decode cX12_mixes 9 = .ok (.getfield 68, 3) := by decide +kernel
theorem dX12_mixes_12 : decode cX12_mixes 12 = .ok (.iload_n 1, 1) := by decide +kernel
theorem dX12_mixes_13 : decode cX12_mixes 13 = .ok (.invokestatic 249, 3) := by decide +kernel
theorem dX12_mixes_16 : decode cX12_mixes 16 = .ok (.aload_n 0, 1) := by decide +kernel
theorem dX12_mixes_17 : decode cX12_mixes 17 = .ok (.getfield 71, 3) := by decide +kernel
theorem dX12_mixes_20 : decode cX12_mixes 20 = .ok (.iload_n 1, 1) := by decide +kernel
theorem dX12_mixes_21 : decode cX12_mixes 21 = .ok (.invokestatic 249, 3) := by decide +kernel
theorem dX12_mixes_24 : decode cX12_mixes 24 = .ok (.return_, 1) := by decide +kernel
theorem dX12_turnsOver_0 : decode cX12_turnsOver 0 = .ok (.iconst 0, 1) := by decide +kernel
theorem dX12_turnsOver_1 : decode cX12_turnsOver 1 = .ok (.istore_n 1, 1) := by decide +kernel
theorem dX12_turnsOver_2 : decode cX12_turnsOver 2 = .ok (.iload_n 1, 1) := by decide +kernel
theorem dX12_turnsOver_3 : decode cX12_turnsOver 3 = .ok (.sipush 200, 3) := by decide +kernel
theorem dX12_turnsOver_6 : decode cX12_turnsOver 6 = .ok (.if_icmp .ge 50, 3) := by decide +kernel
theorem dX12_turnsOver_9 : decode cX12_turnsOver 9 = .ok (.iconst 0, 1) := by decide +kernel
theorem dX12_turnsOver_10 : decode cX12_turnsOver 10 = .ok (.istore_n 2, 1) := by decide +kernel
theorem dX12_turnsOver_11 : decode cX12_turnsOver 11 = .ok (.iload_n 2, 1) := by decide +kernel
theorem dX12_turnsOver_12 : decode cX12_turnsOver 12 = .ok (.bipush 9, 2) := by decide +kernel
theorem dX12_turnsOver_14 : decode cX12_turnsOver 14 = .ok (.if_icmp .ge 24, 3) := by decide +kernel
theorem dX12_turnsOver_17 : decode cX12_turnsOver 17 = .ok (.aload_n 0, 1) := by decide +kernel
theorem dX12_turnsOver_18 : decode cX12_turnsOver 18 = .ok (.iload_n 2, 1) := by decide +kernel
theorem dX12_turnsOver_19 : decode cX12_turnsOver 19 = .ok (.iconst 1, 1) := by decide +kernel
theorem dX12_turnsOver_20 : decode cX12_turnsOver 20 = .ok (.iadd, 1) := by decide +kernel
theorem dX12_turnsOver_21 : decode cX12_turnsOver 21 = .ok (.invokevirtual 253, 3) := by decide +kernel
theorem dX12_turnsOver_24 : decode cX12_turnsOver 24 = .ok (.aload_n 0, 1) := by decide +kernel
theorem dX12_turnsOver_25 : decode cX12_turnsOver 25 = .ok (.iload_n 2, 1) := by decide +kernel
theorem dX12_turnsOver_26 : decode cX12_turnsOver 26 = .ok (.invokevirtual 253, 3) := by decide +kernel
theorem dX12_turnsOver_29 : decode cX12_turnsOver 29 = .ok (.if_icmp .lt 9, 3) := by decide +kernel
theorem dX12_turnsOver_32 : decode cX12_turnsOver 32 = .ok (.iinc 2 1, 3) := by decide +kernel
theorem dX12_turnsOver_35 : decode cX12_turnsOver 35 = .ok (.goto (-24), 3) := by decide +kernel
theorem dX12_turnsOver_38 : decode cX12_turnsOver 38 = .ok (.iload_n 2, 1) := by decide +kernel
theorem dX12_turnsOver_39 : decode cX12_turnsOver 39 = .ok (.bipush 9, 2) := by decide +kernel
theorem dX12_turnsOver_41 : decode cX12_turnsOver 41 = .ok (.if_icmp .ne 4, 3) := by decide +kernel
theorem dX12_turnsOver_44 : decode cX12_turnsOver 44 = .ok (.return_, 1) := by decide +kernel
theorem dX12_turnsOver_45 : decode cX12_turnsOver 45 = .ok (.aload_n 0, 1) := by decide +kernel
theorem dX12_turnsOver_46 : decode cX12_turnsOver 46 = .ok (.iload_n 2, 1) := by decide +kernel
theorem dX12_turnsOver_47 : decode cX12_turnsOver 47 = .ok (.invokevirtual 256, 3) := by decide +kernel
theorem dX12_turnsOver_50 : decode cX12_turnsOver 50 = .ok (.iinc 1 1, 3) := by decide +kernel
theorem dX12_turnsOver_53 : decode cX12_turnsOver 53 = .ok (.goto (-51), 3) := by decide +kernel
theorem dX12_turnsOver_56 : decode cX12_turnsOver 56 = .ok (.return_, 1) := by decide +kernel
theorem dX12_aDay_0 : decode cX12_aDay 0 = .ok (.aload_n 0, 1) := by decide +kernel
theorem dX12_aDay_1 : decode cX12_aDay 1 = .ok (.getfield 65, 3) := by decide +kernel
theorem dX12_aDay_4 : decode cX12_aDay 4 = .ok (.bipush 9, 2) := by decide +kernel
theorem dX12_aDay_6 : decode cX12_aDay 6 = .ok (.dup2, 1) := by decide +kernel
theorem dX12_aDay_7 : decode cX12_aDay 7 = .ok (.iaload, 1) := by decide +kernel
theorem dX12_aDay_8 : decode cX12_aDay 8 = .ok (.aload_n 0, 1) := by decide +kernel
theorem dX12_aDay_9 : decode cX12_aDay 9 = .ok (.getfield 41, 3) := by decide +kernel
theorem dX12_aDay_12 : decode cX12_aDay 12 = .ok (.iload_n 1, 1) := by decide +kernel
theorem dX12_aDay_13 : decode cX12_aDay 13 = .ok (.iaload, 1) := by decide +kernel
theorem dX12_aDay_14 : decode cX12_aDay 14 = .ok (.iadd, 1) := by decide +kernel
theorem dX12_aDay_15 : decode cX12_aDay 15 = .ok (.iastore, 1) := by decide +kernel
theorem dX12_aDay_16 : decode cX12_aDay 16 = .ok (.aload_n 0, 1) := by decide +kernel
theorem dX12_aDay_17 : decode cX12_aDay 17 = .ok (.iconst 0, 1) := by decide +kernel
theorem dX12_aDay_18 : decode cX12_aDay 18 = .ok (.aload_n 0, 1) := by decide +kernel
theorem dX12_aDay_19 : decode cX12_aDay 19 = .ok (.getfield 65, 3) := by decide +kernel
theorem dX12_aDay_22 : decode cX12_aDay 22 = .ok (.bipush 9, 2) := by decide +kernel
theorem dX12_aDay_24 : decode cX12_aDay 24 = .ok (.iaload, 1) := by decide +kernel
theorem dX12_aDay_25 : decode cX12_aDay 25 = .ok (.ldc 210, 2) := by decide +kernel
theorem dX12_aDay_27 : decode cX12_aDay 27 = .ok (.isub, 1) := by decide +kernel
theorem dX12_aDay_28 : decode cX12_aDay 28 = .ok (.invokestatic 186, 3) := by decide +kernel
theorem dX12_aDay_31 : decode cX12_aDay 31 = .ok (.putfield 259, 3) := by decide +kernel
theorem dX12_aDay_34 : decode cX12_aDay 34 = .ok (.aload_n 0, 1) := by decide +kernel
theorem dX12_aDay_35 : decode cX12_aDay 35 = .ok (.getfield 65, 3) := by decide +kernel
theorem dX12_aDay_38 : decode cX12_aDay 38 = .ok (.bipush 9, 2) := by decide +kernel
theorem dX12_aDay_40 : decode cX12_aDay 40 = .ok (.dup2, 1) := by decide +kernel
theorem dX12_aDay_41 : decode cX12_aDay 41 = .ok (.iaload, 1) := by decide +kernel
theorem dX12_aDay_42 : decode cX12_aDay 42 = .ok (.aload_n 0, 1) := by decide +kernel
theorem dX12_aDay_43 : decode cX12_aDay 43 = .ok (.getfield 259, 3) := by decide +kernel
theorem dX12_aDay_46 : decode cX12_aDay 46 = .ok (.isub, 1) := by decide +kernel
theorem dX12_aDay_47 : decode cX12_aDay 47 = .ok (.iastore, 1) := by decide +kernel
theorem dX12_aDay_48 : decode cX12_aDay 48 = .ok (.iconst 0, 1) := by decide +kernel
theorem dX12_aDay_49 : decode cX12_aDay 49 = .ok (.istore_n 2, 1) := by decide +kernel
theorem dX12_aDay_50 : decode cX12_aDay 50 = .ok (.iload_n 2, 1) := by decide +kernel
theorem dX12_aDay_51 : decode cX12_aDay 51 = .ok (.aload_n 0, 1) := by decide +kernel
theorem dX12_aDay_52 : decode cX12_aDay 52 = .ok (.getfield 246, 3) := by decide +kernel
theorem dX12_aDay_55 : decode cX12_aDay 55 = .ok (.if_icmp .ge 121, 3) := by decide +kernel
theorem dX12_aDay_58 : decode cX12_aDay 58 = .ok (.aload_n 0, 1) := by decide +kernel
theorem dX12_aDay_59 : decode cX12_aDay 59 = .ok (.getfield 77, 3) := by decide +kernel
theorem dX12_aDay_62 : decode cX12_aDay 62 = .ok (.iload_n 2, 1) := by decide +kernel
theorem dX12_aDay_63 : decode cX12_aDay 63 = .ok (.iconst 0, 1) := by decide +kernel
theorem dX12_aDay_64 : decode cX12_aDay 64 = .ok (.iastore, 1) := by decide +kernel
theorem dX12_aDay_65 : decode cX12_aDay 65 = .ok (.aload_n 0, 1) := by decide +kernel
theorem dX12_aDay_66 : decode cX12_aDay 66 = .ok (.getfield 84, 3) := by decide +kernel
theorem dX12_aDay_69 : decode cX12_aDay 69 = .ok (.iload_n 2, 1) := by decide +kernel
theorem dX12_aDay_70 : decode cX12_aDay 70 = .ok (.iaload, 1) := by decide +kernel
theorem dX12_aDay_71 : decode cX12_aDay 71 = .ok (.iload_n 1, 1) := by decide +kernel
theorem dX12_aDay_72 : decode cX12_aDay 72 = .ok (.if_icmp .ne 98, 3) := by decide +kernel
theorem dX12_aDay_75 : decode cX12_aDay 75 = .ok (.aload_n 0, 1) := by decide +kernel
theorem dX12_aDay_76 : decode cX12_aDay 76 = .ok (.getfield 80, 3) := by decide +kernel
theorem dX12_aDay_79 : decode cX12_aDay 79 = .ok (.iload_n 2, 1) := by decide +kernel
theorem dX12_aDay_80 : decode cX12_aDay 80 = .ok (.baload, 1) := by decide +kernel
theorem dX12_aDay_81 : decode cX12_aDay 81 = .ok (.ifCond .ne 6, 3) := by decide +kernel
theorem dX12_aDay_84 : decode cX12_aDay 84 = .ok (.goto 86, 3) := by decide +kernel
theorem dX12_aDay_87 : decode cX12_aDay 87 = .ok (.aload_n 0, 1) := by decide +kernel
theorem dX12_aDay_88 : decode cX12_aDay 88 = .ok (.getfield 74, 3) := by decide +kernel
theorem dX12_aDay_91 : decode cX12_aDay 91 = .ok (.iload_n 2, 1) := by decide +kernel
theorem dX12_aDay_92 : decode cX12_aDay 92 = .ok (.iaload, 1) := by decide +kernel
theorem dX12_aDay_93 : decode cX12_aDay 93 = .ok (.istore_n 3, 1) := by decide +kernel
theorem dX12_aDay_94 : decode cX12_aDay 94 = .ok (.aload_n 0, 1) := by decide +kernel
theorem dX12_aDay_95 : decode cX12_aDay 95 = .ok (.getfield 80, 3) := by decide +kernel
theorem dX12_aDay_98 : decode cX12_aDay 98 = .ok (.iload_n 2, 1) := by decide +kernel
theorem dX12_aDay_99 : decode cX12_aDay 99 = .ok (.aload_n 0, 1) := by decide +kernel
theorem dX12_aDay_100 : decode cX12_aDay 100 = .ok (.getfield 65, 3) := by decide +kernel
theorem dX12_aDay_103 : decode cX12_aDay 103 = .ok (.iload_n 3, 1) := by decide +kernel
theorem dX12_aDay_104 : decode cX12_aDay 104 = .ok (.iaload, 1) := by decide +kernel
theorem dX12_aDay_105 : decode cX12_aDay 105 = .ok (.aload_n 0, 1) := by decide +kernel
theorem dX12_aDay_106 : decode cX12_aDay 106 = .ok (.getfield 93, 3) := by decide +kernel
theorem dX12_aDay_109 : decode cX12_aDay 109 = .ok (.iload_n 2, 1) := by decide +kernel
theorem dX12_aDay_110 : decode cX12_aDay 110 = .ok (.iaload, 1) := by decide +kernel
theorem dX12_aDay_111 : decode cX12_aDay 111 = .ok (.if_icmp .lt 7, 3) := by decide +kernel
theorem dX12_aDay_114 : decode cX12_aDay 114 = .ok (.iconst 1, 1) := by decide +kernel
theorem dX12_aDay_115 : decode cX12_aDay 115 = .ok (.goto 4, 3) := by decide +kernel
theorem dX12_aDay_118 : decode cX12_aDay 118 = .ok (.iconst 0, 1) := by decide +kernel
theorem dX12_aDay_119 : decode cX12_aDay 119 = .ok (.bastore, 1) := by decide +kernel
theorem dX12_aDay_120 : decode cX12_aDay 120 = .ok (.aload_n 0, 1) := by decide +kernel
theorem dX12_aDay_121 : decode cX12_aDay 121 = .ok (.getfield 80, 3) := by decide +kernel
theorem dX12_aDay_124 : decode cX12_aDay 124 = .ok (.iload_n 2, 1) := by decide +kernel
theorem dX12_aDay_125 : decode cX12_aDay 125 = .ok (.baload, 1) := by decide +kernel
theorem dX12_aDay_126 : decode cX12_aDay 126 = .ok (.ifCond .ne 6, 3) := by decide +kernel
theorem dX12_aDay_129 : decode cX12_aDay 129 = .ok (.goto 41, 3) := by decide +kernel
theorem dX12_aDay_132 : decode cX12_aDay 132 = .ok (.aload_n 0, 1) := by decide +kernel
theorem dX12_aDay_133 : decode cX12_aDay 133 = .ok (.getfield 77, 3) := by decide +kernel
theorem dX12_aDay_136 : decode cX12_aDay 136 = .ok (.iload_n 2, 1) := by decide +kernel
theorem dX12_aDay_137 : decode cX12_aDay 137 = .ok (.aload_n 0, 1) := by decide +kernel
theorem dX12_aDay_138 : decode cX12_aDay 138 = .ok (.getfield 65, 3) := by decide +kernel
theorem dX12_aDay_141 : decode cX12_aDay 141 = .ok (.iload_n 3, 1) := by decide +kernel
theorem dX12_aDay_142 : decode cX12_aDay 142 = .ok (.iaload, 1) := by decide +kernel
theorem dX12_aDay_143 : decode cX12_aDay 143 = .ok (.aload_n 0, 1) := by decide +kernel
theorem dX12_aDay_144 : decode cX12_aDay 144 = .ok (.getfield 90, 3) := by decide +kernel
theorem dX12_aDay_147 : decode cX12_aDay 147 = .ok (.iload_n 2, 1) := by decide +kernel
theorem dX12_aDay_148 : decode cX12_aDay 148 = .ok (.iaload, 1) := by decide +kernel
theorem dX12_aDay_149 : decode cX12_aDay 149 = .ok (.imul, 1) := by decide +kernel
theorem dX12_aDay_150 : decode cX12_aDay 150 = .ok (.sipush 1000, 3) := by decide +kernel
theorem dX12_aDay_153 : decode cX12_aDay 153 = .ok (.idiv, 1) := by decide +kernel
theorem dX12_aDay_154 : decode cX12_aDay 154 = .ok (.iastore, 1) := by decide +kernel
theorem dX12_aDay_155 : decode cX12_aDay 155 = .ok (.aload_n 0, 1) := by decide +kernel
theorem dX12_aDay_156 : decode cX12_aDay 156 = .ok (.getfield 65, 3) := by decide +kernel
theorem dX12_aDay_159 : decode cX12_aDay 159 = .ok (.iload_n 3, 1) := by decide +kernel
theorem dX12_aDay_160 : decode cX12_aDay 160 = .ok (.dup2, 1) := by decide +kernel
theorem dX12_aDay_161 : decode cX12_aDay 161 = .ok (.iaload, 1) := by decide +kernel
theorem dX12_aDay_162 : decode cX12_aDay 162 = .ok (.aload_n 0, 1) := by decide +kernel
theorem dX12_aDay_163 : decode cX12_aDay 163 = .ok (.getfield 77, 3) := by decide +kernel
theorem dX12_aDay_166 : decode cX12_aDay 166 = .ok (.iload_n 2, 1) := by decide +kernel
theorem dX12_aDay_167 : decode cX12_aDay 167 = .ok (.iaload, 1) := by decide +kernel
theorem dX12_aDay_168 : decode cX12_aDay 168 = .ok (.isub, 1) := by decide +kernel
theorem dX12_aDay_169 : decode cX12_aDay 169 = .ok (.iastore, 1) := by decide +kernel
theorem dX12_aDay_170 : decode cX12_aDay 170 = .ok (.iinc 2 1, 3) := by decide +kernel
theorem dX12_aDay_173 : decode cX12_aDay 173 = .ok (.goto (-123), 3) := by decide +kernel
theorem dX12_aDay_176 : decode cX12_aDay 176 = .ok (.bipush 9, 2) := by decide +kernel
theorem dX12_aDay_178 : decode cX12_aDay 178 = .ok (.istore_n 2, 1) := by decide +kernel
theorem dX12_aDay_179 : decode cX12_aDay 179 = .ok (.iload_n 2, 1) := by decide +kernel
theorem dX12_aDay_180 : decode cX12_aDay 180 = .ok (.ifCond .le 58, 3) := by decide +kernel
theorem dX12_aDay_183 : decode cX12_aDay 183 = .ok (.iconst 0, 1) := by decide +kernel
theorem dX12_aDay_184 : decode cX12_aDay 184 = .ok (.aload_n 0, 1) := by decide +kernel
theorem dX12_aDay_185 : decode cX12_aDay 185 = .ok (.getfield 65, 3) := by decide +kernel
theorem dX12_aDay_188 : decode cX12_aDay 188 = .ok (.iload_n 2, 1) := by decide +kernel
theorem dX12_aDay_189 : decode cX12_aDay 189 = .ok (.iaload, 1) := by decide +kernel
theorem dX12_aDay_190 : decode cX12_aDay 190 = .ok (.aload_n 0, 1) := by decide +kernel
theorem dX12_aDay_191 : decode cX12_aDay 191 = .ok (.getfield 65, 3) := by decide +kernel
theorem dX12_aDay_194 : decode cX12_aDay 194 = .ok (.iload_n 2, 1) := by decide +kernel
theorem dX12_aDay_195 : decode cX12_aDay 195 = .ok (.iconst 1, 1) := by decide +kernel
theorem dX12_aDay_196 : decode cX12_aDay 196 = .ok (.isub, 1) := by decide +kernel
theorem dX12_aDay_197 : decode cX12_aDay 197 = .ok (.iaload, 1) := by decide +kernel
theorem dX12_aDay_198 : decode cX12_aDay 198 = .ok (.isub, 1) := by decide +kernel
theorem dX12_aDay_199 : decode cX12_aDay 199 = .ok (.invokestatic 186, 3) := by decide +kernel
theorem dX12_aDay_202 : decode cX12_aDay 202 = .ok (.aload_n 0, 1) := by decide +kernel
theorem dX12_aDay_203 : decode cX12_aDay 203 = .ok (.getfield 44, 3) := by decide +kernel
theorem dX12_aDay_206 : decode cX12_aDay 206 = .ok (.iload_n 1, 1) := by decide +kernel
theorem dX12_aDay_207 : decode cX12_aDay 207 = .ok (.iaload, 1) := by decide +kernel
theorem dX12_aDay_208 : decode cX12_aDay 208 = .ok (.idiv, 1) := by decide +kernel
theorem dX12_aDay_209 : decode cX12_aDay 209 = .ok (.istore_n 3, 1) := by decide +kernel
theorem dX12_aDay_210 : decode cX12_aDay 210 = .ok (.aload_n 0, 1) := by decide +kernel
theorem dX12_aDay_211 : decode cX12_aDay 211 = .ok (.getfield 65, 3) := by decide +kernel
theorem dX12_aDay_214 : decode cX12_aDay 214 = .ok (.iload_n 2, 1) := by decide +kernel
theorem dX12_aDay_215 : decode cX12_aDay 215 = .ok (.dup2, 1) := by decide +kernel
theorem dX12_aDay_216 : decode cX12_aDay 216 = .ok (.iaload, 1) := by decide +kernel
theorem dX12_aDay_217 : decode cX12_aDay 217 = .ok (.iload_n 3, 1) := by decide +kernel
theorem dX12_aDay_218 : decode cX12_aDay 218 = .ok (.isub, 1) := by decide +kernel
theorem dX12_aDay_219 : decode cX12_aDay 219 = .ok (.iastore, 1) := by decide +kernel
theorem dX12_aDay_220 : decode cX12_aDay 220 = .ok (.aload_n 0, 1) := by decide +kernel
theorem dX12_aDay_221 : decode cX12_aDay 221 = .ok (.getfield 65, 3) := by decide +kernel
theorem dX12_aDay_224 : decode cX12_aDay 224 = .ok (.iload_n 2, 1) := by decide +kernel
theorem dX12_aDay_225 : decode cX12_aDay 225 = .ok (.iconst 1, 1) := by decide +kernel
theorem dX12_aDay_226 : decode cX12_aDay 226 = .ok (.isub, 1) := by decide +kernel
theorem dX12_aDay_227 : decode cX12_aDay 227 = .ok (.dup2, 1) := by decide +kernel
theorem dX12_aDay_228 : decode cX12_aDay 228 = .ok (.iaload, 1) := by decide +kernel
theorem dX12_aDay_229 : decode cX12_aDay 229 = .ok (.iload_n 3, 1) := by decide +kernel
theorem dX12_aDay_230 : decode cX12_aDay 230 = .ok (.iadd, 1) := by decide +kernel
theorem dX12_aDay_231 : decode cX12_aDay 231 = .ok (.iastore, 1) := by decide +kernel
theorem dX12_aDay_232 : decode cX12_aDay 232 = .ok (.iinc 2 (-1), 3) := by decide +kernel
theorem dX12_aDay_235 : decode cX12_aDay 235 = .ok (.goto (-56), 3) := by decide +kernel
theorem dX12_aDay_238 : decode cX12_aDay 238 = .ok (.aload_n 0, 1) := by decide +kernel
theorem dX12_aDay_239 : decode cX12_aDay 239 = .ok (.getfield 65, 3) := by decide +kernel
theorem dX12_aDay_242 : decode cX12_aDay 242 = .ok (.iconst 0, 1) := by decide +kernel
theorem dX12_aDay_243 : decode cX12_aDay 243 = .ok (.iaload, 1) := by decide +kernel
theorem dX12_aDay_244 : decode cX12_aDay 244 = .ok (.aload_n 0, 1) := by decide +kernel
theorem dX12_aDay_245 : decode cX12_aDay 245 = .ok (.getfield 44, 3) := by decide +kernel
theorem dX12_aDay_248 : decode cX12_aDay 248 = .ok (.iload_n 1, 1) := by decide +kernel
theorem dX12_aDay_249 : decode cX12_aDay 249 = .ok (.iaload, 1) := by decide +kernel
theorem dX12_aDay_250 : decode cX12_aDay 250 = .ok (.idiv, 1) := by decide +kernel
theorem dX12_aDay_251 : decode cX12_aDay 251 = .ok (.istore_n 2, 1) := by decide +kernel
theorem dX12_aDay_252 : decode cX12_aDay 252 = .ok (.aload_n 0, 1) := by decide +kernel
theorem dX12_aDay_253 : decode cX12_aDay 253 = .ok (.getfield 65, 3) := by decide +kernel
theorem dX12_aDay_256 : decode cX12_aDay 256 = .ok (.iconst 0, 1) := by decide +kernel
theorem dX12_aDay_257 : decode cX12_aDay 257 = .ok (.dup2, 1) := by decide +kernel
theorem dX12_aDay_258 : decode cX12_aDay 258 = .ok (.iaload, 1) := by decide +kernel
theorem dX12_aDay_259 : decode cX12_aDay 259 = .ok (.iload_n 2, 1) := by decide +kernel
theorem dX12_aDay_260 : decode cX12_aDay 260 = .ok (.isub, 1) := by decide +kernel
theorem dX12_aDay_261 : decode cX12_aDay 261 = .ok (.iastore, 1) := by decide +kernel
theorem dX12_aDay_262 : decode cX12_aDay 262 = .ok (.aload_n 0, 1) := by decide +kernel
theorem dX12_aDay_263 : decode cX12_aDay 263 = .ok (.dup, 1) := by decide +kernel
theorem dX12_aDay_264 : decode cX12_aDay 264 = .ok (.getfield 259, 3) := by decide +kernel
theorem dX12_aDay_267 : decode cX12_aDay 267 = .ok (.iload_n 2, 1) := by decide +kernel
theorem dX12_aDay_268 : decode cX12_aDay 268 = .ok (.iadd, 1) := by decide +kernel
theorem dX12_aDay_269 : decode cX12_aDay 269 = .ok (.putfield 259, 3) := by decide +kernel
theorem dX12_aDay_272 : decode cX12_aDay 272 = .ok (.aload_n 0, 1) := by decide +kernel
theorem dX12_aDay_273 : decode cX12_aDay 273 = .ok (.invokevirtual 262, 3) := by decide +kernel
theorem dX12_aDay_276 : decode cX12_aDay 276 = .ok (.bipush 9, 2) := by decide +kernel
theorem dX12_aDay_278 : decode cX12_aDay 278 = .ok (.istore_n 3, 1) := by decide +kernel
theorem dX12_aDay_279 : decode cX12_aDay 279 = .ok (.iload_n 3, 1) := by decide +kernel
theorem dX12_aDay_280 : decode cX12_aDay 280 = .ok (.ifCond .lt 24, 3) := by decide +kernel
theorem dX12_aDay_283 : decode cX12_aDay 283 = .ok (.aload_n 0, 1) := by decide +kernel
theorem dX12_aDay_284 : decode cX12_aDay 284 = .ok (.getfield 65, 3) := by decide +kernel
theorem dX12_aDay_287 : decode cX12_aDay 287 = .ok (.iload_n 3, 1) := by decide +kernel
theorem dX12_aDay_288 : decode cX12_aDay 288 = .ok (.iaload, 1) := by decide +kernel
theorem dX12_aDay_289 : decode cX12_aDay 289 = .ok (.aload_n 0, 1) := by decide +kernel
theorem dX12_aDay_290 : decode cX12_aDay 290 = .ok (.iload_n 1, 1) := by decide +kernel
theorem dX12_aDay_291 : decode cX12_aDay 291 = .ok (.iload_n 3, 1) := by decide +kernel
theorem dX12_aDay_292 : decode cX12_aDay 292 = .ok (.invokevirtual 192, 3) := by decide +kernel
theorem dX12_aDay_295 : decode cX12_aDay 295 = .ok (.if_icmp .gt 9, 3) := by decide +kernel
theorem dX12_aDay_298 : decode cX12_aDay 298 = .ok (.iinc 3 (-1), 3) := by decide +kernel
theorem dX12_aDay_301 : decode cX12_aDay 301 = .ok (.goto (-22), 3) := by decide +kernel
theorem dX12_aDay_304 : decode cX12_aDay 304 = .ok (.aload_n 0, 1) := by decide +kernel
theorem dX12_aDay_305 : decode cX12_aDay 305 = .ok (.iconst 0, 1) := by decide +kernel
theorem dX12_aDay_306 : decode cX12_aDay 306 = .ok (.putfield 265, 3) := by decide +kernel
theorem dX12_aDay_309 : decode cX12_aDay 309 = .ok (.iconst 0, 1) := by decide +kernel
theorem dX12_aDay_310 : decode cX12_aDay 310 = .ok (.istore 4, 2) := by decide +kernel
theorem dX12_aDay_312 : decode cX12_aDay 312 = .ok (.iload 4, 2) := by decide +kernel
theorem dX12_aDay_314 : decode cX12_aDay 314 = .ok (.iload_n 3, 1) := by decide +kernel
theorem dX12_aDay_315 : decode cX12_aDay 315 = .ok (.if_icmp .gt 33, 3) := by decide +kernel
theorem dX12_aDay_318 : decode cX12_aDay 318 = .ok (.aload_n 0, 1) := by decide +kernel
theorem dX12_aDay_319 : decode cX12_aDay 319 = .ok (.dup, 1) := by decide +kernel
theorem dX12_aDay_320 : decode cX12_aDay 320 = .ok (.getfield 265, 3) := by decide +kernel
theorem dX12_aDay_323 : decode cX12_aDay 323 = .ok (.aload_n 0, 1) := by decide +kernel
theorem dX12_aDay_324 : decode cX12_aDay 324 = .ok (.getfield 65, 3) := by decide +kernel
theorem dX12_aDay_327 : decode cX12_aDay 327 = .ok (.iload 4, 2) := by decide +kernel
theorem dX12_aDay_329 : decode cX12_aDay 329 = .ok (.iaload, 1) := by decide +kernel
theorem dX12_aDay_330 : decode cX12_aDay 330 = .ok (.iadd, 1) := by decide +kernel
theorem dX12_aDay_331 : decode cX12_aDay 331 = .ok (.putfield 265, 3) := by decide +kernel
theorem dX12_aDay_334 : decode cX12_aDay 334 = .ok (.aload_n 0, 1) := by decide +kernel
theorem dX12_aDay_335 : decode cX12_aDay 335 = .ok (.getfield 65, 3) := by decide +kernel
theorem dX12_aDay_338 : decode cX12_aDay 338 = .ok (.iload 4, 2) := by decide +kernel
theorem dX12_aDay_340 : decode cX12_aDay 340 = .ok (.iconst 0, 1) := by decide +kernel
theorem dX12_aDay_341 : decode cX12_aDay 341 = .ok (.iastore, 1) := by decide +kernel
theorem dX12_aDay_342 : decode cX12_aDay 342 = .ok (.iinc 4 1, 3) := by decide +kernel
theorem dX12_aDay_345 : decode cX12_aDay 345 = .ok (.goto (-33), 3) := by decide +kernel
theorem dX12_aDay_348 : decode cX12_aDay 348 = .ok (.iload_n 3, 1) := by decide +kernel
theorem dX12_aDay_349 : decode cX12_aDay 349 = .ok (.ifCond .lt 7, 3) := by decide +kernel
theorem dX12_aDay_352 : decode cX12_aDay 352 = .ok (.iconst 1, 1) := by decide +kernel
theorem dX12_aDay_353 : decode cX12_aDay 353 = .ok (.goto 4, 3) := by decide +kernel
theorem dX12_aDay_356 : decode cX12_aDay 356 = .ok (.iconst 0, 1) := by decide +kernel
theorem dX12_aDay_357 : decode cX12_aDay 357 = .ok (.ireturn, 1) := by decide +kernel
theorem dX12_fullHere_0 : decode cX12_fullHere 0 = .ok (.iconst 0, 1) := by decide +kernel
theorem dX12_fullHere_1 : decode cX12_fullHere 1 = .ok (.istore_n 2, 1) := by decide +kernel
theorem dX12_fullHere_2 : decode cX12_fullHere 2 = .ok (.iconst 0, 1) := by decide +kernel
theorem dX12_fullHere_3 : decode cX12_fullHere 3 = .ok (.istore_n 3, 1) := by decide +kernel
theorem dX12_fullHere_4 : decode cX12_fullHere 4 = .ok (.iload_n 3, 1) := by decide +kernel
theorem dX12_fullHere_5 : decode cX12_fullHere 5 = .ok (.bipush 10, 2) := by decide +kernel
theorem dX12_fullHere_7 : decode cX12_fullHere 7 = .ok (.if_icmp .ge 26, 3) := by decide +kernel
theorem dX12_fullHere_10 : decode cX12_fullHere 10 = .ok (.iload_n 2, 1) := by decide +kernel
theorem dX12_fullHere_11 : decode cX12_fullHere 11 = .ok (.aload_n 0, 1) := by decide +kernel
theorem dX12_fullHere_12 : decode cX12_fullHere 12 = .ok (.iload_n 1, 1) := by decide +kernel
theorem dX12_fullHere_13 : decode cX12_fullHere 13 = .ok (.iload_n 3, 1) := by decide +kernel
theorem dX12_fullHere_14 : decode cX12_fullHere 14 = .ok (.aload_n 0, 1) := by decide +kernel
theorem dX12_fullHere_15 : decode cX12_fullHere 15 = .ok (.getfield 65, 3) := by decide +kernel
theorem dX12_fullHere_18 : decode cX12_fullHere 18 = .ok (.iload_n 3, 1) := by decide +kernel
theorem dX12_fullHere_19 : decode cX12_fullHere 19 = .ok (.iaload, 1) := by decide +kernel
theorem dX12_fullHere_20 : decode cX12_fullHere 20 = .ok (.invokevirtual 232, 3) := by decide +kernel
theorem dX12_fullHere_23 : decode cX12_fullHere 23 = .ok (.invokestatic 186, 3) := by decide +kernel
theorem dX12_fullHere_26 : decode cX12_fullHere 26 = .ok (.istore_n 2, 1) := by decide +kernel
theorem dX12_fullHere_27 : decode cX12_fullHere 27 = .ok (.iinc 3 1, 3) := by decide +kernel
theorem dX12_fullHere_30 : decode cX12_fullHere 30 = .ok (.goto (-26), 3) := by decide +kernel
theorem dX12_fullHere_33 : decode cX12_fullHere 33 = .ok (.iload_n 2, 1) := by decide +kernel
theorem dX12_fullHere_34 : decode cX12_fullHere 34 = .ok (.ireturn, 1) := by decide +kernel
theorem dX12_burstAhead_0 : decode cX12_burstAhead 0 = .ok (.aload_n 0, 1) := by decide +kernel
theorem dX12_burstAhead_1 : decode cX12_burstAhead 1 = .ok (.iload_n 1, 1) := by decide +kernel
theorem dX12_burstAhead_2 : decode cX12_burstAhead 2 = .ok (.invokevirtual 239, 3) := by decide +kernel
theorem dX12_burstAhead_5 : decode cX12_burstAhead 5 = .ok (.iconst 1, 1) := by decide +kernel
theorem dX12_burstAhead_6 : decode cX12_burstAhead 6 = .ok (.istore_n 2, 1) := by decide +kernel
theorem dX12_burstAhead_7 : decode cX12_burstAhead 7 = .ok (.iload_n 2, 1) := by decide +kernel
theorem dX12_burstAhead_8 : decode cX12_burstAhead 8 = .ok (.sipush 365, 3) := by decide +kernel
theorem dX12_burstAhead_11 : decode cX12_burstAhead 11 = .ok (.if_icmp .gt 19, 3) := by decide +kernel
theorem dX12_burstAhead_14 : decode cX12_burstAhead 14 = .ok (.aload_n 0, 1) := by decide +kernel
theorem dX12_burstAhead_15 : decode cX12_burstAhead 15 = .ok (.iload_n 1, 1) := by decide +kernel
theorem dX12_burstAhead_16 : decode cX12_burstAhead 16 = .ok (.invokevirtual 268, 3) := by decide +kernel
theorem dX12_burstAhead_19 : decode cX12_burstAhead 19 = .ok (.ifCond .eq 5, 3) := by decide +kernel
theorem dX12_burstAhead_22 : decode cX12_burstAhead 22 = .ok (.iload_n 2, 1) := by decide +kernel
theorem dX12_burstAhead_23 : decode cX12_burstAhead 23 = .ok (.ireturn, 1) := by decide +kernel
theorem dX12_burstAhead_24 : decode cX12_burstAhead 24 = .ok (.iinc 2 1, 3) := by decide +kernel
theorem dX12_burstAhead_27 : decode cX12_burstAhead 27 = .ok (.goto (-20), 3) := by decide +kernel
theorem dX12_burstAhead_30 : decode cX12_burstAhead 30 = .ok (.bipush (-2), 2) := by decide +kernel
theorem dX12_burstAhead_32 : decode cX12_burstAhead 32 = .ok (.ireturn, 1) := by decide +kernel
theorem dX12_burst_0 : decode cX12_burst 0 = .ok (.aload_n 0, 1) := by decide +kernel
theorem dX12_burst_1 : decode cX12_burst 1 = .ok (.iconst 0, 1) := by decide +kernel
theorem dX12_burst_2 : decode cX12_burst 2 = .ok (.putfield 1, 3) := by decide +kernel
theorem dX12_burst_5 : decode cX12_burst 5 = .ok (.iload_n 1, 1) := by decide +kernel
theorem dX12_burst_6 : decode cX12_burst 6 = .ok (.invokestatic 182, 3) := by decide +kernel
theorem dX12_burst_9 : decode cX12_burst 9 = .ok (.ifCond .eq 11, 3) := by decide +kernel
theorem dX12_burst_12 : decode cX12_burst 12 = .ok (.aload_n 0, 1) := by decide +kernel
theorem dX12_burst_13 : decode cX12_burst 13 = .ok (.iload_n 1, 1) := by decide +kernel
theorem dX12_burst_14 : decode cX12_burst 14 = .ok (.invokevirtual 271, 3) := by decide +kernel
theorem dX12_burst_17 : decode cX12_burst 17 = .ok (.goto 4, 3) := by decide +kernel
theorem dX12_burst_20 : decode cX12_burst 20 = .ok (.iconst (-1), 1) := by decide +kernel
theorem dX12_burst_21 : decode cX12_burst 21 = .ok (.ireturn, 1) := by decide +kernel
theorem dX12_until_0 : decode cX12_until 0 = .ok (.aload_n 0, 1) := by decide +kernel
theorem dX12_until_1 : decode cX12_until 1 = .ok (.iconst 0, 1) := by decide +kernel
theorem dX12_until_2 : decode cX12_until 2 = .ok (.putfield 1, 3) := by decide +kernel
theorem dX12_until_5 : decode cX12_until 5 = .ok (.iload_n 1, 1) := by decide +kernel
theorem dX12_until_6 : decode cX12_until 6 = .ok (.invokestatic 182, 3) := by decide +kernel
theorem dX12_until_9 : decode cX12_until 9 = .ok (.ifCond .ne 9, 3) := by decide +kernel
theorem dX12_until_12 : decode cX12_until 12 = .ok (.aload_n 0, 1) := by decide +kernel
theorem dX12_until_13 : decode cX12_until 13 = .ok (.iconst 1, 1) := by decide +kernel
theorem dX12_until_14 : decode cX12_until 14 = .ok (.invokevirtual 274, 3) := by decide +kernel
theorem dX12_until_17 : decode cX12_until 17 = .ok (.ireturn, 1) := by decide +kernel
theorem dX12_until_18 : decode cX12_until 18 = .ok (.iload_n 2, 1) := by decide +kernel
theorem dX12_until_19 : decode cX12_until 19 = .ok (.iconst 1, 1) := by decide +kernel
theorem dX12_until_20 : decode cX12_until 20 = .ok (.sipush 999, 3) := by decide +kernel
theorem dX12_until_23 : decode cX12_until 23 = .ok (.invokestatic 211, 3) := by decide +kernel
theorem dX12_until_26 : decode cX12_until 26 = .ok (.ifCond .ne 9, 3) := by decide +kernel
theorem dX12_until_29 : decode cX12_until 29 = .ok (.aload_n 0, 1) := by decide +kernel
theorem dX12_until_30 : decode cX12_until 30 = .ok (.iconst 2, 1) := by decide +kernel
theorem dX12_until_31 : decode cX12_until 31 = .ok (.invokevirtual 274, 3) := by decide +kernel
theorem dX12_until_34 : decode cX12_until 34 = .ok (.ireturn, 1) := by decide +kernel
theorem dX12_until_35 : decode cX12_until 35 = .ok (.aload_n 0, 1) := by decide +kernel
theorem dX12_until_36 : decode cX12_until 36 = .ok (.iload_n 1, 1) := by decide +kernel
theorem dX12_until_37 : decode cX12_until 37 = .ok (.invokevirtual 239, 3) := by decide +kernel
theorem dX12_until_40 : decode cX12_until 40 = .ok (.iconst 0, 1) := by decide +kernel
theorem dX12_until_41 : decode cX12_until 41 = .ok (.istore_n 3, 1) := by decide +kernel
theorem dX12_until_42 : decode cX12_until 42 = .ok (.iconst 0, 1) := by decide +kernel
theorem dX12_until_43 : decode cX12_until 43 = .ok (.istore 4, 2) := by decide +kernel
theorem dX12_until_45 : decode cX12_until 45 = .ok (.aload_n 0, 1) := by decide +kernel
theorem dX12_until_46 : decode cX12_until 46 = .ok (.iload_n 1, 1) := by decide +kernel
theorem dX12_until_47 : decode cX12_until 47 = .ok (.invokevirtual 243, 3) := by decide +kernel
theorem dX12_until_50 : decode cX12_until 50 = .ok (.iload_n 2, 1) := by decide +kernel
theorem dX12_until_51 : decode cX12_until 51 = .ok (.if_icmp .ge 28, 3) := by decide +kernel
theorem dX12_until_54 : decode cX12_until 54 = .ok (.iload_n 3, 1) := by decide +kernel
theorem dX12_until_55 : decode cX12_until 55 = .ok (.sipush 365, 3) := by decide +kernel
theorem dX12_until_58 : decode cX12_until 58 = .ok (.if_icmp .ge 21, 3) := by decide +kernel
theorem dX12_until_61 : decode cX12_until 61 = .ok (.iload 4, 2) := by decide +kernel
theorem dX12_until_63 : decode cX12_until 63 = .ok (.ifCond .ne 16, 3) := by decide +kernel
theorem dX12_until_66 : decode cX12_until 66 = .ok (.aload_n 0, 1) := by decide +kernel
theorem dX12_until_67 : decode cX12_until 67 = .ok (.iload_n 1, 1) := by decide +kernel
theorem dX12_until_68 : decode cX12_until 68 = .ok (.invokevirtual 268, 3) := by decide +kernel
theorem dX12_until_71 : decode cX12_until 71 = .ok (.istore 4, 2) := by decide +kernel
theorem dX12_until_73 : decode cX12_until 73 = .ok (.iinc 3 1, 3) := by decide +kernel
theorem dX12_until_76 : decode cX12_until 76 = .ok (.goto (-31), 3) := by decide +kernel
theorem dX12_until_79 : decode cX12_until 79 = .ok (.aload_n 0, 1) := by decide +kernel
theorem dX12_until_80 : decode cX12_until 80 = .ok (.iload 4, 2) := by decide +kernel
theorem dX12_until_82 : decode cX12_until 82 = .ok (.ifCond .ne 12, 3) := by decide +kernel
theorem dX12_until_85 : decode cX12_until 85 = .ok (.aload_n 0, 1) := by decide +kernel
theorem dX12_until_86 : decode cX12_until 86 = .ok (.iload_n 1, 1) := by decide +kernel
theorem dX12_until_87 : decode cX12_until 87 = .ok (.invokevirtual 243, 3) := by decide +kernel
theorem dX12_until_90 : decode cX12_until 90 = .ok (.iload_n 2, 1) := by decide +kernel
theorem dX12_until_91 : decode cX12_until 91 = .ok (.if_icmp .ge 8, 3) := by decide +kernel
theorem dX12_until_94 : decode cX12_until 94 = .ok (.bipush (-2), 2) := by decide +kernel
theorem dX12_until_96 : decode cX12_until 96 = .ok (.goto 4, 3) := by decide +kernel
theorem dX12_until_99 : decode cX12_until 99 = .ok (.iload_n 3, 1) := by decide +kernel
theorem dX12_until_100 : decode cX12_until 100 = .ok (.invokevirtual 277, 3) := by decide +kernel
theorem dX12_until_103 : decode cX12_until 103 = .ok (.ireturn, 1) := by decide +kernel
theorem dX12_isPipe_0 : decode cX12_isPipe 0 = .ok (.iload_n 1, 1) := by decide +kernel
theorem dX12_isPipe_1 : decode cX12_isPipe 1 = .ok (.ifCond .lt 15, 3) := by decide +kernel
theorem dX12_isPipe_4 : decode cX12_isPipe 4 = .ok (.iload_n 1, 1) := by decide +kernel
theorem dX12_isPipe_5 : decode cX12_isPipe 5 = .ok (.aload_n 0, 1) := by decide +kernel
theorem dX12_isPipe_6 : decode cX12_isPipe 6 = .ok (.getfield 246, 3) := by decide +kernel
theorem dX12_isPipe_9 : decode cX12_isPipe 9 = .ok (.if_icmp .ge 7, 3) := by decide +kernel
theorem dX12_isPipe_12 : decode cX12_isPipe 12 = .ok (.iconst 1, 1) := by decide +kernel
theorem dX12_isPipe_13 : decode cX12_isPipe 13 = .ok (.goto 4, 3) := by decide +kernel
theorem dX12_isPipe_16 : decode cX12_isPipe 16 = .ok (.iconst 0, 1) := by decide +kernel
theorem dX12_isPipe_17 : decode cX12_isPipe 17 = .ok (.ireturn, 1) := by decide +kernel
theorem dX12_pipesOf_0 : decode cX12_pipesOf 0 = .ok (.iconst 0, 1) := by decide +kernel
theorem dX12_pipesOf_1 : decode cX12_pipesOf 1 = .ok (.istore_n 2, 1) := by decide +kernel
theorem dX12_pipesOf_2 : decode cX12_pipesOf 2 = .ok (.iconst 0, 1) := by decide +kernel
theorem dX12_pipesOf_3 : decode cX12_pipesOf 3 = .ok (.istore_n 3, 1) := by decide +kernel
theorem dX12_pipesOf_4 : decode cX12_pipesOf 4 = .ok (.iload_n 3, 1) := by decide +kernel
theorem dX12_pipesOf_5 : decode cX12_pipesOf 5 = .ok (.aload_n 0, 1) := by decide +kernel
theorem dX12_pipesOf_6 : decode cX12_pipesOf 6 = .ok (.getfield 246, 3) := by decide +kernel
theorem dX12_pipesOf_9 : decode cX12_pipesOf 9 = .ok (.if_icmp .ge 27, 3) := by decide +kernel
theorem dX12_pipesOf_12 : decode cX12_pipesOf 12 = .ok (.iload_n 2, 1) := by decide +kernel
theorem dX12_pipesOf_13 : decode cX12_pipesOf 13 = .ok (.aload_n 0, 1) := by decide +kernel
theorem dX12_pipesOf_14 : decode cX12_pipesOf 14 = .ok (.getfield 84, 3) := by decide +kernel
theorem dX12_pipesOf_17 : decode cX12_pipesOf 17 = .ok (.iload_n 3, 1) := by decide +kernel
theorem dX12_pipesOf_18 : decode cX12_pipesOf 18 = .ok (.iaload, 1) := by decide +kernel
theorem dX12_pipesOf_19 : decode cX12_pipesOf 19 = .ok (.iload_n 1, 1) := by decide +kernel
theorem dX12_pipesOf_20 : decode cX12_pipesOf 20 = .ok (.if_icmp .ne 7, 3) := by decide +kernel
theorem dX12_pipesOf_23 : decode cX12_pipesOf 23 = .ok (.iconst 1, 1) := by decide +kernel
theorem dX12_pipesOf_24 : decode cX12_pipesOf 24 = .ok (.goto 4, 3) := by decide +kernel
theorem dX12_pipesOf_27 : decode cX12_pipesOf 27 = .ok (.iconst 0, 1) := by decide +kernel
theorem dX12_pipesOf_28 : decode cX12_pipesOf 28 = .ok (.iadd, 1) := by decide +kernel
theorem dX12_pipesOf_29 : decode cX12_pipesOf 29 = .ok (.istore_n 2, 1) := by decide +kernel
theorem dX12_pipesOf_30 : decode cX12_pipesOf 30 = .ok (.iinc 3 1, 3) := by decide +kernel
theorem dX12_pipesOf_33 : decode cX12_pipesOf 33 = .ok (.goto (-29), 3) := by decide +kernel
theorem dX12_pipesOf_36 : decode cX12_pipesOf 36 = .ok (.iload_n 2, 1) := by decide +kernel
theorem dX12_pipesOf_37 : decode cX12_pipesOf 37 = .ok (.ireturn, 1) := by decide +kernel
theorem dX12_pipe_0 : decode cX12_pipe 0 = .ok (.aload_n 0, 1) := by decide +kernel
theorem dX12_pipe_1 : decode cX12_pipe 1 = .ok (.iconst 0, 1) := by decide +kernel
theorem dX12_pipe_2 : decode cX12_pipe 2 = .ok (.putfield 1, 3) := by decide +kernel
theorem dX12_pipe_5 : decode cX12_pipe 5 = .ok (.iload_n 1, 1) := by decide +kernel
theorem dX12_pipe_6 : decode cX12_pipe 6 = .ok (.iload_n 2, 1) := by decide +kernel
theorem dX12_pipe_7 : decode cX12_pipe 7 = .ok (.invokestatic 203, 3) := by decide +kernel
theorem dX12_pipe_10 : decode cX12_pipe 10 = .ok (.ifCond .ne 9, 3) := by decide +kernel
theorem dX12_pipe_13 : decode cX12_pipe 13 = .ok (.aload_n 0, 1) := by decide +kernel
theorem dX12_pipe_14 : decode cX12_pipe 14 = .ok (.iconst 1, 1) := by decide +kernel
theorem dX12_pipe_15 : decode cX12_pipe 15 = .ok (.invokevirtual 274, 3) := by decide +kernel
theorem dX12_pipe_18 : decode cX12_pipe 18 = .ok (.ireturn, 1) := by decide +kernel
theorem dX12_pipe_19 : decode cX12_pipe 19 = .ok (.iload_n 3, 1) := by decide +kernel
theorem dX12_pipe_20 : decode cX12_pipe 20 = .ok (.iconst 1, 1) := by decide +kernel
theorem dX12_pipe_21 : decode cX12_pipe 21 = .ok (.sipush 500, 3) := by decide +kernel
theorem dX12_pipe_24 : decode cX12_pipe 24 = .ok (.invokestatic 211, 3) := by decide +kernel
theorem dX12_pipe_27 : decode cX12_pipe 27 = .ok (.ifCond .eq 14, 3) := by decide +kernel
theorem dX12_pipe_30 : decode cX12_pipe 30 = .ok (.iload 4, 2) := by decide +kernel
theorem dX12_pipe_32 : decode cX12_pipe 32 = .ok (.iconst 0, 1) := by decide +kernel
theorem dX12_pipe_33 : decode cX12_pipe 33 = .ok (.ldc 210, 2) := by decide +kernel
theorem dX12_pipe_35 : decode cX12_pipe 35 = .ok (.invokestatic 211, 3) := by decide +kernel
theorem dX12_pipe_38 : decode cX12_pipe 38 = .ok (.ifCond .ne 9, 3) := by decide +kernel
theorem dX12_pipe_41 : decode cX12_pipe 41 = .ok (.aload_n 0, 1) := by decide +kernel
theorem dX12_pipe_42 : decode cX12_pipe 42 = .ok (.iconst 2, 1) := by decide +kernel
theorem dX12_pipe_43 : decode cX12_pipe 43 = .ok (.invokevirtual 274, 3) := by decide +kernel
theorem dX12_pipe_46 : decode cX12_pipe 46 = .ok (.ireturn, 1) := by decide +kernel
theorem dX12_pipe_47 : decode cX12_pipe 47 = .ok (.aload_n 0, 1) := by decide +kernel
theorem dX12_pipe_48 : decode cX12_pipe 48 = .ok (.iload_n 1, 1) := by decide +kernel
theorem dX12_pipe_49 : decode cX12_pipe 49 = .ok (.invokevirtual 280, 3) := by decide +kernel
theorem dX12_pipe_52 : decode cX12_pipe 52 = .ok (.iconst 3, 1) := by decide +kernel
theorem dX12_pipe_53 : decode cX12_pipe 53 = .ok (.if_icmp .ne 9, 3) := by decide +kernel
theorem dX12_pipe_56 : decode cX12_pipe 56 = .ok (.aload_n 0, 1) := by decide +kernel
theorem dX12_pipe_57 : decode cX12_pipe 57 = .ok (.iconst 3, 1) := by decide +kernel
theorem dX12_pipe_58 : decode cX12_pipe 58 = .ok (.invokevirtual 274, 3) := by decide +kernel
theorem dX12_pipe_61 : decode cX12_pipe 61 = .ok (.ireturn, 1) := by decide +kernel
theorem dX12_pipe_62 : decode cX12_pipe 62 = .ok (.aload_n 0, 1) := by decide +kernel
theorem dX12_pipe_63 : decode cX12_pipe 63 = .ok (.getfield 84, 3) := by decide +kernel
theorem dX12_pipe_66 : decode cX12_pipe 66 = .ok (.aload_n 0, 1) := by decide +kernel
theorem dX12_pipe_67 : decode cX12_pipe 67 = .ok (.getfield 246, 3) := by decide +kernel
theorem dX12_pipe_70 : decode cX12_pipe 70 = .ok (.iload_n 1, 1) := by decide +kernel
theorem dX12_pipe_71 : decode cX12_pipe 71 = .ok (.iastore, 1) := by decide +kernel
theorem dX12_pipe_72 : decode cX12_pipe 72 = .ok (.aload_n 0, 1) := by decide +kernel
theorem dX12_pipe_73 : decode cX12_pipe 73 = .ok (.getfield 87, 3) := by decide +kernel
theorem dX12_pipe_76 : decode cX12_pipe 76 = .ok (.aload_n 0, 1) := by decide +kernel
theorem dX12_pipe_77 : decode cX12_pipe 77 = .ok (.getfield 246, 3) := by decide +kernel
theorem dX12_pipe_80 : decode cX12_pipe 80 = .ok (.iload_n 2, 1) := by decide +kernel
theorem dX12_pipe_81 : decode cX12_pipe 81 = .ok (.iastore, 1) := by decide +kernel
theorem dX12_pipe_82 : decode cX12_pipe 82 = .ok (.aload_n 0, 1) := by decide +kernel
theorem dX12_pipe_83 : decode cX12_pipe 83 = .ok (.getfield 90, 3) := by decide +kernel
theorem dX12_pipe_86 : decode cX12_pipe 86 = .ok (.aload_n 0, 1) := by decide +kernel
theorem dX12_pipe_87 : decode cX12_pipe 87 = .ok (.getfield 246, 3) := by decide +kernel
theorem dX12_pipe_90 : decode cX12_pipe 90 = .ok (.iload_n 3, 1) := by decide +kernel
theorem dX12_pipe_91 : decode cX12_pipe 91 = .ok (.iastore, 1) := by decide +kernel
theorem dX12_pipe_92 : decode cX12_pipe 92 = .ok (.aload_n 0, 1) := by decide +kernel
theorem dX12_pipe_93 : decode cX12_pipe 93 = .ok (.getfield 93, 3) := by decide +kernel
theorem dX12_pipe_96 : decode cX12_pipe 96 = .ok (.aload_n 0, 1) := by decide +kernel
theorem dX12_pipe_97 : decode cX12_pipe 97 = .ok (.getfield 246, 3) := by decide +kernel
theorem dX12_pipe_100 : decode cX12_pipe 100 = .ok (.iload 4, 2) := by decide +kernel
theorem dX12_pipe_102 : decode cX12_pipe 102 = .ok (.iastore, 1) := by decide +kernel
theorem dX12_pipe_103 : decode cX12_pipe 103 = .ok (.aload_n 0, 1) := by decide +kernel
theorem dX12_pipe_104 : decode cX12_pipe 104 = .ok (.dup, 1) := by decide +kernel
theorem dX12_pipe_105 : decode cX12_pipe 105 = .ok (.getfield 246, 3) := by decide +kernel
theorem dX12_pipe_108 : decode cX12_pipe 108 = .ok (.iconst 1, 1) := by decide +kernel
theorem dX12_pipe_109 : decode cX12_pipe 109 = .ok (.iadd, 1) := by decide +kernel
theorem dX12_pipe_110 : decode cX12_pipe 110 = .ok (.putfield 246, 3) := by decide +kernel
theorem dX12_pipe_113 : decode cX12_pipe 113 = .ok (.aload_n 0, 1) := by decide +kernel
theorem dX12_pipe_114 : decode cX12_pipe 114 = .ok (.aload_n 0, 1) := by decide +kernel
theorem dX12_pipe_115 : decode cX12_pipe 115 = .ok (.getfield 246, 3) := by decide +kernel
theorem dX12_pipe_118 : decode cX12_pipe 118 = .ok (.iconst 1, 1) := by decide +kernel
theorem dX12_pipe_119 : decode cX12_pipe 119 = .ok (.isub, 1) := by decide +kernel
theorem dX12_pipe_120 : decode cX12_pipe 120 = .ok (.invokevirtual 277, 3) := by decide +kernel
theorem dX12_pipe_123 : decode cX12_pipe 123 = .ok (.ireturn, 1) := by decide +kernel
theorem dX12_pipeOf_0 : decode cX12_pipeOf 0 = .ok (.aload_n 0, 1) := by decide +kernel
theorem dX12_pipeOf_1 : decode cX12_pipeOf 1 = .ok (.iconst 0, 1) := by decide +kernel
theorem dX12_pipeOf_2 : decode cX12_pipeOf 2 = .ok (.putfield 1, 3) := by decide +kernel
theorem dX12_pipeOf_5 : decode cX12_pipeOf 5 = .ok (.aload_n 0, 1) := by decide +kernel
theorem dX12_pipeOf_6 : decode cX12_pipeOf 6 = .ok (.iload_n 1, 1) := by decide +kernel
theorem dX12_pipeOf_7 : decode cX12_pipeOf 7 = .ok (.invokevirtual 283, 3) := by decide +kernel
theorem dX12_pipeOf_10 : decode cX12_pipeOf 10 = .ok (.ifCond .ne 5, 3) := by decide +kernel
theorem dX12_pipeOf_13 : decode cX12_pipeOf 13 = .ok (.iconst (-1), 1) := by decide +kernel
theorem dX12_pipeOf_14 : decode cX12_pipeOf 14 = .ok (.ireturn, 1) := by decide +kernel
theorem dX12_pipeOf_15 : decode cX12_pipeOf 15 = .ok (.iload_n 2, 1) := by decide +kernel
theorem dX12_pipeOf_16 : decode cX12_pipeOf 16 = .ok (.tableswitch 79 0 4 #[36, 43, 50, 65, 72], 36) := by decide +kernel
theorem dX12_pipeOf_52 : decode cX12_pipeOf 52 = .ok (.aload_n 0, 1) := by decide +kernel
theorem dX12_pipeOf_53 : decode cX12_pipeOf 53 = .ok (.getfield 84, 3) := by decide +kernel
theorem dX12_pipeOf_56 : decode cX12_pipeOf 56 = .ok (.iload_n 1, 1) := by decide +kernel
theorem dX12_pipeOf_57 : decode cX12_pipeOf 57 = .ok (.iaload, 1) := by decide +kernel
theorem dX12_pipeOf_58 : decode cX12_pipeOf 58 = .ok (.ireturn, 1) := by decide +kernel
theorem dX12_pipeOf_59 : decode cX12_pipeOf 59 = .ok (.aload_n 0, 1) := by decide +kernel
theorem dX12_pipeOf_60 : decode cX12_pipeOf 60 = .ok (.getfield 87, 3) := by decide +kernel
theorem dX12_pipeOf_63 : decode cX12_pipeOf 63 = .ok (.iload_n 1, 1) := by decide +kernel
theorem dX12_pipeOf_64 : decode cX12_pipeOf 64 = .ok (.iaload, 1) := by decide +kernel
theorem dX12_pipeOf_65 : decode cX12_pipeOf 65 = .ok (.ireturn, 1) := by decide +kernel
theorem dX12_pipeOf_66 : decode cX12_pipeOf 66 = .ok (.aload_n 0, 1) := by decide +kernel
theorem dX12_pipeOf_67 : decode cX12_pipeOf 67 = .ok (.getfield 102, 3) := by decide +kernel
theorem dX12_pipeOf_70 : decode cX12_pipeOf 70 = .ok (.iload_n 1, 1) := by decide +kernel
theorem dX12_pipeOf_71 : decode cX12_pipeOf 71 = .ok (.baload, 1) := by decide +kernel
theorem dX12_pipeOf_72 : decode cX12_pipeOf 72 = .ok (.ifCond .eq 7, 3) := by decide +kernel
theorem dX12_pipeOf_75 : decode cX12_pipeOf 75 = .ok (.iconst 1, 1) := by decide +kernel
theorem dX12_pipeOf_76 : decode cX12_pipeOf 76 = .ok (.goto 4, 3) := by decide +kernel
theorem dX12_pipeOf_79 : decode cX12_pipeOf 79 = .ok (.iconst 0, 1) := by decide +kernel
theorem dX12_pipeOf_80 : decode cX12_pipeOf 80 = .ok (.ireturn, 1) := by decide +kernel
theorem dX12_pipeOf_81 : decode cX12_pipeOf 81 = .ok (.aload_n 0, 1) := by decide +kernel
theorem dX12_pipeOf_82 : decode cX12_pipeOf 82 = .ok (.getfield 96, 3) := by decide +kernel
theorem dX12_pipeOf_85 : decode cX12_pipeOf 85 = .ok (.iload_n 1, 1) := by decide +kernel
theorem dX12_pipeOf_86 : decode cX12_pipeOf 86 = .ok (.iaload, 1) := by decide +kernel
theorem dX12_pipeOf_87 : decode cX12_pipeOf 87 = .ok (.ireturn, 1) := by decide +kernel
theorem dX12_pipeOf_88 : decode cX12_pipeOf 88 = .ok (.aload_n 0, 1) := by decide +kernel
theorem dX12_pipeOf_89 : decode cX12_pipeOf 89 = .ok (.getfield 99, 3) := by decide +kernel
theorem dX12_pipeOf_92 : decode cX12_pipeOf 92 = .ok (.iload_n 1, 1) := by decide +kernel
theorem dX12_pipeOf_93 : decode cX12_pipeOf 93 = .ok (.iaload, 1) := by decide +kernel
theorem dX12_pipeOf_94 : decode cX12_pipeOf 94 = .ok (.ireturn, 1) := by decide +kernel
theorem dX12_pipeOf_95 : decode cX12_pipeOf 95 = .ok (.iconst (-1), 1) := by decide +kernel
theorem dX12_pipeOf_96 : decode cX12_pipeOf 96 = .ok (.ireturn, 1) := by decide +kernel
theorem dX12_mayWork_0 : decode cX12_mayWork 0 = .ok (.aload_n 0, 1) := by decide +kernel
theorem dX12_mayWork_1 : decode cX12_mayWork 1 = .ok (.getfield 22, 3) := by decide +kernel
theorem dX12_mayWork_4 : decode cX12_mayWork 4 = .ok (.bipush (-2), 2) := by decide +kernel
theorem dX12_mayWork_6 : decode cX12_mayWork 6 = .ok (.if_icmp .eq 11, 3) := by decide +kernel
theorem dX12_mayWork_9 : decode cX12_mayWork 9 = .ok (.aload_n 0, 1) := by decide +kernel
theorem dX12_mayWork_10 : decode cX12_mayWork 10 = .ok (.getfield 22, 3) := by decide +kernel
theorem dX12_mayWork_13 : decode cX12_mayWork 13 = .ok (.iload_n 1, 1) := by decide +kernel
theorem dX12_mayWork_14 : decode cX12_mayWork 14 = .ok (.if_icmp .ne 25, 3) := by decide +kernel
theorem dX12_mayWork_17 : decode cX12_mayWork 17 = .ok (.aload_n 0, 1) := by decide +kernel
theorem dX12_mayWork_18 : decode cX12_mayWork 18 = .ok (.iload_n 1, 1) := by decide +kernel
theorem dX12_mayWork_19 : decode cX12_mayWork 19 = .ok (.iconst 1, 1) := by decide +kernel
theorem dX12_mayWork_20 : decode cX12_mayWork 20 = .ok (.invokevirtual 286, 3) := by decide +kernel
theorem dX12_mayWork_23 : decode cX12_mayWork 23 = .ok (.ifCond .eq 16, 3) := by decide +kernel
theorem dX12_mayWork_26 : decode cX12_mayWork 26 = .ok (.aload_n 0, 1) := by decide +kernel
theorem dX12_mayWork_27 : decode cX12_mayWork 27 = .ok (.iload_n 1, 1) := by decide +kernel
theorem dX12_mayWork_28 : decode cX12_mayWork 28 = .ok (.iconst 2, 1) := by decide +kernel
theorem dX12_mayWork_29 : decode cX12_mayWork 29 = .ok (.invokevirtual 286, 3) := by decide +kernel
theorem dX12_mayWork_32 : decode cX12_mayWork 32 = .ok (.ifCond .ne 7, 3) := by decide +kernel
theorem dX12_mayWork_35 : decode cX12_mayWork 35 = .ok (.iconst 1, 1) := by decide +kernel
theorem dX12_mayWork_36 : decode cX12_mayWork 36 = .ok (.goto 4, 3) := by decide +kernel
theorem dX12_mayWork_39 : decode cX12_mayWork 39 = .ok (.iconst 0, 1) := by decide +kernel
theorem dX12_mayWork_40 : decode cX12_mayWork 40 = .ok (.ireturn, 1) := by decide +kernel
theorem dX12_move_0 : decode cX12_move 0 = .ok (.aload_n 0, 1) := by decide +kernel
theorem dX12_move_1 : decode cX12_move 1 = .ok (.iconst 0, 1) := by decide +kernel
theorem dX12_move_2 : decode cX12_move 2 = .ok (.putfield 1, 3) := by decide +kernel
theorem dX12_move_5 : decode cX12_move 5 = .ok (.aload_n 0, 1) := by decide +kernel
theorem dX12_move_6 : decode cX12_move 6 = .ok (.iload_n 1, 1) := by decide +kernel
theorem dX12_move_7 : decode cX12_move 7 = .ok (.invokevirtual 283, 3) := by decide +kernel
theorem dX12_move_10 : decode cX12_move 10 = .ok (.ifCond .eq 11, 3) := by decide +kernel
theorem dX12_move_13 : decode cX12_move 13 = .ok (.iconst 0, 1) := by decide +kernel
theorem dX12_move_14 : decode cX12_move 14 = .ok (.iload_n 2, 1) := by decide +kernel
theorem dX12_move_15 : decode cX12_move 15 = .ok (.invokestatic 203, 3) := by decide +kernel
theorem dX12_move_18 : decode cX12_move 18 = .ok (.ifCond .ne 9, 3) := by decide +kernel
theorem dX12_move_21 : decode cX12_move 21 = .ok (.aload_n 0, 1) := by decide +kernel
theorem dX12_move_22 : decode cX12_move 22 = .ok (.iconst 1, 1) := by decide +kernel
theorem dX12_move_23 : decode cX12_move 23 = .ok (.invokevirtual 207, 3) := by decide +kernel
theorem dX12_move_26 : decode cX12_move 26 = .ok (.ireturn, 1) := by decide +kernel
theorem dX12_move_27 : decode cX12_move 27 = .ok (.aload_n 0, 1) := by decide +kernel
theorem dX12_move_28 : decode cX12_move 28 = .ok (.getfield 87, 3) := by decide +kernel
theorem dX12_move_31 : decode cX12_move 31 = .ok (.iload_n 1, 1) := by decide +kernel
theorem dX12_move_32 : decode cX12_move 32 = .ok (.iaload, 1) := by decide +kernel
theorem dX12_move_33 : decode cX12_move 33 = .ok (.iload_n 2, 1) := by decide +kernel
theorem dX12_move_34 : decode cX12_move 34 = .ok (.if_icmp .ne 9, 3) := by decide +kernel
theorem dX12_move_37 : decode cX12_move 37 = .ok (.aload_n 0, 1) := by decide +kernel
theorem dX12_move_38 : decode cX12_move 38 = .ok (.iconst 5, 1) := by decide +kernel
theorem dX12_move_39 : decode cX12_move 39 = .ok (.invokevirtual 207, 3) := by decide +kernel
theorem dX12_move_42 : decode cX12_move 42 = .ok (.ireturn, 1) := by decide +kernel
theorem dX12_move_43 : decode cX12_move 43 = .ok (.aload_n 0, 1) := by decide +kernel
theorem dX12_move_44 : decode cX12_move 44 = .ok (.getfield 84, 3) := by decide +kernel
theorem dX12_move_47 : decode cX12_move 47 = .ok (.iload_n 1, 1) := by decide +kernel
theorem dX12_move_48 : decode cX12_move 48 = .ok (.iaload, 1) := by decide +kernel
theorem dX12_move_49 : decode cX12_move 49 = .ok (.istore_n 3, 1) := by decide +kernel
theorem dX12_move_50 : decode cX12_move 50 = .ok (.aload_n 0, 1) := by decide +kernel
theorem dX12_move_51 : decode cX12_move 51 = .ok (.iload_n 3, 1) := by decide +kernel
theorem dX12_move_52 : decode cX12_move 52 = .ok (.invokevirtual 289, 3) := by decide +kernel
theorem dX12_move_55 : decode cX12_move 55 = .ok (.ifCond .ne 10, 3) := by decide +kernel
theorem dX12_move_58 : decode cX12_move 58 = .ok (.aload_n 0, 1) := by decide +kernel
theorem dX12_move_59 : decode cX12_move 59 = .ok (.bipush 6, 2) := by decide +kernel
theorem dX12_move_61 : decode cX12_move 61 = .ok (.invokevirtual 207, 3) := by decide +kernel
theorem dX12_move_64 : decode cX12_move 64 = .ok (.ireturn, 1) := by decide +kernel
theorem dX12_move_65 : decode cX12_move 65 = .ok (.aload_n 0, 1) := by decide +kernel
theorem dX12_move_66 : decode cX12_move 66 = .ok (.iload_n 3, 1) := by decide +kernel
theorem dX12_move_67 : decode cX12_move 67 = .ok (.putfield 22, 3) := by decide +kernel
theorem dX12_move_70 : decode cX12_move 70 = .ok (.aload_n 0, 1) := by decide +kernel
theorem dX12_move_71 : decode cX12_move 71 = .ok (.getfield 87, 3) := by decide +kernel
theorem dX12_move_74 : decode cX12_move 74 = .ok (.iload_n 1, 1) := by decide +kernel
theorem dX12_move_75 : decode cX12_move 75 = .ok (.iload_n 2, 1) := by decide +kernel
theorem dX12_move_76 : decode cX12_move 76 = .ok (.iastore, 1) := by decide +kernel
theorem dX12_move_77 : decode cX12_move 77 = .ok (.aload_n 0, 1) := by decide +kernel
theorem dX12_move_78 : decode cX12_move 78 = .ok (.getfield 102, 3) := by decide +kernel
theorem dX12_move_81 : decode cX12_move 81 = .ok (.iload_n 1, 1) := by decide +kernel
theorem dX12_move_82 : decode cX12_move 82 = .ok (.iconst 0, 1) := by decide +kernel
theorem dX12_move_83 : decode cX12_move 83 = .ok (.bastore, 1) := by decide +kernel
theorem dX12_move_84 : decode cX12_move 84 = .ok (.aload_n 0, 1) := by decide +kernel
theorem dX12_move_85 : decode cX12_move 85 = .ok (.getfield 99, 3) := by decide +kernel
theorem dX12_move_88 : decode cX12_move 88 = .ok (.iload_n 1, 1) := by decide +kernel
theorem dX12_move_89 : decode cX12_move 89 = .ok (.dup2, 1) := by decide +kernel
theorem dX12_move_90 : decode cX12_move 90 = .ok (.iaload, 1) := by decide +kernel
theorem dX12_move_91 : decode cX12_move 91 = .ok (.iconst 1, 1) := by decide +kernel
theorem dX12_move_92 : decode cX12_move 92 = .ok (.iadd, 1) := by decide +kernel
theorem dX12_move_93 : decode cX12_move 93 = .ok (.iastore, 1) := by decide +kernel
theorem dX12_move_94 : decode cX12_move 94 = .ok (.aload_n 0, 1) := by decide +kernel
theorem dX12_move_95 : decode cX12_move 95 = .ok (.iload_n 3, 1) := by decide +kernel
theorem dX12_move_96 : decode cX12_move 96 = .ok (.invokevirtual 239, 3) := by decide +kernel
theorem dX12_move_99 : decode cX12_move 99 = .ok (.aload_n 0, 1) := by decide +kernel
theorem dX12_move_100 : decode cX12_move 100 = .ok (.iconst 0, 1) := by decide +kernel
theorem dX12_move_101 : decode cX12_move 101 = .ok (.iload_n 2, 1) := by decide +kernel
theorem dX12_move_102 : decode cX12_move 102 = .ok (.iconst 1, 1) := by decide +kernel
theorem dX12_move_103 : decode cX12_move 103 = .ok (.isub, 1) := by decide +kernel
theorem dX12_move_104 : decode cX12_move 104 = .ok (.invokestatic 186, 3) := by decide +kernel
theorem dX12_move_107 : decode cX12_move 107 = .ok (.invokevirtual 256, 3) := by decide +kernel
theorem dX12_move_110 : decode cX12_move 110 = .ok (.aload_n 0, 1) := by decide +kernel
theorem dX12_move_111 : decode cX12_move 111 = .ok (.iload_n 3, 1) := by decide +kernel
theorem dX12_move_112 : decode cX12_move 112 = .ok (.invokevirtual 292, 3) := by decide +kernel
theorem dX12_move_115 : decode cX12_move 115 = .ok (.aload_n 0, 1) := by decide +kernel
theorem dX12_move_116 : decode cX12_move 116 = .ok (.invokevirtual 215, 3) := by decide +kernel
theorem dX12_move_119 : decode cX12_move 119 = .ok (.ireturn, 1) := by decide +kernel
theorem dX12_lays_0 : decode cX12_lays 0 = .ok (.iconst 0, 1) := by decide +kernel
theorem dX12_lays_1 : decode cX12_lays 1 = .ok (.istore_n 2, 1) := by decide +kernel
theorem dX12_lays_2 : decode cX12_lays 2 = .ok (.iload_n 2, 1) := by decide +kernel
theorem dX12_lays_3 : decode cX12_lays 3 = .ok (.bipush 10, 2) := by decide +kernel
theorem dX12_lays_5 : decode cX12_lays 5 = .ok (.if_icmp .ge 60, 3) := by decide +kernel
theorem dX12_lays_8 : decode cX12_lays 8 = .ok (.aload_n 0, 1) := by decide +kernel
theorem dX12_lays_9 : decode cX12_lays 9 = .ok (.getfield 25, 3) := by decide +kernel
theorem dX12_lays_12 : decode cX12_lays 12 = .ok (.bipush 10, 2) := by decide +kernel
theorem dX12_lays_14 : decode cX12_lays 14 = .ok (.iload_n 1, 1) := by decide +kernel
theorem dX12_lays_15 : decode cX12_lays 15 = .ok (.imul, 1) := by decide +kernel
theorem dX12_lays_16 : decode cX12_lays 16 = .ok (.iload_n 2, 1) := by decide +kernel
theorem dX12_lays_17 : decode cX12_lays 17 = .ok (.iadd, 1) := by decide +kernel
theorem dX12_lays_18 : decode cX12_lays 18 = .ok (.aload_n 0, 1) := by decide +kernel
theorem dX12_lays_19 : decode cX12_lays 19 = .ok (.getfield 65, 3) := by decide +kernel
theorem dX12_lays_22 : decode cX12_lays 22 = .ok (.iload_n 2, 1) := by decide +kernel
theorem dX12_lays_23 : decode cX12_lays 23 = .ok (.iaload, 1) := by decide +kernel
theorem dX12_lays_24 : decode cX12_lays 24 = .ok (.iastore, 1) := by decide +kernel
theorem dX12_lays_25 : decode cX12_lays 25 = .ok (.aload_n 0, 1) := by decide +kernel
theorem dX12_lays_26 : decode cX12_lays 26 = .ok (.getfield 29, 3) := by decide +kernel
theorem dX12_lays_29 : decode cX12_lays 29 = .ok (.bipush 10, 2) := by decide +kernel
theorem dX12_lays_31 : decode cX12_lays 31 = .ok (.iload_n 1, 1) := by decide +kernel
theorem dX12_lays_32 : decode cX12_lays 32 = .ok (.imul, 1) := by decide +kernel
theorem dX12_lays_33 : decode cX12_lays 33 = .ok (.iload_n 2, 1) := by decide +kernel
theorem dX12_lays_34 : decode cX12_lays 34 = .ok (.iadd, 1) := by decide +kernel
theorem dX12_lays_35 : decode cX12_lays 35 = .ok (.aload_n 0, 1) := by decide +kernel
theorem dX12_lays_36 : decode cX12_lays 36 = .ok (.getfield 68, 3) := by decide +kernel
theorem dX12_lays_39 : decode cX12_lays 39 = .ok (.iload_n 2, 1) := by decide +kernel
theorem dX12_lays_40 : decode cX12_lays 40 = .ok (.iaload, 1) := by decide +kernel
theorem dX12_lays_41 : decode cX12_lays 41 = .ok (.iastore, 1) := by decide +kernel
theorem dX12_lays_42 : decode cX12_lays 42 = .ok (.aload_n 0, 1) := by decide +kernel
theorem dX12_lays_43 : decode cX12_lays 43 = .ok (.getfield 32, 3) := by decide +kernel
theorem dX12_lays_46 : decode cX12_lays 46 = .ok (.bipush 10, 2) := by decide +kernel
theorem dX12_lays_48 : decode cX12_lays 48 = .ok (.iload_n 1, 1) := by decide +kernel
theorem dX12_lays_49 : decode cX12_lays 49 = .ok (.imul, 1) := by decide +kernel
theorem dX12_lays_50 : decode cX12_lays 50 = .ok (.iload_n 2, 1) := by decide +kernel
theorem dX12_lays_51 : decode cX12_lays 51 = .ok (.iadd, 1) := by decide +kernel
theorem dX12_lays_52 : decode cX12_lays 52 = .ok (.aload_n 0, 1) := by decide +kernel
theorem dX12_lays_53 : decode cX12_lays 53 = .ok (.getfield 71, 3) := by decide +kernel
theorem dX12_lays_56 : decode cX12_lays 56 = .ok (.iload_n 2, 1) := by decide +kernel
theorem dX12_lays_57 : decode cX12_lays 57 = .ok (.iaload, 1) := by decide +kernel
theorem dX12_lays_58 : decode cX12_lays 58 = .ok (.iastore, 1) := by decide +kernel
theorem dX12_lays_59 : decode cX12_lays 59 = .ok (.iinc 2 1, 3) := by decide +kernel
theorem dX12_lays_62 : decode cX12_lays 62 = .ok (.goto (-60), 3) := by decide +kernel
theorem dX12_lays_65 : decode cX12_lays 65 = .ok (.return_, 1) := by decide +kernel
theorem dX12_start_0 : decode cX12_start 0 = .ok (.aload_n 0, 1) := by decide +kernel
theorem dX12_start_1 : decode cX12_start 1 = .ok (.iconst 0, 1) := by decide +kernel
theorem dX12_start_2 : decode cX12_start 2 = .ok (.putfield 1, 3) := by decide +kernel
theorem dX12_start_5 : decode cX12_start 5 = .ok (.aload_n 0, 1) := by decide +kernel
theorem dX12_start_6 : decode cX12_start 6 = .ok (.iload_n 1, 1) := by decide +kernel
theorem dX12_start_7 : decode cX12_start 7 = .ok (.invokevirtual 283, 3) := by decide +kernel
theorem dX12_start_10 : decode cX12_start 10 = .ok (.ifCond .ne 9, 3) := by decide +kernel
theorem dX12_start_13 : decode cX12_start 13 = .ok (.aload_n 0, 1) := by decide +kernel
theorem dX12_start_14 : decode cX12_start 14 = .ok (.iconst 1, 1) := by decide +kernel
theorem dX12_start_15 : decode cX12_start 15 = .ok (.invokevirtual 207, 3) := by decide +kernel
theorem dX12_start_18 : decode cX12_start 18 = .ok (.ireturn, 1) := by decide +kernel
theorem dX12_start_19 : decode cX12_start 19 = .ok (.aload_n 0, 1) := by decide +kernel
theorem dX12_start_20 : decode cX12_start 20 = .ok (.getfield 102, 3) := by decide +kernel
theorem dX12_start_23 : decode cX12_start 23 = .ok (.iload_n 1, 1) := by decide +kernel
theorem dX12_start_24 : decode cX12_start 24 = .ok (.baload, 1) := by decide +kernel
theorem dX12_start_25 : decode cX12_start 25 = .ok (.ifCond .eq 9, 3) := by decide +kernel
theorem dX12_start_28 : decode cX12_start 28 = .ok (.aload_n 0, 1) := by decide +kernel
theorem dX12_start_29 : decode cX12_start 29 = .ok (.iconst 5, 1) := by decide +kernel
theorem dX12_start_30 : decode cX12_start 30 = .ok (.invokevirtual 207, 3) := by decide +kernel
theorem dX12_start_33 : decode cX12_start 33 = .ok (.ireturn, 1) := by decide +kernel
theorem dX12_start_34 : decode cX12_start 34 = .ok (.aload_n 0, 1) := by decide +kernel
theorem dX12_start_35 : decode cX12_start 35 = .ok (.aload_n 0, 1) := by decide +kernel
theorem dX12_start_36 : decode cX12_start 36 = .ok (.getfield 84, 3) := by decide +kernel
theorem dX12_start_39 : decode cX12_start 39 = .ok (.iload_n 1, 1) := by decide +kernel
theorem dX12_start_40 : decode cX12_start 40 = .ok (.iaload, 1) := by decide +kernel
theorem dX12_start_41 : decode cX12_start 41 = .ok (.invokevirtual 289, 3) := by decide +kernel
theorem dX12_start_44 : decode cX12_start 44 = .ok (.ifCond .ne 10, 3) := by decide +kernel
theorem dX12_start_47 : decode cX12_start 47 = .ok (.aload_n 0, 1) := by decide +kernel
theorem dX12_start_48 : decode cX12_start 48 = .ok (.bipush 6, 2) := by decide +kernel
theorem dX12_start_50 : decode cX12_start 50 = .ok (.invokevirtual 207, 3) := by decide +kernel
theorem dX12_start_53 : decode cX12_start 53 = .ok (.ireturn, 1) := by decide +kernel
theorem dX12_start_54 : decode cX12_start 54 = .ok (.aload_n 0, 1) := by decide +kernel
theorem dX12_start_55 : decode cX12_start 55 = .ok (.aload_n 0, 1) := by decide +kernel
theorem dX12_start_56 : decode cX12_start 56 = .ok (.getfield 84, 3) := by decide +kernel
theorem dX12_start_59 : decode cX12_start 59 = .ok (.iload_n 1, 1) := by decide +kernel
theorem dX12_start_60 : decode cX12_start 60 = .ok (.iaload, 1) := by decide +kernel
theorem dX12_start_61 : decode cX12_start 61 = .ok (.putfield 22, 3) := by decide +kernel
theorem dX12_start_64 : decode cX12_start 64 = .ok (.aload_n 0, 1) := by decide +kernel
theorem dX12_start_65 : decode cX12_start 65 = .ok (.getfield 102, 3) := by decide +kernel
theorem dX12_start_68 : decode cX12_start 68 = .ok (.iload_n 1, 1) := by decide +kernel
theorem dX12_start_69 : decode cX12_start 69 = .ok (.iconst 1, 1) := by decide +kernel
theorem dX12_start_70 : decode cX12_start 70 = .ok (.bastore, 1) := by decide +kernel
theorem dX12_start_71 : decode cX12_start 71 = .ok (.aload_n 0, 1) := by decide +kernel
theorem dX12_start_72 : decode cX12_start 72 = .ok (.invokevirtual 215, 3) := by decide +kernel
theorem dX12_start_75 : decode cX12_start 75 = .ok (.ireturn, 1) := by decide +kernel
theorem dX12_listOwn_0 : decode cX12_listOwn 0 = .ok (.aload_n 0, 1) := by decide +kernel
theorem dX12_listOwn_1 : decode cX12_listOwn 1 = .ok (.iconst 0, 1) := by decide +kernel
theorem dX12_listOwn_2 : decode cX12_listOwn 2 = .ok (.putfield 295, 3) := by decide +kernel
theorem dX12_listOwn_5 : decode cX12_listOwn 5 = .ok (.iconst 0, 1) := by decide +kernel
theorem dX12_listOwn_6 : decode cX12_listOwn 6 = .ok (.istore_n 2, 1) := by decide +kernel
theorem dX12_listOwn_7 : decode cX12_listOwn 7 = .ok (.iload_n 2, 1) := by decide +kernel
theorem dX12_listOwn_8 : decode cX12_listOwn 8 = .ok (.aload_n 0, 1) := by decide +kernel
theorem dX12_listOwn_9 : decode cX12_listOwn 9 = .ok (.getfield 246, 3) := by decide +kernel
theorem dX12_listOwn_12 : decode cX12_listOwn 12 = .ok (.if_icmp .ge 42, 3) := by decide +kernel
theorem dX12_listOwn_15 : decode cX12_listOwn 15 = .ok (.aload_n 0, 1) := by decide +kernel
theorem dX12_listOwn_16 : decode cX12_listOwn 16 = .ok (.getfield 84, 3) := by decide +kernel
theorem dX12_listOwn_19 : decode cX12_listOwn 19 = .ok (.iload_n 2, 1) := by decide +kernel
theorem dX12_listOwn_20 : decode cX12_listOwn 20 = .ok (.iaload, 1) := by decide +kernel
theorem dX12_listOwn_21 : decode cX12_listOwn 21 = .ok (.iload_n 1, 1) := by decide +kernel
theorem dX12_listOwn_22 : decode cX12_listOwn 22 = .ok (.if_icmp .eq 6, 3) := by decide +kernel
theorem dX12_listOwn_25 : decode cX12_listOwn 25 = .ok (.goto 23, 3) := by decide +kernel
theorem dX12_listOwn_28 : decode cX12_listOwn 28 = .ok (.aload_n 0, 1) := by decide +kernel
theorem dX12_listOwn_29 : decode cX12_listOwn 29 = .ok (.getfield 105, 3) := by decide +kernel
theorem dX12_listOwn_32 : decode cX12_listOwn 32 = .ok (.aload_n 0, 1) := by decide +kernel
theorem dX12_listOwn_33 : decode cX12_listOwn 33 = .ok (.getfield 295, 3) := by decide +kernel
theorem dX12_listOwn_36 : decode cX12_listOwn 36 = .ok (.iload_n 2, 1) := by decide +kernel
theorem dX12_listOwn_37 : decode cX12_listOwn 37 = .ok (.iastore, 1) := by decide +kernel
theorem dX12_listOwn_38 : decode cX12_listOwn 38 = .ok (.aload_n 0, 1) := by decide +kernel
theorem dX12_listOwn_39 : decode cX12_listOwn 39 = .ok (.dup, 1) := by decide +kernel
theorem dX12_listOwn_40 : decode cX12_listOwn 40 = .ok (.getfield 295, 3) := by decide +kernel
theorem dX12_listOwn_43 : decode cX12_listOwn 43 = .ok (.iconst 1, 1) := by decide +kernel
theorem dX12_listOwn_44 : decode cX12_listOwn 44 = .ok (.iadd, 1) := by decide +kernel
theorem dX12_listOwn_45 : decode cX12_listOwn 45 = .ok (.putfield 295, 3) := by decide +kernel
theorem dX12_listOwn_48 : decode cX12_listOwn 48 = .ok (.iinc 2 1, 3) := by decide +kernel
theorem dX12_listOwn_51 : decode cX12_listOwn 51 = .ok (.goto (-44), 3) := by decide +kernel
theorem dX12_listOwn_54 : decode cX12_listOwn 54 = .ok (.return_, 1) := by decide +kernel
theorem dX12_daysBy_0 : decode cX12_daysBy 0 = .ok (.aload_n 0, 1) := by decide +kernel
theorem dX12_daysBy_1 : decode cX12_daysBy 1 = .ok (.iload_n 1, 1) := by decide +kernel
theorem dX12_daysBy_2 : decode cX12_daysBy 2 = .ok (.invokevirtual 239, 3) := by decide +kernel
theorem dX12_daysBy_5 : decode cX12_daysBy 5 = .ok (.iconst 0, 1) := by decide +kernel
theorem dX12_daysBy_6 : decode cX12_daysBy 6 = .ok (.istore 4, 2) := by decide +kernel
theorem dX12_daysBy_8 : decode cX12_daysBy 8 = .ok (.iload 4, 2) := by decide +kernel
theorem dX12_daysBy_10 : decode cX12_daysBy 10 = .ok (.aload_n 0, 1) := by decide +kernel
theorem dX12_daysBy_11 : decode cX12_daysBy 11 = .ok (.getfield 295, 3) := by decide +kernel
theorem dX12_daysBy_14 : decode cX12_daysBy 14 = .ok (.if_icmp .ge 66, 3) := by decide +kernel
theorem dX12_daysBy_17 : decode cX12_daysBy 17 = .ok (.aload_n 0, 1) := by decide +kernel
theorem dX12_daysBy_18 : decode cX12_daysBy 18 = .ok (.getfield 108, 3) := by decide +kernel
theorem dX12_daysBy_21 : decode cX12_daysBy 21 = .ok (.iload 4, 2) := by decide +kernel
theorem dX12_daysBy_23 : decode cX12_daysBy 23 = .ok (.iaload, 1) := by decide +kernel
theorem dX12_daysBy_24 : decode cX12_daysBy 24 = .ok (.aload_n 0, 1) := by decide +kernel
theorem dX12_daysBy_25 : decode cX12_daysBy 25 = .ok (.getfield 87, 3) := by decide +kernel
theorem dX12_daysBy_28 : decode cX12_daysBy 28 = .ok (.aload_n 0, 1) := by decide +kernel
theorem dX12_daysBy_29 : decode cX12_daysBy 29 = .ok (.getfield 105, 3) := by decide +kernel
theorem dX12_daysBy_32 : decode cX12_daysBy 32 = .ok (.iload 4, 2) := by decide +kernel
theorem dX12_daysBy_34 : decode cX12_daysBy 34 = .ok (.iaload, 1) := by decide +kernel
theorem dX12_daysBy_35 : decode cX12_daysBy 35 = .ok (.iaload, 1) := by decide +kernel
theorem dX12_daysBy_36 : decode cX12_daysBy 36 = .ok (.if_icmp .ne 6, 3) := by decide +kernel
theorem dX12_daysBy_39 : decode cX12_daysBy 39 = .ok (.goto 35, 3) := by decide +kernel
theorem dX12_daysBy_42 : decode cX12_daysBy 42 = .ok (.aload_n 0, 1) := by decide +kernel
theorem dX12_daysBy_43 : decode cX12_daysBy 43 = .ok (.getfield 74, 3) := by decide +kernel
theorem dX12_daysBy_46 : decode cX12_daysBy 46 = .ok (.aload_n 0, 1) := by decide +kernel
theorem dX12_daysBy_47 : decode cX12_daysBy 47 = .ok (.getfield 105, 3) := by decide +kernel
theorem dX12_daysBy_50 : decode cX12_daysBy 50 = .ok (.iload 4, 2) := by decide +kernel
theorem dX12_daysBy_52 : decode cX12_daysBy 52 = .ok (.iaload, 1) := by decide +kernel
theorem dX12_daysBy_53 : decode cX12_daysBy 53 = .ok (.aload_n 0, 1) := by decide +kernel
theorem dX12_daysBy_54 : decode cX12_daysBy 54 = .ok (.getfield 108, 3) := by decide +kernel
theorem dX12_daysBy_57 : decode cX12_daysBy 57 = .ok (.iload 4, 2) := by decide +kernel
theorem dX12_daysBy_59 : decode cX12_daysBy 59 = .ok (.iaload, 1) := by decide +kernel
theorem dX12_daysBy_60 : decode cX12_daysBy 60 = .ok (.iastore, 1) := by decide +kernel
theorem dX12_daysBy_61 : decode cX12_daysBy 61 = .ok (.aload_n 0, 1) := by decide +kernel
theorem dX12_daysBy_62 : decode cX12_daysBy 62 = .ok (.getfield 80, 3) := by decide +kernel
theorem dX12_daysBy_65 : decode cX12_daysBy 65 = .ok (.aload_n 0, 1) := by decide +kernel
theorem dX12_daysBy_66 : decode cX12_daysBy 66 = .ok (.getfield 105, 3) := by decide +kernel
theorem dX12_daysBy_69 : decode cX12_daysBy 69 = .ok (.iload 4, 2) := by decide +kernel
theorem dX12_daysBy_71 : decode cX12_daysBy 71 = .ok (.iaload, 1) := by decide +kernel
theorem dX12_daysBy_72 : decode cX12_daysBy 72 = .ok (.iconst 1, 1) := by decide +kernel
theorem dX12_daysBy_73 : decode cX12_daysBy 73 = .ok (.bastore, 1) := by decide +kernel
theorem dX12_daysBy_74 : decode cX12_daysBy 74 = .ok (.iinc 4 1, 3) := by decide +kernel
theorem dX12_daysBy_77 : decode cX12_daysBy 77 = .ok (.goto (-69), 3) := by decide +kernel
theorem dX12_daysBy_80 : decode cX12_daysBy 80 = .ok (.iconst 1, 1) := by decide +kernel
theorem dX12_daysBy_81 : decode cX12_daysBy 81 = .ok (.istore 4, 2) := by decide +kernel
theorem dX12_daysBy_83 : decode cX12_daysBy 83 = .ok (.iload 4, 2) := by decide +kernel
theorem dX12_daysBy_85 : decode cX12_daysBy 85 = .ok (.iload_n 3, 1) := by decide +kernel
theorem dX12_daysBy_86 : decode cX12_daysBy 86 = .ok (.if_icmp .gt 32, 3) := by decide +kernel
theorem dX12_daysBy_89 : decode cX12_daysBy 89 = .ok (.aload_n 0, 1) := by decide +kernel
theorem dX12_daysBy_90 : decode cX12_daysBy 90 = .ok (.iload_n 1, 1) := by decide +kernel
theorem dX12_daysBy_91 : decode cX12_daysBy 91 = .ok (.invokevirtual 268, 3) := by decide +kernel
theorem dX12_daysBy_94 : decode cX12_daysBy 94 = .ok (.ifCond .eq 6, 3) := by decide +kernel
theorem dX12_daysBy_97 : decode cX12_daysBy 97 = .ok (.bipush (-2), 2) := by decide +kernel
theorem dX12_daysBy_99 : decode cX12_daysBy 99 = .ok (.ireturn, 1) := by decide +kernel
theorem dX12_daysBy_100 : decode cX12_daysBy 100 = .ok (.aload_n 0, 1) := by decide +kernel
theorem dX12_daysBy_101 : decode cX12_daysBy 101 = .ok (.iload_n 1, 1) := by decide +kernel
theorem dX12_daysBy_102 : decode cX12_daysBy 102 = .ok (.invokevirtual 243, 3) := by decide +kernel
theorem dX12_daysBy_105 : decode cX12_daysBy 105 = .ok (.iload_n 2, 1) := by decide +kernel
theorem dX12_daysBy_106 : decode cX12_daysBy 106 = .ok (.if_icmp .ge 6, 3) := by decide +kernel
theorem dX12_daysBy_109 : decode cX12_daysBy 109 = .ok (.iload 4, 2) := by decide +kernel
theorem dX12_daysBy_111 : decode cX12_daysBy 111 = .ok (.ireturn, 1) := by decide +kernel
theorem dX12_daysBy_112 : decode cX12_daysBy 112 = .ok (.iinc 4 1, 3) := by decide +kernel
theorem dX12_daysBy_115 : decode cX12_daysBy 115 = .ok (.goto (-32), 3) := by decide +kernel
theorem dX12_daysBy_118 : decode cX12_daysBy 118 = .ok (.bipush (-2), 2) := by decide +kernel
theorem dX12_daysBy_120 : decode cX12_daysBy 120 = .ok (.ireturn, 1) := by decide +kernel
theorem dX12_movedOnes_0 : decode cX12_movedOnes 0 = .ok (.iconst 0, 1) := by decide +kernel
theorem dX12_movedOnes_1 : decode cX12_movedOnes 1 = .ok (.istore_n 1, 1) := by decide +kernel
theorem dX12_movedOnes_2 : decode cX12_movedOnes 2 = .ok (.iconst 0, 1) := by decide +kernel
theorem dX12_movedOnes_3 : decode cX12_movedOnes 3 = .ok (.istore_n 2, 1) := by decide +kernel
theorem dX12_movedOnes_4 : decode cX12_movedOnes 4 = .ok (.iload_n 2, 1) := by decide +kernel
theorem dX12_movedOnes_5 : decode cX12_movedOnes 5 = .ok (.aload_n 0, 1) := by decide +kernel
theorem dX12_movedOnes_6 : decode cX12_movedOnes 6 = .ok (.getfield 295, 3) := by decide +kernel
theorem dX12_movedOnes_9 : decode cX12_movedOnes 9 = .ok (.if_icmp .ge 37, 3) := by decide +kernel
theorem dX12_movedOnes_12 : decode cX12_movedOnes 12 = .ok (.iload_n 1, 1) := by decide +kernel
theorem dX12_movedOnes_13 : decode cX12_movedOnes 13 = .ok (.aload_n 0, 1) := by decide +kernel
theorem dX12_movedOnes_14 : decode cX12_movedOnes 14 = .ok (.getfield 108, 3) := by decide +kernel
theorem dX12_movedOnes_17 : decode cX12_movedOnes 17 = .ok (.iload_n 2, 1) := by decide +kernel
theorem dX12_movedOnes_18 : decode cX12_movedOnes 18 = .ok (.iaload, 1) := by decide +kernel
theorem dX12_movedOnes_19 : decode cX12_movedOnes 19 = .ok (.aload_n 0, 1) := by decide +kernel
theorem dX12_movedOnes_20 : decode cX12_movedOnes 20 = .ok (.getfield 87, 3) := by decide +kernel
theorem dX12_movedOnes_23 : decode cX12_movedOnes 23 = .ok (.aload_n 0, 1) := by decide +kernel
theorem dX12_movedOnes_24 : decode cX12_movedOnes 24 = .ok (.getfield 105, 3) := by decide +kernel
theorem dX12_movedOnes_27 : decode cX12_movedOnes 27 = .ok (.iload_n 2, 1) := by decide +kernel
theorem dX12_movedOnes_28 : decode cX12_movedOnes 28 = .ok (.iaload, 1) := by decide +kernel
theorem dX12_movedOnes_29 : decode cX12_movedOnes 29 = .ok (.iaload, 1) := by decide +kernel
theorem dX12_movedOnes_30 : decode cX12_movedOnes 30 = .ok (.if_icmp .ne 7, 3) := by decide +kernel
theorem dX12_movedOnes_33 : decode cX12_movedOnes 33 = .ok (.iconst 0, 1) := by decide +kernel
theorem dX12_movedOnes_34 : decode cX12_movedOnes 34 = .ok (.goto 4, 3) := by decide +kernel
theorem dX12_movedOnes_37 : decode cX12_movedOnes 37 = .ok (.iconst 1, 1) := by decide +kernel
theorem dX12_movedOnes_38 : decode cX12_movedOnes 38 = .ok (.iadd, 1) := by decide +kernel
theorem dX12_movedOnes_39 : decode cX12_movedOnes 39 = .ok (.istore_n 1, 1) := by decide +kernel
theorem dX12_movedOnes_40 : decode cX12_movedOnes 40 = .ok (.iinc 2 1, 3) := by decide +kernel
theorem dX12_movedOnes_43 : decode cX12_movedOnes 43 = .ok (.goto (-39), 3) := by decide +kernel
theorem dX12_movedOnes_46 : decode cX12_movedOnes 46 = .ok (.iload_n 1, 1) := by decide +kernel
theorem dX12_movedOnes_47 : decode cX12_movedOnes 47 = .ok (.ireturn, 1) := by decide +kernel
theorem dX12_plan_0 : decode cX12_plan 0 = .ok (.aload_n 0, 1) := by decide +kernel
theorem dX12_plan_1 : decode cX12_plan 1 = .ok (.iconst 0, 1) := by decide +kernel
theorem dX12_plan_2 : decode cX12_plan 2 = .ok (.putfield 1, 3) := by decide +kernel
theorem dX12_plan_5 : decode cX12_plan 5 = .ok (.iload_n 1, 1) := by decide +kernel
theorem dX12_plan_6 : decode cX12_plan 6 = .ok (.invokestatic 182, 3) := by decide +kernel
theorem dX12_plan_9 : decode cX12_plan 9 = .ok (.ifCond .ne 9, 3) := by decide +kernel
theorem dX12_plan_12 : decode cX12_plan 12 = .ok (.aload_n 0, 1) := by decide +kernel
theorem dX12_plan_13 : decode cX12_plan 13 = .ok (.iconst 1, 1) := by decide +kernel
theorem dX12_plan_14 : decode cX12_plan 14 = .ok (.invokevirtual 274, 3) := by decide +kernel
theorem dX12_plan_17 : decode cX12_plan 17 = .ok (.ireturn, 1) := by decide +kernel
theorem dX12_plan_18 : decode cX12_plan 18 = .ok (.iload_n 2, 1) := by decide +kernel
theorem dX12_plan_19 : decode cX12_plan 19 = .ok (.iconst 1, 1) := by decide +kernel
theorem dX12_plan_20 : decode cX12_plan 20 = .ok (.sipush 200, 3) := by decide +kernel
theorem dX12_plan_23 : decode cX12_plan 23 = .ok (.invokestatic 211, 3) := by decide +kernel
theorem dX12_plan_26 : decode cX12_plan 26 = .ok (.ifCond .ne 9, 3) := by decide +kernel
theorem dX12_plan_29 : decode cX12_plan 29 = .ok (.aload_n 0, 1) := by decide +kernel
theorem dX12_plan_30 : decode cX12_plan 30 = .ok (.iconst 2, 1) := by decide +kernel
theorem dX12_plan_31 : decode cX12_plan 31 = .ok (.invokevirtual 274, 3) := by decide +kernel
theorem dX12_plan_34 : decode cX12_plan 34 = .ok (.ireturn, 1) := by decide +kernel
theorem dX12_plan_35 : decode cX12_plan 35 = .ok (.aload_n 0, 1) := by decide +kernel
theorem dX12_plan_36 : decode cX12_plan 36 = .ok (.iload_n 1, 1) := by decide +kernel
theorem dX12_plan_37 : decode cX12_plan 37 = .ok (.invokevirtual 298, 3) := by decide +kernel
theorem dX12_plan_40 : decode cX12_plan 40 = .ok (.aload_n 0, 1) := by decide +kernel
theorem dX12_plan_41 : decode cX12_plan 41 = .ok (.getfield 295, 3) := by decide +kernel
theorem dX12_plan_44 : decode cX12_plan 44 = .ok (.ifCond .ne 7, 3) := by decide +kernel
theorem dX12_plan_47 : decode cX12_plan 47 = .ok (.iconst 1, 1) := by decide +kernel
theorem dX12_plan_48 : decode cX12_plan 48 = .ok (.goto 32, 3) := by decide +kernel
theorem dX12_plan_51 : decode cX12_plan 51 = .ok (.aload_n 0, 1) := by decide +kernel
theorem dX12_plan_52 : decode cX12_plan 52 = .ok (.getfield 295, 3) := by decide +kernel
theorem dX12_plan_55 : decode cX12_plan 55 = .ok (.iconst 1, 1) := by decide +kernel
theorem dX12_plan_56 : decode cX12_plan 56 = .ok (.if_icmp .ne 8, 3) := by decide +kernel
theorem dX12_plan_59 : decode cX12_plan 59 = .ok (.bipush 10, 2) := by decide +kernel
theorem dX12_plan_61 : decode cX12_plan 61 = .ok (.goto 19, 3) := by decide +kernel
theorem dX12_plan_64 : decode cX12_plan 64 = .ok (.aload_n 0, 1) := by decide +kernel
theorem dX12_plan_65 : decode cX12_plan 65 = .ok (.getfield 295, 3) := by decide +kernel
theorem dX12_plan_68 : decode cX12_plan 68 = .ok (.iconst 2, 1) := by decide +kernel
theorem dX12_plan_69 : decode cX12_plan 69 = .ok (.if_icmp .ne 8, 3) := by decide +kernel
theorem dX12_plan_72 : decode cX12_plan 72 = .ok (.bipush 100, 2) := by decide +kernel
theorem dX12_plan_74 : decode cX12_plan 74 = .ok (.goto 6, 3) := by decide +kernel
theorem dX12_plan_77 : decode cX12_plan 77 = .ok (.sipush 1000, 3) := by decide +kernel
theorem dX12_plan_80 : decode cX12_plan 80 = .ok (.istore_n 3, 1) := by decide +kernel
theorem dX12_plan_81 : decode cX12_plan 81 = .ok (.bipush 60, 2) := by decide +kernel
theorem dX12_plan_83 : decode cX12_plan 83 = .ok (.istore 4, 2) := by decide +kernel
theorem dX12_plan_85 : decode cX12_plan 85 = .ok (.ldc_w 301, 3) := by decide +kernel
theorem dX12_plan_88 : decode cX12_plan 88 = .ok (.istore 5, 2) := by decide +kernel
theorem dX12_plan_90 : decode cX12_plan 90 = .ok (.iconst 0, 1) := by decide +kernel
theorem dX12_plan_91 : decode cX12_plan 91 = .ok (.istore 6, 2) := by decide +kernel
theorem dX12_plan_93 : decode cX12_plan 93 = .ok (.iconst 0, 1) := by decide +kernel
theorem dX12_plan_94 : decode cX12_plan 94 = .ok (.istore 7, 2) := by decide +kernel
theorem dX12_plan_96 : decode cX12_plan 96 = .ok (.iload 7, 2) := by decide +kernel
theorem dX12_plan_98 : decode cX12_plan 98 = .ok (.iload_n 3, 1) := by decide +kernel
theorem dX12_plan_99 : decode cX12_plan 99 = .ok (.if_icmp .ge 137, 3) := by decide +kernel
theorem dX12_plan_102 : decode cX12_plan 102 = .ok (.iload 7, 2) := by decide +kernel
theorem dX12_plan_104 : decode cX12_plan 104 = .ok (.istore 8, 2) := by decide +kernel
theorem dX12_plan_106 : decode cX12_plan 106 = .ok (.aload_n 0, 1) := by decide +kernel
theorem dX12_plan_107 : decode cX12_plan 107 = .ok (.getfield 295, 3) := by decide +kernel
theorem dX12_plan_110 : decode cX12_plan 110 = .ok (.iconst 1, 1) := by decide +kernel
theorem dX12_plan_111 : decode cX12_plan 111 = .ok (.isub, 1) := by decide +kernel
theorem dX12_plan_112 : decode cX12_plan 112 = .ok (.istore 9, 2) := by decide +kernel
theorem dX12_plan_114 : decode cX12_plan 114 = .ok (.iload 9, 2) := by decide +kernel
theorem dX12_plan_116 : decode cX12_plan 116 = .ok (.ifCond .lt 28, 3) := by decide +kernel
theorem dX12_plan_119 : decode cX12_plan 119 = .ok (.aload_n 0, 1) := by decide +kernel
theorem dX12_plan_120 : decode cX12_plan 120 = .ok (.getfield 108, 3) := by decide +kernel
theorem dX12_plan_123 : decode cX12_plan 123 = .ok (.iload 9, 2) := by decide +kernel
theorem dX12_plan_125 : decode cX12_plan 125 = .ok (.iload 8, 2) := by decide +kernel
theorem dX12_plan_127 : decode cX12_plan 127 = .ok (.bipush 10, 2) := by decide +kernel
theorem dX12_plan_129 : decode cX12_plan 129 = .ok (.irem, 1) := by decide +kernel
theorem dX12_plan_130 : decode cX12_plan 130 = .ok (.iastore, 1) := by decide +kernel
theorem dX12_plan_131 : decode cX12_plan 131 = .ok (.iload 8, 2) := by decide +kernel
theorem dX12_plan_133 : decode cX12_plan 133 = .ok (.bipush 10, 2) := by decide +kernel
theorem dX12_plan_135 : decode cX12_plan 135 = .ok (.idiv, 1) := by decide +kernel
theorem dX12_plan_136 : decode cX12_plan 136 = .ok (.istore 8, 2) := by decide +kernel
theorem dX12_plan_138 : decode cX12_plan 138 = .ok (.iinc 9 (-1), 3) := by decide +kernel
theorem dX12_plan_141 : decode cX12_plan 141 = .ok (.goto (-27), 3) := by decide +kernel
theorem dX12_plan_144 : decode cX12_plan 144 = .ok (.aload_n 0, 1) := by decide +kernel
theorem dX12_plan_145 : decode cX12_plan 145 = .ok (.iload_n 1, 1) := by decide +kernel
theorem dX12_plan_146 : decode cX12_plan 146 = .ok (.iload_n 2, 1) := by decide +kernel
theorem dX12_plan_147 : decode cX12_plan 147 = .ok (.iload 4, 2) := by decide +kernel
theorem dX12_plan_149 : decode cX12_plan 149 = .ok (.invokevirtual 302, 3) := by decide +kernel
theorem dX12_plan_152 : decode cX12_plan 152 = .ok (.istore 9, 2) := by decide +kernel
theorem dX12_plan_154 : decode cX12_plan 154 = .ok (.iload 9, 2) := by decide +kernel
theorem dX12_plan_156 : decode cX12_plan 156 = .ok (.bipush (-2), 2) := by decide +kernel
theorem dX12_plan_158 : decode cX12_plan 158 = .ok (.if_icmp .eq 72, 3) := by decide +kernel
theorem dX12_plan_161 : decode cX12_plan 161 = .ok (.iload 6, 2) := by decide +kernel
theorem dX12_plan_163 : decode cX12_plan 163 = .ok (.ifCond .eq 22, 3) := by decide +kernel
theorem dX12_plan_166 : decode cX12_plan 166 = .ok (.iload 9, 2) := by decide +kernel
theorem dX12_plan_168 : decode cX12_plan 168 = .ok (.iload 4, 2) := by decide +kernel
theorem dX12_plan_170 : decode cX12_plan 170 = .ok (.if_icmp .ne 15, 3) := by decide +kernel
theorem dX12_plan_173 : decode cX12_plan 173 = .ok (.aload_n 0, 1) := by decide +kernel
theorem dX12_plan_174 : decode cX12_plan 174 = .ok (.invokevirtual 305, 3) := by decide +kernel
theorem dX12_plan_177 : decode cX12_plan 177 = .ok (.iload 5, 2) := by decide +kernel
theorem dX12_plan_179 : decode cX12_plan 179 = .ok (.if_icmp .lt 6, 3) := by decide +kernel
theorem dX12_plan_182 : decode cX12_plan 182 = .ok (.goto 48, 3) := by decide +kernel
theorem dX12_plan_185 : decode cX12_plan 185 = .ok (.iconst 1, 1) := by decide +kernel
theorem dX12_plan_186 : decode cX12_plan 186 = .ok (.istore 6, 2) := by decide +kernel
theorem dX12_plan_188 : decode cX12_plan 188 = .ok (.iload 9, 2) := by decide +kernel
theorem dX12_plan_190 : decode cX12_plan 190 = .ok (.istore 4, 2) := by decide +kernel
theorem dX12_plan_192 : decode cX12_plan 192 = .ok (.aload_n 0, 1) := by decide +kernel
theorem dX12_plan_193 : decode cX12_plan 193 = .ok (.invokevirtual 305, 3) := by decide +kernel
theorem dX12_plan_196 : decode cX12_plan 196 = .ok (.istore 5, 2) := by decide +kernel
theorem dX12_plan_198 : decode cX12_plan 198 = .ok (.iconst 0, 1) := by decide +kernel
theorem dX12_plan_199 : decode cX12_plan 199 = .ok (.istore 10, 2) := by decide +kernel
theorem dX12_plan_201 : decode cX12_plan 201 = .ok (.iload 10, 2) := by decide +kernel
theorem dX12_plan_203 : decode cX12_plan 203 = .ok (.aload_n 0, 1) := by decide +kernel
theorem dX12_plan_204 : decode cX12_plan 204 = .ok (.getfield 295, 3) := by decide +kernel
theorem dX12_plan_207 : decode cX12_plan 207 = .ok (.if_icmp .ge 23, 3) := by decide +kernel
theorem dX12_plan_210 : decode cX12_plan 210 = .ok (.aload_n 0, 1) := by decide +kernel
theorem dX12_plan_211 : decode cX12_plan 211 = .ok (.getfield 111, 3) := by decide +kernel
theorem dX12_plan_214 : decode cX12_plan 214 = .ok (.iload 10, 2) := by decide +kernel
theorem dX12_plan_216 : decode cX12_plan 216 = .ok (.aload_n 0, 1) := by decide +kernel
theorem dX12_plan_217 : decode cX12_plan 217 = .ok (.getfield 108, 3) := by decide +kernel
theorem dX12_plan_220 : decode cX12_plan 220 = .ok (.iload 10, 2) := by decide +kernel
theorem dX12_plan_222 : decode cX12_plan 222 = .ok (.iaload, 1) := by decide +kernel
theorem dX12_plan_223 : decode cX12_plan 223 = .ok (.iastore, 1) := by decide +kernel
theorem dX12_plan_224 : decode cX12_plan 224 = .ok (.iinc 10 1, 3) := by decide +kernel
theorem dX12_plan_227 : decode cX12_plan 227 = .ok (.goto (-26), 3) := by decide +kernel
theorem dX12_plan_230 : decode cX12_plan 230 = .ok (.iinc 7 1, 3) := by decide +kernel
theorem dX12_plan_233 : decode cX12_plan 233 = .ok (.goto (-137), 3) := by decide +kernel
theorem dX12_plan_236 : decode cX12_plan 236 = .ok (.iload 6, 2) := by decide +kernel
theorem dX12_plan_238 : decode cX12_plan 238 = .ok (.ifCond .ne 10, 3) := by decide +kernel
theorem dX12_plan_241 : decode cX12_plan 241 = .ok (.aload_n 0, 1) := by decide +kernel
theorem dX12_plan_242 : decode cX12_plan 242 = .ok (.bipush (-2), 2) := by decide +kernel
theorem dX12_plan_244 : decode cX12_plan 244 = .ok (.invokevirtual 277, 3) := by decide +kernel
theorem dX12_plan_247 : decode cX12_plan 247 = .ok (.ireturn, 1) := by decide +kernel
theorem dX12_plan_248 : decode cX12_plan 248 = .ok (.aload_n 0, 1) := by decide +kernel
theorem dX12_plan_249 : decode cX12_plan 249 = .ok (.aload_n 0, 1) := by decide +kernel
theorem dX12_plan_250 : decode cX12_plan 250 = .ok (.getfield 295, 3) := by decide +kernel
theorem dX12_plan_253 : decode cX12_plan 253 = .ok (.putfield 309, 3) := by decide +kernel
theorem dX12_plan_256 : decode cX12_plan 256 = .ok (.iconst 0, 1) := by decide +kernel
theorem dX12_plan_257 : decode cX12_plan 257 = .ok (.istore 7, 2) := by decide +kernel
theorem dX12_plan_259 : decode cX12_plan 259 = .ok (.iload 7, 2) := by decide +kernel
theorem dX12_plan_261 : decode cX12_plan 261 = .ok (.aload_n 0, 1) := by decide +kernel
theorem dX12_plan_262 : decode cX12_plan 262 = .ok (.getfield 295, 3) := by decide +kernel
theorem dX12_plan_265 : decode cX12_plan 265 = .ok (.if_icmp .ge 23, 3) := by decide +kernel
theorem dX12_plan_268 : decode cX12_plan 268 = .ok (.aload_n 0, 1) := by decide +kernel
theorem dX12_plan_269 : decode cX12_plan 269 = .ok (.getfield 114, 3) := by decide +kernel
theorem dX12_plan_272 : decode cX12_plan 272 = .ok (.iload 7, 2) := by decide +kernel
theorem dX12_plan_274 : decode cX12_plan 274 = .ok (.aload_n 0, 1) := by decide +kernel
theorem dX12_plan_275 : decode cX12_plan 275 = .ok (.getfield 111, 3) := by decide +kernel
theorem dX12_plan_278 : decode cX12_plan 278 = .ok (.iload 7, 2) := by decide +kernel
theorem dX12_plan_280 : decode cX12_plan 280 = .ok (.iaload, 1) := by decide +kernel
theorem dX12_plan_281 : decode cX12_plan 281 = .ok (.iastore, 1) := by decide +kernel
theorem dX12_plan_282 : decode cX12_plan 282 = .ok (.iinc 7 1, 3) := by decide +kernel
theorem dX12_plan_285 : decode cX12_plan 285 = .ok (.goto (-26), 3) := by decide +kernel
theorem dX12_plan_288 : decode cX12_plan 288 = .ok (.aload_n 0, 1) := by decide +kernel
theorem dX12_plan_289 : decode cX12_plan 289 = .ok (.iload 4, 2) := by decide +kernel
theorem dX12_plan_291 : decode cX12_plan 291 = .ok (.invokevirtual 277, 3) := by decide +kernel
theorem dX12_plan_294 : decode cX12_plan 294 = .ok (.ireturn, 1) := by decide +kernel
theorem dX12_planned_0 : decode cX12_planned 0 = .ok (.aload_n 0, 1) := by decide +kernel
theorem dX12_planned_1 : decode cX12_planned 1 = .ok (.iload_n 1, 1) := by decide +kernel
theorem dX12_planned_2 : decode cX12_planned 2 = .ok (.ifCond .lt 11, 3) := by decide +kernel
theorem dX12_planned_5 : decode cX12_planned 5 = .ok (.iload_n 1, 1) := by decide +kernel
theorem dX12_planned_6 : decode cX12_planned 6 = .ok (.aload_n 0, 1) := by decide +kernel
theorem dX12_planned_7 : decode cX12_planned 7 = .ok (.getfield 309, 3) := by decide +kernel
theorem dX12_planned_10 : decode cX12_planned 10 = .ok (.if_icmp .lt 7, 3) := by decide +kernel
theorem dX12_planned_13 : decode cX12_planned 13 = .ok (.iconst 1, 1) := by decide +kernel
theorem dX12_planned_14 : decode cX12_planned 14 = .ok (.goto 4, 3) := by decide +kernel
theorem dX12_planned_17 : decode cX12_planned 17 = .ok (.iconst 0, 1) := by decide +kernel
theorem dX12_planned_18 : decode cX12_planned 18 = .ok (.putfield 1, 3) := by decide +kernel
theorem dX12_planned_21 : decode cX12_planned 21 = .ok (.aload_n 0, 1) := by decide +kernel
theorem dX12_planned_22 : decode cX12_planned 22 = .ok (.getfield 1, 3) := by decide +kernel
theorem dX12_planned_25 : decode cX12_planned 25 = .ok (.ifCond .le 7, 3) := by decide +kernel
theorem dX12_planned_28 : decode cX12_planned 28 = .ok (.iconst 0, 1) := by decide +kernel
theorem dX12_planned_29 : decode cX12_planned 29 = .ok (.goto 9, 3) := by decide +kernel
theorem dX12_planned_32 : decode cX12_planned 32 = .ok (.aload_n 0, 1) := by decide +kernel
theorem dX12_planned_33 : decode cX12_planned 33 = .ok (.getfield 114, 3) := by decide +kernel
theorem dX12_planned_36 : decode cX12_planned 36 = .ok (.iload_n 1, 1) := by decide +kernel
theorem dX12_planned_37 : decode cX12_planned 37 = .ok (.iaload, 1) := by decide +kernel
theorem dX12_planned_38 : decode cX12_planned 38 = .ok (.ireturn, 1) := by decide +kernel
theorem dX12_check_0 : decode cX12_check 0 = .ok (.aload_n 0, 1) := by decide +kernel
theorem dX12_check_1 : decode cX12_check 1 = .ok (.iconst 0, 1) := by decide +kernel
theorem dX12_check_2 : decode cX12_check 2 = .ok (.putfield 1, 3) := by decide +kernel
theorem dX12_check_5 : decode cX12_check 5 = .ok (.iload_n 1, 1) := by decide +kernel
theorem dX12_check_6 : decode cX12_check 6 = .ok (.invokestatic 182, 3) := by decide +kernel
theorem dX12_check_9 : decode cX12_check 9 = .ok (.ifCond .ne 9, 3) := by decide +kernel
theorem dX12_check_12 : decode cX12_check 12 = .ok (.aload_n 0, 1) := by decide +kernel
theorem dX12_check_13 : decode cX12_check 13 = .ok (.iconst 1, 1) := by decide +kernel
theorem dX12_check_14 : decode cX12_check 14 = .ok (.invokevirtual 274, 3) := by decide +kernel
theorem dX12_check_17 : decode cX12_check 17 = .ok (.ireturn, 1) := by decide +kernel
theorem dX12_check_18 : decode cX12_check 18 = .ok (.aload_n 0, 1) := by decide +kernel
theorem dX12_check_19 : decode cX12_check 19 = .ok (.iload_n 1, 1) := by decide +kernel
theorem dX12_check_20 : decode cX12_check 20 = .ok (.invokevirtual 298, 3) := by decide +kernel
theorem dX12_check_23 : decode cX12_check 23 = .ok (.aload_n 0, 1) := by decide +kernel
theorem dX12_check_24 : decode cX12_check 24 = .ok (.getfield 108, 3) := by decide +kernel
theorem dX12_check_27 : decode cX12_check 27 = .ok (.iconst 0, 1) := by decide +kernel
theorem dX12_check_28 : decode cX12_check 28 = .ok (.iload_n 3, 1) := by decide +kernel
theorem dX12_check_29 : decode cX12_check 29 = .ok (.iastore, 1) := by decide +kernel
theorem dX12_check_30 : decode cX12_check 30 = .ok (.aload_n 0, 1) := by decide +kernel
theorem dX12_check_31 : decode cX12_check 31 = .ok (.getfield 108, 3) := by decide +kernel
theorem dX12_check_34 : decode cX12_check 34 = .ok (.iconst 1, 1) := by decide +kernel
theorem dX12_check_35 : decode cX12_check 35 = .ok (.iload 4, 2) := by decide +kernel
theorem dX12_check_37 : decode cX12_check 37 = .ok (.iastore, 1) := by decide +kernel
theorem dX12_check_38 : decode cX12_check 38 = .ok (.aload_n 0, 1) := by decide +kernel
theorem dX12_check_39 : decode cX12_check 39 = .ok (.getfield 108, 3) := by decide +kernel
theorem dX12_check_42 : decode cX12_check 42 = .ok (.iconst 2, 1) := by decide +kernel
theorem dX12_check_43 : decode cX12_check 43 = .ok (.iload 5, 2) := by decide +kernel
theorem dX12_check_45 : decode cX12_check 45 = .ok (.iastore, 1) := by decide +kernel
theorem dX12_check_46 : decode cX12_check 46 = .ok (.iload_n 2, 1) := by decide +kernel
theorem dX12_check_47 : decode cX12_check 47 = .ok (.iconst 1, 1) := by decide +kernel
theorem dX12_check_48 : decode cX12_check 48 = .ok (.sipush 200, 3) := by decide +kernel
theorem dX12_check_51 : decode cX12_check 51 = .ok (.invokestatic 211, 3) := by decide +kernel
theorem dX12_check_54 : decode cX12_check 54 = .ok (.istore 6, 2) := by decide +kernel
theorem dX12_check_56 : decode cX12_check 56 = .ok (.iconst 0, 1) := by decide +kernel
theorem dX12_check_57 : decode cX12_check 57 = .ok (.istore 7, 2) := by decide +kernel
theorem dX12_check_59 : decode cX12_check 59 = .ok (.iload 7, 2) := by decide +kernel
theorem dX12_check_61 : decode cX12_check 61 = .ok (.aload_n 0, 1) := by decide +kernel
theorem dX12_check_62 : decode cX12_check 62 = .ok (.getfield 295, 3) := by decide +kernel
theorem dX12_check_65 : decode cX12_check 65 = .ok (.if_icmp .ge 35, 3) := by decide +kernel
theorem dX12_check_68 : decode cX12_check 68 = .ok (.iload 6, 2) := by decide +kernel
theorem dX12_check_70 : decode cX12_check 70 = .ok (.ifCond .eq 21, 3) := by decide +kernel
theorem dX12_check_73 : decode cX12_check 73 = .ok (.iload_n 1, 1) := by decide +kernel
theorem dX12_check_74 : decode cX12_check 74 = .ok (.aload_n 0, 1) := by decide +kernel
theorem dX12_check_75 : decode cX12_check 75 = .ok (.getfield 108, 3) := by decide +kernel
theorem dX12_check_78 : decode cX12_check 78 = .ok (.iload 7, 2) := by decide +kernel
theorem dX12_check_80 : decode cX12_check 80 = .ok (.iaload, 1) := by decide +kernel
theorem dX12_check_81 : decode cX12_check 81 = .ok (.invokestatic 203, 3) := by decide +kernel
theorem dX12_check_84 : decode cX12_check 84 = .ok (.ifCond .eq 7, 3) := by decide +kernel
theorem dX12_check_87 : decode cX12_check 87 = .ok (.iconst 1, 1) := by decide +kernel
theorem dX12_check_88 : decode cX12_check 88 = .ok (.goto 4, 3) := by decide +kernel
theorem dX12_check_91 : decode cX12_check 91 = .ok (.iconst 0, 1) := by decide +kernel
theorem dX12_check_92 : decode cX12_check 92 = .ok (.istore 6, 2) := by decide +kernel
theorem dX12_check_94 : decode cX12_check 94 = .ok (.iinc 7 1, 3) := by decide +kernel
theorem dX12_check_97 : decode cX12_check 97 = .ok (.goto (-38), 3) := by decide +kernel
theorem dX12_check_100 : decode cX12_check 100 = .ok (.iload 6, 2) := by decide +kernel
theorem dX12_check_102 : decode cX12_check 102 = .ok (.ifCond .ne 9, 3) := by decide +kernel
theorem dX12_check_105 : decode cX12_check 105 = .ok (.aload_n 0, 1) := by decide +kernel
theorem dX12_check_106 : decode cX12_check 106 = .ok (.iconst 2, 1) := by decide +kernel
theorem dX12_check_107 : decode cX12_check 107 = .ok (.invokevirtual 274, 3) := by decide +kernel
theorem dX12_check_110 : decode cX12_check 110 = .ok (.ireturn, 1) := by decide +kernel
theorem dX12_check_111 : decode cX12_check 111 = .ok (.aload_n 0, 1) := by decide +kernel
theorem dX12_check_112 : decode cX12_check 112 = .ok (.aload_n 0, 1) := by decide +kernel
theorem dX12_check_113 : decode cX12_check 113 = .ok (.iload_n 1, 1) := by decide +kernel
theorem dX12_check_114 : decode cX12_check 114 = .ok (.iload_n 2, 1) := by decide +kernel
theorem dX12_check_115 : decode cX12_check 115 = .ok (.bipush 60, 2) := by decide +kernel
theorem dX12_check_117 : decode cX12_check 117 = .ok (.invokevirtual 302, 3) := by decide +kernel
theorem dX12_check_120 : decode cX12_check 120 = .ok (.invokevirtual 277, 3) := by decide +kernel
theorem dX12_check_123 : decode cX12_check 123 = .ok (.ireturn, 1) := by decide +kernel
theorem dX12_fresh_0 : decode cX12_fresh 0 = .ok (.aload_n 0, 1) := by decide +kernel
theorem dX12_fresh_1 : decode cX12_fresh 1 = .ok (.getfield 119, 3) := by decide +kernel
theorem dX12_fresh_4 : decode cX12_fresh 4 = .ok (.aload_n 0, 1) := by decide +kernel
theorem dX12_fresh_5 : decode cX12_fresh 5 = .ok (.getfield 312, 3) := by decide +kernel
theorem dX12_fresh_8 : decode cX12_fresh 8 = .ok (.aaload, 1) := by decide +kernel
theorem dX12_fresh_9 : decode cX12_fresh 9 = .ok (.ifnonnull 19, 3) := by decide +kernel
theorem dX12_fresh_12 : decode cX12_fresh 12 = .ok (.aload_n 0, 1) := by decide +kernel
theorem dX12_fresh_13 : decode cX12_fresh 13 = .ok (.getfield 119, 3) := by decide +kernel
theorem dX12_fresh_16 : decode cX12_fresh 16 = .ok (.aload_n 0, 1) := by decide +kernel
theorem dX12_fresh_17 : decode cX12_fresh 17 = .ok (.getfield 312, 3) := by decide +kernel
theorem dX12_fresh_20 : decode cX12_fresh 20 = .ok (.new 117, 3) := by decide +kernel
theorem dX12_fresh_23 : decode cX12_fresh 23 = .ok (.dup, 1) := by decide +kernel
theorem dX12_fresh_24 : decode cX12_fresh 24 = .ok (.invokespecial 315, 3) := by decide +kernel
theorem dX12_fresh_27 : decode cX12_fresh 27 = .ok (.aastore, 1) := by decide +kernel
theorem dX12_fresh_28 : decode cX12_fresh 28 = .ok (.aload_n 0, 1) := by decide +kernel
theorem dX12_fresh_29 : decode cX12_fresh 29 = .ok (.getfield 119, 3) := by decide +kernel
theorem dX12_fresh_32 : decode cX12_fresh 32 = .ok (.aload_n 0, 1) := by decide +kernel
theorem dX12_fresh_33 : decode cX12_fresh 33 = .ok (.getfield 312, 3) := by decide +kernel
theorem dX12_fresh_36 : decode cX12_fresh 36 = .ok (.aaload, 1) := by decide +kernel
theorem dX12_fresh_37 : decode cX12_fresh 37 = .ok (.areturn, 1) := by decide +kernel
theorem dX12_stop_0 : decode cX12_stop 0 = .ok (.aload_n 0, 1) := by decide +kernel
theorem dX12_stop_1 : decode cX12_stop 1 = .ok (.getfield 126, 3) := by decide +kernel
theorem dX12_stop_4 : decode cX12_stop 4 = .ok (.iload_n 1, 1) := by decide +kernel
theorem dX12_stop_5 : decode cX12_stop 5 = .ok (.putfield 316, 3) := by decide +kernel
theorem dX12_stop_8 : decode cX12_stop 8 = .ok (.aload_n 0, 1) := by decide +kernel
theorem dX12_stop_9 : decode cX12_stop 9 = .ok (.getfield 126, 3) := by decide +kernel
theorem dX12_stop_12 : decode cX12_stop 12 = .ok (.aload_n 0, 1) := by decide +kernel
theorem dX12_stop_13 : decode cX12_stop 13 = .ok (.getfield 319, 3) := by decide +kernel
theorem dX12_stop_16 : decode cX12_stop 16 = .ok (.putfield 322, 3) := by decide +kernel
theorem dX12_stop_19 : decode cX12_stop 19 = .ok (.aload_n 0, 1) := by decide +kernel
theorem dX12_stop_20 : decode cX12_stop 20 = .ok (.getfield 126, 3) := by decide +kernel
theorem dX12_stop_23 : decode cX12_stop 23 = .ok (.areturn, 1) := by decide +kernel
theorem dX12_byteAt_0 : decode cX12_byteAt 0 = .ok (.iload_n 1, 1) := by decide +kernel
theorem dX12_byteAt_1 : decode cX12_byteAt 1 = .ok (.aload_n 0, 1) := by decide +kernel
theorem dX12_byteAt_2 : decode cX12_byteAt 2 = .ok (.getfield 323, 3) := by decide +kernel
theorem dX12_byteAt_5 : decode cX12_byteAt 5 = .ok (.if_icmp .ge 16, 3) := by decide +kernel
theorem dX12_byteAt_8 : decode cX12_byteAt 8 = .ok (.aload_n 0, 1) := by decide +kernel
theorem dX12_byteAt_9 : decode cX12_byteAt 9 = .ok (.getfield 130, 3) := by decide +kernel
theorem dX12_byteAt_12 : decode cX12_byteAt 12 = .ok (.iload_n 1, 1) := by decide +kernel
theorem dX12_byteAt_13 : decode cX12_byteAt 13 = .ok (.baload, 1) := by decide +kernel
theorem dX12_byteAt_14 : decode cX12_byteAt 14 = .ok (.sipush 255, 3) := by decide +kernel
theorem dX12_byteAt_17 : decode cX12_byteAt 17 = .ok (.iand, 1) := by decide +kernel
theorem dX12_byteAt_18 : decode cX12_byteAt 18 = .ok (.goto 4, 3) := by decide +kernel
theorem dX12_byteAt_21 : decode cX12_byteAt 21 = .ok (.iconst (-1), 1) := by decide +kernel
theorem dX12_byteAt_22 : decode cX12_byteAt 22 = .ok (.ireturn, 1) := by decide +kernel
theorem dX12_isLetter_0 : decode cX12_isLetter 0 = .ok (.iload_n 0, 1) := by decide +kernel
theorem dX12_isLetter_1 : decode cX12_isLetter 1 = .ok (.bipush 97, 2) := by decide +kernel
theorem dX12_isLetter_3 : decode cX12_isLetter 3 = .ok (.if_icmp .lt 13, 3) := by decide +kernel
theorem dX12_isLetter_6 : decode cX12_isLetter 6 = .ok (.iload_n 0, 1) := by decide +kernel
theorem dX12_isLetter_7 : decode cX12_isLetter 7 = .ok (.bipush 122, 2) := by decide +kernel
theorem dX12_isLetter_9 : decode cX12_isLetter 9 = .ok (.if_icmp .gt 7, 3) := by decide +kernel
theorem dX12_isLetter_12 : decode cX12_isLetter 12 = .ok (.iconst 1, 1) := by decide +kernel
theorem dX12_isLetter_13 : decode cX12_isLetter 13 = .ok (.goto 4, 3) := by decide +kernel
theorem dX12_isLetter_16 : decode cX12_isLetter 16 = .ok (.iconst 0, 1) := by decide +kernel
theorem dX12_isLetter_17 : decode cX12_isLetter 17 = .ok (.ireturn, 1) := by decide +kernel
theorem dX12_isDigit_0 : decode cX12_isDigit 0 = .ok (.iload_n 0, 1) := by decide +kernel
theorem dX12_isDigit_1 : decode cX12_isDigit 1 = .ok (.bipush 48, 2) := by decide +kernel
theorem dX12_isDigit_3 : decode cX12_isDigit 3 = .ok (.if_icmp .lt 13, 3) := by decide +kernel
theorem dX12_isDigit_6 : decode cX12_isDigit 6 = .ok (.iload_n 0, 1) := by decide +kernel
theorem dX12_isDigit_7 : decode cX12_isDigit 7 = .ok (.bipush 57, 2) := by decide +kernel
theorem dX12_isDigit_9 : decode cX12_isDigit 9 = .ok (.if_icmp .gt 7, 3) := by decide +kernel
theorem dX12_isDigit_12 : decode cX12_isDigit 12 = .ok (.iconst 1, 1) := by decide +kernel
theorem dX12_isDigit_13 : decode cX12_isDigit 13 = .ok (.goto 4, 3) := by decide +kernel
theorem dX12_isDigit_16 : decode cX12_isDigit 16 = .ok (.iconst 0, 1) := by decide +kernel
theorem dX12_isDigit_17 : decode cX12_isDigit 17 = .ok (.ireturn, 1) := by decide +kernel
theorem dX12_wordOf_0 : decode cX12_wordOf 0 = .ok (.lconst 0, 1) := by decide +kernel
theorem dX12_wordOf_1 : decode cX12_wordOf 1 = .ok (.lstore_n 1, 1) := by decide +kernel
theorem dX12_wordOf_2 : decode cX12_wordOf 2 = .ok (.iconst 0, 1) := by decide +kernel
theorem dX12_wordOf_3 : decode cX12_wordOf 3 = .ok (.istore_n 3, 1) := by decide +kernel
theorem dX12_wordOf_4 : decode cX12_wordOf 4 = .ok (.iload_n 3, 1) := by decide +kernel
theorem dX12_wordOf_5 : decode cX12_wordOf 5 = .ok (.aload_n 0, 1) := by decide +kernel
theorem dX12_wordOf_6 : decode cX12_wordOf 6 = .ok (.invokevirtual 326, 3) := by decide +kernel
theorem dX12_wordOf_9 : decode cX12_wordOf 9 = .ok (.if_icmp .ge 27, 3) := by decide +kernel
theorem dX12_wordOf_12 : decode cX12_wordOf 12 = .ok (.ldc2_w 331, 3) := by decide +kernel
theorem dX12_wordOf_15 : decode cX12_wordOf 15 = .ok (.lload_n 1, 1) := by decide +kernel
theorem dX12_wordOf_16 : decode cX12_wordOf 16 = .ok (.lmul, 1) := by decide +kernel
theorem dX12_wordOf_17 : decode cX12_wordOf 17 = .ok (.aload_n 0, 1) := by decide +kernel
theorem dX12_wordOf_18 : decode cX12_wordOf 18 = .ok (.iload_n 3, 1) := by decide +kernel
theorem dX12_wordOf_19 : decode cX12_wordOf 19 = .ok (.invokevirtual 333, 3) := by decide +kernel
theorem dX12_wordOf_22 : decode cX12_wordOf 22 = .ok (.bipush 97, 2) := by decide +kernel
theorem dX12_wordOf_24 : decode cX12_wordOf 24 = .ok (.isub, 1) := by decide +kernel
theorem dX12_wordOf_25 : decode cX12_wordOf 25 = .ok (.iconst 1, 1) := by decide +kernel
theorem dX12_wordOf_26 : decode cX12_wordOf 26 = .ok (.iadd, 1) := by decide +kernel
theorem dX12_wordOf_27 : decode cX12_wordOf 27 = .ok (.i2l, 1) := by decide +kernel
theorem dX12_wordOf_28 : decode cX12_wordOf 28 = .ok (.ladd, 1) := by decide +kernel
theorem dX12_wordOf_29 : decode cX12_wordOf 29 = .ok (.lstore_n 1, 1) := by decide +kernel
theorem dX12_wordOf_30 : decode cX12_wordOf 30 = .ok (.iinc 3 1, 3) := by decide +kernel
theorem dX12_wordOf_33 : decode cX12_wordOf 33 = .ok (.goto (-29), 3) := by decide +kernel
theorem dX12_wordOf_36 : decode cX12_wordOf 36 = .ok (.lload_n 1, 1) := by decide +kernel
theorem dX12_wordOf_37 : decode cX12_wordOf 37 = .ok (.lreturn, 1) := by decide +kernel
theorem dX12_next_0 : decode cX12_next 0 = .ok (.aload_n 0, 1) := by decide +kernel
theorem dX12_next_1 : decode cX12_next 1 = .ok (.aload_n 0, 1) := by decide +kernel
theorem dX12_next_2 : decode cX12_next 2 = .ok (.getfield 337, 3) := by decide +kernel
theorem dX12_next_5 : decode cX12_next 5 = .ok (.invokevirtual 340, 3) := by decide +kernel
theorem dX12_next_8 : decode cX12_next 8 = .ok (.bipush 32, 2) := by decide +kernel
theorem dX12_next_10 : decode cX12_next 10 = .ok (.if_icmp .ne 16, 3) := by decide +kernel
theorem dX12_next_13 : decode cX12_next 13 = .ok (.aload_n 0, 1) := by decide +kernel
theorem dX12_next_14 : decode cX12_next 14 = .ok (.dup, 1) := by decide +kernel
theorem dX12_next_15 : decode cX12_next 15 = .ok (.getfield 337, 3) := by decide +kernel
theorem dX12_next_18 : decode cX12_next 18 = .ok (.iconst 1, 1) := by decide +kernel
theorem dX12_next_19 : decode cX12_next 19 = .ok (.iadd, 1) := by decide +kernel
theorem dX12_next_20 : decode cX12_next 20 = .ok (.putfield 337, 3) := by decide +kernel
theorem dX12_next_23 : decode cX12_next 23 = .ok (.goto (-23), 3) := by decide +kernel
theorem dX12_next_26 : decode cX12_next 26 = .ok (.aload_n 0, 1) := by decide +kernel
theorem dX12_next_27 : decode cX12_next 27 = .ok (.aload_n 0, 1) := by decide +kernel
theorem dX12_next_28 : decode cX12_next 28 = .ok (.getfield 337, 3) := by decide +kernel
theorem dX12_next_31 : decode cX12_next 31 = .ok (.putfield 319, 3) := by decide +kernel
theorem dX12_next_34 : decode cX12_next 34 = .ok (.aload_n 0, 1) := by decide +kernel
theorem dX12_next_35 : decode cX12_next 35 = .ok (.iconst 0, 1) := by decide +kernel
theorem dX12_next_36 : decode cX12_next 36 = .ok (.putfield 343, 3) := by decide +kernel
theorem dX12_next_39 : decode cX12_next 39 = .ok (.aload_n 0, 1) := by decide +kernel
theorem dX12_next_40 : decode cX12_next 40 = .ok (.iconst 0, 1) := by decide +kernel
theorem dX12_next_41 : decode cX12_next 41 = .ok (.putfield 346, 3) := by decide +kernel
theorem dX12_next_44 : decode cX12_next 44 = .ok (.aload_n 0, 1) := by decide +kernel
theorem dX12_next_45 : decode cX12_next 45 = .ok (.aload_n 0, 1) := by decide +kernel
theorem dX12_next_46 : decode cX12_next 46 = .ok (.getfield 337, 3) := by decide +kernel
theorem dX12_next_49 : decode cX12_next 49 = .ok (.invokevirtual 340, 3) := by decide +kernel
theorem dX12_next_52 : decode cX12_next 52 = .ok (.istore_n 1, 1) := by decide +kernel
theorem dX12_next_53 : decode cX12_next 53 = .ok (.iconst 0, 1) := by decide +kernel
theorem dX12_next_54 : decode cX12_next 54 = .ok (.istore_n 2, 1) := by decide +kernel
theorem dX12_next_55 : decode cX12_next 55 = .ok (.iload_n 1, 1) := by decide +kernel
theorem dX12_next_56 : decode cX12_next 56 = .ok (.iconst (-1), 1) := by decide +kernel
theorem dX12_next_57 : decode cX12_next 57 = .ok (.if_icmp .ne 11, 3) := by decide +kernel
theorem dX12_next_60 : decode cX12_next 60 = .ok (.aload_n 0, 1) := by decide +kernel
theorem dX12_next_61 : decode cX12_next 61 = .ok (.iconst 1, 1) := by decide +kernel
theorem dX12_next_62 : decode cX12_next 62 = .ok (.putfield 343, 3) := by decide +kernel
theorem dX12_next_65 : decode cX12_next 65 = .ok (.goto 237, 3) := by decide +kernel
theorem dX12_next_68 : decode cX12_next 68 = .ok (.iload_n 1, 1) := by decide +kernel
theorem dX12_next_69 : decode cX12_next 69 = .ok (.invokestatic 349, 3) := by decide +kernel
theorem dX12_next_72 : decode cX12_next 72 = .ok (.ifCond .eq 85, 3) := by decide +kernel
theorem dX12_next_75 : decode cX12_next 75 = .ok (.aload_n 0, 1) := by decide +kernel
theorem dX12_next_76 : decode cX12_next 76 = .ok (.lconst 0, 1) := by decide +kernel
theorem dX12_next_77 : decode cX12_next 77 = .ok (.putfield 352, 3) := by decide +kernel
theorem dX12_next_80 : decode cX12_next 80 = .ok (.aload_n 0, 1) := by decide +kernel
theorem dX12_next_81 : decode cX12_next 81 = .ok (.aload_n 0, 1) := by decide +kernel
theorem dX12_next_82 : decode cX12_next 82 = .ok (.getfield 337, 3) := by decide +kernel
theorem dX12_next_85 : decode cX12_next 85 = .ok (.invokevirtual 340, 3) := by decide +kernel
theorem dX12_next_88 : decode cX12_next 88 = .ok (.invokestatic 349, 3) := by decide +kernel
theorem dX12_next_91 : decode cX12_next 91 = .ok (.ifCond .eq 52, 3) := by decide +kernel
theorem dX12_next_94 : decode cX12_next 94 = .ok (.iload_n 2, 1) := by decide +kernel
theorem dX12_next_95 : decode cX12_next 95 = .ok (.bipush 8, 2) := by decide +kernel
theorem dX12_next_97 : decode cX12_next 97 = .ok (.if_icmp .ge 30, 3) := by decide +kernel
theorem dX12_next_100 : decode cX12_next 100 = .ok (.aload_n 0, 1) := by decide +kernel
theorem dX12_next_101 : decode cX12_next 101 = .ok (.ldc2_w 331, 3) := by decide +kernel
theorem dX12_next_104 : decode cX12_next 104 = .ok (.aload_n 0, 1) := by decide +kernel
theorem dX12_next_105 : decode cX12_next 105 = .ok (.getfield 352, 3) := by decide +kernel
theorem dX12_next_108 : decode cX12_next 108 = .ok (.lmul, 1) := by decide +kernel
theorem dX12_next_109 : decode cX12_next 109 = .ok (.aload_n 0, 1) := by decide +kernel
theorem dX12_next_110 : decode cX12_next 110 = .ok (.aload_n 0, 1) := by decide +kernel
theorem dX12_next_111 : decode cX12_next 111 = .ok (.getfield 337, 3) := by decide +kernel
theorem dX12_next_114 : decode cX12_next 114 = .ok (.invokevirtual 340, 3) := by decide +kernel
theorem dX12_next_117 : decode cX12_next 117 = .ok (.bipush 97, 2) := by decide +kernel
theorem dX12_next_119 : decode cX12_next 119 = .ok (.isub, 1) := by decide +kernel
theorem dX12_next_120 : decode cX12_next 120 = .ok (.iconst 1, 1) := by decide +kernel
theorem dX12_next_121 : decode cX12_next 121 = .ok (.iadd, 1) := by decide +kernel
theorem dX12_next_122 : decode cX12_next 122 = .ok (.i2l, 1) := by decide +kernel
theorem dX12_next_123 : decode cX12_next 123 = .ok (.ladd, 1) := by decide +kernel
theorem dX12_next_124 : decode cX12_next 124 = .ok (.putfield 352, 3) := by decide +kernel
theorem dX12_next_127 : decode cX12_next 127 = .ok (.iinc 2 1, 3) := by decide +kernel
theorem dX12_next_130 : decode cX12_next 130 = .ok (.aload_n 0, 1) := by decide +kernel
theorem dX12_next_131 : decode cX12_next 131 = .ok (.dup, 1) := by decide +kernel
theorem dX12_next_132 : decode cX12_next 132 = .ok (.getfield 337, 3) := by decide +kernel
theorem dX12_next_135 : decode cX12_next 135 = .ok (.iconst 1, 1) := by decide +kernel
theorem dX12_next_136 : decode cX12_next 136 = .ok (.iadd, 1) := by decide +kernel
theorem dX12_next_137 : decode cX12_next 137 = .ok (.putfield 337, 3) := by decide +kernel
theorem dX12_next_140 : decode cX12_next 140 = .ok (.goto (-60), 3) := by decide +kernel
theorem dX12_next_143 : decode cX12_next 143 = .ok (.iload_n 2, 1) := by decide +kernel
theorem dX12_next_144 : decode cX12_next 144 = .ok (.bipush 8, 2) := by decide +kernel
theorem dX12_next_146 : decode cX12_next 146 = .ok (.if_icmp .gt 156, 3) := by decide +kernel
theorem dX12_next_149 : decode cX12_next 149 = .ok (.aload_n 0, 1) := by decide +kernel
theorem dX12_next_150 : decode cX12_next 150 = .ok (.iconst 2, 1) := by decide +kernel
theorem dX12_next_151 : decode cX12_next 151 = .ok (.putfield 343, 3) := by decide +kernel
theorem dX12_next_154 : decode cX12_next 154 = .ok (.goto 148, 3) := by decide +kernel
theorem dX12_next_157 : decode cX12_next 157 = .ok (.iload_n 1, 1) := by decide +kernel
theorem dX12_next_158 : decode cX12_next 158 = .ok (.invokestatic 356, 3) := by decide +kernel
theorem dX12_next_161 : decode cX12_next 161 = .ok (.ifCond .eq 79, 3) := by decide +kernel
theorem dX12_next_164 : decode cX12_next 164 = .ok (.aload_n 0, 1) := by decide +kernel
theorem dX12_next_165 : decode cX12_next 165 = .ok (.iconst 0, 1) := by decide +kernel
theorem dX12_next_166 : decode cX12_next 166 = .ok (.putfield 359, 3) := by decide +kernel
theorem dX12_next_169 : decode cX12_next 169 = .ok (.aload_n 0, 1) := by decide +kernel
theorem dX12_next_170 : decode cX12_next 170 = .ok (.aload_n 0, 1) := by decide +kernel
theorem dX12_next_171 : decode cX12_next 171 = .ok (.getfield 337, 3) := by decide +kernel
theorem dX12_next_174 : decode cX12_next 174 = .ok (.invokevirtual 340, 3) := by decide +kernel
theorem dX12_next_177 : decode cX12_next 177 = .ok (.invokestatic 356, 3) := by decide +kernel
theorem dX12_next_180 : decode cX12_next 180 = .ok (.ifCond .eq 47, 3) := by decide +kernel
theorem dX12_next_183 : decode cX12_next 183 = .ok (.iload_n 2, 1) := by decide +kernel
theorem dX12_next_184 : decode cX12_next 184 = .ok (.iconst 4, 1) := by decide +kernel
theorem dX12_next_185 : decode cX12_next 185 = .ok (.if_icmp .ge 26, 3) := by decide +kernel
theorem dX12_next_188 : decode cX12_next 188 = .ok (.aload_n 0, 1) := by decide +kernel
theorem dX12_next_189 : decode cX12_next 189 = .ok (.bipush 10, 2) := by decide +kernel
theorem dX12_next_191 : decode cX12_next 191 = .ok (.aload_n 0, 1) := by decide +kernel
theorem dX12_next_192 : decode cX12_next 192 = .ok (.getfield 359, 3) := by decide +kernel
theorem dX12_next_195 : decode cX12_next 195 = .ok (.imul, 1) := by decide +kernel
theorem dX12_next_196 : decode cX12_next 196 = .ok (.aload_n 0, 1) := by decide +kernel
theorem dX12_next_197 : decode cX12_next 197 = .ok (.aload_n 0, 1) := by decide +kernel
theorem dX12_next_198 : decode cX12_next 198 = .ok (.getfield 337, 3) := by decide +kernel
theorem dX12_next_201 : decode cX12_next 201 = .ok (.invokevirtual 340, 3) := by decide +kernel
theorem dX12_next_204 : decode cX12_next 204 = .ok (.iadd, 1) := by decide +kernel
theorem dX12_next_205 : decode cX12_next 205 = .ok (.bipush 48, 2) := by decide +kernel
theorem dX12_next_207 : decode cX12_next 207 = .ok (.isub, 1) := by decide +kernel
theorem dX12_next_208 : decode cX12_next 208 = .ok (.putfield 359, 3) := by decide +kernel
theorem dX12_next_211 : decode cX12_next 211 = .ok (.iinc 2 1, 3) := by decide +kernel
theorem dX12_next_214 : decode cX12_next 214 = .ok (.aload_n 0, 1) := by decide +kernel
theorem dX12_next_215 : decode cX12_next 215 = .ok (.dup, 1) := by decide +kernel
theorem dX12_next_216 : decode cX12_next 216 = .ok (.getfield 337, 3) := by decide +kernel
theorem dX12_next_219 : decode cX12_next 219 = .ok (.iconst 1, 1) := by decide +kernel
theorem dX12_next_220 : decode cX12_next 220 = .ok (.iadd, 1) := by decide +kernel
theorem dX12_next_221 : decode cX12_next 221 = .ok (.putfield 337, 3) := by decide +kernel
theorem dX12_next_224 : decode cX12_next 224 = .ok (.goto (-55), 3) := by decide +kernel
theorem dX12_next_227 : decode cX12_next 227 = .ok (.iload_n 2, 1) := by decide +kernel
theorem dX12_next_228 : decode cX12_next 228 = .ok (.iconst 5, 1) := by decide +kernel
theorem dX12_next_229 : decode cX12_next 229 = .ok (.if_icmp .ge 73, 3) := by decide +kernel
theorem dX12_next_232 : decode cX12_next 232 = .ok (.aload_n 0, 1) := by decide +kernel
theorem dX12_next_233 : decode cX12_next 233 = .ok (.iconst 3, 1) := by decide +kernel
theorem dX12_next_234 : decode cX12_next 234 = .ok (.putfield 343, 3) := by decide +kernel
theorem dX12_next_237 : decode cX12_next 237 = .ok (.goto 65, 3) := by decide +kernel
theorem dX12_next_240 : decode cX12_next 240 = .ok (.iload_n 1, 1) := by decide +kernel
theorem dX12_next_241 : decode cX12_next 241 = .ok (.bipush 60, 2) := by decide +kernel
theorem dX12_next_243 : decode cX12_next 243 = .ok (.if_icmp .eq 39, 3) := by decide +kernel
theorem dX12_next_246 : decode cX12_next 246 = .ok (.iload_n 1, 1) := by decide +kernel
theorem dX12_next_247 : decode cX12_next 247 = .ok (.bipush 62, 2) := by decide +kernel
theorem dX12_next_249 : decode cX12_next 249 = .ok (.if_icmp .eq 33, 3) := by decide +kernel
theorem dX12_next_252 : decode cX12_next 252 = .ok (.iload_n 1, 1) := by decide +kernel
theorem dX12_next_253 : decode cX12_next 253 = .ok (.bipush 61, 2) := by decide +kernel
theorem dX12_next_255 : decode cX12_next 255 = .ok (.if_icmp .eq 27, 3) := by decide +kernel
theorem dX12_next_258 : decode cX12_next 258 = .ok (.iload_n 1, 1) := by decide +kernel
theorem dX12_next_259 : decode cX12_next 259 = .ok (.bipush 43, 2) := by decide +kernel
theorem dX12_next_261 : decode cX12_next 261 = .ok (.if_icmp .eq 21, 3) := by decide +kernel
theorem dX12_next_264 : decode cX12_next 264 = .ok (.iload_n 1, 1) := by decide +kernel
theorem dX12_next_265 : decode cX12_next 265 = .ok (.bipush 45, 2) := by decide +kernel
theorem dX12_next_267 : decode cX12_next 267 = .ok (.if_icmp .eq 15, 3) := by decide +kernel
theorem dX12_next_270 : decode cX12_next 270 = .ok (.iload_n 1, 1) := by decide +kernel
theorem dX12_next_271 : decode cX12_next 271 = .ok (.bipush 40, 2) := by decide +kernel
theorem dX12_next_273 : decode cX12_next 273 = .ok (.if_icmp .eq 9, 3) := by decide +kernel
theorem dX12_next_276 : decode cX12_next 276 = .ok (.iload_n 1, 1) := by decide +kernel
theorem dX12_next_277 : decode cX12_next 277 = .ok (.bipush 41, 2) := by decide +kernel
theorem dX12_next_279 : decode cX12_next 279 = .ok (.if_icmp .ne 23, 3) := by decide +kernel
theorem dX12_next_282 : decode cX12_next 282 = .ok (.aload_n 0, 1) := by decide +kernel
theorem dX12_next_283 : decode cX12_next 283 = .ok (.iconst 4, 1) := by decide +kernel
theorem dX12_next_284 : decode cX12_next 284 = .ok (.putfield 343, 3) := by decide +kernel
theorem dX12_next_287 : decode cX12_next 287 = .ok (.aload_n 0, 1) := by decide +kernel
theorem dX12_next_288 : decode cX12_next 288 = .ok (.iload_n 1, 1) := by decide +kernel
theorem dX12_next_289 : decode cX12_next 289 = .ok (.putfield 346, 3) := by decide +kernel
theorem dX12_next_292 : decode cX12_next 292 = .ok (.aload_n 0, 1) := by decide +kernel
theorem dX12_next_293 : decode cX12_next 293 = .ok (.dup, 1) := by decide +kernel
theorem dX12_next_294 : decode cX12_next 294 = .ok (.getfield 337, 3) := by decide +kernel
theorem dX12_next_297 : decode cX12_next 297 = .ok (.iconst 1, 1) := by decide +kernel
theorem dX12_next_298 : decode cX12_next 298 = .ok (.iadd, 1) := by decide +kernel
theorem dX12_next_299 : decode cX12_next 299 = .ok (.putfield 337, 3) := by decide +kernel
theorem dX12_next_302 : decode cX12_next 302 = .ok (.return_, 1) := by decide +kernel
theorem dX12_isWord_0 : decode cX12_isWord 0 = .ok (.aload_n 0, 1) := by decide +kernel
theorem dX12_isWord_1 : decode cX12_isWord 1 = .ok (.getfield 343, 3) := by decide +kernel
theorem dX12_isWord_4 : decode cX12_isWord 4 = .ok (.iconst 2, 1) := by decide +kernel
theorem dX12_isWord_5 : decode cX12_isWord 5 = .ok (.if_icmp .ne 19, 3) := by decide +kernel
theorem dX12_isWord_8 : decode cX12_isWord 8 = .ok (.aload_n 0, 1) := by decide +kernel
theorem dX12_isWord_9 : decode cX12_isWord 9 = .ok (.getfield 352, 3) := by decide +kernel
theorem dX12_isWord_12 : decode cX12_isWord 12 = .ok (.aload_n 1, 1) := by decide +kernel
theorem dX12_isWord_13 : decode cX12_isWord 13 = .ok (.invokestatic 362, 3) := by decide +kernel
theorem dX12_isWord_16 : decode cX12_isWord 16 = .ok (.lcmp, 1) := by decide +kernel
theorem dX12_isWord_17 : decode cX12_isWord 17 = .ok (.ifCond .ne 7, 3) := by decide +kernel
theorem dX12_isWord_20 : decode cX12_isWord 20 = .ok (.iconst 1, 1) := by decide +kernel
theorem dX12_isWord_21 : decode cX12_isWord 21 = .ok (.goto 4, 3) := by decide +kernel
theorem dX12_isWord_24 : decode cX12_isWord 24 = .ok (.iconst 0, 1) := by decide +kernel
theorem dX12_isWord_25 : decode cX12_isWord 25 = .ok (.ireturn, 1) := by decide +kernel
theorem dX12_is_0 : decode cX12_is 0 = .ok (.aload_n 0, 1) := by decide +kernel
theorem dX12_is_1 : decode cX12_is 1 = .ok (.getfield 343, 3) := by decide +kernel
theorem dX12_is_4 : decode cX12_is 4 = .ok (.iconst 4, 1) := by decide +kernel
theorem dX12_is_5 : decode cX12_is 5 = .ok (.if_icmp .ne 15, 3) := by decide +kernel
theorem dX12_is_8 : decode cX12_is 8 = .ok (.aload_n 0, 1) := by decide +kernel
theorem dX12_is_9 : decode cX12_is 9 = .ok (.getfield 346, 3) := by decide +kernel
theorem dX12_is_12 : decode cX12_is 12 = .ok (.iload_n 1, 1) := by decide +kernel
theorem dX12_is_13 : decode cX12_is 13 = .ok (.if_icmp .ne 7, 3) := by decide +kernel
theorem dX12_is_16 : decode cX12_is 16 = .ok (.iconst 1, 1) := by decide +kernel
theorem dX12_is_17 : decode cX12_is 17 = .ok (.goto 4, 3) := by decide +kernel
theorem dX12_is_20 : decode cX12_is 20 = .ok (.iconst 0, 1) := by decide +kernel
theorem dX12_is_21 : decode cX12_is 21 = .ok (.ireturn, 1) := by decide +kernel
theorem dX12_isKept_0 : decode cX12_isKept 0 = .ok (.aload_n 0, 1) := by decide +kernel
theorem dX12_isKept_1 : decode cX12_isKept 1 = .ok (.ldc_w 366, 3) := by decide +kernel
theorem dX12_isKept_4 : decode cX12_isKept 4 = .ok (.invokevirtual 368, 3) := by decide +kernel
theorem dX12_isKept_7 : decode cX12_isKept 7 = .ok (.ifCond .ne 33, 3) := by decide +kernel
theorem dX12_isKept_10 : decode cX12_isKept 10 = .ok (.aload_n 0, 1) := by decide +kernel
theorem dX12_isKept_11 : decode cX12_isKept 11 = .ok (.ldc_w 372, 3) := by decide +kernel
theorem dX12_isKept_14 : decode cX12_isKept 14 = .ok (.invokevirtual 368, 3) := by decide +kernel
theorem dX12_isKept_17 : decode cX12_isKept 17 = .ok (.ifCond .ne 23, 3) := by decide +kernel
theorem dX12_isKept_20 : decode cX12_isKept 20 = .ok (.aload_n 0, 1) := by decide +kernel
theorem dX12_isKept_21 : decode cX12_isKept 21 = .ok (.ldc_w 374, 3) := by decide +kernel
theorem dX12_isKept_24 : decode cX12_isKept 24 = .ok (.invokevirtual 368, 3) := by decide +kernel
theorem dX12_isKept_27 : decode cX12_isKept 27 = .ok (.ifCond .ne 13, 3) := by decide +kernel
theorem dX12_isKept_30 : decode cX12_isKept 30 = .ok (.aload_n 0, 1) := by decide +kernel
theorem dX12_isKept_31 : decode cX12_isKept 31 = .ok (.ldc_w 376, 3) := by decide +kernel
theorem dX12_isKept_34 : decode cX12_isKept 34 = .ok (.invokevirtual 368, 3) := by decide +kernel
theorem dX12_isKept_37 : decode cX12_isKept 37 = .ok (.ifCond .eq 7, 3) := by decide +kernel
theorem dX12_isKept_40 : decode cX12_isKept 40 = .ok (.iconst 1, 1) := by decide +kernel
theorem dX12_isKept_41 : decode cX12_isKept 41 = .ok (.goto 4, 3) := by decide +kernel
theorem dX12_isKept_44 : decode cX12_isKept 44 = .ok (.iconst 0, 1) := by decide +kernel
theorem dX12_isKept_45 : decode cX12_isKept 45 = .ok (.ireturn, 1) := by decide +kernel
theorem dX12_reads_0 : decode cX12_reads 0 = .ok (.aload_n 0, 1) := by decide +kernel
theorem dX12_reads_1 : decode cX12_reads 1 = .ok (.invokevirtual 378, 3) := by decide +kernel
theorem dX12_reads_4 : decode cX12_reads 4 = .ok (.iconst 0, 1) := by decide +kernel
theorem dX12_reads_5 : decode cX12_reads 5 = .ok (.putfield 382, 3) := by decide +kernel
theorem dX12_reads_8 : decode cX12_reads 8 = .ok (.aload_n 0, 1) := by decide +kernel
theorem dX12_reads_9 : decode cX12_reads 9 = .ok (.iconst 0, 1) := by decide +kernel
theorem dX12_reads_10 : decode cX12_reads 10 = .ok (.putfield 385, 3) := by decide +kernel
theorem dX12_reads_13 : decode cX12_reads 13 = .ok (.aload_n 0, 1) := by decide +kernel
theorem dX12_reads_14 : decode cX12_reads 14 = .ok (.iconst 0, 1) := by decide +kernel
theorem dX12_reads_15 : decode cX12_reads 15 = .ok (.putfield 388, 3) := by decide +kernel
theorem dX12_reads_18 : decode cX12_reads 18 = .ok (.aload_n 0, 1) := by decide +kernel
theorem dX12_reads_19 : decode cX12_reads 19 = .ok (.iconst 0, 1) := by decide +kernel
theorem dX12_reads_20 : decode cX12_reads 20 = .ok (.putfield 337, 3) := by decide +kernel
theorem dX12_reads_23 : decode cX12_reads 23 = .ok (.aload_n 0, 1) := by decide +kernel
theorem dX12_reads_24 : decode cX12_reads 24 = .ok (.invokevirtual 391, 3) := by decide +kernel
theorem dX12_reads_27 : decode cX12_reads 27 = .ok (.aload_n 0, 1) := by decide +kernel
theorem dX12_reads_28 : decode cX12_reads 28 = .ok (.getfield 343, 3) := by decide +kernel
theorem dX12_reads_31 : decode cX12_reads 31 = .ok (.iconst 2, 1) := by decide +kernel
theorem dX12_reads_32 : decode cX12_reads 32 = .ok (.if_icmp .ne 10, 3) := by decide +kernel
theorem dX12_reads_35 : decode cX12_reads 35 = .ok (.aload_n 0, 1) := by decide +kernel
theorem dX12_reads_36 : decode cX12_reads 36 = .ok (.invokevirtual 394, 3) := by decide +kernel
theorem dX12_reads_39 : decode cX12_reads 39 = .ok (.ifCond .eq 9, 3) := by decide +kernel
theorem dX12_reads_42 : decode cX12_reads 42 = .ok (.aload_n 0, 1) := by decide +kernel
theorem dX12_reads_43 : decode cX12_reads 43 = .ok (.iconst 1, 1) := by decide +kernel
theorem dX12_reads_44 : decode cX12_reads 44 = .ok (.invokevirtual 397, 3) := by decide +kernel
theorem dX12_reads_47 : decode cX12_reads 47 = .ok (.athrow, 1) := by decide +kernel
theorem dX12_reads_48 : decode cX12_reads 48 = .ok (.aload_n 0, 1) := by decide +kernel
theorem dX12_reads_49 : decode cX12_reads 49 = .ok (.ldc_w 400, 3) := by decide +kernel
theorem dX12_reads_52 : decode cX12_reads 52 = .ok (.invokevirtual 368, 3) := by decide +kernel
theorem dX12_reads_55 : decode cX12_reads 55 = .ok (.ifCond .eq 7, 3) := by decide +kernel
theorem dX12_reads_58 : decode cX12_reads 58 = .ok (.iconst 0, 1) := by decide +kernel
theorem dX12_reads_59 : decode cX12_reads 59 = .ok (.goto 46, 3) := by decide +kernel
theorem dX12_reads_62 : decode cX12_reads 62 = .ok (.aload_n 0, 1) := by decide +kernel
theorem dX12_reads_63 : decode cX12_reads 63 = .ok (.ldc_w 402, 3) := by decide +kernel
theorem dX12_reads_66 : decode cX12_reads 66 = .ok (.invokevirtual 368, 3) := by decide +kernel
theorem dX12_reads_69 : decode cX12_reads 69 = .ok (.ifCond .eq 7, 3) := by decide +kernel
theorem dX12_reads_72 : decode cX12_reads 72 = .ok (.iconst 1, 1) := by decide +kernel
theorem dX12_reads_73 : decode cX12_reads 73 = .ok (.goto 32, 3) := by decide +kernel
theorem dX12_reads_76 : decode cX12_reads 76 = .ok (.aload_n 0, 1) := by decide +kernel
theorem dX12_reads_77 : decode cX12_reads 77 = .ok (.ldc_w 404, 3) := by decide +kernel
theorem dX12_reads_80 : decode cX12_reads 80 = .ok (.invokevirtual 368, 3) := by decide +kernel
theorem dX12_reads_83 : decode cX12_reads 83 = .ok (.ifCond .eq 7, 3) := by decide +kernel
theorem dX12_reads_86 : decode cX12_reads 86 = .ok (.iconst 2, 1) := by decide +kernel
theorem dX12_reads_87 : decode cX12_reads 87 = .ok (.goto 18, 3) := by decide +kernel
theorem dX12_reads_90 : decode cX12_reads 90 = .ok (.aload_n 0, 1) := by decide +kernel
theorem dX12_reads_91 : decode cX12_reads 91 = .ok (.ldc_w 406, 3) := by decide +kernel
theorem dX12_reads_94 : decode cX12_reads 94 = .ok (.invokevirtual 368, 3) := by decide +kernel
theorem dX12_reads_97 : decode cX12_reads 97 = .ok (.ifCond .eq 7, 3) := by decide +kernel
theorem dX12_reads_100 : decode cX12_reads 100 = .ok (.iconst 3, 1) := by decide +kernel
theorem dX12_reads_101 : decode cX12_reads 101 = .ok (.goto 4, 3) := by decide +kernel
theorem dX12_reads_104 : decode cX12_reads 104 = .ok (.iconst (-1), 1) := by decide +kernel
theorem dX12_reads_105 : decode cX12_reads 105 = .ok (.istore_n 1, 1) := by decide +kernel
theorem dX12_reads_106 : decode cX12_reads 106 = .ok (.iload_n 1, 1) := by decide +kernel
theorem dX12_reads_107 : decode cX12_reads 107 = .ok (.iconst (-1), 1) := by decide +kernel
theorem dX12_reads_108 : decode cX12_reads 108 = .ok (.if_icmp .ne 9, 3) := by decide +kernel
theorem dX12_reads_111 : decode cX12_reads 111 = .ok (.aload_n 0, 1) := by decide +kernel
theorem dX12_reads_112 : decode cX12_reads 112 = .ok (.iconst 2, 1) := by decide +kernel
theorem dX12_reads_113 : decode cX12_reads 113 = .ok (.invokevirtual 397, 3) := by decide +kernel
theorem dX12_reads_116 : decode cX12_reads 116 = .ok (.athrow, 1) := by decide +kernel
theorem dX12_reads_117 : decode cX12_reads 117 = .ok (.aload_n 0, 1) := by decide +kernel
theorem dX12_reads_118 : decode cX12_reads 118 = .ok (.invokevirtual 378, 3) := by decide +kernel
theorem dX12_reads_121 : decode cX12_reads 121 = .ok (.iload_n 1, 1) := by decide +kernel
theorem dX12_reads_122 : decode cX12_reads 122 = .ok (.putfield 408, 3) := by decide +kernel
theorem dX12_reads_125 : decode cX12_reads 125 = .ok (.aload_n 0, 1) := by decide +kernel
theorem dX12_reads_126 : decode cX12_reads 126 = .ok (.invokevirtual 391, 3) := by decide +kernel
theorem dX12_reads_129 : decode cX12_reads 129 = .ok (.aload_n 0, 1) := by decide +kernel
theorem dX12_reads_130 : decode cX12_reads 130 = .ok (.ldc_w 366, 3) := by decide +kernel
theorem dX12_reads_133 : decode cX12_reads 133 = .ok (.invokevirtual 368, 3) := by decide +kernel
theorem dX12_reads_136 : decode cX12_reads 136 = .ok (.ifCond .ne 9, 3) := by decide +kernel
theorem dX12_reads_139 : decode cX12_reads 139 = .ok (.aload_n 0, 1) := by decide +kernel
theorem dX12_reads_140 : decode cX12_reads 140 = .ok (.iconst 1, 1) := by decide +kernel
theorem dX12_reads_141 : decode cX12_reads 141 = .ok (.invokevirtual 397, 3) := by decide +kernel
theorem dX12_reads_144 : decode cX12_reads 144 = .ok (.athrow, 1) := by decide +kernel
theorem dX12_reads_145 : decode cX12_reads 145 = .ok (.aload_n 0, 1) := by decide +kernel
theorem dX12_reads_146 : decode cX12_reads 146 = .ok (.invokevirtual 391, 3) := by decide +kernel
theorem dX12_reads_149 : decode cX12_reads 149 = .ok (.aload_n 0, 1) := by decide +kernel
theorem dX12_reads_150 : decode cX12_reads 150 = .ok (.invokevirtual 411, 3) := by decide +kernel
theorem dX12_reads_153 : decode cX12_reads 153 = .ok (.aload_n 0, 1) := by decide +kernel
theorem dX12_reads_154 : decode cX12_reads 154 = .ok (.getfield 343, 3) := by decide +kernel
theorem dX12_reads_157 : decode cX12_reads 157 = .ok (.iconst 1, 1) := by decide +kernel
theorem dX12_reads_158 : decode cX12_reads 158 = .ok (.if_icmp .eq 9, 3) := by decide +kernel
theorem dX12_reads_161 : decode cX12_reads 161 = .ok (.aload_n 0, 1) := by decide +kernel
theorem dX12_reads_162 : decode cX12_reads 162 = .ok (.iconst 1, 1) := by decide +kernel
theorem dX12_reads_163 : decode cX12_reads 163 = .ok (.invokevirtual 397, 3) := by decide +kernel
theorem dX12_reads_166 : decode cX12_reads 166 = .ok (.athrow, 1) := by decide +kernel
theorem dX12_reads_167 : decode cX12_reads 167 = .ok (.return_, 1) := by decide +kernel
theorem dX12_readAny_0 : decode cX12_readAny 0 = .ok (.aload_n 0, 1) := by decide +kernel
theorem dX12_readAny_1 : decode cX12_readAny 1 = .ok (.invokevirtual 414, 3) := by decide +kernel
theorem dX12_readAny_4 : decode cX12_readAny 4 = .ok (.aload_n 0, 1) := by decide +kernel
theorem dX12_readAny_5 : decode cX12_readAny 5 = .ok (.ldc_w 374, 3) := by decide +kernel
theorem dX12_readAny_8 : decode cX12_readAny 8 = .ok (.invokevirtual 368, 3) := by decide +kernel
theorem dX12_readAny_11 : decode cX12_readAny 11 = .ok (.ifCond .eq 24, 3) := by decide +kernel
theorem dX12_readAny_14 : decode cX12_readAny 14 = .ok (.aload_n 0, 1) := by decide +kernel
theorem dX12_readAny_15 : decode cX12_readAny 15 = .ok (.invokevirtual 391, 3) := by decide +kernel
theorem dX12_readAny_18 : decode cX12_readAny 18 = .ok (.aload_n 0, 1) := by decide +kernel
theorem dX12_readAny_19 : decode cX12_readAny 19 = .ok (.invokevirtual 414, 3) := by decide +kernel
theorem dX12_readAny_22 : decode cX12_readAny 22 = .ok (.aload_n 0, 1) := by decide +kernel
theorem dX12_readAny_23 : decode cX12_readAny 23 = .ok (.invokevirtual 378, 3) := by decide +kernel
theorem dX12_readAny_26 : decode cX12_readAny 26 = .ok (.bipush 9, 2) := by decide +kernel
theorem dX12_readAny_28 : decode cX12_readAny 28 = .ok (.iconst 0, 1) := by decide +kernel
theorem dX12_readAny_29 : decode cX12_readAny 29 = .ok (.invokevirtual 417, 3) := by decide +kernel
theorem dX12_readAny_32 : decode cX12_readAny 32 = .ok (.goto (-28), 3) := by decide +kernel
theorem dX12_readAny_35 : decode cX12_readAny 35 = .ok (.return_, 1) := by decide +kernel
theorem dX12_readAll_0 : decode cX12_readAll 0 = .ok (.aload_n 0, 1) := by decide +kernel
theorem dX12_readAll_1 : decode cX12_readAll 1 = .ok (.invokevirtual 421, 3) := by decide +kernel
theorem dX12_readAll_4 : decode cX12_readAll 4 = .ok (.aload_n 0, 1) := by decide +kernel
theorem dX12_readAll_5 : decode cX12_readAll 5 = .ok (.ldc_w 372, 3) := by decide +kernel
theorem dX12_readAll_8 : decode cX12_readAll 8 = .ok (.invokevirtual 368, 3) := by decide +kernel
theorem dX12_readAll_11 : decode cX12_readAll 11 = .ok (.ifCond .eq 24, 3) := by decide +kernel
theorem dX12_readAll_14 : decode cX12_readAll 14 = .ok (.aload_n 0, 1) := by decide +kernel
theorem dX12_readAll_15 : decode cX12_readAll 15 = .ok (.invokevirtual 391, 3) := by decide +kernel
theorem dX12_readAll_18 : decode cX12_readAll 18 = .ok (.aload_n 0, 1) := by decide +kernel
theorem dX12_readAll_19 : decode cX12_readAll 19 = .ok (.invokevirtual 421, 3) := by decide +kernel
theorem dX12_readAll_22 : decode cX12_readAll 22 = .ok (.aload_n 0, 1) := by decide +kernel
theorem dX12_readAll_23 : decode cX12_readAll 23 = .ok (.invokevirtual 378, 3) := by decide +kernel
theorem dX12_readAll_26 : decode cX12_readAll 26 = .ok (.bipush 8, 2) := by decide +kernel
theorem dX12_readAll_28 : decode cX12_readAll 28 = .ok (.iconst 0, 1) := by decide +kernel
theorem dX12_readAll_29 : decode cX12_readAll 29 = .ok (.invokevirtual 417, 3) := by decide +kernel
theorem dX12_readAll_32 : decode cX12_readAll 32 = .ok (.goto (-28), 3) := by decide +kernel
theorem dX12_readAll_35 : decode cX12_readAll 35 = .ok (.return_, 1) := by decide +kernel
theorem dX12_readOne_0 : decode cX12_readOne 0 = .ok (.iconst 0, 1) := by decide +kernel
theorem dX12_readOne_1 : decode cX12_readOne 1 = .ok (.istore_n 1, 1) := by decide +kernel
theorem dX12_readOne_2 : decode cX12_readOne 2 = .ok (.aload_n 0, 1) := by decide +kernel
theorem dX12_readOne_3 : decode cX12_readOne 3 = .ok (.ldc_w 376, 3) := by decide +kernel
theorem dX12_readOne_6 : decode cX12_readOne 6 = .ok (.invokevirtual 368, 3) := by decide +kernel
theorem dX12_readOne_9 : decode cX12_readOne 9 = .ok (.ifCond .eq 25, 3) := by decide +kernel
theorem dX12_readOne_12 : decode cX12_readOne 12 = .ok (.iload_n 1, 1) := by decide +kernel
theorem dX12_readOne_13 : decode cX12_readOne 13 = .ok (.bipush 8, 2) := by decide +kernel
theorem dX12_readOne_15 : decode cX12_readOne 15 = .ok (.if_icmp .ne 9, 3) := by decide +kernel
theorem dX12_readOne_18 : decode cX12_readOne 18 = .ok (.aload_n 0, 1) := by decide +kernel
theorem dX12_readOne_19 : decode cX12_readOne 19 = .ok (.iconst 3, 1) := by decide +kernel
theorem dX12_readOne_20 : decode cX12_readOne 20 = .ok (.invokevirtual 397, 3) := by decide +kernel
theorem dX12_readOne_23 : decode cX12_readOne 23 = .ok (.athrow, 1) := by decide +kernel
theorem dX12_readOne_24 : decode cX12_readOne 24 = .ok (.iinc 1 1, 3) := by decide +kernel
theorem dX12_readOne_27 : decode cX12_readOne 27 = .ok (.aload_n 0, 1) := by decide +kernel
theorem dX12_readOne_28 : decode cX12_readOne 28 = .ok (.invokevirtual 391, 3) := by decide +kernel
theorem dX12_readOne_31 : decode cX12_readOne 31 = .ok (.goto (-29), 3) := by decide +kernel
theorem dX12_readOne_34 : decode cX12_readOne 34 = .ok (.aload_n 0, 1) := by decide +kernel
theorem dX12_readOne_35 : decode cX12_readOne 35 = .ok (.bipush 40, 2) := by decide +kernel
theorem dX12_readOne_37 : decode cX12_readOne 37 = .ok (.invokevirtual 424, 3) := by decide +kernel
theorem dX12_readOne_40 : decode cX12_readOne 40 = .ok (.ifCond .eq 68, 3) := by decide +kernel
theorem dX12_readOne_43 : decode cX12_readOne 43 = .ok (.aload_n 0, 1) := by decide +kernel
theorem dX12_readOne_44 : decode cX12_readOne 44 = .ok (.getfield 385, 3) := by decide +kernel
theorem dX12_readOne_47 : decode cX12_readOne 47 = .ok (.bipush 8, 2) := by decide +kernel
theorem dX12_readOne_49 : decode cX12_readOne 49 = .ok (.if_icmp .ne 9, 3) := by decide +kernel
theorem dX12_readOne_52 : decode cX12_readOne 52 = .ok (.aload_n 0, 1) := by decide +kernel
theorem dX12_readOne_53 : decode cX12_readOne 53 = .ok (.iconst 3, 1) := by decide +kernel
theorem dX12_readOne_54 : decode cX12_readOne 54 = .ok (.invokevirtual 397, 3) := by decide +kernel
theorem dX12_readOne_57 : decode cX12_readOne 57 = .ok (.athrow, 1) := by decide +kernel
theorem dX12_readOne_58 : decode cX12_readOne 58 = .ok (.aload_n 0, 1) := by decide +kernel
theorem dX12_readOne_59 : decode cX12_readOne 59 = .ok (.dup, 1) := by decide +kernel
theorem dX12_readOne_60 : decode cX12_readOne 60 = .ok (.getfield 385, 3) := by decide +kernel
theorem dX12_readOne_63 : decode cX12_readOne 63 = .ok (.iconst 1, 1) := by decide +kernel
theorem dX12_readOne_64 : decode cX12_readOne 64 = .ok (.iadd, 1) := by decide +kernel
theorem dX12_readOne_65 : decode cX12_readOne 65 = .ok (.putfield 385, 3) := by decide +kernel
theorem dX12_readOne_68 : decode cX12_readOne 68 = .ok (.aload_n 0, 1) := by decide +kernel
theorem dX12_readOne_69 : decode cX12_readOne 69 = .ok (.invokevirtual 391, 3) := by decide +kernel
theorem dX12_readOne_72 : decode cX12_readOne 72 = .ok (.aload_n 0, 1) := by decide +kernel
theorem dX12_readOne_73 : decode cX12_readOne 73 = .ok (.invokevirtual 411, 3) := by decide +kernel
theorem dX12_readOne_76 : decode cX12_readOne 76 = .ok (.aload_n 0, 1) := by decide +kernel
theorem dX12_readOne_77 : decode cX12_readOne 77 = .ok (.bipush 41, 2) := by decide +kernel
theorem dX12_readOne_79 : decode cX12_readOne 79 = .ok (.invokevirtual 424, 3) := by decide +kernel
theorem dX12_readOne_82 : decode cX12_readOne 82 = .ok (.ifCond .ne 9, 3) := by decide +kernel
theorem dX12_readOne_85 : decode cX12_readOne 85 = .ok (.aload_n 0, 1) := by decide +kernel
theorem dX12_readOne_86 : decode cX12_readOne 86 = .ok (.iconst 1, 1) := by decide +kernel
theorem dX12_readOne_87 : decode cX12_readOne 87 = .ok (.invokevirtual 397, 3) := by decide +kernel
theorem dX12_readOne_90 : decode cX12_readOne 90 = .ok (.athrow, 1) := by decide +kernel
theorem dX12_readOne_91 : decode cX12_readOne 91 = .ok (.aload_n 0, 1) := by decide +kernel
theorem dX12_readOne_92 : decode cX12_readOne 92 = .ok (.invokevirtual 391, 3) := by decide +kernel
theorem dX12_readOne_95 : decode cX12_readOne 95 = .ok (.aload_n 0, 1) := by decide +kernel
theorem dX12_readOne_96 : decode cX12_readOne 96 = .ok (.dup, 1) := by decide +kernel
theorem dX12_readOne_97 : decode cX12_readOne 97 = .ok (.getfield 385, 3) := by decide +kernel
theorem dX12_readOne_100 : decode cX12_readOne 100 = .ok (.iconst 1, 1) := by decide +kernel
theorem dX12_readOne_101 : decode cX12_readOne 101 = .ok (.isub, 1) := by decide +kernel
theorem dX12_readOne_102 : decode cX12_readOne 102 = .ok (.putfield 385, 3) := by decide +kernel
theorem dX12_readOne_105 : decode cX12_readOne 105 = .ok (.goto 77, 3) := by decide +kernel
theorem dX12_readOne_108 : decode cX12_readOne 108 = .ok (.aload_n 0, 1) := by decide +kernel
theorem dX12_readOne_109 : decode cX12_readOne 109 = .ok (.invokevirtual 427, 3) := by decide +kernel
theorem dX12_readOne_112 : decode cX12_readOne 112 = .ok (.aload_n 0, 1) := by decide +kernel
theorem dX12_readOne_113 : decode cX12_readOne 113 = .ok (.bipush 60, 2) := by decide +kernel
theorem dX12_readOne_115 : decode cX12_readOne 115 = .ok (.invokevirtual 424, 3) := by decide +kernel
theorem dX12_readOne_118 : decode cX12_readOne 118 = .ok (.ifCond .eq 7, 3) := by decide +kernel
theorem dX12_readOne_121 : decode cX12_readOne 121 = .ok (.iconst 4, 1) := by decide +kernel
theorem dX12_readOne_122 : decode cX12_readOne 122 = .ok (.goto 31, 3) := by decide +kernel
theorem dX12_readOne_125 : decode cX12_readOne 125 = .ok (.aload_n 0, 1) := by decide +kernel
theorem dX12_readOne_126 : decode cX12_readOne 126 = .ok (.bipush 62, 2) := by decide +kernel
theorem dX12_readOne_128 : decode cX12_readOne 128 = .ok (.invokevirtual 424, 3) := by decide +kernel
theorem dX12_readOne_131 : decode cX12_readOne 131 = .ok (.ifCond .eq 7, 3) := by decide +kernel
theorem dX12_readOne_134 : decode cX12_readOne 134 = .ok (.iconst 5, 1) := by decide +kernel
theorem dX12_readOne_135 : decode cX12_readOne 135 = .ok (.goto 18, 3) := by decide +kernel
theorem dX12_readOne_138 : decode cX12_readOne 138 = .ok (.aload_n 0, 1) := by decide +kernel
theorem dX12_readOne_139 : decode cX12_readOne 139 = .ok (.bipush 61, 2) := by decide +kernel
theorem dX12_readOne_141 : decode cX12_readOne 141 = .ok (.invokevirtual 424, 3) := by decide +kernel
theorem dX12_readOne_144 : decode cX12_readOne 144 = .ok (.ifCond .eq 8, 3) := by decide +kernel
theorem dX12_readOne_147 : decode cX12_readOne 147 = .ok (.bipush 6, 2) := by decide +kernel
theorem dX12_readOne_149 : decode cX12_readOne 149 = .ok (.goto 4, 3) := by decide +kernel
theorem dX12_readOne_152 : decode cX12_readOne 152 = .ok (.iconst (-1), 1) := by decide +kernel
theorem dX12_readOne_153 : decode cX12_readOne 153 = .ok (.istore_n 2, 1) := by decide +kernel
theorem dX12_readOne_154 : decode cX12_readOne 154 = .ok (.iload_n 2, 1) := by decide +kernel
theorem dX12_readOne_155 : decode cX12_readOne 155 = .ok (.iconst (-1), 1) := by decide +kernel
theorem dX12_readOne_156 : decode cX12_readOne 156 = .ok (.if_icmp .ne 9, 3) := by decide +kernel
theorem dX12_readOne_159 : decode cX12_readOne 159 = .ok (.aload_n 0, 1) := by decide +kernel
theorem dX12_readOne_160 : decode cX12_readOne 160 = .ok (.iconst 1, 1) := by decide +kernel
theorem dX12_readOne_161 : decode cX12_readOne 161 = .ok (.invokevirtual 397, 3) := by decide +kernel
theorem dX12_readOne_164 : decode cX12_readOne 164 = .ok (.athrow, 1) := by decide +kernel
theorem dX12_readOne_165 : decode cX12_readOne 165 = .ok (.aload_n 0, 1) := by decide +kernel
theorem dX12_readOne_166 : decode cX12_readOne 166 = .ok (.invokevirtual 391, 3) := by decide +kernel
theorem dX12_readOne_169 : decode cX12_readOne 169 = .ok (.aload_n 0, 1) := by decide +kernel
theorem dX12_readOne_170 : decode cX12_readOne 170 = .ok (.invokevirtual 427, 3) := by decide +kernel
theorem dX12_readOne_173 : decode cX12_readOne 173 = .ok (.aload_n 0, 1) := by decide +kernel
theorem dX12_readOne_174 : decode cX12_readOne 174 = .ok (.invokevirtual 378, 3) := by decide +kernel
theorem dX12_readOne_177 : decode cX12_readOne 177 = .ok (.iload_n 2, 1) := by decide +kernel
theorem dX12_readOne_178 : decode cX12_readOne 178 = .ok (.iconst 0, 1) := by decide +kernel
theorem dX12_readOne_179 : decode cX12_readOne 179 = .ok (.invokevirtual 417, 3) := by decide +kernel
theorem dX12_readOne_182 : decode cX12_readOne 182 = .ok (.iconst 0, 1) := by decide +kernel
theorem dX12_readOne_183 : decode cX12_readOne 183 = .ok (.istore_n 2, 1) := by decide +kernel
theorem dX12_readOne_184 : decode cX12_readOne 184 = .ok (.iload_n 2, 1) := by decide +kernel
theorem dX12_readOne_185 : decode cX12_readOne 185 = .ok (.iload_n 1, 1) := by decide +kernel
theorem dX12_readOne_186 : decode cX12_readOne 186 = .ok (.if_icmp .ge 19, 3) := by decide +kernel
theorem dX12_readOne_189 : decode cX12_readOne 189 = .ok (.aload_n 0, 1) := by decide +kernel
theorem dX12_readOne_190 : decode cX12_readOne 190 = .ok (.invokevirtual 378, 3) := by decide +kernel
theorem dX12_readOne_193 : decode cX12_readOne 193 = .ok (.bipush 7, 2) := by decide +kernel
theorem dX12_readOne_195 : decode cX12_readOne 195 = .ok (.iconst 0, 1) := by decide +kernel
theorem dX12_readOne_196 : decode cX12_readOne 196 = .ok (.invokevirtual 417, 3) := by decide +kernel
theorem dX12_readOne_199 : decode cX12_readOne 199 = .ok (.iinc 2 1, 3) := by decide +kernel
theorem dX12_readOne_202 : decode cX12_readOne 202 = .ok (.goto (-18), 3) := by decide +kernel
theorem dX12_readOne_205 : decode cX12_readOne 205 = .ok (.return_, 1) := by decide +kernel
theorem dX12_readSum_0 : decode cX12_readSum 0 = .ok (.aload_n 0, 1) := by decide +kernel
theorem dX12_readSum_1 : decode cX12_readSum 1 = .ok (.invokevirtual 430, 3) := by decide +kernel
theorem dX12_readSum_4 : decode cX12_readSum 4 = .ok (.aload_n 0, 1) := by decide +kernel
theorem dX12_readSum_5 : decode cX12_readSum 5 = .ok (.bipush 43, 2) := by decide +kernel
theorem dX12_readSum_7 : decode cX12_readSum 7 = .ok (.invokevirtual 424, 3) := by decide +kernel
theorem dX12_readSum_10 : decode cX12_readSum 10 = .ok (.ifCond .ne 12, 3) := by decide +kernel
theorem dX12_readSum_13 : decode cX12_readSum 13 = .ok (.aload_n 0, 1) := by decide +kernel
theorem dX12_readSum_14 : decode cX12_readSum 14 = .ok (.bipush 45, 2) := by decide +kernel
theorem dX12_readSum_16 : decode cX12_readSum 16 = .ok (.invokevirtual 424, 3) := by decide +kernel
theorem dX12_readSum_19 : decode cX12_readSum 19 = .ok (.ifCond .eq 38, 3) := by decide +kernel
theorem dX12_readSum_22 : decode cX12_readSum 22 = .ok (.aload_n 0, 1) := by decide +kernel
theorem dX12_readSum_23 : decode cX12_readSum 23 = .ok (.bipush 43, 2) := by decide +kernel
theorem dX12_readSum_25 : decode cX12_readSum 25 = .ok (.invokevirtual 424, 3) := by decide +kernel
theorem dX12_readSum_28 : decode cX12_readSum 28 = .ok (.ifCond .eq 7, 3) := by decide +kernel
theorem dX12_readSum_31 : decode cX12_readSum 31 = .ok (.iconst 2, 1) := by decide +kernel
theorem dX12_readSum_32 : decode cX12_readSum 32 = .ok (.goto 4, 3) := by decide +kernel
theorem dX12_readSum_35 : decode cX12_readSum 35 = .ok (.iconst 3, 1) := by decide +kernel
theorem dX12_readSum_36 : decode cX12_readSum 36 = .ok (.istore_n 1, 1) := by decide +kernel
theorem dX12_readSum_37 : decode cX12_readSum 37 = .ok (.aload_n 0, 1) := by decide +kernel
theorem dX12_readSum_38 : decode cX12_readSum 38 = .ok (.invokevirtual 391, 3) := by decide +kernel
theorem dX12_readSum_41 : decode cX12_readSum 41 = .ok (.aload_n 0, 1) := by decide +kernel
theorem dX12_readSum_42 : decode cX12_readSum 42 = .ok (.invokevirtual 430, 3) := by decide +kernel
theorem dX12_readSum_45 : decode cX12_readSum 45 = .ok (.aload_n 0, 1) := by decide +kernel
theorem dX12_readSum_46 : decode cX12_readSum 46 = .ok (.invokevirtual 378, 3) := by decide +kernel
theorem dX12_readSum_49 : decode cX12_readSum 49 = .ok (.iload_n 1, 1) := by decide +kernel
theorem dX12_readSum_50 : decode cX12_readSum 50 = .ok (.iconst 0, 1) := by decide +kernel
theorem dX12_readSum_51 : decode cX12_readSum 51 = .ok (.invokevirtual 417, 3) := by decide +kernel
theorem dX12_readSum_54 : decode cX12_readSum 54 = .ok (.goto (-50), 3) := by decide +kernel
theorem dX12_readSum_57 : decode cX12_readSum 57 = .ok (.return_, 1) := by decide +kernel
theorem dX12_nameHere_0 : decode cX12_nameHere 0 = .ok (.aload_n 0, 1) := by decide +kernel
theorem dX12_nameHere_1 : decode cX12_nameHere 1 = .ok (.ldc_w 433, 3) := by decide +kernel
theorem dX12_nameHere_4 : decode cX12_nameHere 4 = .ok (.invokevirtual 368, 3) := by decide +kernel
theorem dX12_nameHere_7 : decode cX12_nameHere 7 = .ok (.ifCond .eq 5, 3) := by decide +kernel
theorem dX12_nameHere_10 : decode cX12_nameHere 10 = .ok (.iconst 0, 1) := by decide +kernel
theorem dX12_nameHere_11 : decode cX12_nameHere 11 = .ok (.ireturn, 1) := by decide +kernel
theorem dX12_nameHere_12 : decode cX12_nameHere 12 = .ok (.aload_n 0, 1) := by decide +kernel
theorem dX12_nameHere_13 : decode cX12_nameHere 13 = .ok (.ldc_w 435, 3) := by decide +kernel
theorem dX12_nameHere_16 : decode cX12_nameHere 16 = .ok (.invokevirtual 368, 3) := by decide +kernel
theorem dX12_nameHere_19 : decode cX12_nameHere 19 = .ok (.ifCond .eq 5, 3) := by decide +kernel
theorem dX12_nameHere_22 : decode cX12_nameHere 22 = .ok (.iconst 1, 1) := by decide +kernel
theorem dX12_nameHere_23 : decode cX12_nameHere 23 = .ok (.ireturn, 1) := by decide +kernel
theorem dX12_nameHere_24 : decode cX12_nameHere 24 = .ok (.aload_n 0, 1) := by decide +kernel
theorem dX12_nameHere_25 : decode cX12_nameHere 25 = .ok (.ldc_w 437, 3) := by decide +kernel
theorem dX12_nameHere_28 : decode cX12_nameHere 28 = .ok (.invokevirtual 368, 3) := by decide +kernel
theorem dX12_nameHere_31 : decode cX12_nameHere 31 = .ok (.ifCond .eq 5, 3) := by decide +kernel
theorem dX12_nameHere_34 : decode cX12_nameHere 34 = .ok (.iconst 2, 1) := by decide +kernel
theorem dX12_nameHere_35 : decode cX12_nameHere 35 = .ok (.ireturn, 1) := by decide +kernel
theorem dX12_nameHere_36 : decode cX12_nameHere 36 = .ok (.aload_n 0, 1) := by decide +kernel
theorem dX12_nameHere_37 : decode cX12_nameHere 37 = .ok (.ldc_w 439, 3) := by decide +kernel
theorem dX12_nameHere_40 : decode cX12_nameHere 40 = .ok (.invokevirtual 368, 3) := by decide +kernel
theorem dX12_nameHere_43 : decode cX12_nameHere 43 = .ok (.ifCond .eq 5, 3) := by decide +kernel
theorem dX12_nameHere_46 : decode cX12_nameHere 46 = .ok (.iconst 3, 1) := by decide +kernel
theorem dX12_nameHere_47 : decode cX12_nameHere 47 = .ok (.ireturn, 1) := by decide +kernel
theorem dX12_nameHere_48 : decode cX12_nameHere 48 = .ok (.aload_n 0, 1) := by decide +kernel
theorem dX12_nameHere_49 : decode cX12_nameHere 49 = .ok (.ldc_w 440, 3) := by decide +kernel
theorem dX12_nameHere_52 : decode cX12_nameHere 52 = .ok (.invokevirtual 368, 3) := by decide +kernel
theorem dX12_nameHere_55 : decode cX12_nameHere 55 = .ok (.ifCond .eq 5, 3) := by decide +kernel
theorem dX12_nameHere_58 : decode cX12_nameHere 58 = .ok (.iconst 4, 1) := by decide +kernel
theorem dX12_nameHere_59 : decode cX12_nameHere 59 = .ok (.ireturn, 1) := by decide +kernel
theorem dX12_nameHere_60 : decode cX12_nameHere 60 = .ok (.aload_n 0, 1) := by decide +kernel
theorem dX12_nameHere_61 : decode cX12_nameHere 61 = .ok (.ldc_w 442, 3) := by decide +kernel
theorem dX12_nameHere_64 : decode cX12_nameHere 64 = .ok (.invokevirtual 368, 3) := by decide +kernel
theorem dX12_nameHere_67 : decode cX12_nameHere 67 = .ok (.ifCond .eq 5, 3) := by decide +kernel
theorem dX12_nameHere_70 : decode cX12_nameHere 70 = .ok (.iconst 5, 1) := by decide +kernel
theorem dX12_nameHere_71 : decode cX12_nameHere 71 = .ok (.ireturn, 1) := by decide +kernel
theorem dX12_nameHere_72 : decode cX12_nameHere 72 = .ok (.aload_n 0, 1) := by decide +kernel
theorem dX12_nameHere_73 : decode cX12_nameHere 73 = .ok (.ldc_w 444, 3) := by decide +kernel
theorem dX12_nameHere_76 : decode cX12_nameHere 76 = .ok (.invokevirtual 368, 3) := by decide +kernel
theorem dX12_nameHere_79 : decode cX12_nameHere 79 = .ok (.ifCond .eq 6, 3) := by decide +kernel
theorem dX12_nameHere_82 : decode cX12_nameHere 82 = .ok (.bipush 6, 2) := by decide +kernel
theorem dX12_nameHere_84 : decode cX12_nameHere 84 = .ok (.ireturn, 1) := by decide +kernel
theorem dX12_nameHere_85 : decode cX12_nameHere 85 = .ok (.aload_n 0, 1) := by decide +kernel
theorem dX12_nameHere_86 : decode cX12_nameHere 86 = .ok (.ldc_w 446, 3) := by decide +kernel
theorem dX12_nameHere_89 : decode cX12_nameHere 89 = .ok (.invokevirtual 368, 3) := by decide +kernel
theorem dX12_nameHere_92 : decode cX12_nameHere 92 = .ok (.ifCond .eq 6, 3) := by decide +kernel
theorem dX12_nameHere_95 : decode cX12_nameHere 95 = .ok (.bipush 7, 2) := by decide +kernel
theorem dX12_nameHere_97 : decode cX12_nameHere 97 = .ok (.ireturn, 1) := by decide +kernel
theorem dX12_nameHere_98 : decode cX12_nameHere 98 = .ok (.aload_n 0, 1) := by decide +kernel
theorem dX12_nameHere_99 : decode cX12_nameHere 99 = .ok (.ldc_w 448, 3) := by decide +kernel
theorem dX12_nameHere_102 : decode cX12_nameHere 102 = .ok (.invokevirtual 368, 3) := by decide +kernel
theorem dX12_nameHere_105 : decode cX12_nameHere 105 = .ok (.ifCond .eq 8, 3) := by decide +kernel
theorem dX12_nameHere_108 : decode cX12_nameHere 108 = .ok (.bipush 8, 2) := by decide +kernel
theorem dX12_nameHere_110 : decode cX12_nameHere 110 = .ok (.goto 4, 3) := by decide +kernel
theorem dX12_nameHere_113 : decode cX12_nameHere 113 = .ok (.iconst (-1), 1) := by decide +kernel
theorem dX12_nameHere_114 : decode cX12_nameHere 114 = .ok (.ireturn, 1) := by decide +kernel
theorem dX12_readTerm_0 : decode cX12_readTerm 0 = .ok (.aload_n 0, 1) := by decide +kernel
theorem dX12_readTerm_1 : decode cX12_readTerm 1 = .ok (.getfield 343, 3) := by decide +kernel
theorem dX12_readTerm_4 : decode cX12_readTerm 4 = .ok (.iconst 3, 1) := by decide +kernel
theorem dX12_readTerm_5 : decode cX12_readTerm 5 = .ok (.if_icmp .eq 11, 3) := by decide +kernel
theorem dX12_readTerm_8 : decode cX12_readTerm 8 = .ok (.aload_n 0, 1) := by decide +kernel
theorem dX12_readTerm_9 : decode cX12_readTerm 9 = .ok (.getfield 343, 3) := by decide +kernel
theorem dX12_readTerm_12 : decode cX12_readTerm 12 = .ok (.iconst 2, 1) := by decide +kernel
theorem dX12_readTerm_13 : decode cX12_readTerm 13 = .ok (.if_icmp .ne 10, 3) := by decide +kernel
theorem dX12_readTerm_16 : decode cX12_readTerm 16 = .ok (.aload_n 0, 1) := by decide +kernel
theorem dX12_readTerm_17 : decode cX12_readTerm 17 = .ok (.invokevirtual 394, 3) := by decide +kernel
theorem dX12_readTerm_20 : decode cX12_readTerm 20 = .ok (.ifCond .eq 9, 3) := by decide +kernel
theorem dX12_readTerm_23 : decode cX12_readTerm 23 = .ok (.aload_n 0, 1) := by decide +kernel
theorem dX12_readTerm_24 : decode cX12_readTerm 24 = .ok (.iconst 1, 1) := by decide +kernel
theorem dX12_readTerm_25 : decode cX12_readTerm 25 = .ok (.invokevirtual 397, 3) := by decide +kernel
theorem dX12_readTerm_28 : decode cX12_readTerm 28 = .ok (.athrow, 1) := by decide +kernel
theorem dX12_readTerm_29 : decode cX12_readTerm 29 = .ok (.aload_n 0, 1) := by decide +kernel
theorem dX12_readTerm_30 : decode cX12_readTerm 30 = .ok (.getfield 343, 3) := by decide +kernel
theorem dX12_readTerm_33 : decode cX12_readTerm 33 = .ok (.iconst 2, 1) := by decide +kernel
theorem dX12_readTerm_34 : decode cX12_readTerm 34 = .ok (.if_icmp .ne 17, 3) := by decide +kernel
theorem dX12_readTerm_37 : decode cX12_readTerm 37 = .ok (.aload_n 0, 1) := by decide +kernel
theorem dX12_readTerm_38 : decode cX12_readTerm 38 = .ok (.invokevirtual 450, 3) := by decide +kernel
theorem dX12_readTerm_41 : decode cX12_readTerm 41 = .ok (.iconst (-1), 1) := by decide +kernel
theorem dX12_readTerm_42 : decode cX12_readTerm 42 = .ok (.if_icmp .ne 9, 3) := by decide +kernel
theorem dX12_readTerm_45 : decode cX12_readTerm 45 = .ok (.aload_n 0, 1) := by decide +kernel
theorem dX12_readTerm_46 : decode cX12_readTerm 46 = .ok (.iconst 2, 1) := by decide +kernel
theorem dX12_readTerm_47 : decode cX12_readTerm 47 = .ok (.invokevirtual 397, 3) := by decide +kernel
theorem dX12_readTerm_50 : decode cX12_readTerm 50 = .ok (.athrow, 1) := by decide +kernel
theorem dX12_readTerm_51 : decode cX12_readTerm 51 = .ok (.aload_n 0, 1) := by decide +kernel
theorem dX12_readTerm_52 : decode cX12_readTerm 52 = .ok (.getfield 388, 3) := by decide +kernel
theorem dX12_readTerm_55 : decode cX12_readTerm 55 = .ok (.bipush 30, 2) := by decide +kernel
theorem dX12_readTerm_57 : decode cX12_readTerm 57 = .ok (.if_icmp .ne 9, 3) := by decide +kernel
theorem dX12_readTerm_60 : decode cX12_readTerm 60 = .ok (.aload_n 0, 1) := by decide +kernel
theorem dX12_readTerm_61 : decode cX12_readTerm 61 = .ok (.iconst 3, 1) := by decide +kernel
theorem dX12_readTerm_62 : decode cX12_readTerm 62 = .ok (.invokevirtual 397, 3) := by decide +kernel
theorem dX12_readTerm_65 : decode cX12_readTerm 65 = .ok (.athrow, 1) := by decide +kernel
theorem dX12_readTerm_66 : decode cX12_readTerm 66 = .ok (.aload_n 0, 1) := by decide +kernel
theorem dX12_readTerm_67 : decode cX12_readTerm 67 = .ok (.dup, 1) := by decide +kernel
theorem dX12_readTerm_68 : decode cX12_readTerm 68 = .ok (.getfield 388, 3) := by decide +kernel
theorem dX12_readTerm_71 : decode cX12_readTerm 71 = .ok (.iconst 1, 1) := by decide +kernel
theorem dX12_readTerm_72 : decode cX12_readTerm 72 = .ok (.iadd, 1) := by decide +kernel
theorem dX12_readTerm_73 : decode cX12_readTerm 73 = .ok (.putfield 388, 3) := by decide +kernel
theorem dX12_readTerm_76 : decode cX12_readTerm 76 = .ok (.aload_n 0, 1) := by decide +kernel
theorem dX12_readTerm_77 : decode cX12_readTerm 77 = .ok (.invokevirtual 378, 3) := by decide +kernel
theorem dX12_readTerm_80 : decode cX12_readTerm 80 = .ok (.aload_n 0, 1) := by decide +kernel
theorem dX12_readTerm_81 : decode cX12_readTerm 81 = .ok (.getfield 343, 3) := by decide +kernel
theorem dX12_readTerm_84 : decode cX12_readTerm 84 = .ok (.iconst 3, 1) := by decide +kernel
theorem dX12_readTerm_85 : decode cX12_readTerm 85 = .ok (.if_icmp .ne 7, 3) := by decide +kernel
theorem dX12_readTerm_88 : decode cX12_readTerm 88 = .ok (.iconst 0, 1) := by decide +kernel
theorem dX12_readTerm_89 : decode cX12_readTerm 89 = .ok (.goto 4, 3) := by decide +kernel
theorem dX12_readTerm_92 : decode cX12_readTerm 92 = .ok (.iconst 1, 1) := by decide +kernel
theorem dX12_readTerm_93 : decode cX12_readTerm 93 = .ok (.aload_n 0, 1) := by decide +kernel
theorem dX12_readTerm_94 : decode cX12_readTerm 94 = .ok (.getfield 343, 3) := by decide +kernel
theorem dX12_readTerm_97 : decode cX12_readTerm 97 = .ok (.iconst 3, 1) := by decide +kernel
theorem dX12_readTerm_98 : decode cX12_readTerm 98 = .ok (.if_icmp .ne 10, 3) := by decide +kernel
theorem dX12_readTerm_101 : decode cX12_readTerm 101 = .ok (.aload_n 0, 1) := by decide +kernel
theorem dX12_readTerm_102 : decode cX12_readTerm 102 = .ok (.getfield 359, 3) := by decide +kernel
theorem dX12_readTerm_105 : decode cX12_readTerm 105 = .ok (.goto 7, 3) := by decide +kernel
theorem dX12_readTerm_108 : decode cX12_readTerm 108 = .ok (.aload_n 0, 1) := by decide +kernel
theorem dX12_readTerm_109 : decode cX12_readTerm 109 = .ok (.invokevirtual 450, 3) := by decide +kernel
theorem dX12_readTerm_112 : decode cX12_readTerm 112 = .ok (.invokevirtual 417, 3) := by decide +kernel
theorem dX12_readTerm_115 : decode cX12_readTerm 115 = .ok (.aload_n 0, 1) := by decide +kernel
theorem dX12_readTerm_116 : decode cX12_readTerm 116 = .ok (.invokevirtual 391, 3) := by decide +kernel
theorem dX12_readTerm_119 : decode cX12_readTerm 119 = .ok (.return_, 1) := by decide +kernel
theorem dX12_feed_0 : decode cX12_feed 0 = .ok (.aload_n 0, 1) := by decide +kernel
theorem dX12_feed_1 : decode cX12_feed 1 = .ok (.iconst 0, 1) := by decide +kernel
theorem dX12_feed_2 : decode cX12_feed 2 = .ok (.putfield 1, 3) := by decide +kernel
theorem dX12_feed_5 : decode cX12_feed 5 = .ok (.aload_n 0, 1) := by decide +kernel
theorem dX12_feed_6 : decode cX12_feed 6 = .ok (.getfield 453, 3) := by decide +kernel
theorem dX12_feed_9 : decode cX12_feed 9 = .ok (.bipush 20, 2) := by decide +kernel
theorem dX12_feed_11 : decode cX12_feed 11 = .ok (.iadd, 1) := by decide +kernel
theorem dX12_feed_12 : decode cX12_feed 12 = .ok (.sipush 300, 3) := by decide +kernel
theorem dX12_feed_15 : decode cX12_feed 15 = .ok (.if_icmp .le 5, 3) := by decide +kernel
theorem dX12_feed_18 : decode cX12_feed 18 = .ok (.iconst (-1), 1) := by decide +kernel
theorem dX12_feed_19 : decode cX12_feed 19 = .ok (.ireturn, 1) := by decide +kernel
theorem dX12_feed_20 : decode cX12_feed 20 = .ok (.iconst 0, 1) := by decide +kernel
theorem dX12_feed_21 : decode cX12_feed 21 = .ok (.istore 6, 2) := by decide +kernel
theorem dX12_feed_23 : decode cX12_feed 23 = .ok (.iload 6, 2) := by decide +kernel
theorem dX12_feed_25 : decode cX12_feed 25 = .ok (.bipush 20, 2) := by decide +kernel
theorem dX12_feed_27 : decode cX12_feed 27 = .ok (.if_icmp .ge 90, 3) := by decide +kernel
theorem dX12_feed_30 : decode cX12_feed 30 = .ok (.iload 6, 2) := by decide +kernel
theorem dX12_feed_32 : decode cX12_feed 32 = .ok (.iconst 4, 1) := by decide +kernel
theorem dX12_feed_33 : decode cX12_feed 33 = .ok (.if_icmp .ge 7, 3) := by decide +kernel
theorem dX12_feed_36 : decode cX12_feed 36 = .ok (.iload_n 1, 1) := by decide +kernel
theorem dX12_feed_37 : decode cX12_feed 37 = .ok (.goto 39, 3) := by decide +kernel
theorem dX12_feed_40 : decode cX12_feed 40 = .ok (.iload 6, 2) := by decide +kernel
theorem dX12_feed_42 : decode cX12_feed 42 = .ok (.bipush 8, 2) := by decide +kernel
theorem dX12_feed_44 : decode cX12_feed 44 = .ok (.if_icmp .ge 7, 3) := by decide +kernel
theorem dX12_feed_47 : decode cX12_feed 47 = .ok (.iload_n 2, 1) := by decide +kernel
theorem dX12_feed_48 : decode cX12_feed 48 = .ok (.goto 28, 3) := by decide +kernel
theorem dX12_feed_51 : decode cX12_feed 51 = .ok (.iload 6, 2) := by decide +kernel
theorem dX12_feed_53 : decode cX12_feed 53 = .ok (.bipush 12, 2) := by decide +kernel
theorem dX12_feed_55 : decode cX12_feed 55 = .ok (.if_icmp .ge 7, 3) := by decide +kernel
theorem dX12_feed_58 : decode cX12_feed 58 = .ok (.iload_n 3, 1) := by decide +kernel
theorem dX12_feed_59 : decode cX12_feed 59 = .ok (.goto 17, 3) := by decide +kernel
theorem dX12_feed_62 : decode cX12_feed 62 = .ok (.iload 6, 2) := by decide +kernel
theorem dX12_feed_64 : decode cX12_feed 64 = .ok (.bipush 16, 2) := by decide +kernel
theorem dX12_feed_66 : decode cX12_feed 66 = .ok (.if_icmp .ge 8, 3) := by decide +kernel
theorem dX12_feed_69 : decode cX12_feed 69 = .ok (.iload 4, 2) := by decide +kernel
theorem dX12_feed_71 : decode cX12_feed 71 = .ok (.goto 5, 3) := by decide +kernel
theorem dX12_feed_74 : decode cX12_feed 74 = .ok (.iload 5, 2) := by decide +kernel
theorem dX12_feed_76 : decode cX12_feed 76 = .ok (.istore 7, 2) := by decide +kernel
theorem dX12_feed_78 : decode cX12_feed 78 = .ok (.aload_n 0, 1) := by decide +kernel
theorem dX12_feed_79 : decode cX12_feed 79 = .ok (.getfield 130, 3) := by decide +kernel
theorem dX12_feed_82 : decode cX12_feed 82 = .ok (.aload_n 0, 1) := by decide +kernel
theorem dX12_feed_83 : decode cX12_feed 83 = .ok (.getfield 453, 3) := by decide +kernel
theorem dX12_feed_86 : decode cX12_feed 86 = .ok (.iload 7, 2) := by decide +kernel
theorem dX12_feed_88 : decode cX12_feed 88 = .ok (.bipush 24, 2) := by decide +kernel
theorem dX12_feed_90 : decode cX12_feed 90 = .ok (.bipush 8, 2) := by decide +kernel
theorem dX12_feed_92 : decode cX12_feed 92 = .ok (.iload 6, 2) := by decide +kernel
theorem dX12_feed_94 : decode cX12_feed 94 = .ok (.iconst 4, 1) := by decide +kernel
theorem dX12_feed_95 : decode cX12_feed 95 = .ok (.irem, 1) := by decide +kernel
theorem dX12_feed_96 : decode cX12_feed 96 = .ok (.imul, 1) := by decide +kernel
theorem dX12_feed_97 : decode cX12_feed 97 = .ok (.isub, 1) := by decide +kernel
theorem dX12_feed_98 : decode cX12_feed 98 = .ok (.ishr, 1) := by decide +kernel
theorem dX12_feed_99 : decode cX12_feed 99 = .ok (.i2b, 1) := by decide +kernel
theorem dX12_feed_100 : decode cX12_feed 100 = .ok (.bastore, 1) := by decide +kernel
theorem dX12_feed_101 : decode cX12_feed 101 = .ok (.aload_n 0, 1) := by decide +kernel
theorem dX12_feed_102 : decode cX12_feed 102 = .ok (.dup, 1) := by decide +kernel
theorem dX12_feed_103 : decode cX12_feed 103 = .ok (.getfield 453, 3) := by decide +kernel
theorem dX12_feed_106 : decode cX12_feed 106 = .ok (.iconst 1, 1) := by decide +kernel
theorem dX12_feed_107 : decode cX12_feed 107 = .ok (.iadd, 1) := by decide +kernel
theorem dX12_feed_108 : decode cX12_feed 108 = .ok (.putfield 453, 3) := by decide +kernel
theorem dX12_feed_111 : decode cX12_feed 111 = .ok (.iinc 6 1, 3) := by decide +kernel
theorem dX12_feed_114 : decode cX12_feed 114 = .ok (.goto (-91), 3) := by decide +kernel
theorem dX12_feed_117 : decode cX12_feed 117 = .ok (.aload_n 0, 1) := by decide +kernel
theorem dX12_feed_118 : decode cX12_feed 118 = .ok (.getfield 453, 3) := by decide +kernel
theorem dX12_feed_121 : decode cX12_feed 121 = .ok (.ireturn, 1) := by decide +kernel
theorem dX12_rule_0 : decode cX12_rule 0 = .ok (.aload_n 0, 1) := by decide +kernel
theorem dX12_rule_1 : decode cX12_rule 1 = .ok (.iconst 0, 1) := by decide +kernel
theorem dX12_rule_2 : decode cX12_rule 2 = .ok (.putfield 1, 3) := by decide +kernel
theorem dX12_rule_5 : decode cX12_rule 5 = .ok (.iload_n 1, 1) := by decide +kernel
theorem dX12_rule_6 : decode cX12_rule 6 = .ok (.ifCond .lt 11, 3) := by decide +kernel
theorem dX12_rule_9 : decode cX12_rule 9 = .ok (.iload_n 1, 1) := by decide +kernel
theorem dX12_rule_10 : decode cX12_rule 10 = .ok (.aload_n 0, 1) := by decide +kernel
theorem dX12_rule_11 : decode cX12_rule 11 = .ok (.getfield 453, 3) := by decide +kernel
theorem dX12_rule_14 : decode cX12_rule 14 = .ok (.if_icmp .le 9, 3) := by decide +kernel
theorem dX12_rule_17 : decode cX12_rule 17 = .ok (.aload_n 0, 1) := by decide +kernel
theorem dX12_rule_18 : decode cX12_rule 18 = .ok (.iconst 2, 1) := by decide +kernel
theorem dX12_rule_19 : decode cX12_rule 19 = .ok (.invokevirtual 274, 3) := by decide +kernel
theorem dX12_rule_22 : decode cX12_rule 22 = .ok (.ireturn, 1) := by decide +kernel
theorem dX12_rule_23 : decode cX12_rule 23 = .ok (.aload_n 0, 1) := by decide +kernel
theorem dX12_rule_24 : decode cX12_rule 24 = .ok (.iload_n 1, 1) := by decide +kernel
theorem dX12_rule_25 : decode cX12_rule 25 = .ok (.putfield 323, 3) := by decide +kernel
theorem dX12_rule_28 : decode cX12_rule 28 = .ok (.aload_n 0, 1) := by decide +kernel
theorem dX12_rule_29 : decode cX12_rule 29 = .ok (.iconst 0, 1) := by decide +kernel
theorem dX12_rule_30 : decode cX12_rule 30 = .ok (.putfield 453, 3) := by decide +kernel
theorem dX12_rule_33 : decode cX12_rule 33 = .ok (.aload_n 0, 1) := by decide +kernel
theorem dX12_rule_34 : decode cX12_rule 34 = .ok (.iconst 0, 1) := by decide +kernel
theorem dX12_rule_35 : decode cX12_rule 35 = .ok (.putfield 456, 3) := by decide +kernel
theorem dX12_rule_38 : decode cX12_rule 38 = .ok (.aload_n 0, 1) := by decide +kernel
theorem dX12_rule_39 : decode cX12_rule 39 = .ok (.invokevirtual 459, 3) := by decide +kernel
theorem dX12_rule_42 : decode cX12_rule 42 = .ok (.goto 27, 3) := by decide +kernel
theorem dX12_rule_45 : decode cX12_rule 45 = .ok (.astore_n 2, 1) := by decide +kernel
theorem dX12_rule_46 : decode cX12_rule 46 = .ok (.aload_n 0, 1) := by decide +kernel
theorem dX12_rule_47 : decode cX12_rule 47 = .ok (.aload_n 2, 1) := by decide +kernel
theorem dX12_rule_48 : decode cX12_rule 48 = .ok (.getfield 316, 3) := by decide +kernel
theorem dX12_rule_51 : decode cX12_rule 51 = .ok (.putfield 456, 3) := by decide +kernel
theorem dX12_rule_54 : decode cX12_rule 54 = .ok (.aload_n 0, 1) := by decide +kernel
theorem dX12_rule_55 : decode cX12_rule 55 = .ok (.iconst 4, 1) := by decide +kernel
theorem dX12_rule_56 : decode cX12_rule 56 = .ok (.putfield 7, 3) := by decide +kernel
theorem dX12_rule_59 : decode cX12_rule 59 = .ok (.aload_n 0, 1) := by decide +kernel
theorem dX12_rule_60 : decode cX12_rule 60 = .ok (.aload_n 2, 1) := by decide +kernel
theorem dX12_rule_61 : decode cX12_rule 61 = .ok (.getfield 322, 3) := by decide +kernel
theorem dX12_rule_64 : decode cX12_rule 64 = .ok (.putfield 10, 3) := by decide +kernel
theorem dX12_rule_67 : decode cX12_rule 67 = .ok (.iconst (-1), 1) := by decide +kernel
theorem dX12_rule_68 : decode cX12_rule 68 = .ok (.ireturn, 1) := by decide +kernel
theorem dX12_rule_69 : decode cX12_rule 69 = .ok (.aload_n 0, 1) := by decide +kernel
theorem dX12_rule_70 : decode cX12_rule 70 = .ok (.getfield 312, 3) := by decide +kernel
theorem dX12_rule_73 : decode cX12_rule 73 = .ok (.bipush 16, 2) := by decide +kernel
theorem dX12_rule_75 : decode cX12_rule 75 = .ok (.if_icmp .ne 9, 3) := by decide +kernel
theorem dX12_rule_78 : decode cX12_rule 78 = .ok (.aload_n 0, 1) := by decide +kernel
theorem dX12_rule_79 : decode cX12_rule 79 = .ok (.iconst 3, 1) := by decide +kernel
theorem dX12_rule_80 : decode cX12_rule 80 = .ok (.invokevirtual 274, 3) := by decide +kernel
theorem dX12_rule_83 : decode cX12_rule 83 = .ok (.ireturn, 1) := by decide +kernel
theorem dX12_rule_84 : decode cX12_rule 84 = .ok (.aload_n 0, 1) := by decide +kernel
theorem dX12_rule_85 : decode cX12_rule 85 = .ok (.dup, 1) := by decide +kernel
theorem dX12_rule_86 : decode cX12_rule 86 = .ok (.getfield 312, 3) := by decide +kernel
theorem dX12_rule_89 : decode cX12_rule 89 = .ok (.iconst 1, 1) := by decide +kernel
theorem dX12_rule_90 : decode cX12_rule 90 = .ok (.iadd, 1) := by decide +kernel
theorem dX12_rule_91 : decode cX12_rule 91 = .ok (.putfield 312, 3) := by decide +kernel
theorem dX12_rule_94 : decode cX12_rule 94 = .ok (.aload_n 0, 1) := by decide +kernel
theorem dX12_rule_95 : decode cX12_rule 95 = .ok (.aload_n 0, 1) := by decide +kernel
theorem dX12_rule_96 : decode cX12_rule 96 = .ok (.getfield 312, 3) := by decide +kernel
theorem dX12_rule_99 : decode cX12_rule 99 = .ok (.iconst 1, 1) := by decide +kernel
theorem dX12_rule_100 : decode cX12_rule 100 = .ok (.isub, 1) := by decide +kernel
theorem dX12_rule_101 : decode cX12_rule 101 = .ok (.invokevirtual 277, 3) := by decide +kernel
theorem dX12_rule_104 : decode cX12_rule 104 = .ok (.ireturn, 1) := by decide +kernel
theorem dX12_fault_0 : decode cX12_fault 0 = .ok (.aload_n 0, 1) := by decide +kernel
theorem dX12_fault_1 : decode cX12_fault 1 = .ok (.iconst 0, 1) := by decide +kernel
theorem dX12_fault_2 : decode cX12_fault 2 = .ok (.putfield 1, 3) := by decide +kernel
theorem dX12_fault_5 : decode cX12_fault 5 = .ok (.aload_n 0, 1) := by decide +kernel
theorem dX12_fault_6 : decode cX12_fault 6 = .ok (.getfield 456, 3) := by decide +kernel
theorem dX12_fault_9 : decode cX12_fault 9 = .ok (.ireturn, 1) := by decide +kernel
theorem dX12_where_0 : decode cX12_where 0 = .ok (.aload_n 0, 1) := by decide +kernel
theorem dX12_where_1 : decode cX12_where 1 = .ok (.iconst 0, 1) := by decide +kernel
theorem dX12_where_2 : decode cX12_where 2 = .ok (.putfield 1, 3) := by decide +kernel
theorem dX12_where_5 : decode cX12_where 5 = .ok (.aload_n 0, 1) := by decide +kernel
theorem dX12_where_6 : decode cX12_where 6 = .ok (.getfield 10, 3) := by decide +kernel
theorem dX12_where_9 : decode cX12_where 9 = .ok (.ireturn, 1) := by decide +kernel
theorem dX12_repeal_0 : decode cX12_repeal 0 = .ok (.aload_n 0, 1) := by decide +kernel
theorem dX12_repeal_1 : decode cX12_repeal 1 = .ok (.iconst 0, 1) := by decide +kernel
theorem dX12_repeal_2 : decode cX12_repeal 2 = .ok (.putfield 1, 3) := by decide +kernel
theorem dX12_repeal_5 : decode cX12_repeal 5 = .ok (.iload_n 1, 1) := by decide +kernel
theorem dX12_repeal_6 : decode cX12_repeal 6 = .ok (.ifCond .lt 11, 3) := by decide +kernel
theorem dX12_repeal_9 : decode cX12_repeal 9 = .ok (.iload_n 1, 1) := by decide +kernel
theorem dX12_repeal_10 : decode cX12_repeal 10 = .ok (.aload_n 0, 1) := by decide +kernel
theorem dX12_repeal_11 : decode cX12_repeal 11 = .ok (.getfield 312, 3) := by decide +kernel
theorem dX12_repeal_14 : decode cX12_repeal 14 = .ok (.if_icmp .lt 9, 3) := by decide +kernel
theorem dX12_repeal_17 : decode cX12_repeal 17 = .ok (.aload_n 0, 1) := by decide +kernel
theorem dX12_repeal_18 : decode cX12_repeal 18 = .ok (.iconst 1, 1) := by decide +kernel
theorem dX12_repeal_19 : decode cX12_repeal 19 = .ok (.invokevirtual 207, 3) := by decide +kernel
theorem dX12_repeal_22 : decode cX12_repeal 22 = .ok (.ireturn, 1) := by decide +kernel
theorem dX12_repeal_23 : decode cX12_repeal 23 = .ok (.aload_n 0, 1) := by decide +kernel
theorem dX12_repeal_24 : decode cX12_repeal 24 = .ok (.getfield 119, 3) := by decide +kernel
theorem dX12_repeal_27 : decode cX12_repeal 27 = .ok (.iload_n 1, 1) := by decide +kernel
theorem dX12_repeal_28 : decode cX12_repeal 28 = .ok (.aaload, 1) := by decide +kernel
theorem dX12_repeal_29 : decode cX12_repeal 29 = .ok (.astore_n 2, 1) := by decide +kernel
theorem dX12_repeal_30 : decode cX12_repeal 30 = .ok (.aload_n 0, 1) := by decide +kernel
theorem dX12_repeal_31 : decode cX12_repeal 31 = .ok (.dup, 1) := by decide +kernel
theorem dX12_repeal_32 : decode cX12_repeal 32 = .ok (.getfield 312, 3) := by decide +kernel
theorem dX12_repeal_35 : decode cX12_repeal 35 = .ok (.iconst 1, 1) := by decide +kernel
theorem dX12_repeal_36 : decode cX12_repeal 36 = .ok (.isub, 1) := by decide +kernel
theorem dX12_repeal_37 : decode cX12_repeal 37 = .ok (.putfield 312, 3) := by decide +kernel
theorem dX12_repeal_40 : decode cX12_repeal 40 = .ok (.iload_n 1, 1) := by decide +kernel
theorem dX12_repeal_41 : decode cX12_repeal 41 = .ok (.istore_n 3, 1) := by decide +kernel
theorem dX12_repeal_42 : decode cX12_repeal 42 = .ok (.iload_n 3, 1) := by decide +kernel
theorem dX12_repeal_43 : decode cX12_repeal 43 = .ok (.aload_n 0, 1) := by decide +kernel
theorem dX12_repeal_44 : decode cX12_repeal 44 = .ok (.getfield 312, 3) := by decide +kernel
theorem dX12_repeal_47 : decode cX12_repeal 47 = .ok (.if_icmp .ge 23, 3) := by decide +kernel
theorem dX12_repeal_50 : decode cX12_repeal 50 = .ok (.aload_n 0, 1) := by decide +kernel
theorem dX12_repeal_51 : decode cX12_repeal 51 = .ok (.getfield 119, 3) := by decide +kernel
theorem dX12_repeal_54 : decode cX12_repeal 54 = .ok (.iload_n 3, 1) := by decide +kernel
theorem dX12_repeal_55 : decode cX12_repeal 55 = .ok (.aload_n 0, 1) := by decide +kernel
theorem dX12_repeal_56 : decode cX12_repeal 56 = .ok (.getfield 119, 3) := by decide +kernel
theorem dX12_repeal_59 : decode cX12_repeal 59 = .ok (.iload_n 3, 1) := by decide +kernel
theorem dX12_repeal_60 : decode cX12_repeal 60 = .ok (.iconst 1, 1) := by decide +kernel
theorem dX12_repeal_61 : decode cX12_repeal 61 = .ok (.iadd, 1) := by decide +kernel
theorem dX12_repeal_62 : decode cX12_repeal 62 = .ok (.aaload, 1) := by decide +kernel
theorem dX12_repeal_63 : decode cX12_repeal 63 = .ok (.aastore, 1) := by decide +kernel
theorem dX12_repeal_64 : decode cX12_repeal 64 = .ok (.iinc 3 1, 3) := by decide +kernel
theorem dX12_repeal_67 : decode cX12_repeal 67 = .ok (.goto (-25), 3) := by decide +kernel
theorem dX12_repeal_70 : decode cX12_repeal 70 = .ok (.aload_n 0, 1) := by decide +kernel
theorem dX12_repeal_71 : decode cX12_repeal 71 = .ok (.getfield 119, 3) := by decide +kernel
theorem dX12_repeal_74 : decode cX12_repeal 74 = .ok (.aload_n 0, 1) := by decide +kernel
theorem dX12_repeal_75 : decode cX12_repeal 75 = .ok (.getfield 312, 3) := by decide +kernel
theorem dX12_repeal_78 : decode cX12_repeal 78 = .ok (.aload_n 2, 1) := by decide +kernel
theorem dX12_repeal_79 : decode cX12_repeal 79 = .ok (.aastore, 1) := by decide +kernel
theorem dX12_repeal_80 : decode cX12_repeal 80 = .ok (.aload_n 0, 1) := by decide +kernel
theorem dX12_repeal_81 : decode cX12_repeal 81 = .ok (.invokevirtual 215, 3) := by decide +kernel
theorem dX12_repeal_84 : decode cX12_repeal 84 = .ok (.ireturn, 1) := by decide +kernel
theorem dX12_wind_0 : decode cX12_wind 0 = .ok (.aload_n 0, 1) := by decide +kernel
theorem dX12_wind_1 : decode cX12_wind 1 = .ok (.iconst 0, 1) := by decide +kernel
theorem dX12_wind_2 : decode cX12_wind 2 = .ok (.putfield 1, 3) := by decide +kernel
theorem dX12_wind_5 : decode cX12_wind 5 = .ok (.iload_n 1, 1) := by decide +kernel
theorem dX12_wind_6 : decode cX12_wind 6 = .ok (.iconst 0, 1) := by decide +kernel
theorem dX12_wind_7 : decode cX12_wind 7 = .ok (.bipush 99, 2) := by decide +kernel
theorem dX12_wind_9 : decode cX12_wind 9 = .ok (.invokestatic 211, 3) := by decide +kernel
theorem dX12_wind_12 : decode cX12_wind 12 = .ok (.ifCond .ne 9, 3) := by decide +kernel
theorem dX12_wind_15 : decode cX12_wind 15 = .ok (.aload_n 0, 1) := by decide +kernel
theorem dX12_wind_16 : decode cX12_wind 16 = .ok (.iconst 2, 1) := by decide +kernel
theorem dX12_wind_17 : decode cX12_wind 17 = .ok (.invokevirtual 207, 3) := by decide +kernel
theorem dX12_wind_20 : decode cX12_wind 20 = .ok (.ireturn, 1) := by decide +kernel
theorem dX12_wind_21 : decode cX12_wind 21 = .ok (.aload_n 0, 1) := by decide +kernel
theorem dX12_wind_22 : decode cX12_wind 22 = .ok (.iload_n 1, 1) := by decide +kernel
theorem dX12_wind_23 : decode cX12_wind 23 = .ok (.putfield 462, 3) := by decide +kernel
theorem dX12_wind_26 : decode cX12_wind 26 = .ok (.aload_n 0, 1) := by decide +kernel
theorem dX12_wind_27 : decode cX12_wind 27 = .ok (.invokevirtual 215, 3) := by decide +kernel
theorem dX12_wind_30 : decode cX12_wind 30 = .ok (.ireturn, 1) := by decide +kernel
theorem dX12_nameOf_0 : decode cX12_nameOf 0 = .ok (.iconst 0, 1) := by decide +kernel
theorem dX12_nameOf_1 : decode cX12_nameOf 1 = .ok (.istore 4, 2) := by decide +kernel
theorem dX12_nameOf_3 : decode cX12_nameOf 3 = .ok (.iload_n 1, 1) := by decide +kernel
theorem dX12_nameOf_4 : decode cX12_nameOf 4 = .ok (.tableswitch 191 0 7 #[48, 54, 77, 129, 136, 179, 184, 186], 48) := by decide +kernel
theorem dX12_nameOf_52 : decode cX12_nameOf 52 = .ok (.aload_n 0, 1) := by decide +kernel
theorem dX12_nameOf_53 : decode cX12_nameOf 53 = .ok (.iload_n 2, 1) := by decide +kernel
theorem dX12_nameOf_54 : decode cX12_nameOf 54 = .ok (.invokevirtual 235, 3) := by decide +kernel
theorem dX12_nameOf_57 : decode cX12_nameOf 57 = .ok (.ireturn, 1) := by decide +kernel
theorem dX12_nameOf_58 : decode cX12_nameOf 58 = .ok (.aload_n 0, 1) := by decide +kernel
theorem dX12_nameOf_59 : decode cX12_nameOf 59 = .ok (.iload_n 2, 1) := by decide +kernel
theorem dX12_nameOf_60 : decode cX12_nameOf 60 = .ok (.invokevirtual 271, 3) := by decide +kernel
theorem dX12_nameOf_63 : decode cX12_nameOf 63 = .ok (.istore 5, 2) := by decide +kernel
theorem dX12_nameOf_65 : decode cX12_nameOf 65 = .ok (.iload 5, 2) := by decide +kernel
theorem dX12_nameOf_67 : decode cX12_nameOf 67 = .ok (.bipush (-2), 2) := by decide +kernel
theorem dX12_nameOf_69 : decode cX12_nameOf 69 = .ok (.if_icmp .ne 9, 3) := by decide +kernel
theorem dX12_nameOf_72 : decode cX12_nameOf 72 = .ok (.sipush 999, 3) := by decide +kernel
theorem dX12_nameOf_75 : decode cX12_nameOf 75 = .ok (.goto 5, 3) := by decide +kernel
theorem dX12_nameOf_78 : decode cX12_nameOf 78 = .ok (.iload 5, 2) := by decide +kernel
theorem dX12_nameOf_80 : decode cX12_nameOf 80 = .ok (.ireturn, 1) := by decide +kernel
theorem dX12_nameOf_81 : decode cX12_nameOf 81 = .ok (.iconst 0, 1) := by decide +kernel
theorem dX12_nameOf_82 : decode cX12_nameOf 82 = .ok (.istore 5, 2) := by decide +kernel
theorem dX12_nameOf_84 : decode cX12_nameOf 84 = .ok (.iload 5, 2) := by decide +kernel
theorem dX12_nameOf_86 : decode cX12_nameOf 86 = .ok (.aload_n 0, 1) := by decide +kernel
theorem dX12_nameOf_87 : decode cX12_nameOf 87 = .ok (.getfield 246, 3) := by decide +kernel
theorem dX12_nameOf_90 : decode cX12_nameOf 90 = .ok (.if_icmp .ge 40, 3) := by decide +kernel
theorem dX12_nameOf_93 : decode cX12_nameOf 93 = .ok (.iload 4, 2) := by decide +kernel
theorem dX12_nameOf_95 : decode cX12_nameOf 95 = .ok (.aload_n 0, 1) := by decide +kernel
theorem dX12_nameOf_96 : decode cX12_nameOf 96 = .ok (.getfield 84, 3) := by decide +kernel
theorem dX12_nameOf_99 : decode cX12_nameOf 99 = .ok (.iload 5, 2) := by decide +kernel
theorem dX12_nameOf_101 : decode cX12_nameOf 101 = .ok (.iaload, 1) := by decide +kernel
theorem dX12_nameOf_102 : decode cX12_nameOf 102 = .ok (.iload_n 2, 1) := by decide +kernel
theorem dX12_nameOf_103 : decode cX12_nameOf 103 = .ok (.if_icmp .ne 17, 3) := by decide +kernel
theorem dX12_nameOf_106 : decode cX12_nameOf 106 = .ok (.aload_n 0, 1) := by decide +kernel
theorem dX12_nameOf_107 : decode cX12_nameOf 107 = .ok (.getfield 102, 3) := by decide +kernel
theorem dX12_nameOf_110 : decode cX12_nameOf 110 = .ok (.iload 5, 2) := by decide +kernel
theorem dX12_nameOf_112 : decode cX12_nameOf 112 = .ok (.baload, 1) := by decide +kernel
theorem dX12_nameOf_113 : decode cX12_nameOf 113 = .ok (.ifCond .eq 7, 3) := by decide +kernel
theorem dX12_nameOf_116 : decode cX12_nameOf 116 = .ok (.iconst 1, 1) := by decide +kernel
theorem dX12_nameOf_117 : decode cX12_nameOf 117 = .ok (.goto 4, 3) := by decide +kernel
theorem dX12_nameOf_120 : decode cX12_nameOf 120 = .ok (.iconst 0, 1) := by decide +kernel
theorem dX12_nameOf_121 : decode cX12_nameOf 121 = .ok (.iadd, 1) := by decide +kernel
theorem dX12_nameOf_122 : decode cX12_nameOf 122 = .ok (.istore 4, 2) := by decide +kernel
theorem dX12_nameOf_124 : decode cX12_nameOf 124 = .ok (.iinc 5 1, 3) := by decide +kernel
theorem dX12_nameOf_127 : decode cX12_nameOf 127 = .ok (.goto (-43), 3) := by decide +kernel
theorem dX12_nameOf_130 : decode cX12_nameOf 130 = .ok (.iload 4, 2) := by decide +kernel
theorem dX12_nameOf_132 : decode cX12_nameOf 132 = .ok (.ireturn, 1) := by decide +kernel
theorem dX12_nameOf_133 : decode cX12_nameOf 133 = .ok (.aload_n 0, 1) := by decide +kernel
theorem dX12_nameOf_134 : decode cX12_nameOf 134 = .ok (.getfield 38, 3) := by decide +kernel
theorem dX12_nameOf_137 : decode cX12_nameOf 137 = .ok (.iload_n 2, 1) := by decide +kernel
theorem dX12_nameOf_138 : decode cX12_nameOf 138 = .ok (.iaload, 1) := by decide +kernel
theorem dX12_nameOf_139 : decode cX12_nameOf 139 = .ok (.ireturn, 1) := by decide +kernel
theorem dX12_nameOf_140 : decode cX12_nameOf 140 = .ok (.iconst 0, 1) := by decide +kernel
theorem dX12_nameOf_141 : decode cX12_nameOf 141 = .ok (.istore 5, 2) := by decide +kernel
theorem dX12_nameOf_143 : decode cX12_nameOf 143 = .ok (.iload 5, 2) := by decide +kernel
theorem dX12_nameOf_145 : decode cX12_nameOf 145 = .ok (.bipush 10, 2) := by decide +kernel
theorem dX12_nameOf_147 : decode cX12_nameOf 147 = .ok (.if_icmp .ge 33, 3) := by decide +kernel
theorem dX12_nameOf_150 : decode cX12_nameOf 150 = .ok (.iload 4, 2) := by decide +kernel
theorem dX12_nameOf_152 : decode cX12_nameOf 152 = .ok (.aload_n 0, 1) := by decide +kernel
theorem dX12_nameOf_153 : decode cX12_nameOf 153 = .ok (.iload_n 2, 1) := by decide +kernel
theorem dX12_nameOf_154 : decode cX12_nameOf 154 = .ok (.iload 5, 2) := by decide +kernel
theorem dX12_nameOf_156 : decode cX12_nameOf 156 = .ok (.aload_n 0, 1) := by decide +kernel
theorem dX12_nameOf_157 : decode cX12_nameOf 157 = .ok (.getfield 223, 3) := by decide +kernel
theorem dX12_nameOf_160 : decode cX12_nameOf 160 = .ok (.invokevirtual 229, 3) := by decide +kernel
theorem dX12_nameOf_163 : decode cX12_nameOf 163 = .ok (.ifCond .eq 7, 3) := by decide +kernel
theorem dX12_nameOf_166 : decode cX12_nameOf 166 = .ok (.iconst 1, 1) := by decide +kernel
theorem dX12_nameOf_167 : decode cX12_nameOf 167 = .ok (.goto 4, 3) := by decide +kernel
theorem dX12_nameOf_170 : decode cX12_nameOf 170 = .ok (.iconst 0, 1) := by decide +kernel
theorem dX12_nameOf_171 : decode cX12_nameOf 171 = .ok (.iadd, 1) := by decide +kernel
theorem dX12_nameOf_172 : decode cX12_nameOf 172 = .ok (.istore 4, 2) := by decide +kernel
theorem dX12_nameOf_174 : decode cX12_nameOf 174 = .ok (.iinc 5 1, 3) := by decide +kernel
theorem dX12_nameOf_177 : decode cX12_nameOf 177 = .ok (.goto (-34), 3) := by decide +kernel
theorem dX12_nameOf_180 : decode cX12_nameOf 180 = .ok (.iload 4, 2) := by decide +kernel
theorem dX12_nameOf_182 : decode cX12_nameOf 182 = .ok (.ireturn, 1) := by decide +kernel
theorem dX12_nameOf_183 : decode cX12_nameOf 183 = .ok (.aload_n 0, 1) := by decide +kernel
theorem dX12_nameOf_184 : decode cX12_nameOf 184 = .ok (.getfield 462, 3) := by decide +kernel
theorem dX12_nameOf_187 : decode cX12_nameOf 187 = .ok (.ireturn, 1) := by decide +kernel
theorem dX12_nameOf_188 : decode cX12_nameOf 188 = .ok (.iload_n 2, 1) := by decide +kernel
theorem dX12_nameOf_189 : decode cX12_nameOf 189 = .ok (.ireturn, 1) := by decide +kernel
theorem dX12_nameOf_190 : decode cX12_nameOf 190 = .ok (.aload_n 0, 1) := by decide +kernel
theorem dX12_nameOf_191 : decode cX12_nameOf 191 = .ok (.getfield 223, 3) := by decide +kernel
theorem dX12_nameOf_194 : decode cX12_nameOf 194 = .ok (.ireturn, 1) := by decide +kernel
theorem dX12_nameOf_195 : decode cX12_nameOf 195 = .ok (.iload_n 3, 1) := by decide +kernel
theorem dX12_nameOf_196 : decode cX12_nameOf 196 = .ok (.ireturn, 1) := by decide +kernel
theorem dX12_holdsBy_0 : decode cX12_holdsBy 0 = .ok (.iconst 0, 1) := by decide +kernel
theorem dX12_holdsBy_1 : decode cX12_holdsBy 1 = .ok (.istore 4, 2) := by decide +kernel
theorem dX12_holdsBy_3 : decode cX12_holdsBy 3 = .ok (.iconst 0, 1) := by decide +kernel
theorem dX12_holdsBy_4 : decode cX12_holdsBy 4 = .ok (.istore 5, 2) := by decide +kernel
theorem dX12_holdsBy_6 : decode cX12_holdsBy 6 = .ok (.iload 5, 2) := by decide +kernel
theorem dX12_holdsBy_8 : decode cX12_holdsBy 8 = .ok (.aload_n 1, 1) := by decide +kernel
theorem dX12_holdsBy_9 : decode cX12_holdsBy 9 = .ok (.getfield 382, 3) := by decide +kernel
theorem dX12_holdsBy_12 : decode cX12_holdsBy 12 = .ok (.if_icmp .ge 273, 3) := by decide +kernel
theorem dX12_holdsBy_15 : decode cX12_holdsBy 15 = .ok (.aload_n 1, 1) := by decide +kernel
theorem dX12_holdsBy_16 : decode cX12_holdsBy 16 = .ok (.getfield 464, 3) := by decide +kernel
theorem dX12_holdsBy_19 : decode cX12_holdsBy 19 = .ok (.iload 5, 2) := by decide +kernel
theorem dX12_holdsBy_21 : decode cX12_holdsBy 21 = .ok (.iaload, 1) := by decide +kernel
theorem dX12_holdsBy_22 : decode cX12_holdsBy 22 = .ok (.istore 6, 2) := by decide +kernel
theorem dX12_holdsBy_24 : decode cX12_holdsBy 24 = .ok (.iload 6, 2) := by decide +kernel
theorem dX12_holdsBy_26 : decode cX12_holdsBy 26 = .ok (.ifCond .eq 9, 3) := by decide +kernel
theorem dX12_holdsBy_29 : decode cX12_holdsBy 29 = .ok (.iload 6, 2) := by decide +kernel
theorem dX12_holdsBy_31 : decode cX12_holdsBy 31 = .ok (.iconst 1, 1) := by decide +kernel
theorem dX12_holdsBy_32 : decode cX12_holdsBy 32 = .ok (.if_icmp .ne 44, 3) := by decide +kernel
theorem dX12_holdsBy_35 : decode cX12_holdsBy 35 = .ok (.aload_n 0, 1) := by decide +kernel
theorem dX12_holdsBy_36 : decode cX12_holdsBy 36 = .ok (.getfield 134, 3) := by decide +kernel
theorem dX12_holdsBy_39 : decode cX12_holdsBy 39 = .ok (.iload 4, 2) := by decide +kernel
theorem dX12_holdsBy_41 : decode cX12_holdsBy 41 = .ok (.iload 6, 2) := by decide +kernel
theorem dX12_holdsBy_43 : decode cX12_holdsBy 43 = .ok (.ifCond .ne 13, 3) := by decide +kernel
theorem dX12_holdsBy_46 : decode cX12_holdsBy 46 = .ok (.aload_n 1, 1) := by decide +kernel
theorem dX12_holdsBy_47 : decode cX12_holdsBy 47 = .ok (.getfield 467, 3) := by decide +kernel
theorem dX12_holdsBy_50 : decode cX12_holdsBy 50 = .ok (.iload 5, 2) := by decide +kernel
theorem dX12_holdsBy_52 : decode cX12_holdsBy 52 = .ok (.iaload, 1) := by decide +kernel
theorem dX12_holdsBy_53 : decode cX12_holdsBy 53 = .ok (.goto 16, 3) := by decide +kernel
theorem dX12_holdsBy_56 : decode cX12_holdsBy 56 = .ok (.aload_n 0, 1) := by decide +kernel
theorem dX12_holdsBy_57 : decode cX12_holdsBy 57 = .ok (.aload_n 1, 1) := by decide +kernel
theorem dX12_holdsBy_58 : decode cX12_holdsBy 58 = .ok (.getfield 467, 3) := by decide +kernel
theorem dX12_holdsBy_61 : decode cX12_holdsBy 61 = .ok (.iload 5, 2) := by decide +kernel
theorem dX12_holdsBy_63 : decode cX12_holdsBy 63 = .ok (.iaload, 1) := by decide +kernel
theorem dX12_holdsBy_64 : decode cX12_holdsBy 64 = .ok (.iload_n 2, 1) := by decide +kernel
theorem dX12_holdsBy_65 : decode cX12_holdsBy 65 = .ok (.iload_n 3, 1) := by decide +kernel
theorem dX12_holdsBy_66 : decode cX12_holdsBy 66 = .ok (.invokevirtual 470, 3) := by decide +kernel
theorem dX12_holdsBy_69 : decode cX12_holdsBy 69 = .ok (.iastore, 1) := by decide +kernel
theorem dX12_holdsBy_70 : decode cX12_holdsBy 70 = .ok (.iinc 4 1, 3) := by decide +kernel
theorem dX12_holdsBy_73 : decode cX12_holdsBy 73 = .ok (.goto 206, 3) := by decide +kernel
theorem dX12_holdsBy_76 : decode cX12_holdsBy 76 = .ok (.iload 6, 2) := by decide +kernel
theorem dX12_holdsBy_78 : decode cX12_holdsBy 78 = .ok (.bipush 7, 2) := by decide +kernel
theorem dX12_holdsBy_80 : decode cX12_holdsBy 80 = .ok (.if_icmp .ne 26, 3) := by decide +kernel
theorem dX12_holdsBy_83 : decode cX12_holdsBy 83 = .ok (.aload_n 0, 1) := by decide +kernel
theorem dX12_holdsBy_84 : decode cX12_holdsBy 84 = .ok (.getfield 134, 3) := by decide +kernel
theorem dX12_holdsBy_87 : decode cX12_holdsBy 87 = .ok (.iload 4, 2) := by decide +kernel
theorem dX12_holdsBy_89 : decode cX12_holdsBy 89 = .ok (.iconst 1, 1) := by decide +kernel
theorem dX12_holdsBy_90 : decode cX12_holdsBy 90 = .ok (.isub, 1) := by decide +kernel
theorem dX12_holdsBy_91 : decode cX12_holdsBy 91 = .ok (.iconst 1, 1) := by decide +kernel
theorem dX12_holdsBy_92 : decode cX12_holdsBy 92 = .ok (.aload_n 0, 1) := by decide +kernel
theorem dX12_holdsBy_93 : decode cX12_holdsBy 93 = .ok (.getfield 134, 3) := by decide +kernel
theorem dX12_holdsBy_96 : decode cX12_holdsBy 96 = .ok (.iload 4, 2) := by decide +kernel
theorem dX12_holdsBy_98 : decode cX12_holdsBy 98 = .ok (.iconst 1, 1) := by decide +kernel
theorem dX12_holdsBy_99 : decode cX12_holdsBy 99 = .ok (.isub, 1) := by decide +kernel
theorem dX12_holdsBy_100 : decode cX12_holdsBy 100 = .ok (.iaload, 1) := by decide +kernel
theorem dX12_holdsBy_101 : decode cX12_holdsBy 101 = .ok (.isub, 1) := by decide +kernel
theorem dX12_holdsBy_102 : decode cX12_holdsBy 102 = .ok (.iastore, 1) := by decide +kernel
theorem dX12_holdsBy_103 : decode cX12_holdsBy 103 = .ok (.goto 176, 3) := by decide +kernel
theorem dX12_holdsBy_106 : decode cX12_holdsBy 106 = .ok (.iinc 4 (-1), 3) := by decide +kernel
theorem dX12_holdsBy_109 : decode cX12_holdsBy 109 = .ok (.aload_n 0, 1) := by decide +kernel
theorem dX12_holdsBy_110 : decode cX12_holdsBy 110 = .ok (.getfield 134, 3) := by decide +kernel
theorem dX12_holdsBy_113 : decode cX12_holdsBy 113 = .ok (.iload 4, 2) := by decide +kernel
theorem dX12_holdsBy_115 : decode cX12_holdsBy 115 = .ok (.iconst 1, 1) := by decide +kernel
theorem dX12_holdsBy_116 : decode cX12_holdsBy 116 = .ok (.isub, 1) := by decide +kernel
theorem dX12_holdsBy_117 : decode cX12_holdsBy 117 = .ok (.iaload, 1) := by decide +kernel
theorem dX12_holdsBy_118 : decode cX12_holdsBy 118 = .ok (.istore 7, 2) := by decide +kernel
theorem dX12_holdsBy_120 : decode cX12_holdsBy 120 = .ok (.aload_n 0, 1) := by decide +kernel
theorem dX12_holdsBy_121 : decode cX12_holdsBy 121 = .ok (.getfield 134, 3) := by decide +kernel
theorem dX12_holdsBy_124 : decode cX12_holdsBy 124 = .ok (.iload 4, 2) := by decide +kernel
theorem dX12_holdsBy_126 : decode cX12_holdsBy 126 = .ok (.iaload, 1) := by decide +kernel
theorem dX12_holdsBy_127 : decode cX12_holdsBy 127 = .ok (.istore 8, 2) := by decide +kernel
theorem dX12_holdsBy_129 : decode cX12_holdsBy 129 = .ok (.iload 6, 2) := by decide +kernel
theorem dX12_holdsBy_131 : decode cX12_holdsBy 131 = .ok (.iconst 4, 1) := by decide +kernel
theorem dX12_holdsBy_132 : decode cX12_holdsBy 132 = .ok (.if_icmp .ne 18, 3) := by decide +kernel
theorem dX12_holdsBy_135 : decode cX12_holdsBy 135 = .ok (.iload 7, 2) := by decide +kernel
theorem dX12_holdsBy_137 : decode cX12_holdsBy 137 = .ok (.iload 8, 2) := by decide +kernel
theorem dX12_holdsBy_139 : decode cX12_holdsBy 139 = .ok (.if_icmp .ge 7, 3) := by decide +kernel
theorem dX12_holdsBy_142 : decode cX12_holdsBy 142 = .ok (.iconst 1, 1) := by decide +kernel
theorem dX12_holdsBy_143 : decode cX12_holdsBy 143 = .ok (.goto 87, 3) := by decide +kernel
theorem dX12_holdsBy_146 : decode cX12_holdsBy 146 = .ok (.iconst 0, 1) := by decide +kernel
theorem dX12_holdsBy_147 : decode cX12_holdsBy 147 = .ok (.goto 83, 3) := by decide +kernel
theorem dX12_holdsBy_150 : decode cX12_holdsBy 150 = .ok (.iload 6, 2) := by decide +kernel
theorem dX12_holdsBy_152 : decode cX12_holdsBy 152 = .ok (.iconst 5, 1) := by decide +kernel
theorem dX12_holdsBy_153 : decode cX12_holdsBy 153 = .ok (.if_icmp .ne 18, 3) := by decide +kernel
theorem dX12_holdsBy_156 : decode cX12_holdsBy 156 = .ok (.iload 7, 2) := by decide +kernel
theorem dX12_holdsBy_158 : decode cX12_holdsBy 158 = .ok (.iload 8, 2) := by decide +kernel
theorem dX12_holdsBy_160 : decode cX12_holdsBy 160 = .ok (.if_icmp .le 7, 3) := by decide +kernel
theorem dX12_holdsBy_163 : decode cX12_holdsBy 163 = .ok (.iconst 1, 1) := by decide +kernel
theorem dX12_holdsBy_164 : decode cX12_holdsBy 164 = .ok (.goto 66, 3) := by decide +kernel
theorem dX12_holdsBy_167 : decode cX12_holdsBy 167 = .ok (.iconst 0, 1) := by decide +kernel
theorem dX12_holdsBy_168 : decode cX12_holdsBy 168 = .ok (.goto 62, 3) := by decide +kernel
theorem dX12_holdsBy_171 : decode cX12_holdsBy 171 = .ok (.iload 6, 2) := by decide +kernel
theorem dX12_holdsBy_173 : decode cX12_holdsBy 173 = .ok (.bipush 6, 2) := by decide +kernel
theorem dX12_holdsBy_175 : decode cX12_holdsBy 175 = .ok (.if_icmp .ne 18, 3) := by decide +kernel
theorem dX12_holdsBy_178 : decode cX12_holdsBy 178 = .ok (.iload 7, 2) := by decide +kernel
theorem dX12_holdsBy_180 : decode cX12_holdsBy 180 = .ok (.iload 8, 2) := by decide +kernel
theorem dX12_holdsBy_182 : decode cX12_holdsBy 182 = .ok (.if_icmp .ne 7, 3) := by decide +kernel
theorem dX12_holdsBy_185 : decode cX12_holdsBy 185 = .ok (.iconst 1, 1) := by decide +kernel
theorem dX12_holdsBy_186 : decode cX12_holdsBy 186 = .ok (.goto 44, 3) := by decide +kernel
theorem dX12_holdsBy_189 : decode cX12_holdsBy 189 = .ok (.iconst 0, 1) := by decide +kernel
theorem dX12_holdsBy_190 : decode cX12_holdsBy 190 = .ok (.goto 40, 3) := by decide +kernel
theorem dX12_holdsBy_193 : decode cX12_holdsBy 193 = .ok (.iload 6, 2) := by decide +kernel
theorem dX12_holdsBy_195 : decode cX12_holdsBy 195 = .ok (.bipush 8, 2) := by decide +kernel
theorem dX12_holdsBy_197 : decode cX12_holdsBy 197 = .ok (.if_icmp .ne 20, 3) := by decide +kernel
theorem dX12_holdsBy_200 : decode cX12_holdsBy 200 = .ok (.iload 7, 2) := by decide +kernel
theorem dX12_holdsBy_202 : decode cX12_holdsBy 202 = .ok (.iload 8, 2) := by decide +kernel
theorem dX12_holdsBy_204 : decode cX12_holdsBy 204 = .ok (.iadd, 1) := by decide +kernel
theorem dX12_holdsBy_205 : decode cX12_holdsBy 205 = .ok (.iconst 2, 1) := by decide +kernel
theorem dX12_holdsBy_206 : decode cX12_holdsBy 206 = .ok (.if_icmp .ne 7, 3) := by decide +kernel
theorem dX12_holdsBy_209 : decode cX12_holdsBy 209 = .ok (.iconst 1, 1) := by decide +kernel
theorem dX12_holdsBy_210 : decode cX12_holdsBy 210 = .ok (.goto 20, 3) := by decide +kernel
theorem dX12_holdsBy_213 : decode cX12_holdsBy 213 = .ok (.iconst 0, 1) := by decide +kernel
theorem dX12_holdsBy_214 : decode cX12_holdsBy 214 = .ok (.goto 16, 3) := by decide +kernel
theorem dX12_holdsBy_217 : decode cX12_holdsBy 217 = .ok (.iload 7, 2) := by decide +kernel
theorem dX12_holdsBy_219 : decode cX12_holdsBy 219 = .ok (.iload 8, 2) := by decide +kernel
theorem dX12_holdsBy_221 : decode cX12_holdsBy 221 = .ok (.iadd, 1) := by decide +kernel
theorem dX12_holdsBy_222 : decode cX12_holdsBy 222 = .ok (.ifCond .le 7, 3) := by decide +kernel
theorem dX12_holdsBy_225 : decode cX12_holdsBy 225 = .ok (.iconst 1, 1) := by decide +kernel
theorem dX12_holdsBy_226 : decode cX12_holdsBy 226 = .ok (.goto 4, 3) := by decide +kernel
theorem dX12_holdsBy_229 : decode cX12_holdsBy 229 = .ok (.iconst 0, 1) := by decide +kernel
theorem dX12_holdsBy_230 : decode cX12_holdsBy 230 = .ok (.istore 9, 2) := by decide +kernel
theorem dX12_holdsBy_232 : decode cX12_holdsBy 232 = .ok (.aload_n 0, 1) := by decide +kernel
theorem dX12_holdsBy_233 : decode cX12_holdsBy 233 = .ok (.getfield 134, 3) := by decide +kernel
theorem dX12_holdsBy_236 : decode cX12_holdsBy 236 = .ok (.iload 4, 2) := by decide +kernel
theorem dX12_holdsBy_238 : decode cX12_holdsBy 238 = .ok (.iconst 1, 1) := by decide +kernel
theorem dX12_holdsBy_239 : decode cX12_holdsBy 239 = .ok (.isub, 1) := by decide +kernel
theorem dX12_holdsBy_240 : decode cX12_holdsBy 240 = .ok (.iload 6, 2) := by decide +kernel
theorem dX12_holdsBy_242 : decode cX12_holdsBy 242 = .ok (.iconst 2, 1) := by decide +kernel
theorem dX12_holdsBy_243 : decode cX12_holdsBy 243 = .ok (.if_icmp .ne 11, 3) := by decide +kernel
theorem dX12_holdsBy_246 : decode cX12_holdsBy 246 = .ok (.iload 7, 2) := by decide +kernel
theorem dX12_holdsBy_248 : decode cX12_holdsBy 248 = .ok (.iload 8, 2) := by decide +kernel
theorem dX12_holdsBy_250 : decode cX12_holdsBy 250 = .ok (.iadd, 1) := by decide +kernel
theorem dX12_holdsBy_251 : decode cX12_holdsBy 251 = .ok (.goto 27, 3) := by decide +kernel
theorem dX12_holdsBy_254 : decode cX12_holdsBy 254 = .ok (.iload 6, 2) := by decide +kernel
theorem dX12_holdsBy_256 : decode cX12_holdsBy 256 = .ok (.iconst 3, 1) := by decide +kernel
theorem dX12_holdsBy_257 : decode cX12_holdsBy 257 = .ok (.if_icmp .ne 11, 3) := by decide +kernel
theorem dX12_holdsBy_260 : decode cX12_holdsBy 260 = .ok (.iload 7, 2) := by decide +kernel
theorem dX12_holdsBy_262 : decode cX12_holdsBy 262 = .ok (.iload 8, 2) := by decide +kernel
theorem dX12_holdsBy_264 : decode cX12_holdsBy 264 = .ok (.isub, 1) := by decide +kernel
theorem dX12_holdsBy_265 : decode cX12_holdsBy 265 = .ok (.goto 13, 3) := by decide +kernel
theorem dX12_holdsBy_268 : decode cX12_holdsBy 268 = .ok (.iload 9, 2) := by decide +kernel
theorem dX12_holdsBy_270 : decode cX12_holdsBy 270 = .ok (.ifCond .eq 7, 3) := by decide +kernel
theorem dX12_holdsBy_273 : decode cX12_holdsBy 273 = .ok (.iconst 1, 1) := by decide +kernel
theorem dX12_holdsBy_274 : decode cX12_holdsBy 274 = .ok (.goto 4, 3) := by decide +kernel
theorem dX12_holdsBy_277 : decode cX12_holdsBy 277 = .ok (.iconst 0, 1) := by decide +kernel
theorem dX12_holdsBy_278 : decode cX12_holdsBy 278 = .ok (.iastore, 1) := by decide +kernel
theorem dX12_holdsBy_279 : decode cX12_holdsBy 279 = .ok (.iinc 5 1, 3) := by decide +kernel
theorem dX12_holdsBy_282 : decode cX12_holdsBy 282 = .ok (.goto (-276), 3) := by decide +kernel
theorem dX12_holdsBy_285 : decode cX12_holdsBy 285 = .ok (.aload_n 0, 1) := by decide +kernel
theorem dX12_holdsBy_286 : decode cX12_holdsBy 286 = .ok (.getfield 134, 3) := by decide +kernel
theorem dX12_holdsBy_289 : decode cX12_holdsBy 289 = .ok (.iconst 0, 1) := by decide +kernel
theorem dX12_holdsBy_290 : decode cX12_holdsBy 290 = .ok (.iaload, 1) := by decide +kernel
theorem dX12_holdsBy_291 : decode cX12_holdsBy 291 = .ok (.iconst 1, 1) := by decide +kernel
theorem dX12_holdsBy_292 : decode cX12_holdsBy 292 = .ok (.if_icmp .ne 7, 3) := by decide +kernel
theorem dX12_holdsBy_295 : decode cX12_holdsBy 295 = .ok (.iconst 1, 1) := by decide +kernel
theorem dX12_holdsBy_296 : decode cX12_holdsBy 296 = .ok (.goto 4, 3) := by decide +kernel
theorem dX12_holdsBy_299 : decode cX12_holdsBy 299 = .ok (.iconst 0, 1) := by decide +kernel
theorem dX12_holdsBy_300 : decode cX12_holdsBy 300 = .ok (.ireturn, 1) := by decide +kernel
theorem dX12_says0_0 : decode cX12_says0 0 = .ok (.iconst 0, 1) := by decide +kernel
theorem dX12_says0_1 : decode cX12_says0 1 = .ok (.istore_n 3, 1) := by decide +kernel
theorem dX12_says0_2 : decode cX12_says0 2 = .ok (.iconst 1, 1) := by decide +kernel
theorem dX12_says0_3 : decode cX12_says0 3 = .ok (.istore 4, 2) := by decide +kernel
theorem dX12_says0_5 : decode cX12_says0 5 = .ok (.iconst 0, 1) := by decide +kernel
theorem dX12_says0_6 : decode cX12_says0 6 = .ok (.istore 5, 2) := by decide +kernel
theorem dX12_says0_8 : decode cX12_says0 8 = .ok (.iload 5, 2) := by decide +kernel
theorem dX12_says0_10 : decode cX12_says0 10 = .ok (.aload_n 0, 1) := by decide +kernel
theorem dX12_says0_11 : decode cX12_says0 11 = .ok (.getfield 312, 3) := by decide +kernel
theorem dX12_says0_14 : decode cX12_says0 14 = .ok (.if_icmp .ge 73, 3) := by decide +kernel
theorem dX12_says0_17 : decode cX12_says0 17 = .ok (.aload_n 0, 1) := by decide +kernel
theorem dX12_says0_18 : decode cX12_says0 18 = .ok (.getfield 119, 3) := by decide +kernel
theorem dX12_says0_21 : decode cX12_says0 21 = .ok (.iload 5, 2) := by decide +kernel
theorem dX12_says0_23 : decode cX12_says0 23 = .ok (.aaload, 1) := by decide +kernel
theorem dX12_says0_24 : decode cX12_says0 24 = .ok (.getfield 408, 3) := by decide +kernel
theorem dX12_says0_27 : decode cX12_says0 27 = .ok (.iload_n 2, 1) := by decide +kernel
theorem dX12_says0_28 : decode cX12_says0 28 = .ok (.if_icmp .eq 6, 3) := by decide +kernel
theorem dX12_says0_31 : decode cX12_says0 31 = .ok (.goto 50, 3) := by decide +kernel
theorem dX12_says0_34 : decode cX12_says0 34 = .ok (.aload_n 0, 1) := by decide +kernel
theorem dX12_says0_35 : decode cX12_says0 35 = .ok (.aload_n 0, 1) := by decide +kernel
theorem dX12_says0_36 : decode cX12_says0 36 = .ok (.getfield 119, 3) := by decide +kernel
theorem dX12_says0_39 : decode cX12_says0 39 = .ok (.iload 5, 2) := by decide +kernel
theorem dX12_says0_41 : decode cX12_says0 41 = .ok (.aaload, 1) := by decide +kernel
theorem dX12_says0_42 : decode cX12_says0 42 = .ok (.iload_n 1, 1) := by decide +kernel
theorem dX12_says0_43 : decode cX12_says0 43 = .ok (.iconst 0, 1) := by decide +kernel
theorem dX12_says0_44 : decode cX12_says0 44 = .ok (.invokevirtual 473, 3) := by decide +kernel
theorem dX12_says0_47 : decode cX12_says0 47 = .ok (.istore 6, 2) := by decide +kernel
theorem dX12_says0_49 : decode cX12_says0 49 = .ok (.iload_n 3, 1) := by decide +kernel
theorem dX12_says0_50 : decode cX12_says0 50 = .ok (.ifCond .ne 8, 3) := by decide +kernel
theorem dX12_says0_53 : decode cX12_says0 53 = .ok (.iload 6, 2) := by decide +kernel
theorem dX12_says0_55 : decode cX12_says0 55 = .ok (.ifCond .eq 7, 3) := by decide +kernel
theorem dX12_says0_58 : decode cX12_says0 58 = .ok (.iconst 1, 1) := by decide +kernel
theorem dX12_says0_59 : decode cX12_says0 59 = .ok (.goto 4, 3) := by decide +kernel
theorem dX12_says0_62 : decode cX12_says0 62 = .ok (.iconst 0, 1) := by decide +kernel
theorem dX12_says0_63 : decode cX12_says0 63 = .ok (.istore_n 3, 1) := by decide +kernel
theorem dX12_says0_64 : decode cX12_says0 64 = .ok (.iload 4, 2) := by decide +kernel
theorem dX12_says0_66 : decode cX12_says0 66 = .ok (.ifCond .eq 12, 3) := by decide +kernel
theorem dX12_says0_69 : decode cX12_says0 69 = .ok (.iload 6, 2) := by decide +kernel
theorem dX12_says0_71 : decode cX12_says0 71 = .ok (.ifCond .eq 7, 3) := by decide +kernel
