theorem dX0_init_0 : decode cX0_init 0 = .ok (.aload_n 0, 1) := by decide +kernel
theorem dX0_init_1 : decode cX0_init 1 = .ok (.invokespecial 3, 3) := by decide +kernel
theorem dX0_init_4 : decode cX0_init 4 = .ok (.aload_n 0, 1) := by decide +kernel
theorem dX0_init_5 : decode cX0_init 5 = .ok (.sipush 400, 3) := by decide +kernel
theorem dX0_init_8 : decode cX0_init 8 = .ok (.newarray .int, 2) := by decide +kernel
theorem dX0_init_10 : decode cX0_init 10 = .ok (.putfield 9, 3) := by decide +kernel
theorem dX0_init_13 : decode cX0_init 13 = .ok (.aload_n 0, 1) := by decide +kernel
theorem dX0_init_14 : decode cX0_init 14 = .ok (.bipush 20, 2) := by decide +kernel
theorem dX0_init_16 : decode cX0_init 16 = .ok (.putfield 15, 3) := by decide +kernel
theorem dX0_init_19 : decode cX0_init 19 = .ok (.aload_n 0, 1) := by decide +kernel
theorem dX0_init_20 : decode cX0_init 20 = .ok (.bipush 100, 2) := by decide +kernel
theorem dX0_init_22 : decode cX0_init 22 = .ok (.putfield 19, 3) := by decide +kernel
theorem dX0_init_25 : decode cX0_init 25 = .ok (.aload_n 0, 1) := by decide +kernel
theorem dX0_init_26 : decode cX0_init 26 = .ok (.iconst 5, 1) := by decide +kernel
theorem dX0_init_27 : decode cX0_init 27 = .ok (.putfield 22, 3) := by decide +kernel
theorem dX0_init_30 : decode cX0_init 30 = .ok (.aload_n 0, 1) := by decide +kernel
theorem dX0_init_31 : decode cX0_init 31 = .ok (.sipush 400, 3) := by decide +kernel
theorem dX0_init_34 : decode cX0_init 34 = .ok (.newarray .int, 2) := by decide +kernel
theorem dX0_init_36 : decode cX0_init 36 = .ok (.putfield 25, 3) := by decide +kernel
theorem dX0_init_39 : decode cX0_init 39 = .ok (.aload_n 0, 1) := by decide +kernel
theorem dX0_init_40 : decode cX0_init 40 = .ok (.sipush 400, 3) := by decide +kernel
theorem dX0_init_43 : decode cX0_init 43 = .ok (.newarray .int, 2) := by decide +kernel
theorem dX0_init_45 : decode cX0_init 45 = .ok (.putfield 28, 3) := by decide +kernel
theorem dX0_init_48 : decode cX0_init 48 = .ok (.aload_n 0, 1) := by decide +kernel
theorem dX0_init_49 : decode cX0_init 49 = .ok (.new 31, 3) := by decide +kernel
theorem dX0_init_52 : decode cX0_init 52 = .ok (.dup, 1) := by decide +kernel
theorem dX0_init_53 : decode cX0_init 53 = .ok (.sipush 1601, 3) := by decide +kernel
theorem dX0_init_56 : decode cX0_init 56 = .ok (.invokespecial 33, 3) := by decide +kernel
theorem dX0_init_59 : decode cX0_init 59 = .ok (.putfield 36, 3) := by decide +kernel
theorem dX0_init_62 : decode cX0_init 62 = .ok (.return_, 1) := by decide +kernel
theorem dX0_tellNumber_0 : decode cX0_tellNumber 0 = .ok (.iload_n 1, 1) := by decide +kernel
theorem dX0_tellNumber_1 : decode cX0_tellNumber 1 = .ok (.tableswitch 51 0 2 #[27, 35, 43], 27) := by decide +kernel
theorem dX0_tellNumber_28 : decode cX0_tellNumber 28 = .ok (.aload_n 0, 1) := by decide +kernel
theorem dX0_tellNumber_29 : decode cX0_tellNumber 29 = .ok (.iload_n 2, 1) := by decide +kernel
theorem dX0_tellNumber_30 : decode cX0_tellNumber 30 = .ok (.putfield 15, 3) := by decide +kernel
theorem dX0_tellNumber_33 : decode cX0_tellNumber 33 = .ok (.goto 19, 3) := by decide +kernel
theorem dX0_tellNumber_36 : decode cX0_tellNumber 36 = .ok (.aload_n 0, 1) := by decide +kernel
theorem dX0_tellNumber_37 : decode cX0_tellNumber 37 = .ok (.iload_n 2, 1) := by decide +kernel
theorem dX0_tellNumber_38 : decode cX0_tellNumber 38 = .ok (.putfield 19, 3) := by decide +kernel
theorem dX0_tellNumber_41 : decode cX0_tellNumber 41 = .ok (.goto 11, 3) := by decide +kernel
theorem dX0_tellNumber_44 : decode cX0_tellNumber 44 = .ok (.aload_n 0, 1) := by decide +kernel
theorem dX0_tellNumber_45 : decode cX0_tellNumber 45 = .ok (.iload_n 2, 1) := by decide +kernel
theorem dX0_tellNumber_46 : decode cX0_tellNumber 46 = .ok (.putfield 22, 3) := by decide +kernel
theorem dX0_tellNumber_49 : decode cX0_tellNumber 49 = .ok (.goto 3, 3) := by decide +kernel
theorem dX0_tellNumber_52 : decode cX0_tellNumber 52 = .ok (.return_, 1) := by decide +kernel
theorem dX0_letRun_0 : decode cX0_letRun 0 = .ok (.iload_n 1, 1) := by decide +kernel
theorem dX0_letRun_1 : decode cX0_letRun 1 = .ok (.invokestatic 40, 3) := by decide +kernel
theorem dX0_letRun_4 : decode cX0_letRun 4 = .ok (.ifCond .eq 17, 3) := by decide +kernel
theorem dX0_letRun_7 : decode cX0_letRun 7 = .ok (.aload_n 0, 1) := by decide +kernel
theorem dX0_letRun_8 : decode cX0_letRun 8 = .ok (.getfield 19, 3) := by decide +kernel
theorem dX0_letRun_11 : decode cX0_letRun 11 = .ok (.ifCond .le 10, 3) := by decide +kernel
theorem dX0_letRun_14 : decode cX0_letRun 14 = .ok (.aload_n 0, 1) := by decide +kernel
theorem dX0_letRun_15 : decode cX0_letRun 15 = .ok (.getfield 22, 3) := by decide +kernel
theorem dX0_letRun_18 : decode cX0_letRun 18 = .ok (.ifCond .gt 5, 3) := by decide +kernel
theorem dX0_letRun_21 : decode cX0_letRun 21 = .ok (.iconst 0, 1) := by decide +kernel
theorem dX0_letRun_22 : decode cX0_letRun 22 = .ok (.ireturn, 1) := by decide +kernel
theorem dX0_letRun_23 : decode cX0_letRun 23 = .ok (.aload_n 0, 1) := by decide +kernel
theorem dX0_letRun_24 : decode cX0_letRun 24 = .ok (.iconst 1, 1) := by decide +kernel
theorem dX0_letRun_25 : decode cX0_letRun 25 = .ok (.putfield 44, 3) := by decide +kernel
theorem dX0_letRun_28 : decode cX0_letRun 28 = .ok (.iload_n 2, 1) := by decide +kernel
theorem dX0_letRun_29 : decode cX0_letRun 29 = .ok (.aload_n 0, 1) := by decide +kernel
theorem dX0_letRun_30 : decode cX0_letRun 30 = .ok (.getfield 19, 3) := by decide +kernel
theorem dX0_letRun_33 : decode cX0_letRun 33 = .ok (.idiv, 1) := by decide +kernel
theorem dX0_letRun_34 : decode cX0_letRun 34 = .ok (.iload_n 2, 1) := by decide +kernel
theorem dX0_letRun_35 : decode cX0_letRun 35 = .ok (.aload_n 0, 1) := by decide +kernel
theorem dX0_letRun_36 : decode cX0_letRun 36 = .ok (.getfield 19, 3) := by decide +kernel
theorem dX0_letRun_39 : decode cX0_letRun 39 = .ok (.irem, 1) := by decide +kernel
theorem dX0_letRun_40 : decode cX0_letRun 40 = .ok (.ifCond .le 7, 3) := by decide +kernel
theorem dX0_letRun_43 : decode cX0_letRun 43 = .ok (.iconst 1, 1) := by decide +kernel
theorem dX0_letRun_44 : decode cX0_letRun 44 = .ok (.goto 4, 3) := by decide +kernel
theorem dX0_letRun_47 : decode cX0_letRun 47 = .ok (.iconst 0, 1) := by decide +kernel
theorem dX0_letRun_48 : decode cX0_letRun 48 = .ok (.iadd, 1) := by decide +kernel
theorem dX0_letRun_49 : decode cX0_letRun 49 = .ok (.istore_n 3, 1) := by decide +kernel
theorem dX0_letRun_50 : decode cX0_letRun 50 = .ok (.aload_n 0, 1) := by decide +kernel
theorem dX0_letRun_51 : decode cX0_letRun 51 = .ok (.getfield 9, 3) := by decide +kernel
theorem dX0_letRun_54 : decode cX0_letRun 54 = .ok (.iload_n 1, 1) := by decide +kernel
theorem dX0_letRun_55 : decode cX0_letRun 55 = .ok (.iaload, 1) := by decide +kernel
theorem dX0_letRun_56 : decode cX0_letRun 56 = .ok (.aload_n 0, 1) := by decide +kernel
theorem dX0_letRun_57 : decode cX0_letRun 57 = .ok (.getfield 15, 3) := by decide +kernel
theorem dX0_letRun_60 : decode cX0_letRun 60 = .ok (.iadd, 1) := by decide +kernel
theorem dX0_letRun_61 : decode cX0_letRun 61 = .ok (.istore 4, 2) := by decide +kernel
theorem dX0_letRun_63 : decode cX0_letRun 63 = .ok (.aload_n 0, 1) := by decide +kernel
theorem dX0_letRun_64 : decode cX0_letRun 64 = .ok (.getfield 25, 3) := by decide +kernel
theorem dX0_letRun_67 : decode cX0_letRun 67 = .ok (.bipush (-2), 2) := by decide +kernel
theorem dX0_letRun_69 : decode cX0_letRun 69 = .ok (.invokestatic 48, 3) := by decide +kernel
theorem dX0_letRun_72 : decode cX0_letRun 72 = .ok (.aload_n 0, 1) := by decide +kernel
theorem dX0_letRun_73 : decode cX0_letRun 73 = .ok (.getfield 28, 3) := by decide +kernel
theorem dX0_letRun_76 : decode cX0_letRun 76 = .ok (.ldc 54, 2) := by decide +kernel
theorem dX0_letRun_78 : decode cX0_letRun 78 = .ok (.invokestatic 48, 3) := by decide +kernel
theorem dX0_letRun_81 : decode cX0_letRun 81 = .ok (.aload_n 0, 1) := by decide +kernel
theorem dX0_letRun_82 : decode cX0_letRun 82 = .ok (.getfield 36, 3) := by decide +kernel
theorem dX0_letRun_85 : decode cX0_letRun 85 = .ok (.invokevirtual 55, 3) := by decide +kernel
theorem dX0_letRun_88 : decode cX0_letRun 88 = .ok (.aload_n 0, 1) := by decide +kernel
theorem dX0_letRun_89 : decode cX0_letRun 89 = .ok (.iload_n 1, 1) := by decide +kernel
theorem dX0_letRun_90 : decode cX0_letRun 90 = .ok (.iload 4, 2) := by decide +kernel
theorem dX0_letRun_92 : decode cX0_letRun 92 = .ok (.invokevirtual 58, 3) := by decide +kernel
theorem dX0_letRun_95 : decode cX0_letRun 95 = .ok (.iconst 0, 1) := by decide +kernel
theorem dX0_letRun_96 : decode cX0_letRun 96 = .ok (.istore 5, 2) := by decide +kernel
theorem dX0_letRun_98 : decode cX0_letRun 98 = .ok (.iload 5, 2) := by decide +kernel
theorem dX0_letRun_100 : decode cX0_letRun 100 = .ok (.iload_n 3, 1) := by decide +kernel
theorem dX0_letRun_101 : decode cX0_letRun 101 = .ok (.if_icmp .ge 90, 3) := by decide +kernel
theorem dX0_letRun_104 : decode cX0_letRun 104 = .ok (.iload 5, 2) := by decide +kernel
theorem dX0_letRun_106 : decode cX0_letRun 106 = .ok (.sipush 400, 3) := by decide +kernel
theorem dX0_letRun_109 : decode cX0_letRun 109 = .ok (.if_icmp .ge 82, 3) := by decide +kernel
theorem dX0_letRun_112 : decode cX0_letRun 112 = .ok (.aload_n 0, 1) := by decide +kernel
theorem dX0_letRun_113 : decode cX0_letRun 113 = .ok (.getfield 36, 3) := by decide +kernel
theorem dX0_letRun_116 : decode cX0_letRun 116 = .ok (.getfield 62, 3) := by decide +kernel
theorem dX0_letRun_119 : decode cX0_letRun 119 = .ok (.ifCond .le 72, 3) := by decide +kernel
theorem dX0_letRun_122 : decode cX0_letRun 122 = .ok (.aload_n 0, 1) := by decide +kernel
theorem dX0_letRun_123 : decode cX0_letRun 123 = .ok (.getfield 36, 3) := by decide +kernel
theorem dX0_letRun_126 : decode cX0_letRun 126 = .ok (.invokevirtual 65, 3) := by decide +kernel
theorem dX0_letRun_129 : decode cX0_letRun 129 = .ok (.sipush 400, 3) := by decide +kernel
theorem dX0_letRun_132 : decode cX0_letRun 132 = .ok (.irem, 1) := by decide +kernel
theorem dX0_letRun_133 : decode cX0_letRun 133 = .ok (.istore 6, 2) := by decide +kernel
theorem dX0_letRun_135 : decode cX0_letRun 135 = .ok (.iload 6, 2) := by decide +kernel
theorem dX0_letRun_137 : decode cX0_letRun 137 = .ok (.invokestatic 40, 3) := by decide +kernel
theorem dX0_letRun_140 : decode cX0_letRun 140 = .ok (.ifCond .eq 17, 3) := by decide +kernel
theorem dX0_letRun_143 : decode cX0_letRun 143 = .ok (.aload_n 0, 1) := by decide +kernel
theorem dX0_letRun_144 : decode cX0_letRun 144 = .ok (.getfield 25, 3) := by decide +kernel
theorem dX0_letRun_147 : decode cX0_letRun 147 = .ok (.iload 6, 2) := by decide +kernel
theorem dX0_letRun_149 : decode cX0_letRun 149 = .ok (.iload 5, 2) := by decide +kernel
theorem dX0_letRun_151 : decode cX0_letRun 151 = .ok (.aload_n 0, 1) := by decide +kernel
theorem dX0_letRun_152 : decode cX0_letRun 152 = .ok (.getfield 22, 3) := by decide +kernel
theorem dX0_letRun_155 : decode cX0_letRun 155 = .ok (.idiv, 1) := by decide +kernel
theorem dX0_letRun_156 : decode cX0_letRun 156 = .ok (.iastore, 1) := by decide +kernel
theorem dX0_letRun_157 : decode cX0_letRun 157 = .ok (.iinc 5 1, 3) := by decide +kernel
theorem dX0_letRun_160 : decode cX0_letRun 160 = .ok (.iconst 0, 1) := by decide +kernel
theorem dX0_letRun_161 : decode cX0_letRun 161 = .ok (.istore 7, 2) := by decide +kernel
theorem dX0_letRun_163 : decode cX0_letRun 163 = .ok (.iload 7, 2) := by decide +kernel
theorem dX0_letRun_165 : decode cX0_letRun 165 = .ok (.iconst 4, 1) := by decide +kernel
theorem dX0_letRun_166 : decode cX0_letRun 166 = .ok (.if_icmp .ge 22, 3) := by decide +kernel
theorem dX0_letRun_169 : decode cX0_letRun 169 = .ok (.aload_n 0, 1) := by decide +kernel
theorem dX0_letRun_170 : decode cX0_letRun 170 = .ok (.iload 6, 2) := by decide +kernel
theorem dX0_letRun_172 : decode cX0_letRun 172 = .ok (.iload 7, 2) := by decide +kernel
theorem dX0_letRun_174 : decode cX0_letRun 174 = .ok (.invokestatic 69, 3) := by decide +kernel
theorem dX0_letRun_177 : decode cX0_letRun 177 = .ok (.iload 4, 2) := by decide +kernel
theorem dX0_letRun_179 : decode cX0_letRun 179 = .ok (.invokevirtual 58, 3) := by decide +kernel
theorem dX0_letRun_182 : decode cX0_letRun 182 = .ok (.iinc 7 1, 3) := by decide +kernel
theorem dX0_letRun_185 : decode cX0_letRun 185 = .ok (.goto (-22), 3) := by decide +kernel
theorem dX0_letRun_188 : decode cX0_letRun 188 = .ok (.goto (-90), 3) := by decide +kernel
theorem dX0_letRun_191 : decode cX0_letRun 191 = .ok (.iload 5, 2) := by decide +kernel
theorem dX0_letRun_193 : decode cX0_letRun 193 = .ok (.ireturn, 1) := by decide +kernel
theorem dX0_offer_0 : decode cX0_offer 0 = .ok (.iload_n 1, 1) := by decide +kernel
theorem dX0_offer_1 : decode cX0_offer 1 = .ok (.invokestatic 40, 3) := by decide +kernel
theorem dX0_offer_4 : decode cX0_offer 4 = .ok (.ifCond .eq 50, 3) := by decide +kernel
theorem dX0_offer_7 : decode cX0_offer 7 = .ok (.aload_n 0, 1) := by decide +kernel
theorem dX0_offer_8 : decode cX0_offer 8 = .ok (.getfield 28, 3) := by decide +kernel
theorem dX0_offer_11 : decode cX0_offer 11 = .ok (.iload_n 1, 1) := by decide +kernel
theorem dX0_offer_12 : decode cX0_offer 12 = .ok (.iaload, 1) := by decide +kernel
theorem dX0_offer_13 : decode cX0_offer 13 = .ok (.ldc 54, 2) := by decide +kernel
theorem dX0_offer_15 : decode cX0_offer 15 = .ok (.if_icmp .ne 39, 3) := by decide +kernel
theorem dX0_offer_18 : decode cX0_offer 18 = .ok (.aload_n 0, 1) := by decide +kernel
theorem dX0_offer_19 : decode cX0_offer 19 = .ok (.getfield 9, 3) := by decide +kernel
theorem dX0_offer_22 : decode cX0_offer 22 = .ok (.iload_n 1, 1) := by decide +kernel
theorem dX0_offer_23 : decode cX0_offer 23 = .ok (.iaload, 1) := by decide +kernel
theorem dX0_offer_24 : decode cX0_offer 24 = .ok (.iload_n 2, 1) := by decide +kernel
theorem dX0_offer_25 : decode cX0_offer 25 = .ok (.if_icmp .gt 29, 3) := by decide +kernel
theorem dX0_offer_28 : decode cX0_offer 28 = .ok (.aload_n 0, 1) := by decide +kernel
theorem dX0_offer_29 : decode cX0_offer 29 = .ok (.getfield 28, 3) := by decide +kernel
theorem dX0_offer_32 : decode cX0_offer 32 = .ok (.iload_n 1, 1) := by decide +kernel
theorem dX0_offer_33 : decode cX0_offer 33 = .ok (.iconst 0, 1) := by decide +kernel
theorem dX0_offer_34 : decode cX0_offer 34 = .ok (.iastore, 1) := by decide +kernel
theorem dX0_offer_35 : decode cX0_offer 35 = .ok (.aload_n 0, 1) := by decide +kernel
theorem dX0_offer_36 : decode cX0_offer 36 = .ok (.getfield 36, 3) := by decide +kernel
theorem dX0_offer_39 : decode cX0_offer 39 = .ok (.aload_n 0, 1) := by decide +kernel
theorem dX0_offer_40 : decode cX0_offer 40 = .ok (.getfield 9, 3) := by decide +kernel
theorem dX0_offer_43 : decode cX0_offer 43 = .ok (.iload_n 1, 1) := by decide +kernel
theorem dX0_offer_44 : decode cX0_offer 44 = .ok (.iaload, 1) := by decide +kernel
theorem dX0_offer_45 : decode cX0_offer 45 = .ok (.sipush 400, 3) := by decide +kernel
theorem dX0_offer_48 : decode cX0_offer 48 = .ok (.imul, 1) := by decide +kernel
theorem dX0_offer_49 : decode cX0_offer 49 = .ok (.iload_n 1, 1) := by decide +kernel
theorem dX0_offer_50 : decode cX0_offer 50 = .ok (.iadd, 1) := by decide +kernel
theorem dX0_offer_51 : decode cX0_offer 51 = .ok (.invokevirtual 73, 3) := by decide +kernel
theorem dX0_offer_54 : decode cX0_offer 54 = .ok (.return_, 1) := by decide +kernel
theorem dX0_beside_0 : decode cX0_beside 0 = .ok (.iload_n 0, 1) := by decide +kernel
theorem dX0_beside_1 : decode cX0_beside 1 = .ok (.bipush 20, 2) := by decide +kernel
theorem dX0_beside_3 : decode cX0_beside 3 = .ok (.irem, 1) := by decide +kernel
theorem dX0_beside_4 : decode cX0_beside 4 = .ok (.istore_n 2, 1) := by decide +kernel
theorem dX0_beside_5 : decode cX0_beside 5 = .ok (.iload_n 1, 1) := by decide +kernel
theorem dX0_beside_6 : decode cX0_beside 6 = .ok (.tableswitch 57 0 2 #[26, 31, 43], 26) := by decide +kernel
theorem dX0_beside_32 : decode cX0_beside 32 = .ok (.iload_n 0, 1) := by decide +kernel
theorem dX0_beside_33 : decode cX0_beside 33 = .ok (.bipush 20, 2) := by decide +kernel
theorem dX0_beside_35 : decode cX0_beside 35 = .ok (.isub, 1) := by decide +kernel
theorem dX0_beside_36 : decode cX0_beside 36 = .ok (.ireturn, 1) := by decide +kernel
theorem dX0_beside_37 : decode cX0_beside 37 = .ok (.iload_n 2, 1) := by decide +kernel
theorem dX0_beside_38 : decode cX0_beside 38 = .ok (.ifCond .le 9, 3) := by decide +kernel
theorem dX0_beside_41 : decode cX0_beside 41 = .ok (.iload_n 0, 1) := by decide +kernel
theorem dX0_beside_42 : decode cX0_beside 42 = .ok (.iconst 1, 1) := by decide +kernel
theorem dX0_beside_43 : decode cX0_beside 43 = .ok (.isub, 1) := by decide +kernel
theorem dX0_beside_44 : decode cX0_beside 44 = .ok (.goto 4, 3) := by decide +kernel
theorem dX0_beside_47 : decode cX0_beside 47 = .ok (.iconst (-1), 1) := by decide +kernel
theorem dX0_beside_48 : decode cX0_beside 48 = .ok (.ireturn, 1) := by decide +kernel
theorem dX0_beside_49 : decode cX0_beside 49 = .ok (.iload_n 2, 1) := by decide +kernel
theorem dX0_beside_50 : decode cX0_beside 50 = .ok (.bipush 19, 2) := by decide +kernel
theorem dX0_beside_52 : decode cX0_beside 52 = .ok (.if_icmp .ge 9, 3) := by decide +kernel
theorem dX0_beside_55 : decode cX0_beside 55 = .ok (.iload_n 0, 1) := by decide +kernel
theorem dX0_beside_56 : decode cX0_beside 56 = .ok (.iconst 1, 1) := by decide +kernel
theorem dX0_beside_57 : decode cX0_beside 57 = .ok (.iadd, 1) := by decide +kernel
theorem dX0_beside_58 : decode cX0_beside 58 = .ok (.goto 4, 3) := by decide +kernel
theorem dX0_beside_61 : decode cX0_beside 61 = .ok (.iconst (-1), 1) := by decide +kernel
theorem dX0_beside_62 : decode cX0_beside 62 = .ok (.ireturn, 1) := by decide +kernel
theorem dX0_beside_63 : decode cX0_beside 63 = .ok (.iload_n 0, 1) := by decide +kernel
theorem dX0_beside_64 : decode cX0_beside 64 = .ok (.bipush 20, 2) := by decide +kernel
theorem dX0_beside_66 : decode cX0_beside 66 = .ok (.iadd, 1) := by decide +kernel
theorem dX0_beside_67 : decode cX0_beside 67 = .ok (.ireturn, 1) := by decide +kernel
theorem dX0_minutesToSafety_0 : decode cX0_minutesToSafety 0 = .ok (.iload_n 1, 1) := by decide +kernel
theorem dX0_minutesToSafety_1 : decode cX0_minutesToSafety 1 = .ok (.invokestatic 40, 3) := by decide +kernel
theorem dX0_minutesToSafety_4 : decode cX0_minutesToSafety 4 = .ok (.ifCond .eq 14, 3) := by decide +kernel
theorem dX0_minutesToSafety_7 : decode cX0_minutesToSafety 7 = .ok (.aload_n 0, 1) := by decide +kernel
theorem dX0_minutesToSafety_8 : decode cX0_minutesToSafety 8 = .ok (.getfield 25, 3) := by decide +kernel
theorem dX0_minutesToSafety_11 : decode cX0_minutesToSafety 11 = .ok (.iload_n 1, 1) := by decide +kernel
theorem dX0_minutesToSafety_12 : decode cX0_minutesToSafety 12 = .ok (.iaload, 1) := by decide +kernel
theorem dX0_minutesToSafety_13 : decode cX0_minutesToSafety 13 = .ok (.bipush (-2), 2) := by decide +kernel
theorem dX0_minutesToSafety_15 : decode cX0_minutesToSafety 15 = .ok (.if_icmp .ne 5, 3) := by decide +kernel
theorem dX0_minutesToSafety_18 : decode cX0_minutesToSafety 18 = .ok (.iconst 0, 1) := by decide +kernel
theorem dX0_minutesToSafety_19 : decode cX0_minutesToSafety 19 = .ok (.ireturn, 1) := by decide +kernel
theorem dX0_minutesToSafety_20 : decode cX0_minutesToSafety 20 = .ok (.aload_n 0, 1) := by decide +kernel
theorem dX0_minutesToSafety_21 : decode cX0_minutesToSafety 21 = .ok (.getfield 28, 3) := by decide +kernel
theorem dX0_minutesToSafety_24 : decode cX0_minutesToSafety 24 = .ok (.ldc 54, 2) := by decide +kernel
theorem dX0_minutesToSafety_26 : decode cX0_minutesToSafety 26 = .ok (.invokestatic 48, 3) := by decide +kernel
theorem dX0_minutesToSafety_29 : decode cX0_minutesToSafety 29 = .ok (.aload_n 0, 1) := by decide +kernel
theorem dX0_minutesToSafety_30 : decode cX0_minutesToSafety 30 = .ok (.getfield 36, 3) := by decide +kernel
theorem dX0_minutesToSafety_33 : decode cX0_minutesToSafety 33 = .ok (.invokevirtual 55, 3) := by decide +kernel
theorem dX0_minutesToSafety_36 : decode cX0_minutesToSafety 36 = .ok (.aload_n 0, 1) := by decide +kernel
theorem dX0_minutesToSafety_37 : decode cX0_minutesToSafety 37 = .ok (.iload_n 1, 1) := by decide +kernel
theorem dX0_minutesToSafety_38 : decode cX0_minutesToSafety 38 = .ok (.iload_n 2, 1) := by decide +kernel
theorem dX0_minutesToSafety_39 : decode cX0_minutesToSafety 39 = .ok (.invokevirtual 76, 3) := by decide +kernel
theorem dX0_minutesToSafety_42 : decode cX0_minutesToSafety 42 = .ok (.iconst 0, 1) := by decide +kernel
theorem dX0_minutesToSafety_43 : decode cX0_minutesToSafety 43 = .ok (.istore_n 3, 1) := by decide +kernel
theorem dX0_minutesToSafety_44 : decode cX0_minutesToSafety 44 = .ok (.iload_n 3, 1) := by decide +kernel
theorem dX0_minutesToSafety_45 : decode cX0_minutesToSafety 45 = .ok (.sipush 1600, 3) := by decide +kernel
theorem dX0_minutesToSafety_48 : decode cX0_minutesToSafety 48 = .ok (.if_icmp .gt 109, 3) := by decide +kernel
theorem dX0_minutesToSafety_51 : decode cX0_minutesToSafety 51 = .ok (.aload_n 0, 1) := by decide +kernel
theorem dX0_minutesToSafety_52 : decode cX0_minutesToSafety 52 = .ok (.getfield 36, 3) := by decide +kernel
theorem dX0_minutesToSafety_55 : decode cX0_minutesToSafety 55 = .ok (.getfield 62, 3) := by decide +kernel
theorem dX0_minutesToSafety_58 : decode cX0_minutesToSafety 58 = .ok (.ifCond .le 99, 3) := by decide +kernel
theorem dX0_minutesToSafety_61 : decode cX0_minutesToSafety 61 = .ok (.aload_n 0, 1) := by decide +kernel
theorem dX0_minutesToSafety_62 : decode cX0_minutesToSafety 62 = .ok (.getfield 36, 3) := by decide +kernel
theorem dX0_minutesToSafety_65 : decode cX0_minutesToSafety 65 = .ok (.invokevirtual 65, 3) := by decide +kernel
theorem dX0_minutesToSafety_68 : decode cX0_minutesToSafety 68 = .ok (.istore 4, 2) := by decide +kernel
theorem dX0_minutesToSafety_70 : decode cX0_minutesToSafety 70 = .ok (.iload 4, 2) := by decide +kernel
theorem dX0_minutesToSafety_72 : decode cX0_minutesToSafety 72 = .ok (.sipush 400, 3) := by decide +kernel
theorem dX0_minutesToSafety_75 : decode cX0_minutesToSafety 75 = .ok (.irem, 1) := by decide +kernel
theorem dX0_minutesToSafety_76 : decode cX0_minutesToSafety 76 = .ok (.istore 5, 2) := by decide +kernel
theorem dX0_minutesToSafety_78 : decode cX0_minutesToSafety 78 = .ok (.iload 4, 2) := by decide +kernel
theorem dX0_minutesToSafety_80 : decode cX0_minutesToSafety 80 = .ok (.sipush 400, 3) := by decide +kernel
theorem dX0_minutesToSafety_83 : decode cX0_minutesToSafety 83 = .ok (.idiv, 1) := by decide +kernel
theorem dX0_minutesToSafety_84 : decode cX0_minutesToSafety 84 = .ok (.istore 6, 2) := by decide +kernel
theorem dX0_minutesToSafety_86 : decode cX0_minutesToSafety 86 = .ok (.iload 5, 2) := by decide +kernel
theorem dX0_minutesToSafety_88 : decode cX0_minutesToSafety 88 = .ok (.invokestatic 40, 3) := by decide +kernel
theorem dX0_minutesToSafety_91 : decode cX0_minutesToSafety 91 = .ok (.ifCond .eq 20, 3) := by decide +kernel
theorem dX0_minutesToSafety_94 : decode cX0_minutesToSafety 94 = .ok (.aload_n 0, 1) := by decide +kernel
theorem dX0_minutesToSafety_95 : decode cX0_minutesToSafety 95 = .ok (.getfield 25, 3) := by decide +kernel
theorem dX0_minutesToSafety_98 : decode cX0_minutesToSafety 98 = .ok (.iload 5, 2) := by decide +kernel
theorem dX0_minutesToSafety_100 : decode cX0_minutesToSafety 100 = .ok (.iaload, 1) := by decide +kernel
theorem dX0_minutesToSafety_101 : decode cX0_minutesToSafety 101 = .ok (.bipush (-2), 2) := by decide +kernel
theorem dX0_minutesToSafety_103 : decode cX0_minutesToSafety 103 = .ok (.if_icmp .ne 8, 3) := by decide +kernel
theorem dX0_minutesToSafety_106 : decode cX0_minutesToSafety 106 = .ok (.iload 6, 2) := by decide +kernel
theorem dX0_minutesToSafety_108 : decode cX0_minutesToSafety 108 = .ok (.iload_n 2, 1) := by decide +kernel
theorem dX0_minutesToSafety_109 : decode cX0_minutesToSafety 109 = .ok (.isub, 1) := by decide +kernel
theorem dX0_minutesToSafety_110 : decode cX0_minutesToSafety 110 = .ok (.ireturn, 1) := by decide +kernel
theorem dX0_minutesToSafety_111 : decode cX0_minutesToSafety 111 = .ok (.iload 5, 2) := by decide +kernel
theorem dX0_minutesToSafety_113 : decode cX0_minutesToSafety 113 = .ok (.invokestatic 40, 3) := by decide +kernel
theorem dX0_minutesToSafety_116 : decode cX0_minutesToSafety 116 = .ok (.ifCond .eq 35, 3) := by decide +kernel
theorem dX0_minutesToSafety_119 : decode cX0_minutesToSafety 119 = .ok (.iload 6, 2) := by decide +kernel
theorem dX0_minutesToSafety_121 : decode cX0_minutesToSafety 121 = .ok (.aload_n 0, 1) := by decide +kernel
theorem dX0_minutesToSafety_122 : decode cX0_minutesToSafety 122 = .ok (.getfield 28, 3) := by decide +kernel
theorem dX0_minutesToSafety_125 : decode cX0_minutesToSafety 125 = .ok (.iload 5, 2) := by decide +kernel
theorem dX0_minutesToSafety_127 : decode cX0_minutesToSafety 127 = .ok (.iaload, 1) := by decide +kernel
theorem dX0_minutesToSafety_128 : decode cX0_minutesToSafety 128 = .ok (.if_icmp .ne 23, 3) := by decide +kernel
theorem dX0_minutesToSafety_131 : decode cX0_minutesToSafety 131 = .ok (.iload 6, 2) := by decide +kernel
theorem dX0_minutesToSafety_133 : decode cX0_minutesToSafety 133 = .ok (.aload_n 0, 1) := by decide +kernel
theorem dX0_minutesToSafety_134 : decode cX0_minutesToSafety 134 = .ok (.getfield 25, 3) := by decide +kernel
theorem dX0_minutesToSafety_137 : decode cX0_minutesToSafety 137 = .ok (.iload 5, 2) := by decide +kernel
theorem dX0_minutesToSafety_139 : decode cX0_minutesToSafety 139 = .ok (.iaload, 1) := by decide +kernel
theorem dX0_minutesToSafety_140 : decode cX0_minutesToSafety 140 = .ok (.if_icmp .ge 11, 3) := by decide +kernel
theorem dX0_minutesToSafety_143 : decode cX0_minutesToSafety 143 = .ok (.aload_n 0, 1) := by decide +kernel
theorem dX0_minutesToSafety_144 : decode cX0_minutesToSafety 144 = .ok (.iload 5, 2) := by decide +kernel
theorem dX0_minutesToSafety_146 : decode cX0_minutesToSafety 146 = .ok (.iload 6, 2) := by decide +kernel
theorem dX0_minutesToSafety_148 : decode cX0_minutesToSafety 148 = .ok (.invokevirtual 79, 3) := by decide +kernel
theorem dX0_minutesToSafety_151 : decode cX0_minutesToSafety 151 = .ok (.iinc 3 1, 3) := by decide +kernel
theorem dX0_minutesToSafety_154 : decode cX0_minutesToSafety 154 = .ok (.goto (-110), 3) := by decide +kernel
theorem dX0_minutesToSafety_157 : decode cX0_minutesToSafety 157 = .ok (.bipush (-2), 2) := by decide +kernel
theorem dX0_minutesToSafety_159 : decode cX0_minutesToSafety 159 = .ok (.ireturn, 1) := by decide +kernel
theorem dX0_leave_0 : decode cX0_leave 0 = .ok (.iconst 0, 1) := by decide +kernel
theorem dX0_leave_1 : decode cX0_leave 1 = .ok (.istore_n 3, 1) := by decide +kernel
theorem dX0_leave_2 : decode cX0_leave 2 = .ok (.iload_n 3, 1) := by decide +kernel
theorem dX0_leave_3 : decode cX0_leave 3 = .ok (.iconst 4, 1) := by decide +kernel
theorem dX0_leave_4 : decode cX0_leave 4 = .ok (.if_icmp .ge 66, 3) := by decide +kernel
theorem dX0_leave_7 : decode cX0_leave 7 = .ok (.iload_n 1, 1) := by decide +kernel
theorem dX0_leave_8 : decode cX0_leave 8 = .ok (.iload_n 3, 1) := by decide +kernel
theorem dX0_leave_9 : decode cX0_leave 9 = .ok (.invokestatic 69, 3) := by decide +kernel
theorem dX0_leave_12 : decode cX0_leave 12 = .ok (.istore 4, 2) := by decide +kernel
theorem dX0_leave_14 : decode cX0_leave 14 = .ok (.iload_n 1, 1) := by decide +kernel
theorem dX0_leave_15 : decode cX0_leave 15 = .ok (.invokestatic 40, 3) := by decide +kernel
theorem dX0_leave_18 : decode cX0_leave 18 = .ok (.ifCond .eq 46, 3) := by decide +kernel
theorem dX0_leave_21 : decode cX0_leave 21 = .ok (.iload 4, 2) := by decide +kernel
theorem dX0_leave_23 : decode cX0_leave 23 = .ok (.invokestatic 40, 3) := by decide +kernel
theorem dX0_leave_26 : decode cX0_leave 26 = .ok (.ifCond .eq 38, 3) := by decide +kernel
theorem dX0_leave_29 : decode cX0_leave 29 = .ok (.iconst 0, 1) := by decide +kernel
theorem dX0_leave_30 : decode cX0_leave 30 = .ok (.aload_n 0, 1) := by decide +kernel
theorem dX0_leave_31 : decode cX0_leave 31 = .ok (.getfield 9, 3) := by decide +kernel
theorem dX0_leave_34 : decode cX0_leave 34 = .ok (.iload 4, 2) := by decide +kernel
theorem dX0_leave_36 : decode cX0_leave 36 = .ok (.iaload, 1) := by decide +kernel
theorem dX0_leave_37 : decode cX0_leave 37 = .ok (.aload_n 0, 1) := by decide +kernel
theorem dX0_leave_38 : decode cX0_leave 38 = .ok (.getfield 9, 3) := by decide +kernel
theorem dX0_leave_41 : decode cX0_leave 41 = .ok (.iload_n 1, 1) := by decide +kernel
theorem dX0_leave_42 : decode cX0_leave 42 = .ok (.iaload, 1) := by decide +kernel
theorem dX0_leave_43 : decode cX0_leave 43 = .ok (.isub, 1) := by decide +kernel
theorem dX0_leave_44 : decode cX0_leave 44 = .ok (.invokestatic 82, 3) := by decide +kernel
theorem dX0_leave_47 : decode cX0_leave 47 = .ok (.istore 5, 2) := by decide +kernel
theorem dX0_leave_49 : decode cX0_leave 49 = .ok (.aload_n 0, 1) := by decide +kernel
theorem dX0_leave_50 : decode cX0_leave 50 = .ok (.iload 4, 2) := by decide +kernel
theorem dX0_leave_52 : decode cX0_leave 52 = .ok (.iload_n 2, 1) := by decide +kernel
theorem dX0_leave_53 : decode cX0_leave 53 = .ok (.iconst 2, 1) := by decide +kernel
theorem dX0_leave_54 : decode cX0_leave 54 = .ok (.iadd, 1) := by decide +kernel
theorem dX0_leave_55 : decode cX0_leave 55 = .ok (.iload 5, 2) := by decide +kernel
theorem dX0_leave_57 : decode cX0_leave 57 = .ok (.bipush 10, 2) := by decide +kernel
theorem dX0_leave_59 : decode cX0_leave 59 = .ok (.idiv, 1) := by decide +kernel
theorem dX0_leave_60 : decode cX0_leave 60 = .ok (.iadd, 1) := by decide +kernel
theorem dX0_leave_61 : decode cX0_leave 61 = .ok (.invokevirtual 76, 3) := by decide +kernel
theorem dX0_leave_64 : decode cX0_leave 64 = .ok (.iinc 3 1, 3) := by decide +kernel
theorem dX0_leave_67 : decode cX0_leave 67 = .ok (.goto (-65), 3) := by decide +kernel
theorem dX0_leave_70 : decode cX0_leave 70 = .ok (.return_, 1) := by decide +kernel
theorem dX0_comeTo_0 : decode cX0_comeTo 0 = .ok (.iload_n 1, 1) := by decide +kernel
theorem dX0_comeTo_1 : decode cX0_comeTo 1 = .ok (.invokestatic 40, 3) := by decide +kernel
theorem dX0_comeTo_4 : decode cX0_comeTo 4 = .ok (.ifCond .eq 34, 3) := by decide +kernel
theorem dX0_comeTo_7 : decode cX0_comeTo 7 = .ok (.iload_n 2, 1) := by decide +kernel
theorem dX0_comeTo_8 : decode cX0_comeTo 8 = .ok (.aload_n 0, 1) := by decide +kernel
theorem dX0_comeTo_9 : decode cX0_comeTo 9 = .ok (.getfield 28, 3) := by decide +kernel
theorem dX0_comeTo_12 : decode cX0_comeTo 12 = .ok (.iload_n 1, 1) := by decide +kernel
theorem dX0_comeTo_13 : decode cX0_comeTo 13 = .ok (.iaload, 1) := by decide +kernel
theorem dX0_comeTo_14 : decode cX0_comeTo 14 = .ok (.if_icmp .ge 24, 3) := by decide +kernel
theorem dX0_comeTo_17 : decode cX0_comeTo 17 = .ok (.aload_n 0, 1) := by decide +kernel
theorem dX0_comeTo_18 : decode cX0_comeTo 18 = .ok (.getfield 28, 3) := by decide +kernel
theorem dX0_comeTo_21 : decode cX0_comeTo 21 = .ok (.iload_n 1, 1) := by decide +kernel
theorem dX0_comeTo_22 : decode cX0_comeTo 22 = .ok (.iload_n 2, 1) := by decide +kernel
theorem dX0_comeTo_23 : decode cX0_comeTo 23 = .ok (.iastore, 1) := by decide +kernel
theorem dX0_comeTo_24 : decode cX0_comeTo 24 = .ok (.aload_n 0, 1) := by decide +kernel
theorem dX0_comeTo_25 : decode cX0_comeTo 25 = .ok (.getfield 36, 3) := by decide +kernel
theorem dX0_comeTo_28 : decode cX0_comeTo 28 = .ok (.iload_n 2, 1) := by decide +kernel
theorem dX0_comeTo_29 : decode cX0_comeTo 29 = .ok (.sipush 400, 3) := by decide +kernel
theorem dX0_comeTo_32 : decode cX0_comeTo 32 = .ok (.imul, 1) := by decide +kernel
theorem dX0_comeTo_33 : decode cX0_comeTo 33 = .ok (.iload_n 1, 1) := by decide +kernel
theorem dX0_comeTo_34 : decode cX0_comeTo 34 = .ok (.iadd, 1) := by decide +kernel
theorem dX0_comeTo_35 : decode cX0_comeTo 35 = .ok (.invokevirtual 73, 3) := by decide +kernel
theorem dX0_comeTo_38 : decode cX0_comeTo 38 = .ok (.return_, 1) := by decide +kernel
theorem dX1_init_0 : decode cX1_init 0 = .ok (.aload_n 0, 1) := by decide +kernel
theorem dX1_init_1 : decode cX1_init 1 = .ok (.invokespecial 3, 3) := by decide +kernel
theorem dX1_init_4 : decode cX1_init 4 = .ok (.aload_n 0, 1) := by decide +kernel
theorem dX1_init_5 : decode cX1_init 5 = .ok (.iconst 1, 1) := by decide +kernel
theorem dX1_init_6 : decode cX1_init 6 = .ok (.iload_n 1, 1) := by decide +kernel
theorem dX1_init_7 : decode cX1_init 7 = .ok (.invokestatic 9, 3) := by decide +kernel
theorem dX1_init_10 : decode cX1_init 10 = .ok (.newarray .int, 2) := by decide +kernel
theorem dX1_init_12 : decode cX1_init 12 = .ok (.putfield 15, 3) := by decide +kernel
theorem dX1_init_15 : decode cX1_init 15 = .ok (.return_, 1) := by decide +kernel
theorem dX1_clear_0 : decode cX1_clear 0 = .ok (.aload_n 0, 1) := by decide +kernel
theorem dX1_clear_1 : decode cX1_clear 1 = .ok (.iconst 0, 1) := by decide +kernel
theorem dX1_clear_2 : decode cX1_clear 2 = .ok (.putfield 21, 3) := by decide +kernel
theorem dX1_clear_5 : decode cX1_clear 5 = .ok (.return_, 1) := by decide +kernel
theorem dX1_add_0 : decode cX1_add 0 = .ok (.aload_n 0, 1) := by decide +kernel
theorem dX1_add_1 : decode cX1_add 1 = .ok (.getfield 21, 3) := by decide +kernel
theorem dX1_add_4 : decode cX1_add 4 = .ok (.ifCond .lt 15, 3) := by decide +kernel
theorem dX1_add_7 : decode cX1_add 7 = .ok (.aload_n 0, 1) := by decide +kernel
theorem dX1_add_8 : decode cX1_add 8 = .ok (.getfield 21, 3) := by decide +kernel
theorem dX1_add_11 : decode cX1_add 11 = .ok (.aload_n 0, 1) := by decide +kernel
theorem dX1_add_12 : decode cX1_add 12 = .ok (.getfield 15, 3) := by decide +kernel
theorem dX1_add_15 : decode cX1_add 15 = .ok (.arraylength, 1) := by decide +kernel
theorem dX1_add_16 : decode cX1_add 16 = .ok (.if_icmp .lt 4, 3) := by decide +kernel
theorem dX1_add_19 : decode cX1_add 19 = .ok (.return_, 1) := by decide +kernel
theorem dX1_add_20 : decode cX1_add 20 = .ok (.aload_n 0, 1) := by decide +kernel
theorem dX1_add_21 : decode cX1_add 21 = .ok (.getfield 21, 3) := by decide +kernel
theorem dX1_add_24 : decode cX1_add 24 = .ok (.istore_n 2, 1) := by decide +kernel
theorem dX1_add_25 : decode cX1_add 25 = .ok (.aload_n 0, 1) := by decide +kernel
theorem dX1_add_26 : decode cX1_add 26 = .ok (.dup, 1) := by decide +kernel
theorem dX1_add_27 : decode cX1_add 27 = .ok (.getfield 21, 3) := by decide +kernel
theorem dX1_add_30 : decode cX1_add 30 = .ok (.iconst 1, 1) := by decide +kernel
theorem dX1_add_31 : decode cX1_add 31 = .ok (.iadd, 1) := by decide +kernel
theorem dX1_add_32 : decode cX1_add 32 = .ok (.putfield 21, 3) := by decide +kernel
theorem dX1_add_35 : decode cX1_add 35 = .ok (.iconst 0, 1) := by decide +kernel
theorem dX1_add_36 : decode cX1_add 36 = .ok (.istore_n 3, 1) := by decide +kernel
theorem dX1_add_37 : decode cX1_add 37 = .ok (.iload_n 3, 1) := by decide +kernel
theorem dX1_add_38 : decode cX1_add 38 = .ok (.bipush 31, 2) := by decide +kernel
theorem dX1_add_40 : decode cX1_add 40 = .ok (.if_icmp .ge 49, 3) := by decide +kernel
theorem dX1_add_43 : decode cX1_add 43 = .ok (.iload_n 2, 1) := by decide +kernel
theorem dX1_add_44 : decode cX1_add 44 = .ok (.ifCond .le 45, 3) := by decide +kernel
theorem dX1_add_47 : decode cX1_add 47 = .ok (.aload_n 0, 1) := by decide +kernel
theorem dX1_add_48 : decode cX1_add 48 = .ok (.getfield 15, 3) := by decide +kernel
theorem dX1_add_51 : decode cX1_add 51 = .ok (.iload_n 2, 1) := by decide +kernel
theorem dX1_add_52 : decode cX1_add 52 = .ok (.iconst 1, 1) := by decide +kernel
theorem dX1_add_53 : decode cX1_add 53 = .ok (.isub, 1) := by decide +kernel
theorem dX1_add_54 : decode cX1_add 54 = .ok (.iconst 2, 1) := by decide +kernel
theorem dX1_add_55 : decode cX1_add 55 = .ok (.idiv, 1) := by decide +kernel
theorem dX1_add_56 : decode cX1_add 56 = .ok (.iaload, 1) := by decide +kernel
theorem dX1_add_57 : decode cX1_add 57 = .ok (.iload_n 1, 1) := by decide +kernel
theorem dX1_add_58 : decode cX1_add 58 = .ok (.if_icmp .le 31, 3) := by decide +kernel
theorem dX1_add_61 : decode cX1_add 61 = .ok (.aload_n 0, 1) := by decide +kernel
theorem dX1_add_62 : decode cX1_add 62 = .ok (.getfield 15, 3) := by decide +kernel
theorem dX1_add_65 : decode cX1_add 65 = .ok (.iload_n 2, 1) := by decide +kernel
theorem dX1_add_66 : decode cX1_add 66 = .ok (.aload_n 0, 1) := by decide +kernel
theorem dX1_add_67 : decode cX1_add 67 = .ok (.getfield 15, 3) := by decide +kernel
theorem dX1_add_70 : decode cX1_add 70 = .ok (.iload_n 2, 1) := by decide +kernel
theorem dX1_add_71 : decode cX1_add 71 = .ok (.iconst 1, 1) := by decide +kernel
theorem dX1_add_72 : decode cX1_add 72 = .ok (.isub, 1) := by decide +kernel
theorem dX1_add_73 : decode cX1_add 73 = .ok (.iconst 2, 1) := by decide +kernel
theorem dX1_add_74 : decode cX1_add 74 = .ok (.idiv, 1) := by decide +kernel
theorem dX1_add_75 : decode cX1_add 75 = .ok (.iaload, 1) := by decide +kernel
theorem dX1_add_76 : decode cX1_add 76 = .ok (.iastore, 1) := by decide +kernel
theorem dX1_add_77 : decode cX1_add 77 = .ok (.iload_n 2, 1) := by decide +kernel
theorem dX1_add_78 : decode cX1_add 78 = .ok (.iconst 1, 1) := by decide +kernel
theorem dX1_add_79 : decode cX1_add 79 = .ok (.isub, 1) := by decide +kernel
theorem dX1_add_80 : decode cX1_add 80 = .ok (.iconst 2, 1) := by decide +kernel
theorem dX1_add_81 : decode cX1_add 81 = .ok (.idiv, 1) := by decide +kernel
theorem dX1_add_82 : decode cX1_add 82 = .ok (.istore_n 2, 1) := by decide +kernel
theorem dX1_add_83 : decode cX1_add 83 = .ok (.iinc 3 1, 3) := by decide +kernel
theorem dX1_add_86 : decode cX1_add 86 = .ok (.goto (-49), 3) := by decide +kernel
theorem dX1_add_89 : decode cX1_add 89 = .ok (.aload_n 0, 1) := by decide +kernel
theorem dX1_add_90 : decode cX1_add 90 = .ok (.getfield 15, 3) := by decide +kernel
theorem dX1_add_93 : decode cX1_add 93 = .ok (.iload_n 2, 1) := by decide +kernel
theorem dX1_add_94 : decode cX1_add 94 = .ok (.iload_n 1, 1) := by decide +kernel
theorem dX1_add_95 : decode cX1_add 95 = .ok (.iastore, 1) := by decide +kernel
theorem dX1_add_96 : decode cX1_add 96 = .ok (.return_, 1) := by decide +kernel
theorem dX1_takeLeast_0 : decode cX1_takeLeast 0 = .ok (.aload_n 0, 1) := by decide +kernel
theorem dX1_takeLeast_1 : decode cX1_takeLeast 1 = .ok (.getfield 21, 3) := by decide +kernel
theorem dX1_takeLeast_4 : decode cX1_takeLeast 4 = .ok (.ifCond .le 15, 3) := by decide +kernel
theorem dX1_takeLeast_7 : decode cX1_takeLeast 7 = .ok (.aload_n 0, 1) := by decide +kernel
theorem dX1_takeLeast_8 : decode cX1_takeLeast 8 = .ok (.getfield 21, 3) := by decide +kernel
theorem dX1_takeLeast_11 : decode cX1_takeLeast 11 = .ok (.aload_n 0, 1) := by decide +kernel
theorem dX1_takeLeast_12 : decode cX1_takeLeast 12 = .ok (.getfield 15, 3) := by decide +kernel
theorem dX1_takeLeast_15 : decode cX1_takeLeast 15 = .ok (.arraylength, 1) := by decide +kernel
theorem dX1_takeLeast_16 : decode cX1_takeLeast 16 = .ok (.if_icmp .le 5, 3) := by decide +kernel
theorem dX1_takeLeast_19 : decode cX1_takeLeast 19 = .ok (.iconst 0, 1) := by decide +kernel
theorem dX1_takeLeast_20 : decode cX1_takeLeast 20 = .ok (.ireturn, 1) := by decide +kernel
theorem dX1_takeLeast_21 : decode cX1_takeLeast 21 = .ok (.aload_n 0, 1) := by decide +kernel
theorem dX1_takeLeast_22 : decode cX1_takeLeast 22 = .ok (.getfield 15, 3) := by decide +kernel
theorem dX1_takeLeast_25 : decode cX1_takeLeast 25 = .ok (.iconst 0, 1) := by decide +kernel
theorem dX1_takeLeast_26 : decode cX1_takeLeast 26 = .ok (.iaload, 1) := by decide +kernel
theorem dX1_takeLeast_27 : decode cX1_takeLeast 27 = .ok (.istore_n 1, 1) := by decide +kernel
theorem dX1_takeLeast_28 : decode cX1_takeLeast 28 = .ok (.aload_n 0, 1) := by decide +kernel
theorem dX1_takeLeast_29 : decode cX1_takeLeast 29 = .ok (.dup, 1) := by decide +kernel
theorem dX1_takeLeast_30 : decode cX1_takeLeast 30 = .ok (.getfield 21, 3) := by decide +kernel
theorem dX1_takeLeast_33 : decode cX1_takeLeast 33 = .ok (.iconst 1, 1) := by decide +kernel
theorem dX1_takeLeast_34 : decode cX1_takeLeast 34 = .ok (.isub, 1) := by decide +kernel
theorem dX1_takeLeast_35 : decode cX1_takeLeast 35 = .ok (.putfield 21, 3) := by decide +kernel
theorem dX1_takeLeast_38 : decode cX1_takeLeast 38 = .ok (.aload_n 0, 1) := by decide +kernel
theorem dX1_takeLeast_39 : decode cX1_takeLeast 39 = .ok (.aload_n 0, 1) := by decide +kernel
theorem dX1_takeLeast_40 : decode cX1_takeLeast 40 = .ok (.getfield 15, 3) := by decide +kernel
theorem dX1_takeLeast_43 : decode cX1_takeLeast 43 = .ok (.aload_n 0, 1) := by decide +kernel
theorem dX1_takeLeast_44 : decode cX1_takeLeast 44 = .ok (.getfield 21, 3) := by decide +kernel
theorem dX1_takeLeast_47 : decode cX1_takeLeast 47 = .ok (.iaload, 1) := by decide +kernel
theorem dX1_takeLeast_48 : decode cX1_takeLeast 48 = .ok (.invokevirtual 25, 3) := by decide +kernel
theorem dX1_takeLeast_51 : decode cX1_takeLeast 51 = .ok (.iload_n 1, 1) := by decide +kernel
theorem dX1_takeLeast_52 : decode cX1_takeLeast 52 = .ok (.ireturn, 1) := by decide +kernel
theorem dX1_sink_0 : decode cX1_sink 0 = .ok (.iconst 0, 1) := by decide +kernel
theorem dX1_sink_1 : decode cX1_sink 1 = .ok (.istore_n 2, 1) := by decide +kernel
theorem dX1_sink_2 : decode cX1_sink 2 = .ok (.aload_n 0, 1) := by decide +kernel
theorem dX1_sink_3 : decode cX1_sink 3 = .ok (.iconst 0, 1) := by decide +kernel
theorem dX1_sink_4 : decode cX1_sink 4 = .ok (.invokevirtual 29, 3) := by decide +kernel
theorem dX1_sink_7 : decode cX1_sink 7 = .ok (.istore_n 3, 1) := by decide +kernel
theorem dX1_sink_8 : decode cX1_sink 8 = .ok (.iconst 0, 1) := by decide +kernel
theorem dX1_sink_9 : decode cX1_sink 9 = .ok (.istore 4, 2) := by decide +kernel
theorem dX1_sink_11 : decode cX1_sink 11 = .ok (.iload 4, 2) := by decide +kernel
theorem dX1_sink_13 : decode cX1_sink 13 = .ok (.bipush 31, 2) := by decide +kernel
theorem dX1_sink_15 : decode cX1_sink 15 = .ok (.if_icmp .ge 44, 3) := by decide +kernel
theorem dX1_sink_18 : decode cX1_sink 18 = .ok (.iload_n 3, 1) := by decide +kernel
theorem dX1_sink_19 : decode cX1_sink 19 = .ok (.iconst (-1), 1) := by decide +kernel
theorem dX1_sink_20 : decode cX1_sink 20 = .ok (.if_icmp .eq 39, 3) := by decide +kernel
theorem dX1_sink_23 : decode cX1_sink 23 = .ok (.aload_n 0, 1) := by decide +kernel
theorem dX1_sink_24 : decode cX1_sink 24 = .ok (.getfield 15, 3) := by decide +kernel
theorem dX1_sink_27 : decode cX1_sink 27 = .ok (.iload_n 3, 1) := by decide +kernel
theorem dX1_sink_28 : decode cX1_sink 28 = .ok (.iaload, 1) := by decide +kernel
theorem dX1_sink_29 : decode cX1_sink 29 = .ok (.iload_n 1, 1) := by decide +kernel
theorem dX1_sink_30 : decode cX1_sink 30 = .ok (.if_icmp .ge 29, 3) := by decide +kernel
theorem dX1_sink_33 : decode cX1_sink 33 = .ok (.aload_n 0, 1) := by decide +kernel
theorem dX1_sink_34 : decode cX1_sink 34 = .ok (.getfield 15, 3) := by decide +kernel
theorem dX1_sink_37 : decode cX1_sink 37 = .ok (.iload_n 2, 1) := by decide +kernel
theorem dX1_sink_38 : decode cX1_sink 38 = .ok (.aload_n 0, 1) := by decide +kernel
theorem dX1_sink_39 : decode cX1_sink 39 = .ok (.getfield 15, 3) := by decide +kernel
theorem dX1_sink_42 : decode cX1_sink 42 = .ok (.iload_n 3, 1) := by decide +kernel
theorem dX1_sink_43 : decode cX1_sink 43 = .ok (.iaload, 1) := by decide +kernel
theorem dX1_sink_44 : decode cX1_sink 44 = .ok (.iastore, 1) := by decide +kernel
theorem dX1_sink_45 : decode cX1_sink 45 = .ok (.iload_n 3, 1) := by decide +kernel
theorem dX1_sink_46 : decode cX1_sink 46 = .ok (.istore_n 2, 1) := by decide +kernel
theorem dX1_sink_47 : decode cX1_sink 47 = .ok (.aload_n 0, 1) := by decide +kernel
theorem dX1_sink_48 : decode cX1_sink 48 = .ok (.iload_n 2, 1) := by decide +kernel
theorem dX1_sink_49 : decode cX1_sink 49 = .ok (.invokevirtual 29, 3) := by decide +kernel
theorem dX1_sink_52 : decode cX1_sink 52 = .ok (.istore_n 3, 1) := by decide +kernel
theorem dX1_sink_53 : decode cX1_sink 53 = .ok (.iinc 4 1, 3) := by decide +kernel
theorem dX1_sink_56 : decode cX1_sink 56 = .ok (.goto (-45), 3) := by decide +kernel
theorem dX1_sink_59 : decode cX1_sink 59 = .ok (.aload_n 0, 1) := by decide +kernel
theorem dX1_sink_60 : decode cX1_sink 60 = .ok (.getfield 15, 3) := by decide +kernel
theorem dX1_sink_63 : decode cX1_sink 63 = .ok (.iload_n 2, 1) := by decide +kernel
theorem dX1_sink_64 : decode cX1_sink 64 = .ok (.iload_n 1, 1) := by decide +kernel
theorem dX1_sink_65 : decode cX1_sink 65 = .ok (.iastore, 1) := by decide +kernel
theorem dX1_sink_66 : decode cX1_sink 66 = .ok (.return_, 1) := by decide +kernel
theorem dX1_lesserChild_0 : decode cX1_lesserChild 0 = .ok (.iconst 2, 1) := by decide +kernel
theorem dX1_lesserChild_1 : decode cX1_lesserChild 1 = .ok (.iload_n 1, 1) := by decide +kernel
theorem dX1_lesserChild_2 : decode cX1_lesserChild 2 = .ok (.imul, 1) := by decide +kernel
theorem dX1_lesserChild_3 : decode cX1_lesserChild 3 = .ok (.iconst 1, 1) := by decide +kernel
theorem dX1_lesserChild_4 : decode cX1_lesserChild 4 = .ok (.iadd, 1) := by decide +kernel
theorem dX1_lesserChild_5 : decode cX1_lesserChild 5 = .ok (.istore_n 2, 1) := by decide +kernel
theorem dX1_lesserChild_6 : decode cX1_lesserChild 6 = .ok (.iload_n 2, 1) := by decide +kernel
theorem dX1_lesserChild_7 : decode cX1_lesserChild 7 = .ok (.aload_n 0, 1) := by decide +kernel
theorem dX1_lesserChild_8 : decode cX1_lesserChild 8 = .ok (.getfield 21, 3) := by decide +kernel
theorem dX1_lesserChild_11 : decode cX1_lesserChild 11 = .ok (.if_icmp .ge 14, 3) := by decide +kernel
theorem dX1_lesserChild_14 : decode cX1_lesserChild 14 = .ok (.iload_n 2, 1) := by decide +kernel
theorem dX1_lesserChild_15 : decode cX1_lesserChild 15 = .ok (.iconst 1, 1) := by decide +kernel
theorem dX1_lesserChild_16 : decode cX1_lesserChild 16 = .ok (.iadd, 1) := by decide +kernel
theorem dX1_lesserChild_17 : decode cX1_lesserChild 17 = .ok (.aload_n 0, 1) := by decide +kernel
theorem dX1_lesserChild_18 : decode cX1_lesserChild 18 = .ok (.getfield 15, 3) := by decide +kernel
theorem dX1_lesserChild_21 : decode cX1_lesserChild 21 = .ok (.arraylength, 1) := by decide +kernel
theorem dX1_lesserChild_22 : decode cX1_lesserChild 22 = .ok (.if_icmp .le 5, 3) := by decide +kernel
theorem dX1_lesserChild_25 : decode cX1_lesserChild 25 = .ok (.iconst (-1), 1) := by decide +kernel
theorem dX1_lesserChild_26 : decode cX1_lesserChild 26 = .ok (.ireturn, 1) := by decide +kernel
theorem dX1_lesserChild_27 : decode cX1_lesserChild 27 = .ok (.iload_n 2, 1) := by decide +kernel
theorem dX1_lesserChild_28 : decode cX1_lesserChild 28 = .ok (.iconst 1, 1) := by decide +kernel
theorem dX1_lesserChild_29 : decode cX1_lesserChild 29 = .ok (.iadd, 1) := by decide +kernel
theorem dX1_lesserChild_30 : decode cX1_lesserChild 30 = .ok (.aload_n 0, 1) := by decide +kernel
theorem dX1_lesserChild_31 : decode cX1_lesserChild 31 = .ok (.getfield 21, 3) := by decide +kernel
theorem dX1_lesserChild_34 : decode cX1_lesserChild 34 = .ok (.if_icmp .ge 37, 3) := by decide +kernel
theorem dX1_lesserChild_37 : decode cX1_lesserChild 37 = .ok (.iload_n 2, 1) := by decide +kernel
theorem dX1_lesserChild_38 : decode cX1_lesserChild 38 = .ok (.iconst 1, 1) := by decide +kernel
theorem dX1_lesserChild_39 : decode cX1_lesserChild 39 = .ok (.iadd, 1) := by decide +kernel
theorem dX1_lesserChild_40 : decode cX1_lesserChild 40 = .ok (.aload_n 0, 1) := by decide +kernel
theorem dX1_lesserChild_41 : decode cX1_lesserChild 41 = .ok (.getfield 15, 3) := by decide +kernel
theorem dX1_lesserChild_44 : decode cX1_lesserChild 44 = .ok (.arraylength, 1) := by decide +kernel
theorem dX1_lesserChild_45 : decode cX1_lesserChild 45 = .ok (.if_icmp .ge 26, 3) := by decide +kernel
theorem dX1_lesserChild_48 : decode cX1_lesserChild 48 = .ok (.aload_n 0, 1) := by decide +kernel
theorem dX1_lesserChild_49 : decode cX1_lesserChild 49 = .ok (.getfield 15, 3) := by decide +kernel
theorem dX1_lesserChild_52 : decode cX1_lesserChild 52 = .ok (.iload_n 2, 1) := by decide +kernel
theorem dX1_lesserChild_53 : decode cX1_lesserChild 53 = .ok (.iconst 1, 1) := by decide +kernel
theorem dX1_lesserChild_54 : decode cX1_lesserChild 54 = .ok (.iadd, 1) := by decide +kernel
theorem dX1_lesserChild_55 : decode cX1_lesserChild 55 = .ok (.iaload, 1) := by decide +kernel
theorem dX1_lesserChild_56 : decode cX1_lesserChild 56 = .ok (.aload_n 0, 1) := by decide +kernel
theorem dX1_lesserChild_57 : decode cX1_lesserChild 57 = .ok (.getfield 15, 3) := by decide +kernel
theorem dX1_lesserChild_60 : decode cX1_lesserChild 60 = .ok (.iload_n 2, 1) := by decide +kernel
theorem dX1_lesserChild_61 : decode cX1_lesserChild 61 = .ok (.iaload, 1) := by decide +kernel
theorem dX1_lesserChild_62 : decode cX1_lesserChild 62 = .ok (.if_icmp .ge 9, 3) := by decide +kernel
theorem dX1_lesserChild_65 : decode cX1_lesserChild 65 = .ok (.iload_n 2, 1) := by decide +kernel
theorem dX1_lesserChild_66 : decode cX1_lesserChild 66 = .ok (.iconst 1, 1) := by decide +kernel
theorem dX1_lesserChild_67 : decode cX1_lesserChild 67 = .ok (.iadd, 1) := by decide +kernel
theorem dX1_lesserChild_68 : decode cX1_lesserChild 68 = .ok (.goto 4, 3) := by decide +kernel
theorem dX1_lesserChild_71 : decode cX1_lesserChild 71 = .ok (.iload_n 2, 1) := by decide +kernel
theorem dX1_lesserChild_72 : decode cX1_lesserChild 72 = .ok (.ireturn, 1) := by decide +kernel
theorem dX2_init_0 : decode cX2_init 0 = .ok (.aload_n 0, 1) := by decide +kernel
theorem dX2_init_1 : decode cX2_init 1 = .ok (.invokespecial 3, 3) := by decide +kernel
theorem dX2_init_4 : decode cX2_init 4 = .ok (.aload_n 0, 1) := by decide +kernel
theorem dX2_init_5 : decode cX2_init 5 = .ok (.bipush 10, 2) := by decide +kernel
theorem dX2_init_7 : decode cX2_init 7 = .ok (.newarray .int, 2) := by decide +kernel
theorem dX2_init_9 : decode cX2_init 9 = .ok (.putfield 9, 3) := by decide +kernel
theorem dX2_init_12 : decode cX2_init 12 = .ok (.aload_n 0, 1) := by decide +kernel
theorem dX2_init_13 : decode cX2_init 13 = .ok (.bipush 10, 2) := by decide +kernel
theorem dX2_init_15 : decode cX2_init 15 = .ok (.newarray .int, 2) := by decide +kernel
theorem dX2_init_17 : decode cX2_init 17 = .ok (.putfield 15, 3) := by decide +kernel
theorem dX2_init_20 : decode cX2_init 20 = .ok (.aload_n 0, 1) := by decide +kernel
theorem dX2_init_21 : decode cX2_init 21 = .ok (.bipush 10, 2) := by decide +kernel
theorem dX2_init_23 : decode cX2_init 23 = .ok (.newarray .int, 2) := by decide +kernel
theorem dX2_init_25 : decode cX2_init 25 = .ok (.putfield 18, 3) := by decide +kernel
theorem dX2_init_28 : decode cX2_init 28 = .ok (.aload_n 0, 1) := by decide +kernel
theorem dX2_init_29 : decode cX2_init 29 = .ok (.iconst 3, 1) := by decide +kernel
theorem dX2_init_30 : decode cX2_init 30 = .ok (.anewarray 21, 3) := by decide +kernel
theorem dX2_init_33 : decode cX2_init 33 = .ok (.putfield 23, 3) := by decide +kernel
theorem dX2_init_36 : decode cX2_init 36 = .ok (.aload_n 0, 1) := by decide +kernel
theorem dX2_init_37 : decode cX2_init 37 = .ok (.sipush 1000, 3) := by decide +kernel
theorem dX2_init_40 : decode cX2_init 40 = .ok (.putfield 27, 3) := by decide +kernel
theorem dX2_init_43 : decode cX2_init 43 = .ok (.aload_n 0, 1) := by decide +kernel
theorem dX2_init_44 : decode cX2_init 44 = .ok (.bipush 10, 2) := by decide +kernel
theorem dX2_init_46 : decode cX2_init 46 = .ok (.putfield 31, 3) := by decide +kernel
theorem dX2_init_49 : decode cX2_init 49 = .ok (.aload_n 0, 1) := by decide +kernel
theorem dX2_init_50 : decode cX2_init 50 = .ok (.iload_n 1, 1) := by decide +kernel
theorem dX2_init_51 : decode cX2_init 51 = .ok (.putfield 34, 3) := by decide +kernel
theorem dX2_init_54 : decode cX2_init 54 = .ok (.return_, 1) := by decide +kernel
theorem dX2_tellLayer_0 : decode cX2_tellLayer 0 = .ok (.iload_n 1, 1) := by decide +kernel
theorem dX2_tellLayer_1 : decode cX2_tellLayer 1 = .ok (.invokestatic 37, 3) := by decide +kernel
theorem dX2_tellLayer_4 : decode cX2_tellLayer 4 = .ok (.ifCond .ne 4, 3) := by decide +kernel
theorem dX2_tellLayer_7 : decode cX2_tellLayer 7 = .ok (.return_, 1) := by decide +kernel
theorem dX2_tellLayer_8 : decode cX2_tellLayer 8 = .ok (.aload_n 0, 1) := by decide +kernel
theorem dX2_tellLayer_9 : decode cX2_tellLayer 9 = .ok (.dup, 1) := by decide +kernel
theorem dX2_tellLayer_10 : decode cX2_tellLayer 10 = .ok (.getfield 41, 3) := by decide +kernel
theorem dX2_tellLayer_13 : decode cX2_tellLayer 13 = .ok (.iload_n 2, 1) := by decide +kernel
theorem dX2_tellLayer_14 : decode cX2_tellLayer 14 = .ok (.aload_n 0, 1) := by decide +kernel
theorem dX2_tellLayer_15 : decode cX2_tellLayer 15 = .ok (.getfield 9, 3) := by decide +kernel
theorem dX2_tellLayer_18 : decode cX2_tellLayer 18 = .ok (.iload_n 1, 1) := by decide +kernel
theorem dX2_tellLayer_19 : decode cX2_tellLayer 19 = .ok (.iaload, 1) := by decide +kernel
theorem dX2_tellLayer_20 : decode cX2_tellLayer 20 = .ok (.isub, 1) := by decide +kernel
theorem dX2_tellLayer_21 : decode cX2_tellLayer 21 = .ok (.iadd, 1) := by decide +kernel
theorem dX2_tellLayer_22 : decode cX2_tellLayer 22 = .ok (.putfield 41, 3) := by decide +kernel
theorem dX2_tellLayer_25 : decode cX2_tellLayer 25 = .ok (.aload_n 0, 1) := by decide +kernel
theorem dX2_tellLayer_26 : decode cX2_tellLayer 26 = .ok (.getfield 9, 3) := by decide +kernel
theorem dX2_tellLayer_29 : decode cX2_tellLayer 29 = .ok (.iload_n 1, 1) := by decide +kernel
theorem dX2_tellLayer_30 : decode cX2_tellLayer 30 = .ok (.iload_n 2, 1) := by decide +kernel
theorem dX2_tellLayer_31 : decode cX2_tellLayer 31 = .ok (.iastore, 1) := by decide +kernel
theorem dX2_tellLayer_32 : decode cX2_tellLayer 32 = .ok (.aload_n 0, 1) := by decide +kernel
theorem dX2_tellLayer_33 : decode cX2_tellLayer 33 = .ok (.getfield 15, 3) := by decide +kernel
theorem dX2_tellLayer_36 : decode cX2_tellLayer 36 = .ok (.iload_n 1, 1) := by decide +kernel
theorem dX2_tellLayer_37 : decode cX2_tellLayer 37 = .ok (.iload_n 3, 1) := by decide +kernel
theorem dX2_tellLayer_38 : decode cX2_tellLayer 38 = .ok (.iastore, 1) := by decide +kernel
theorem dX2_tellLayer_39 : decode cX2_tellLayer 39 = .ok (.aload_n 0, 1) := by decide +kernel
theorem dX2_tellLayer_40 : decode cX2_tellLayer 40 = .ok (.getfield 18, 3) := by decide +kernel
theorem dX2_tellLayer_43 : decode cX2_tellLayer 43 = .ok (.iload_n 1, 1) := by decide +kernel
theorem dX2_tellLayer_44 : decode cX2_tellLayer 44 = .ok (.iload 4, 2) := by decide +kernel
theorem dX2_tellLayer_46 : decode cX2_tellLayer 46 = .ok (.iastore, 1) := by decide +kernel
theorem dX2_tellLayer_47 : decode cX2_tellLayer 47 = .ok (.return_, 1) := by decide +kernel
theorem dX2_tellNumber_0 : decode cX2_tellNumber 0 = .ok (.iload_n 1, 1) := by decide +kernel
theorem dX2_tellNumber_1 : decode cX2_tellNumber 1 = .ok (.tableswitch 75 0 4 #[35, 43, 51, 59, 67], 35) := by decide +kernel
theorem dX2_tellNumber_36 : decode cX2_tellNumber 36 = .ok (.aload_n 0, 1) := by decide +kernel
theorem dX2_tellNumber_37 : decode cX2_tellNumber 37 = .ok (.iload_n 2, 1) := by decide +kernel
theorem dX2_tellNumber_38 : decode cX2_tellNumber 38 = .ok (.putfield 27, 3) := by decide +kernel
theorem dX2_tellNumber_41 : decode cX2_tellNumber 41 = .ok (.goto 35, 3) := by decide +kernel
theorem dX2_tellNumber_44 : decode cX2_tellNumber 44 = .ok (.aload_n 0, 1) := by decide +kernel
theorem dX2_tellNumber_45 : decode cX2_tellNumber 45 = .ok (.iload_n 2, 1) := by decide +kernel
theorem dX2_tellNumber_46 : decode cX2_tellNumber 46 = .ok (.putfield 44, 3) := by decide +kernel
theorem dX2_tellNumber_49 : decode cX2_tellNumber 49 = .ok (.goto 27, 3) := by decide +kernel
theorem dX2_tellNumber_52 : decode cX2_tellNumber 52 = .ok (.aload_n 0, 1) := by decide +kernel
theorem dX2_tellNumber_53 : decode cX2_tellNumber 53 = .ok (.iload_n 2, 1) := by decide +kernel
theorem dX2_tellNumber_54 : decode cX2_tellNumber 54 = .ok (.putfield 47, 3) := by decide +kernel
theorem dX2_tellNumber_57 : decode cX2_tellNumber 57 = .ok (.goto 19, 3) := by decide +kernel
theorem dX2_tellNumber_60 : decode cX2_tellNumber 60 = .ok (.aload_n 0, 1) := by decide +kernel
theorem dX2_tellNumber_61 : decode cX2_tellNumber 61 = .ok (.iload_n 2, 1) := by decide +kernel
theorem dX2_tellNumber_62 : decode cX2_tellNumber 62 = .ok (.putfield 31, 3) := by decide +kernel
theorem dX2_tellNumber_65 : decode cX2_tellNumber 65 = .ok (.goto 11, 3) := by decide +kernel
theorem dX2_tellNumber_68 : decode cX2_tellNumber 68 = .ok (.aload_n 0, 1) := by decide +kernel
theorem dX2_tellNumber_69 : decode cX2_tellNumber 69 = .ok (.iload_n 2, 1) := by decide +kernel
theorem dX2_tellNumber_70 : decode cX2_tellNumber 70 = .ok (.putfield 34, 3) := by decide +kernel
theorem dX2_tellNumber_73 : decode cX2_tellNumber 73 = .ok (.goto 3, 3) := by decide +kernel
theorem dX2_tellNumber_76 : decode cX2_tellNumber 76 = .ok (.return_, 1) := by decide +kernel
theorem dX2_weightOf_0 : decode cX2_weightOf 0 = .ok (.iload_n 1, 1) := by decide +kernel
theorem dX2_weightOf_1 : decode cX2_weightOf 1 = .ok (.ifCond .lt 9, 3) := by decide +kernel
theorem dX2_weightOf_4 : decode cX2_weightOf 4 = .ok (.iload_n 1, 1) := by decide +kernel
theorem dX2_weightOf_5 : decode cX2_weightOf 5 = .ok (.bipush 10, 2) := by decide +kernel
theorem dX2_weightOf_7 : decode cX2_weightOf 7 = .ok (.if_icmp .lt 5, 3) := by decide +kernel
theorem dX2_weightOf_10 : decode cX2_weightOf 10 = .ok (.iconst 0, 1) := by decide +kernel
theorem dX2_weightOf_11 : decode cX2_weightOf 11 = .ok (.ireturn, 1) := by decide +kernel
theorem dX2_weightOf_12 : decode cX2_weightOf 12 = .ok (.iconst 4, 1) := by decide +kernel
theorem dX2_weightOf_13 : decode cX2_weightOf 13 = .ok (.aload_n 0, 1) := by decide +kernel
theorem dX2_weightOf_14 : decode cX2_weightOf 14 = .ok (.getfield 18, 3) := by decide +kernel
theorem dX2_weightOf_17 : decode cX2_weightOf 17 = .ok (.iload_n 1, 1) := by decide +kernel
theorem dX2_weightOf_18 : decode cX2_weightOf 18 = .ok (.iaload, 1) := by decide +kernel
theorem dX2_weightOf_19 : decode cX2_weightOf 19 = .ok (.imul, 1) := by decide +kernel
theorem dX2_weightOf_20 : decode cX2_weightOf 20 = .ok (.aload_n 0, 1) := by decide +kernel
theorem dX2_weightOf_21 : decode cX2_weightOf 21 = .ok (.getfield 15, 3) := by decide +kernel
theorem dX2_weightOf_24 : decode cX2_weightOf 24 = .ok (.iload_n 1, 1) := by decide +kernel
theorem dX2_weightOf_25 : decode cX2_weightOf 25 = .ok (.iaload, 1) := by decide +kernel
theorem dX2_weightOf_26 : decode cX2_weightOf 26 = .ok (.isub, 1) := by decide +kernel
theorem dX2_weightOf_27 : decode cX2_weightOf 27 = .ok (.aload_n 0, 1) := by decide +kernel
theorem dX2_weightOf_28 : decode cX2_weightOf 28 = .ok (.getfield 9, 3) := by decide +kernel
theorem dX2_weightOf_31 : decode cX2_weightOf 31 = .ok (.iload_n 1, 1) := by decide +kernel
theorem dX2_weightOf_32 : decode cX2_weightOf 32 = .ok (.iaload, 1) := by decide +kernel
theorem dX2_weightOf_33 : decode cX2_weightOf 33 = .ok (.bipush 50, 2) := by decide +kernel
theorem dX2_weightOf_35 : decode cX2_weightOf 35 = .ok (.idiv, 1) := by decide +kernel
theorem dX2_weightOf_36 : decode cX2_weightOf 36 = .ok (.iadd, 1) := by decide +kernel
theorem dX2_weightOf_37 : decode cX2_weightOf 37 = .ok (.ireturn, 1) := by decide +kernel
theorem dX2_holdsOf_0 : decode cX2_holdsOf 0 = .ok (.iconst 0, 1) := by decide +kernel
theorem dX2_holdsOf_1 : decode cX2_holdsOf 1 = .ok (.aload_n 0, 1) := by decide +kernel
theorem dX2_holdsOf_2 : decode cX2_holdsOf 2 = .ok (.getfield 27, 3) := by decide +kernel
theorem dX2_holdsOf_5 : decode cX2_holdsOf 5 = .ok (.iload_n 1, 1) := by decide +kernel
theorem dX2_holdsOf_6 : decode cX2_holdsOf 6 = .ok (.iconst 1, 1) := by decide +kernel
theorem dX2_holdsOf_7 : decode cX2_holdsOf 7 = .ok (.iadd, 1) := by decide +kernel
theorem dX2_holdsOf_8 : decode cX2_holdsOf 8 = .ok (.imul, 1) := by decide +kernel
theorem dX2_holdsOf_9 : decode cX2_holdsOf 9 = .ok (.aload_n 0, 1) := by decide +kernel
theorem dX2_holdsOf_10 : decode cX2_holdsOf 10 = .ok (.getfield 44, 3) := by decide +kernel
theorem dX2_holdsOf_13 : decode cX2_holdsOf 13 = .ok (.isub, 1) := by decide +kernel
theorem dX2_holdsOf_14 : decode cX2_holdsOf 14 = .ok (.invokestatic 50, 3) := by decide +kernel
theorem dX2_holdsOf_17 : decode cX2_holdsOf 17 = .ok (.ireturn, 1) := by decide +kernel
theorem dX2_fullest_0 : decode cX2_fullest 0 = .ok (.iconst 0, 1) := by decide +kernel
theorem dX2_fullest_1 : decode cX2_fullest 1 = .ok (.istore_n 1, 1) := by decide +kernel
theorem dX2_fullest_2 : decode cX2_fullest 2 = .ok (.iconst 0, 1) := by decide +kernel
theorem dX2_fullest_3 : decode cX2_fullest 3 = .ok (.istore_n 2, 1) := by decide +kernel
theorem dX2_fullest_4 : decode cX2_fullest 4 = .ok (.iload_n 2, 1) := by decide +kernel
theorem dX2_fullest_5 : decode cX2_fullest 5 = .ok (.bipush 10, 2) := by decide +kernel
theorem dX2_fullest_7 : decode cX2_fullest 7 = .ok (.if_icmp .ge 28, 3) := by decide +kernel
theorem dX2_fullest_10 : decode cX2_fullest 10 = .ok (.iload_n 1, 1) := by decide +kernel
theorem dX2_fullest_11 : decode cX2_fullest 11 = .ok (.aload_n 0, 1) := by decide +kernel
theorem dX2_fullest_12 : decode cX2_fullest 12 = .ok (.getfield 9, 3) := by decide +kernel
theorem dX2_fullest_15 : decode cX2_fullest 15 = .ok (.iload_n 2, 1) := by decide +kernel
theorem dX2_fullest_16 : decode cX2_fullest 16 = .ok (.iaload, 1) := by decide +kernel
theorem dX2_fullest_17 : decode cX2_fullest 17 = .ok (.aload_n 0, 1) := by decide +kernel
theorem dX2_fullest_18 : decode cX2_fullest 18 = .ok (.iload_n 2, 1) := by decide +kernel
theorem dX2_fullest_19 : decode cX2_fullest 19 = .ok (.invokevirtual 56, 3) := by decide +kernel
theorem dX2_fullest_22 : decode cX2_fullest 22 = .ok (.invokestatic 60, 3) := by decide +kernel
theorem dX2_fullest_25 : decode cX2_fullest 25 = .ok (.invokestatic 50, 3) := by decide +kernel
theorem dX2_fullest_28 : decode cX2_fullest 28 = .ok (.istore_n 1, 1) := by decide +kernel
theorem dX2_fullest_29 : decode cX2_fullest 29 = .ok (.iinc 2 1, 3) := by decide +kernel
theorem dX2_fullest_32 : decode cX2_fullest 32 = .ok (.goto (-28), 3) := by decide +kernel
theorem dX2_fullest_35 : decode cX2_fullest 35 = .ok (.iload_n 1, 1) := by decide +kernel
theorem dX2_fullest_36 : decode cX2_fullest 36 = .ok (.ireturn, 1) := by decide +kernel
theorem dX2_gasInAll_0 : decode cX2_gasInAll 0 = .ok (.iconst 0, 1) := by decide +kernel
theorem dX2_gasInAll_1 : decode cX2_gasInAll 1 = .ok (.istore_n 1, 1) := by decide +kernel
theorem dX2_gasInAll_2 : decode cX2_gasInAll 2 = .ok (.iconst 0, 1) := by decide +kernel
theorem dX2_gasInAll_3 : decode cX2_gasInAll 3 = .ok (.istore_n 2, 1) := by decide +kernel
theorem dX2_gasInAll_4 : decode cX2_gasInAll 4 = .ok (.iload_n 2, 1) := by decide +kernel
theorem dX2_gasInAll_5 : decode cX2_gasInAll 5 = .ok (.bipush 10, 2) := by decide +kernel
theorem dX2_gasInAll_7 : decode cX2_gasInAll 7 = .ok (.if_icmp .ge 18, 3) := by decide +kernel
theorem dX2_gasInAll_10 : decode cX2_gasInAll 10 = .ok (.iload_n 1, 1) := by decide +kernel
theorem dX2_gasInAll_11 : decode cX2_gasInAll 11 = .ok (.aload_n 0, 1) := by decide +kernel
theorem dX2_gasInAll_12 : decode cX2_gasInAll 12 = .ok (.getfield 9, 3) := by decide +kernel
theorem dX2_gasInAll_15 : decode cX2_gasInAll 15 = .ok (.iload_n 2, 1) := by decide +kernel
theorem dX2_gasInAll_16 : decode cX2_gasInAll 16 = .ok (.iaload, 1) := by decide +kernel
theorem dX2_gasInAll_17 : decode cX2_gasInAll 17 = .ok (.iadd, 1) := by decide +kernel
theorem dX2_gasInAll_18 : decode cX2_gasInAll 18 = .ok (.istore_n 1, 1) := by decide +kernel
theorem dX2_gasInAll_19 : decode cX2_gasInAll 19 = .ok (.iinc 2 1, 3) := by decide +kernel
theorem dX2_gasInAll_22 : decode cX2_gasInAll 22 = .ok (.goto (-18), 3) := by decide +kernel
theorem dX2_gasInAll_25 : decode cX2_gasInAll 25 = .ok (.iload_n 1, 1) := by decide +kernel
theorem dX2_gasInAll_26 : decode cX2_gasInAll 26 = .ok (.ireturn, 1) := by decide +kernel
theorem dX2_hasRoomForPipe_0 : decode cX2_hasRoomForPipe 0 = .ok (.aload_n 0, 1) := by decide +kernel
theorem dX2_hasRoomForPipe_1 : decode cX2_hasRoomForPipe 1 = .ok (.getfield 63, 3) := by decide +kernel
theorem dX2_hasRoomForPipe_4 : decode cX2_hasRoomForPipe 4 = .ok (.aload_n 0, 1) := by decide +kernel
theorem dX2_hasRoomForPipe_5 : decode cX2_hasRoomForPipe 5 = .ok (.getfield 23, 3) := by decide +kernel
theorem dX2_hasRoomForPipe_8 : decode cX2_hasRoomForPipe 8 = .ok (.arraylength, 1) := by decide +kernel
theorem dX2_hasRoomForPipe_9 : decode cX2_hasRoomForPipe 9 = .ok (.if_icmp .ge 7, 3) := by decide +kernel
theorem dX2_hasRoomForPipe_12 : decode cX2_hasRoomForPipe 12 = .ok (.iconst 1, 1) := by decide +kernel
theorem dX2_hasRoomForPipe_13 : decode cX2_hasRoomForPipe 13 = .ok (.goto 4, 3) := by decide +kernel
theorem dX2_hasRoomForPipe_16 : decode cX2_hasRoomForPipe 16 = .ok (.iconst 0, 1) := by decide +kernel
theorem dX2_hasRoomForPipe_17 : decode cX2_hasRoomForPipe 17 = .ok (.ireturn, 1) := by decide +kernel
theorem dX2_addPipe_0 : decode cX2_addPipe 0 = .ok (.aload_n 0, 1) := by decide +kernel
theorem dX2_addPipe_1 : decode cX2_addPipe 1 = .ok (.getfield 63, 3) := by decide +kernel
theorem dX2_addPipe_4 : decode cX2_addPipe 4 = .ok (.ifCond .lt 35, 3) := by decide +kernel
theorem dX2_addPipe_7 : decode cX2_addPipe 7 = .ok (.aload_n 0, 1) := by decide +kernel
theorem dX2_addPipe_8 : decode cX2_addPipe 8 = .ok (.getfield 63, 3) := by decide +kernel
theorem dX2_addPipe_11 : decode cX2_addPipe 11 = .ok (.aload_n 0, 1) := by decide +kernel
theorem dX2_addPipe_12 : decode cX2_addPipe 12 = .ok (.getfield 23, 3) := by decide +kernel
theorem dX2_addPipe_15 : decode cX2_addPipe 15 = .ok (.arraylength, 1) := by decide +kernel
theorem dX2_addPipe_16 : decode cX2_addPipe 16 = .ok (.if_icmp .ge 23, 3) := by decide +kernel
theorem dX2_addPipe_19 : decode cX2_addPipe 19 = .ok (.aload_n 0, 1) := by decide +kernel
theorem dX2_addPipe_20 : decode cX2_addPipe 20 = .ok (.getfield 23, 3) := by decide +kernel
theorem dX2_addPipe_23 : decode cX2_addPipe 23 = .ok (.aload_n 0, 1) := by decide +kernel
theorem dX2_addPipe_24 : decode cX2_addPipe 24 = .ok (.getfield 63, 3) := by decide +kernel
theorem dX2_addPipe_27 : decode cX2_addPipe 27 = .ok (.aload_n 1, 1) := by decide +kernel
theorem dX2_addPipe_28 : decode cX2_addPipe 28 = .ok (.aastore, 1) := by decide +kernel
theorem dX2_addPipe_29 : decode cX2_addPipe 29 = .ok (.aload_n 0, 1) := by decide +kernel
theorem dX2_addPipe_30 : decode cX2_addPipe 30 = .ok (.dup, 1) := by decide +kernel
theorem dX2_addPipe_31 : decode cX2_addPipe 31 = .ok (.getfield 63, 3) := by decide +kernel
theorem dX2_addPipe_34 : decode cX2_addPipe 34 = .ok (.iconst 1, 1) := by decide +kernel
theorem dX2_addPipe_35 : decode cX2_addPipe 35 = .ok (.iadd, 1) := by decide +kernel
theorem dX2_addPipe_36 : decode cX2_addPipe 36 = .ok (.putfield 63, 3) := by decide +kernel
theorem dX2_addPipe_39 : decode cX2_addPipe 39 = .ok (.return_, 1) := by decide +kernel
theorem dX2_pipesRunning_0 : decode cX2_pipesRunning 0 = .ok (.iconst 0, 1) := by decide +kernel
theorem dX2_pipesRunning_1 : decode cX2_pipesRunning 1 = .ok (.istore_n 1, 1) := by decide +kernel
theorem dX2_pipesRunning_2 : decode cX2_pipesRunning 2 = .ok (.iconst 0, 1) := by decide +kernel
theorem dX2_pipesRunning_3 : decode cX2_pipesRunning 3 = .ok (.istore_n 2, 1) := by decide +kernel
theorem dX2_pipesRunning_4 : decode cX2_pipesRunning 4 = .ok (.iload_n 2, 1) := by decide +kernel
theorem dX2_pipesRunning_5 : decode cX2_pipesRunning 5 = .ok (.aload_n 0, 1) := by decide +kernel
theorem dX2_pipesRunning_6 : decode cX2_pipesRunning 6 = .ok (.getfield 63, 3) := by decide +kernel
theorem dX2_pipesRunning_9 : decode cX2_pipesRunning 9 = .ok (.if_icmp .ge 39, 3) := by decide +kernel
theorem dX2_pipesRunning_12 : decode cX2_pipesRunning 12 = .ok (.iload_n 2, 1) := by decide +kernel
theorem dX2_pipesRunning_13 : decode cX2_pipesRunning 13 = .ok (.aload_n 0, 1) := by decide +kernel
theorem dX2_pipesRunning_14 : decode cX2_pipesRunning 14 = .ok (.getfield 23, 3) := by decide +kernel
theorem dX2_pipesRunning_17 : decode cX2_pipesRunning 17 = .ok (.arraylength, 1) := by decide +kernel
theorem dX2_pipesRunning_18 : decode cX2_pipesRunning 18 = .ok (.if_icmp .ge 30, 3) := by decide +kernel
theorem dX2_pipesRunning_21 : decode cX2_pipesRunning 21 = .ok (.aload_n 0, 1) := by decide +kernel
theorem dX2_pipesRunning_22 : decode cX2_pipesRunning 22 = .ok (.getfield 23, 3) := by decide +kernel
theorem dX2_pipesRunning_25 : decode cX2_pipesRunning 25 = .ok (.iload_n 2, 1) := by decide +kernel
theorem dX2_pipesRunning_26 : decode cX2_pipesRunning 26 = .ok (.aaload, 1) := by decide +kernel
theorem dX2_pipesRunning_27 : decode cX2_pipesRunning 27 = .ok (.astore_n 3, 1) := by decide +kernel
theorem dX2_pipesRunning_28 : decode cX2_pipesRunning 28 = .ok (.aload_n 3, 1) := by decide +kernel
theorem dX2_pipesRunning_29 : decode cX2_pipesRunning 29 = .ok (.ifnull 13, 3) := by decide +kernel
theorem dX2_pipesRunning_32 : decode cX2_pipesRunning 32 = .ok (.aload_n 3, 1) := by decide +kernel
theorem dX2_pipesRunning_33 : decode cX2_pipesRunning 33 = .ok (.getfield 66, 3) := by decide +kernel
theorem dX2_pipesRunning_36 : decode cX2_pipesRunning 36 = .ok (.ifCond .eq 6, 3) := by decide +kernel
theorem dX2_pipesRunning_39 : decode cX2_pipesRunning 39 = .ok (.iinc 1 1, 3) := by decide +kernel
theorem dX2_pipesRunning_42 : decode cX2_pipesRunning 42 = .ok (.iinc 2 1, 3) := by decide +kernel
theorem dX2_pipesRunning_45 : decode cX2_pipesRunning 45 = .ok (.goto (-41), 3) := by decide +kernel
theorem dX2_pipesRunning_48 : decode cX2_pipesRunning 48 = .ok (.iload_n 1, 1) := by decide +kernel
theorem dX2_pipesRunning_49 : decode cX2_pipesRunning 49 = .ok (.ireturn, 1) := by decide +kernel
theorem dX2_movesTo_0 : decode cX2_movesTo 0 = .ok (.iconst 0, 1) := by decide +kernel
theorem dX2_movesTo_1 : decode cX2_movesTo 1 = .ok (.istore_n 2, 1) := by decide +kernel
theorem dX2_movesTo_2 : decode cX2_movesTo 2 = .ok (.iconst 0, 1) := by decide +kernel
theorem dX2_movesTo_3 : decode cX2_movesTo 3 = .ok (.istore_n 3, 1) := by decide +kernel
theorem dX2_movesTo_4 : decode cX2_movesTo 4 = .ok (.iload_n 3, 1) := by decide +kernel
theorem dX2_movesTo_5 : decode cX2_movesTo 5 = .ok (.aload_n 0, 1) := by decide +kernel
theorem dX2_movesTo_6 : decode cX2_movesTo 6 = .ok (.getfield 63, 3) := by decide +kernel
theorem dX2_movesTo_9 : decode cX2_movesTo 9 = .ok (.if_icmp .ge 51, 3) := by decide +kernel
theorem dX2_movesTo_12 : decode cX2_movesTo 12 = .ok (.iload_n 3, 1) := by decide +kernel
theorem dX2_movesTo_13 : decode cX2_movesTo 13 = .ok (.aload_n 0, 1) := by decide +kernel
theorem dX2_movesTo_14 : decode cX2_movesTo 14 = .ok (.getfield 23, 3) := by decide +kernel
theorem dX2_movesTo_17 : decode cX2_movesTo 17 = .ok (.arraylength, 1) := by decide +kernel
theorem dX2_movesTo_18 : decode cX2_movesTo 18 = .ok (.if_icmp .ge 42, 3) := by decide +kernel
theorem dX2_movesTo_21 : decode cX2_movesTo 21 = .ok (.iload_n 3, 1) := by decide +kernel
theorem dX2_movesTo_22 : decode cX2_movesTo 22 = .ok (.aload_n 1, 1) := by decide +kernel
theorem dX2_movesTo_23 : decode cX2_movesTo 23 = .ok (.arraylength, 1) := by decide +kernel
theorem dX2_movesTo_24 : decode cX2_movesTo 24 = .ok (.if_icmp .ge 36, 3) := by decide +kernel
theorem dX2_movesTo_27 : decode cX2_movesTo 27 = .ok (.aload_n 0, 1) := by decide +kernel
theorem dX2_movesTo_28 : decode cX2_movesTo 28 = .ok (.getfield 23, 3) := by decide +kernel
theorem dX2_movesTo_31 : decode cX2_movesTo 31 = .ok (.iload_n 3, 1) := by decide +kernel
theorem dX2_movesTo_32 : decode cX2_movesTo 32 = .ok (.aaload, 1) := by decide +kernel
theorem dX2_movesTo_33 : decode cX2_movesTo 33 = .ok (.astore 4, 2) := by decide +kernel
theorem dX2_movesTo_35 : decode cX2_movesTo 35 = .ok (.aload 4, 2) := by decide +kernel
theorem dX2_movesTo_37 : decode cX2_movesTo 37 = .ok (.ifnull 17, 3) := by decide +kernel
theorem dX2_movesTo_40 : decode cX2_movesTo 40 = .ok (.aload 4, 2) := by decide +kernel
theorem dX2_movesTo_42 : decode cX2_movesTo 42 = .ok (.getfield 70, 3) := by decide +kernel
theorem dX2_movesTo_45 : decode cX2_movesTo 45 = .ok (.aload_n 1, 1) := by decide +kernel
theorem dX2_movesTo_46 : decode cX2_movesTo 46 = .ok (.iload_n 3, 1) := by decide +kernel
theorem dX2_movesTo_47 : decode cX2_movesTo 47 = .ok (.iaload, 1) := by decide +kernel
theorem dX2_movesTo_48 : decode cX2_movesTo 48 = .ok (.if_icmp .eq 6, 3) := by decide +kernel
theorem dX2_movesTo_51 : decode cX2_movesTo 51 = .ok (.iinc 2 1, 3) := by decide +kernel
theorem dX2_movesTo_54 : decode cX2_movesTo 54 = .ok (.iinc 3 1, 3) := by decide +kernel
theorem dX2_movesTo_57 : decode cX2_movesTo 57 = .ok (.goto (-53), 3) := by decide +kernel
theorem dX2_movesTo_60 : decode cX2_movesTo 60 = .ok (.iload_n 2, 1) := by decide +kernel
theorem dX2_movesTo_61 : decode cX2_movesTo 61 = .ok (.ireturn, 1) := by decide +kernel
theorem dX2_become_0 : decode cX2_become 0 = .ok (.iconst 0, 1) := by decide +kernel
theorem dX2_become_1 : decode cX2_become 1 = .ok (.istore_n 2, 1) := by decide +kernel
theorem dX2_become_2 : decode cX2_become 2 = .ok (.iload_n 2, 1) := by decide +kernel
theorem dX2_become_3 : decode cX2_become 3 = .ok (.bipush 10, 2) := by decide +kernel
theorem dX2_become_5 : decode cX2_become 5 = .ok (.if_icmp .ge 45, 3) := by decide +kernel
theorem dX2_become_8 : decode cX2_become 8 = .ok (.aload_n 0, 1) := by decide +kernel
theorem dX2_become_9 : decode cX2_become 9 = .ok (.getfield 9, 3) := by decide +kernel
theorem dX2_become_12 : decode cX2_become 12 = .ok (.iload_n 2, 1) := by decide +kernel
theorem dX2_become_13 : decode cX2_become 13 = .ok (.aload_n 1, 1) := by decide +kernel
theorem dX2_become_14 : decode cX2_become 14 = .ok (.getfield 9, 3) := by decide +kernel
theorem dX2_become_17 : decode cX2_become 17 = .ok (.iload_n 2, 1) := by decide +kernel
theorem dX2_become_18 : decode cX2_become 18 = .ok (.iaload, 1) := by decide +kernel
theorem dX2_become_19 : decode cX2_become 19 = .ok (.iastore, 1) := by decide +kernel
theorem dX2_become_20 : decode cX2_become 20 = .ok (.aload_n 0, 1) := by decide +kernel
theorem dX2_become_21 : decode cX2_become 21 = .ok (.getfield 15, 3) := by decide +kernel
theorem dX2_become_24 : decode cX2_become 24 = .ok (.iload_n 2, 1) := by decide +kernel
theorem dX2_become_25 : decode cX2_become 25 = .ok (.aload_n 1, 1) := by decide +kernel
theorem dX2_become_26 : decode cX2_become 26 = .ok (.getfield 15, 3) := by decide +kernel
theorem dX2_become_29 : decode cX2_become 29 = .ok (.iload_n 2, 1) := by decide +kernel
theorem dX2_become_30 : decode cX2_become 30 = .ok (.iaload, 1) := by decide +kernel
theorem dX2_become_31 : decode cX2_become 31 = .ok (.iastore, 1) := by decide +kernel
theorem dX2_become_32 : decode cX2_become 32 = .ok (.aload_n 0, 1) := by decide +kernel
theorem dX2_become_33 : decode cX2_become 33 = .ok (.getfield 18, 3) := by decide +kernel
theorem dX2_become_36 : decode cX2_become 36 = .ok (.iload_n 2, 1) := by decide +kernel
theorem dX2_become_37 : decode cX2_become 37 = .ok (.aload_n 1, 1) := by decide +kernel
theorem dX2_become_38 : decode cX2_become 38 = .ok (.getfield 18, 3) := by decide +kernel
theorem dX2_become_41 : decode cX2_become 41 = .ok (.iload_n 2, 1) := by decide +kernel
theorem dX2_become_42 : decode cX2_become 42 = .ok (.iaload, 1) := by decide +kernel
theorem dX2_become_43 : decode cX2_become 43 = .ok (.iastore, 1) := by decide +kernel
theorem dX2_become_44 : decode cX2_become 44 = .ok (.iinc 2 1, 3) := by decide +kernel
theorem dX2_become_47 : decode cX2_become 47 = .ok (.goto (-45), 3) := by decide +kernel
theorem dX2_become_50 : decode cX2_become 50 = .ok (.aload_n 0, 1) := by decide +kernel
theorem dX2_become_51 : decode cX2_become 51 = .ok (.aload_n 1, 1) := by decide +kernel
theorem dX2_become_52 : decode cX2_become 52 = .ok (.getfield 27, 3) := by decide +kernel
theorem dX2_become_55 : decode cX2_become 55 = .ok (.putfield 27, 3) := by decide +kernel
theorem dX2_become_58 : decode cX2_become 58 = .ok (.aload_n 0, 1) := by decide +kernel
theorem dX2_become_59 : decode cX2_become 59 = .ok (.aload_n 1, 1) := by decide +kernel
theorem dX2_become_60 : decode cX2_become 60 = .ok (.getfield 44, 3) := by decide +kernel
theorem dX2_become_63 : decode cX2_become 63 = .ok (.putfield 44, 3) := by decide +kernel
theorem dX2_become_66 : decode cX2_become 66 = .ok (.aload_n 0, 1) := by decide +kernel
theorem dX2_become_67 : decode cX2_become 67 = .ok (.aload_n 1, 1) := by decide +kernel
theorem dX2_become_68 : decode cX2_become 68 = .ok (.getfield 47, 3) := by decide +kernel
theorem dX2_become_71 : decode cX2_become 71 = .ok (.putfield 47, 3) := by decide +kernel
theorem dX2_become_74 : decode cX2_become 74 = .ok (.aload_n 0, 1) := by decide +kernel
theorem dX2_become_75 : decode cX2_become 75 = .ok (.aload_n 1, 1) := by decide +kernel
theorem dX2_become_76 : decode cX2_become 76 = .ok (.getfield 31, 3) := by decide +kernel
theorem dX2_become_79 : decode cX2_become 79 = .ok (.putfield 31, 3) := by decide +kernel
theorem dX2_become_82 : decode cX2_become 82 = .ok (.aload_n 0, 1) := by decide +kernel
theorem dX2_become_83 : decode cX2_become 83 = .ok (.aload_n 1, 1) := by decide +kernel
theorem dX2_become_84 : decode cX2_become 84 = .ok (.getfield 63, 3) := by decide +kernel
theorem dX2_become_87 : decode cX2_become 87 = .ok (.putfield 63, 3) := by decide +kernel
theorem dX2_become_90 : decode cX2_become 90 = .ok (.iconst 0, 1) := by decide +kernel
theorem dX2_become_91 : decode cX2_become 91 = .ok (.istore_n 2, 1) := by decide +kernel
theorem dX2_become_92 : decode cX2_become 92 = .ok (.iload_n 2, 1) := by decide +kernel
theorem dX2_become_93 : decode cX2_become 93 = .ok (.aload_n 0, 1) := by decide +kernel
theorem dX2_become_94 : decode cX2_become 94 = .ok (.getfield 63, 3) := by decide +kernel
theorem dX2_become_97 : decode cX2_become 97 = .ok (.if_icmp .ge 78, 3) := by decide +kernel
theorem dX2_become_100 : decode cX2_become 100 = .ok (.iload_n 2, 1) := by decide +kernel
theorem dX2_become_101 : decode cX2_become 101 = .ok (.aload_n 0, 1) := by decide +kernel
theorem dX2_become_102 : decode cX2_become 102 = .ok (.getfield 23, 3) := by decide +kernel
theorem dX2_become_105 : decode cX2_become 105 = .ok (.arraylength, 1) := by decide +kernel
theorem dX2_become_106 : decode cX2_become 106 = .ok (.if_icmp .ge 69, 3) := by decide +kernel
theorem dX2_become_109 : decode cX2_become 109 = .ok (.iload_n 2, 1) := by decide +kernel
theorem dX2_become_110 : decode cX2_become 110 = .ok (.aload_n 1, 1) := by decide +kernel
theorem dX2_become_111 : decode cX2_become 111 = .ok (.getfield 23, 3) := by decide +kernel
theorem dX2_become_114 : decode cX2_become 114 = .ok (.arraylength, 1) := by decide +kernel
theorem dX2_become_115 : decode cX2_become 115 = .ok (.if_icmp .ge 60, 3) := by decide +kernel
theorem dX2_become_118 : decode cX2_become 118 = .ok (.aload_n 1, 1) := by decide +kernel
theorem dX2_become_119 : decode cX2_become 119 = .ok (.getfield 23, 3) := by decide +kernel
theorem dX2_become_122 : decode cX2_become 122 = .ok (.iload_n 2, 1) := by decide +kernel
theorem dX2_become_123 : decode cX2_become 123 = .ok (.aaload, 1) := by decide +kernel
theorem dX2_become_124 : decode cX2_become 124 = .ok (.astore_n 3, 1) := by decide +kernel
theorem dX2_become_125 : decode cX2_become 125 = .ok (.aload_n 0, 1) := by decide +kernel
theorem dX2_become_126 : decode cX2_become 126 = .ok (.getfield 23, 3) := by decide +kernel
theorem dX2_become_129 : decode cX2_become 129 = .ok (.iload_n 2, 1) := by decide +kernel
theorem dX2_become_130 : decode cX2_become 130 = .ok (.aaload, 1) := by decide +kernel
theorem dX2_become_131 : decode cX2_become 131 = .ok (.astore 4, 2) := by decide +kernel
theorem dX2_become_133 : decode cX2_become 133 = .ok (.aload 4, 2) := by decide +kernel
theorem dX2_become_135 : decode cX2_become 135 = .ok (.ifnonnull 24, 3) := by decide +kernel
theorem dX2_become_138 : decode cX2_become 138 = .ok (.new 21, 3) := by decide +kernel
theorem dX2_become_141 : decode cX2_become 141 = .ok (.dup, 1) := by decide +kernel
theorem dX2_become_142 : decode cX2_become 142 = .ok (.iconst 0, 1) := by decide +kernel
theorem dX2_become_143 : decode cX2_become 143 = .ok (.iconst 0, 1) := by decide +kernel
theorem dX2_become_144 : decode cX2_become 144 = .ok (.iconst 0, 1) := by decide +kernel
theorem dX2_become_145 : decode cX2_become 145 = .ok (.iconst 0, 1) := by decide +kernel
theorem dX2_become_146 : decode cX2_become 146 = .ok (.invokespecial 73, 3) := by decide +kernel
theorem dX2_become_149 : decode cX2_become 149 = .ok (.astore 4, 2) := by decide +kernel
theorem dX2_become_151 : decode cX2_become 151 = .ok (.aload_n 0, 1) := by decide +kernel
theorem dX2_become_152 : decode cX2_become 152 = .ok (.getfield 23, 3) := by decide +kernel
theorem dX2_become_155 : decode cX2_become 155 = .ok (.iload_n 2, 1) := by decide +kernel
theorem dX2_become_156 : decode cX2_become 156 = .ok (.aload 4, 2) := by decide +kernel
theorem dX2_become_158 : decode cX2_become 158 = .ok (.aastore, 1) := by decide +kernel
theorem dX2_become_159 : decode cX2_become 159 = .ok (.aload_n 3, 1) := by decide +kernel
theorem dX2_become_160 : decode cX2_become 160 = .ok (.ifnull 9, 3) := by decide +kernel
theorem dX2_become_163 : decode cX2_become 163 = .ok (.aload 4, 2) := by decide +kernel
theorem dX2_become_165 : decode cX2_become 165 = .ok (.aload_n 3, 1) := by decide +kernel
theorem dX2_become_166 : decode cX2_become 166 = .ok (.invokevirtual 76, 3) := by decide +kernel
theorem dX2_become_169 : decode cX2_become 169 = .ok (.iinc 2 1, 3) := by decide +kernel
theorem dX2_become_172 : decode cX2_become 172 = .ok (.goto (-80), 3) := by decide +kernel
theorem dX2_become_175 : decode cX2_become 175 = .ok (.return_, 1) := by decide +kernel
theorem dX2_tryPipe_0 : decode cX2_tryPipe 0 = .ok (.iload_n 1, 1) := by decide +kernel
theorem dX2_tryPipe_1 : decode cX2_tryPipe 1 = .ok (.ifCond .lt 20, 3) := by decide +kernel
theorem dX2_tryPipe_4 : decode cX2_tryPipe 4 = .ok (.iload_n 1, 1) := by decide +kernel
theorem dX2_tryPipe_5 : decode cX2_tryPipe 5 = .ok (.aload_n 0, 1) := by decide +kernel
theorem dX2_tryPipe_6 : decode cX2_tryPipe 6 = .ok (.getfield 63, 3) := by decide +kernel
theorem dX2_tryPipe_9 : decode cX2_tryPipe 9 = .ok (.if_icmp .ge 12, 3) := by decide +kernel
theorem dX2_tryPipe_12 : decode cX2_tryPipe 12 = .ok (.iload_n 1, 1) := by decide +kernel
theorem dX2_tryPipe_13 : decode cX2_tryPipe 13 = .ok (.aload_n 0, 1) := by decide +kernel
theorem dX2_tryPipe_14 : decode cX2_tryPipe 14 = .ok (.getfield 23, 3) := by decide +kernel
theorem dX2_tryPipe_17 : decode cX2_tryPipe 17 = .ok (.arraylength, 1) := by decide +kernel
theorem dX2_tryPipe_18 : decode cX2_tryPipe 18 = .ok (.if_icmp .lt 4, 3) := by decide +kernel
theorem dX2_tryPipe_21 : decode cX2_tryPipe 21 = .ok (.return_, 1) := by decide +kernel
theorem dX2_tryPipe_22 : decode cX2_tryPipe 22 = .ok (.aload_n 0, 1) := by decide +kernel
theorem dX2_tryPipe_23 : decode cX2_tryPipe 23 = .ok (.getfield 23, 3) := by decide +kernel
theorem dX2_tryPipe_26 : decode cX2_tryPipe 26 = .ok (.iload_n 1, 1) := by decide +kernel
theorem dX2_tryPipe_27 : decode cX2_tryPipe 27 = .ok (.aaload, 1) := by decide +kernel
theorem dX2_tryPipe_28 : decode cX2_tryPipe 28 = .ok (.astore_n 3, 1) := by decide +kernel
theorem dX2_tryPipe_29 : decode cX2_tryPipe 29 = .ok (.aload_n 3, 1) := by decide +kernel
theorem dX2_tryPipe_30 : decode cX2_tryPipe 30 = .ok (.ifnull 21, 3) := by decide +kernel
theorem dX2_tryPipe_33 : decode cX2_tryPipe 33 = .ok (.aload_n 3, 1) := by decide +kernel
theorem dX2_tryPipe_34 : decode cX2_tryPipe 34 = .ok (.getfield 70, 3) := by decide +kernel
theorem dX2_tryPipe_37 : decode cX2_tryPipe 37 = .ok (.iload_n 2, 1) := by decide +kernel
theorem dX2_tryPipe_38 : decode cX2_tryPipe 38 = .ok (.if_icmp .eq 13, 3) := by decide +kernel
theorem dX2_tryPipe_41 : decode cX2_tryPipe 41 = .ok (.aload_n 3, 1) := by decide +kernel
theorem dX2_tryPipe_42 : decode cX2_tryPipe 42 = .ok (.iload_n 2, 1) := by decide +kernel
theorem dX2_tryPipe_43 : decode cX2_tryPipe 43 = .ok (.putfield 70, 3) := by decide +kernel
theorem dX2_tryPipe_46 : decode cX2_tryPipe 46 = .ok (.aload_n 3, 1) := by decide +kernel
theorem dX2_tryPipe_47 : decode cX2_tryPipe 47 = .ok (.iconst 1, 1) := by decide +kernel
theorem dX2_tryPipe_48 : decode cX2_tryPipe 48 = .ok (.putfield 66, 3) := by decide +kernel
theorem dX2_tryPipe_51 : decode cX2_tryPipe 51 = .ok (.return_, 1) := by decide +kernel
theorem dX2_daysToBelow_0 : decode cX2_daysToBelow 0 = .ok (.iconst 1, 1) := by decide +kernel
theorem dX2_daysToBelow_1 : decode cX2_daysToBelow 1 = .ok (.istore_n 3, 1) := by decide +kernel
theorem dX2_daysToBelow_2 : decode cX2_daysToBelow 2 = .ok (.iload_n 3, 1) := by decide +kernel
theorem dX2_daysToBelow_3 : decode cX2_daysToBelow 3 = .ok (.iload_n 2, 1) := by decide +kernel
theorem dX2_daysToBelow_4 : decode cX2_daysToBelow 4 = .ok (.if_icmp .gt 29, 3) := by decide +kernel
theorem dX2_daysToBelow_7 : decode cX2_daysToBelow 7 = .ok (.aload_n 0, 1) := by decide +kernel
theorem dX2_daysToBelow_8 : decode cX2_daysToBelow 8 = .ok (.invokevirtual 80, 3) := by decide +kernel
theorem dX2_daysToBelow_11 : decode cX2_daysToBelow 11 = .ok (.ifCond .eq 6, 3) := by decide +kernel
theorem dX2_daysToBelow_14 : decode cX2_daysToBelow 14 = .ok (.bipush (-2), 2) := by decide +kernel
theorem dX2_daysToBelow_16 : decode cX2_daysToBelow 16 = .ok (.ireturn, 1) := by decide +kernel
theorem dX2_daysToBelow_17 : decode cX2_daysToBelow 17 = .ok (.aload_n 0, 1) := by decide +kernel
theorem dX2_daysToBelow_18 : decode cX2_daysToBelow 18 = .ok (.invokevirtual 84, 3) := by decide +kernel
theorem dX2_daysToBelow_21 : decode cX2_daysToBelow 21 = .ok (.iload_n 1, 1) := by decide +kernel
theorem dX2_daysToBelow_22 : decode cX2_daysToBelow 22 = .ok (.if_icmp .ge 5, 3) := by decide +kernel
theorem dX2_daysToBelow_25 : decode cX2_daysToBelow 25 = .ok (.iload_n 3, 1) := by decide +kernel
theorem dX2_daysToBelow_26 : decode cX2_daysToBelow 26 = .ok (.ireturn, 1) := by decide +kernel
theorem dX2_daysToBelow_27 : decode cX2_daysToBelow 27 = .ok (.iinc 3 1, 3) := by decide +kernel
theorem dX2_daysToBelow_30 : decode cX2_daysToBelow 30 = .ok (.goto (-28), 3) := by decide +kernel
theorem dX2_daysToBelow_33 : decode cX2_daysToBelow 33 = .ok (.bipush (-2), 2) := by decide +kernel
theorem dX2_daysToBelow_35 : decode cX2_daysToBelow 35 = .ok (.ireturn, 1) := by decide +kernel
theorem dX2_goOn_0 : decode cX2_goOn 0 = .ok (.aload_n 0, 1) := by decide +kernel
theorem dX2_goOn_1 : decode cX2_goOn 1 = .ok (.invokevirtual 88, 3) := by decide +kernel
theorem dX2_goOn_4 : decode cX2_goOn 4 = .ok (.aload_n 0, 1) := by decide +kernel
theorem dX2_goOn_5 : decode cX2_goOn 5 = .ok (.invokevirtual 91, 3) := by decide +kernel
theorem dX2_goOn_8 : decode cX2_goOn 8 = .ok (.aload_n 0, 1) := by decide +kernel
theorem dX2_goOn_9 : decode cX2_goOn 9 = .ok (.invokevirtual 94, 3) := by decide +kernel
theorem dX2_goOn_12 : decode cX2_goOn 12 = .ok (.aload_n 0, 1) := by decide +kernel
theorem dX2_goOn_13 : decode cX2_goOn 13 = .ok (.invokevirtual 97, 3) := by decide +kernel
theorem dX2_goOn_16 : decode cX2_goOn 16 = .ok (.aload_n 0, 1) := by decide +kernel
theorem dX2_goOn_17 : decode cX2_goOn 17 = .ok (.invokevirtual 100, 3) := by decide +kernel
theorem dX2_goOn_20 : decode cX2_goOn 20 = .ok (.ireturn, 1) := by decide +kernel
theorem dX2_takeSource_0 : decode cX2_takeSource 0 = .ok (.aload_n 0, 1) := by decide +kernel
theorem dX2_takeSource_1 : decode cX2_takeSource 1 = .ok (.getfield 9, 3) := by decide +kernel
theorem dX2_takeSource_4 : decode cX2_takeSource 4 = .ok (.bipush 9, 2) := by decide +kernel
theorem dX2_takeSource_6 : decode cX2_takeSource 6 = .ok (.iaload, 1) := by decide +kernel
theorem dX2_takeSource_7 : decode cX2_takeSource 7 = .ok (.aload_n 0, 1) := by decide +kernel
theorem dX2_takeSource_8 : decode cX2_takeSource 8 = .ok (.getfield 47, 3) := by decide +kernel
theorem dX2_takeSource_11 : decode cX2_takeSource 11 = .ok (.iadd, 1) := by decide +kernel
theorem dX2_takeSource_12 : decode cX2_takeSource 12 = .ok (.istore_n 1, 1) := by decide +kernel
theorem dX2_takeSource_13 : decode cX2_takeSource 13 = .ok (.iconst 0, 1) := by decide +kernel
theorem dX2_takeSource_14 : decode cX2_takeSource 14 = .ok (.iload_n 1, 1) := by decide +kernel
theorem dX2_takeSource_15 : decode cX2_takeSource 15 = .ok (.ldc 103, 2) := by decide +kernel
theorem dX2_takeSource_17 : decode cX2_takeSource 17 = .ok (.isub, 1) := by decide +kernel
theorem dX2_takeSource_18 : decode cX2_takeSource 18 = .ok (.invokestatic 50, 3) := by decide +kernel
theorem dX2_takeSource_21 : decode cX2_takeSource 21 = .ok (.istore_n 2, 1) := by decide +kernel
theorem dX2_takeSource_22 : decode cX2_takeSource 22 = .ok (.aload_n 0, 1) := by decide +kernel
theorem dX2_takeSource_23 : decode cX2_takeSource 23 = .ok (.getfield 9, 3) := by decide +kernel
theorem dX2_takeSource_26 : decode cX2_takeSource 26 = .ok (.bipush 9, 2) := by decide +kernel
theorem dX2_takeSource_28 : decode cX2_takeSource 28 = .ok (.iload_n 1, 1) := by decide +kernel
theorem dX2_takeSource_29 : decode cX2_takeSource 29 = .ok (.iload_n 2, 1) := by decide +kernel
theorem dX2_takeSource_30 : decode cX2_takeSource 30 = .ok (.isub, 1) := by decide +kernel
theorem dX2_takeSource_31 : decode cX2_takeSource 31 = .ok (.iastore, 1) := by decide +kernel
theorem dX2_takeSource_32 : decode cX2_takeSource 32 = .ok (.aload_n 0, 1) := by decide +kernel
theorem dX2_takeSource_33 : decode cX2_takeSource 33 = .ok (.dup, 1) := by decide +kernel
theorem dX2_takeSource_34 : decode cX2_takeSource 34 = .ok (.getfield 41, 3) := by decide +kernel
theorem dX2_takeSource_37 : decode cX2_takeSource 37 = .ok (.aload_n 0, 1) := by decide +kernel
theorem dX2_takeSource_38 : decode cX2_takeSource 38 = .ok (.getfield 47, 3) := by decide +kernel
theorem dX2_takeSource_41 : decode cX2_takeSource 41 = .ok (.iadd, 1) := by decide +kernel
theorem dX2_takeSource_42 : decode cX2_takeSource 42 = .ok (.putfield 41, 3) := by decide +kernel
theorem dX2_takeSource_45 : decode cX2_takeSource 45 = .ok (.aload_n 0, 1) := by decide +kernel
theorem dX2_takeSource_46 : decode cX2_takeSource 46 = .ok (.dup, 1) := by decide +kernel
theorem dX2_takeSource_47 : decode cX2_takeSource 47 = .ok (.getfield 104, 3) := by decide +kernel
theorem dX2_takeSource_50 : decode cX2_takeSource 50 = .ok (.iload_n 2, 1) := by decide +kernel
theorem dX2_takeSource_51 : decode cX2_takeSource 51 = .ok (.iadd, 1) := by decide +kernel
theorem dX2_takeSource_52 : decode cX2_takeSource 52 = .ok (.putfield 104, 3) := by decide +kernel
theorem dX2_takeSource_55 : decode cX2_takeSource 55 = .ok (.return_, 1) := by decide +kernel
theorem dX2_runPipes_0 : decode cX2_runPipes 0 = .ok (.iconst 0, 1) := by decide +kernel
theorem dX2_runPipes_1 : decode cX2_runPipes 1 = .ok (.istore_n 1, 1) := by decide +kernel
theorem dX2_runPipes_2 : decode cX2_runPipes 2 = .ok (.iload_n 1, 1) := by decide +kernel
theorem dX2_runPipes_3 : decode cX2_runPipes 3 = .ok (.aload_n 0, 1) := by decide +kernel
theorem dX2_runPipes_4 : decode cX2_runPipes 4 = .ok (.getfield 63, 3) := by decide +kernel
theorem dX2_runPipes_7 : decode cX2_runPipes 7 = .ok (.if_icmp .ge 46, 3) := by decide +kernel
theorem dX2_runPipes_10 : decode cX2_runPipes 10 = .ok (.iload_n 1, 1) := by decide +kernel
theorem dX2_runPipes_11 : decode cX2_runPipes 11 = .ok (.aload_n 0, 1) := by decide +kernel
theorem dX2_runPipes_12 : decode cX2_runPipes 12 = .ok (.getfield 23, 3) := by decide +kernel
theorem dX2_runPipes_15 : decode cX2_runPipes 15 = .ok (.arraylength, 1) := by decide +kernel
theorem dX2_runPipes_16 : decode cX2_runPipes 16 = .ok (.if_icmp .ge 37, 3) := by decide +kernel
theorem dX2_runPipes_19 : decode cX2_runPipes 19 = .ok (.aload_n 0, 1) := by decide +kernel
theorem dX2_runPipes_20 : decode cX2_runPipes 20 = .ok (.getfield 23, 3) := by decide +kernel
theorem dX2_runPipes_23 : decode cX2_runPipes 23 = .ok (.iload_n 1, 1) := by decide +kernel
theorem dX2_runPipes_24 : decode cX2_runPipes 24 = .ok (.aaload, 1) := by decide +kernel
theorem dX2_runPipes_25 : decode cX2_runPipes 25 = .ok (.astore_n 2, 1) := by decide +kernel
theorem dX2_runPipes_26 : decode cX2_runPipes 26 = .ok (.aload_n 2, 1) := by decide +kernel
theorem dX2_runPipes_27 : decode cX2_runPipes 27 = .ok (.ifnull 20, 3) := by decide +kernel
theorem dX2_runPipes_30 : decode cX2_runPipes 30 = .ok (.aload_n 0, 1) := by decide +kernel
theorem dX2_runPipes_31 : decode cX2_runPipes 31 = .ok (.dup, 1) := by decide +kernel
theorem dX2_runPipes_32 : decode cX2_runPipes 32 = .ok (.getfield 107, 3) := by decide +kernel
theorem dX2_runPipes_35 : decode cX2_runPipes 35 = .ok (.aload_n 2, 1) := by decide +kernel
theorem dX2_runPipes_36 : decode cX2_runPipes 36 = .ok (.aload_n 0, 1) := by decide +kernel
theorem dX2_runPipes_37 : decode cX2_runPipes 37 = .ok (.getfield 9, 3) := by decide +kernel
theorem dX2_runPipes_40 : decode cX2_runPipes 40 = .ok (.invokevirtual 110, 3) := by decide +kernel
theorem dX2_runPipes_43 : decode cX2_runPipes 43 = .ok (.iadd, 1) := by decide +kernel
theorem dX2_runPipes_44 : decode cX2_runPipes 44 = .ok (.putfield 107, 3) := by decide +kernel
theorem dX2_runPipes_47 : decode cX2_runPipes 47 = .ok (.iinc 1 1, 3) := by decide +kernel
theorem dX2_runPipes_50 : decode cX2_runPipes 50 = .ok (.goto (-48), 3) := by decide +kernel
theorem dX2_runPipes_53 : decode cX2_runPipes 53 = .ok (.return_, 1) := by decide +kernel
theorem dX2_rise_0 : decode cX2_rise 0 = .ok (.aload_n 0, 1) := by decide +kernel
theorem dX2_rise_1 : decode cX2_rise 1 = .ok (.getfield 31, 3) := by decide +kernel
theorem dX2_rise_4 : decode cX2_rise 4 = .ok (.ifCond .gt 4, 3) := by decide +kernel
theorem dX2_rise_7 : decode cX2_rise 7 = .ok (.return_, 1) := by decide +kernel
theorem dX2_rise_8 : decode cX2_rise 8 = .ok (.bipush 9, 2) := by decide +kernel
theorem dX2_rise_10 : decode cX2_rise 10 = .ok (.istore_n 1, 1) := by decide +kernel
theorem dX2_rise_11 : decode cX2_rise 11 = .ok (.iload_n 1, 1) := by decide +kernel
theorem dX2_rise_12 : decode cX2_rise 12 = .ok (.iconst 1, 1) := by decide +kernel
theorem dX2_rise_13 : decode cX2_rise 13 = .ok (.if_icmp .lt 56, 3) := by decide +kernel
theorem dX2_rise_16 : decode cX2_rise 16 = .ok (.iconst 0, 1) := by decide +kernel
theorem dX2_rise_17 : decode cX2_rise 17 = .ok (.aload_n 0, 1) := by decide +kernel
theorem dX2_rise_18 : decode cX2_rise 18 = .ok (.getfield 9, 3) := by decide +kernel
theorem dX2_rise_21 : decode cX2_rise 21 = .ok (.iload_n 1, 1) := by decide +kernel
theorem dX2_rise_22 : decode cX2_rise 22 = .ok (.iaload, 1) := by decide +kernel
theorem dX2_rise_23 : decode cX2_rise 23 = .ok (.aload_n 0, 1) := by decide +kernel
theorem dX2_rise_24 : decode cX2_rise 24 = .ok (.getfield 9, 3) := by decide +kernel
theorem dX2_rise_27 : decode cX2_rise 27 = .ok (.iload_n 1, 1) := by decide +kernel
theorem dX2_rise_28 : decode cX2_rise 28 = .ok (.iconst 1, 1) := by decide +kernel
theorem dX2_rise_29 : decode cX2_rise 29 = .ok (.isub, 1) := by decide +kernel
theorem dX2_rise_30 : decode cX2_rise 30 = .ok (.iaload, 1) := by decide +kernel
theorem dX2_rise_31 : decode cX2_rise 31 = .ok (.isub, 1) := by decide +kernel
theorem dX2_rise_32 : decode cX2_rise 32 = .ok (.invokestatic 50, 3) := by decide +kernel
theorem dX2_rise_35 : decode cX2_rise 35 = .ok (.aload_n 0, 1) := by decide +kernel
theorem dX2_rise_36 : decode cX2_rise 36 = .ok (.getfield 31, 3) := by decide +kernel
theorem dX2_rise_39 : decode cX2_rise 39 = .ok (.idiv, 1) := by decide +kernel
theorem dX2_rise_40 : decode cX2_rise 40 = .ok (.istore_n 2, 1) := by decide +kernel
theorem dX2_rise_41 : decode cX2_rise 41 = .ok (.aload_n 0, 1) := by decide +kernel
theorem dX2_rise_42 : decode cX2_rise 42 = .ok (.getfield 9, 3) := by decide +kernel
theorem dX2_rise_45 : decode cX2_rise 45 = .ok (.iload_n 1, 1) := by decide +kernel
theorem dX2_rise_46 : decode cX2_rise 46 = .ok (.dup2, 1) := by decide +kernel
theorem dX2_rise_47 : decode cX2_rise 47 = .ok (.iaload, 1) := by decide +kernel
theorem dX2_rise_48 : decode cX2_rise 48 = .ok (.iload_n 2, 1) := by decide +kernel
theorem dX2_rise_49 : decode cX2_rise 49 = .ok (.isub, 1) := by decide +kernel
theorem dX2_rise_50 : decode cX2_rise 50 = .ok (.iastore, 1) := by decide +kernel
theorem dX2_rise_51 : decode cX2_rise 51 = .ok (.aload_n 0, 1) := by decide +kernel
theorem dX2_rise_52 : decode cX2_rise 52 = .ok (.getfield 9, 3) := by decide +kernel
theorem dX2_rise_55 : decode cX2_rise 55 = .ok (.iload_n 1, 1) := by decide +kernel
theorem dX2_rise_56 : decode cX2_rise 56 = .ok (.iconst 1, 1) := by decide +kernel
theorem dX2_rise_57 : decode cX2_rise 57 = .ok (.isub, 1) := by decide +kernel
theorem dX2_rise_58 : decode cX2_rise 58 = .ok (.dup2, 1) := by decide +kernel
theorem dX2_rise_59 : decode cX2_rise 59 = .ok (.iaload, 1) := by decide +kernel
theorem dX2_rise_60 : decode cX2_rise 60 = .ok (.iload_n 2, 1) := by decide +kernel
theorem dX2_rise_61 : decode cX2_rise 61 = .ok (.iadd, 1) := by decide +kernel
theorem dX2_rise_62 : decode cX2_rise 62 = .ok (.iastore, 1) := by decide +kernel
theorem dX2_rise_63 : decode cX2_rise 63 = .ok (.iinc 1 (-1), 3) := by decide +kernel
theorem dX2_rise_66 : decode cX2_rise 66 = .ok (.goto (-55), 3) := by decide +kernel
theorem dX2_rise_69 : decode cX2_rise 69 = .ok (.aload_n 0, 1) := by decide +kernel
theorem dX2_rise_70 : decode cX2_rise 70 = .ok (.getfield 9, 3) := by decide +kernel
theorem dX2_rise_73 : decode cX2_rise 73 = .ok (.iconst 0, 1) := by decide +kernel
theorem dX2_rise_74 : decode cX2_rise 74 = .ok (.iaload, 1) := by decide +kernel
theorem dX2_rise_75 : decode cX2_rise 75 = .ok (.aload_n 0, 1) := by decide +kernel
theorem dX2_rise_76 : decode cX2_rise 76 = .ok (.getfield 31, 3) := by decide +kernel
theorem dX2_rise_79 : decode cX2_rise 79 = .ok (.idiv, 1) := by decide +kernel
theorem dX2_rise_80 : decode cX2_rise 80 = .ok (.istore_n 1, 1) := by decide +kernel
theorem dX2_rise_81 : decode cX2_rise 81 = .ok (.aload_n 0, 1) := by decide +kernel
theorem dX2_rise_82 : decode cX2_rise 82 = .ok (.getfield 9, 3) := by decide +kernel
theorem dX2_rise_85 : decode cX2_rise 85 = .ok (.iconst 0, 1) := by decide +kernel
theorem dX2_rise_86 : decode cX2_rise 86 = .ok (.dup2, 1) := by decide +kernel
theorem dX2_rise_87 : decode cX2_rise 87 = .ok (.iaload, 1) := by decide +kernel
theorem dX2_rise_88 : decode cX2_rise 88 = .ok (.iload_n 1, 1) := by decide +kernel
theorem dX2_rise_89 : decode cX2_rise 89 = .ok (.isub, 1) := by decide +kernel
theorem dX2_rise_90 : decode cX2_rise 90 = .ok (.iastore, 1) := by decide +kernel
theorem dX2_rise_91 : decode cX2_rise 91 = .ok (.aload_n 0, 1) := by decide +kernel
theorem dX2_rise_92 : decode cX2_rise 92 = .ok (.dup, 1) := by decide +kernel
theorem dX2_rise_93 : decode cX2_rise 93 = .ok (.getfield 104, 3) := by decide +kernel
theorem dX2_rise_96 : decode cX2_rise 96 = .ok (.iload_n 1, 1) := by decide +kernel
theorem dX2_rise_97 : decode cX2_rise 97 = .ok (.iadd, 1) := by decide +kernel
theorem dX2_rise_98 : decode cX2_rise 98 = .ok (.putfield 104, 3) := by decide +kernel
theorem dX2_rise_101 : decode cX2_rise 101 = .ok (.return_, 1) := by decide +kernel
theorem dX2_turnOver_0 : decode cX2_turnOver 0 = .ok (.iconst 1, 1) := by decide +kernel
theorem dX2_turnOver_1 : decode cX2_turnOver 1 = .ok (.istore_n 1, 1) := by decide +kernel
theorem dX2_turnOver_2 : decode cX2_turnOver 2 = .ok (.iconst (-1), 1) := by decide +kernel
theorem dX2_turnOver_3 : decode cX2_turnOver 3 = .ok (.istore_n 2, 1) := by decide +kernel
theorem dX2_turnOver_4 : decode cX2_turnOver 4 = .ok (.iconst 0, 1) := by decide +kernel
theorem dX2_turnOver_5 : decode cX2_turnOver 5 = .ok (.istore_n 3, 1) := by decide +kernel
theorem dX2_turnOver_6 : decode cX2_turnOver 6 = .ok (.iload_n 3, 1) := by decide +kernel
theorem dX2_turnOver_7 : decode cX2_turnOver 7 = .ok (.sipush 200, 3) := by decide +kernel
theorem dX2_turnOver_10 : decode cX2_turnOver 10 = .ok (.if_icmp .ge 47, 3) := by decide +kernel
theorem dX2_turnOver_13 : decode cX2_turnOver 13 = .ok (.aload_n 0, 1) := by decide +kernel
theorem dX2_turnOver_14 : decode cX2_turnOver 14 = .ok (.iload_n 1, 1) := by decide +kernel
theorem dX2_turnOver_15 : decode cX2_turnOver 15 = .ok (.invokevirtual 114, 3) := by decide +kernel
theorem dX2_turnOver_18 : decode cX2_turnOver 18 = .ok (.istore 4, 2) := by decide +kernel
theorem dX2_turnOver_20 : decode cX2_turnOver 20 = .ok (.iload 4, 2) := by decide +kernel
theorem dX2_turnOver_22 : decode cX2_turnOver 22 = .ok (.iconst (-1), 1) := by decide +kernel
theorem dX2_turnOver_23 : decode cX2_turnOver 23 = .ok (.if_icmp .eq 9, 3) := by decide +kernel
theorem dX2_turnOver_26 : decode cX2_turnOver 26 = .ok (.iload 4, 2) := by decide +kernel
theorem dX2_turnOver_28 : decode cX2_turnOver 28 = .ok (.iload_n 2, 1) := by decide +kernel
theorem dX2_turnOver_29 : decode cX2_turnOver 29 = .ok (.if_icmp .ne 4, 3) := by decide +kernel
theorem dX2_turnOver_32 : decode cX2_turnOver 32 = .ok (.return_, 1) := by decide +kernel
theorem dX2_turnOver_33 : decode cX2_turnOver 33 = .ok (.aload_n 0, 1) := by decide +kernel
theorem dX2_turnOver_34 : decode cX2_turnOver 34 = .ok (.iload 4, 2) := by decide +kernel
theorem dX2_turnOver_36 : decode cX2_turnOver 36 = .ok (.invokevirtual 117, 3) := by decide +kernel
theorem dX2_turnOver_39 : decode cX2_turnOver 39 = .ok (.iload 4, 2) := by decide +kernel
theorem dX2_turnOver_41 : decode cX2_turnOver 41 = .ok (.istore_n 2, 1) := by decide +kernel
theorem dX2_turnOver_42 : decode cX2_turnOver 42 = .ok (.iconst 1, 1) := by decide +kernel
theorem dX2_turnOver_43 : decode cX2_turnOver 43 = .ok (.iload 4, 2) := by decide +kernel
theorem dX2_turnOver_45 : decode cX2_turnOver 45 = .ok (.iconst 1, 1) := by decide +kernel
theorem dX2_turnOver_46 : decode cX2_turnOver 46 = .ok (.isub, 1) := by decide +kernel
theorem dX2_turnOver_47 : decode cX2_turnOver 47 = .ok (.invokestatic 50, 3) := by decide +kernel
theorem dX2_turnOver_50 : decode cX2_turnOver 50 = .ok (.istore_n 1, 1) := by decide +kernel
theorem dX2_turnOver_51 : decode cX2_turnOver 51 = .ok (.iinc 3 1, 3) := by decide +kernel
theorem dX2_turnOver_54 : decode cX2_turnOver 54 = .ok (.goto (-48), 3) := by decide +kernel
theorem dX2_turnOver_57 : decode cX2_turnOver 57 = .ok (.return_, 1) := by decide +kernel
theorem dX2_firstLighter_0 : decode cX2_firstLighter 0 = .ok (.iconst 1, 1) := by decide +kernel
theorem dX2_firstLighter_1 : decode cX2_firstLighter 1 = .ok (.iload_n 1, 1) := by decide +kernel
theorem dX2_firstLighter_2 : decode cX2_firstLighter 2 = .ok (.invokestatic 50, 3) := by decide +kernel
theorem dX2_firstLighter_5 : decode cX2_firstLighter 5 = .ok (.istore_n 2, 1) := by decide +kernel
theorem dX2_firstLighter_6 : decode cX2_firstLighter 6 = .ok (.iload_n 2, 1) := by decide +kernel
theorem dX2_firstLighter_7 : decode cX2_firstLighter 7 = .ok (.bipush 10, 2) := by decide +kernel
theorem dX2_firstLighter_9 : decode cX2_firstLighter 9 = .ok (.if_icmp .ge 26, 3) := by decide +kernel
theorem dX2_firstLighter_12 : decode cX2_firstLighter 12 = .ok (.aload_n 0, 1) := by decide +kernel
theorem dX2_firstLighter_13 : decode cX2_firstLighter 13 = .ok (.iload_n 2, 1) := by decide +kernel
theorem dX2_firstLighter_14 : decode cX2_firstLighter 14 = .ok (.invokevirtual 121, 3) := by decide +kernel
theorem dX2_firstLighter_17 : decode cX2_firstLighter 17 = .ok (.aload_n 0, 1) := by decide +kernel
theorem dX2_firstLighter_18 : decode cX2_firstLighter 18 = .ok (.iload_n 2, 1) := by decide +kernel
theorem dX2_firstLighter_19 : decode cX2_firstLighter 19 = .ok (.iconst 1, 1) := by decide +kernel
theorem dX2_firstLighter_20 : decode cX2_firstLighter 20 = .ok (.isub, 1) := by decide +kernel
theorem dX2_firstLighter_21 : decode cX2_firstLighter 21 = .ok (.invokevirtual 121, 3) := by decide +kernel
theorem dX2_firstLighter_24 : decode cX2_firstLighter 24 = .ok (.if_icmp .ge 5, 3) := by decide +kernel
theorem dX2_firstLighter_27 : decode cX2_firstLighter 27 = .ok (.iload_n 2, 1) := by decide +kernel
theorem dX2_firstLighter_28 : decode cX2_firstLighter 28 = .ok (.ireturn, 1) := by decide +kernel
theorem dX2_firstLighter_29 : decode cX2_firstLighter 29 = .ok (.iinc 2 1, 3) := by decide +kernel
theorem dX2_firstLighter_32 : decode cX2_firstLighter 32 = .ok (.goto (-26), 3) := by decide +kernel
theorem dX2_firstLighter_35 : decode cX2_firstLighter 35 = .ok (.iconst (-1), 1) := by decide +kernel
theorem dX2_firstLighter_36 : decode cX2_firstLighter 36 = .ok (.ireturn, 1) := by decide +kernel
theorem dX2_mixPair_0 : decode cX2_mixPair 0 = .ok (.aload_n 0, 1) := by decide +kernel
theorem dX2_mixPair_1 : decode cX2_mixPair 1 = .ok (.getfield 9, 3) := by decide +kernel
theorem dX2_mixPair_4 : decode cX2_mixPair 4 = .ok (.iload_n 1, 1) := by decide +kernel
theorem dX2_mixPair_5 : decode cX2_mixPair 5 = .ok (.invokestatic 124, 3) := by decide +kernel
theorem dX2_mixPair_8 : decode cX2_mixPair 8 = .ok (.aload_n 0, 1) := by decide +kernel
theorem dX2_mixPair_9 : decode cX2_mixPair 9 = .ok (.getfield 15, 3) := by decide +kernel
theorem dX2_mixPair_12 : decode cX2_mixPair 12 = .ok (.iload_n 1, 1) := by decide +kernel
theorem dX2_mixPair_13 : decode cX2_mixPair 13 = .ok (.invokestatic 124, 3) := by decide +kernel
theorem dX2_mixPair_16 : decode cX2_mixPair 16 = .ok (.aload_n 0, 1) := by decide +kernel
theorem dX2_mixPair_17 : decode cX2_mixPair 17 = .ok (.getfield 18, 3) := by decide +kernel
theorem dX2_mixPair_20 : decode cX2_mixPair 20 = .ok (.iload_n 1, 1) := by decide +kernel
theorem dX2_mixPair_21 : decode cX2_mixPair 21 = .ok (.invokestatic 124, 3) := by decide +kernel
theorem dX2_mixPair_24 : decode cX2_mixPair 24 = .ok (.return_, 1) := by decide +kernel
theorem dX2_halve_0 : decode cX2_halve 0 = .ok (.iload_n 1, 1) := by decide +kernel
theorem dX2_halve_1 : decode cX2_halve 1 = .ok (.iconst 1, 1) := by decide +kernel
theorem dX2_halve_2 : decode cX2_halve 2 = .ok (.if_icmp .lt 9, 3) := by decide +kernel
theorem dX2_halve_5 : decode cX2_halve 5 = .ok (.iload_n 1, 1) := by decide +kernel
theorem dX2_halve_6 : decode cX2_halve 6 = .ok (.aload_n 0, 1) := by decide +kernel
theorem dX2_halve_7 : decode cX2_halve 7 = .ok (.arraylength, 1) := by decide +kernel
theorem dX2_halve_8 : decode cX2_halve 8 = .ok (.if_icmp .lt 4, 3) := by decide +kernel
theorem dX2_halve_11 : decode cX2_halve 11 = .ok (.return_, 1) := by decide +kernel
theorem dX2_halve_12 : decode cX2_halve 12 = .ok (.aload_n 0, 1) := by decide +kernel
theorem dX2_halve_13 : decode cX2_halve 13 = .ok (.iload_n 1, 1) := by decide +kernel
theorem dX2_halve_14 : decode cX2_halve 14 = .ok (.iconst 1, 1) := by decide +kernel
theorem dX2_halve_15 : decode cX2_halve 15 = .ok (.isub, 1) := by decide +kernel
theorem dX2_halve_16 : decode cX2_halve 16 = .ok (.iaload, 1) := by decide +kernel
theorem dX2_halve_17 : decode cX2_halve 17 = .ok (.aload_n 0, 1) := by decide +kernel
theorem dX2_halve_18 : decode cX2_halve 18 = .ok (.iload_n 1, 1) := by decide +kernel
theorem dX2_halve_19 : decode cX2_halve 19 = .ok (.iaload, 1) := by decide +kernel
theorem dX2_halve_20 : decode cX2_halve 20 = .ok (.iadd, 1) := by decide +kernel
theorem dX2_halve_21 : decode cX2_halve 21 = .ok (.istore_n 2, 1) := by decide +kernel
theorem dX2_halve_22 : decode cX2_halve 22 = .ok (.aload_n 0, 1) := by decide +kernel
theorem dX2_halve_23 : decode cX2_halve 23 = .ok (.iload_n 1, 1) := by decide +kernel
theorem dX2_halve_24 : decode cX2_halve 24 = .ok (.iconst 1, 1) := by decide +kernel
theorem dX2_halve_25 : decode cX2_halve 25 = .ok (.isub, 1) := by decide +kernel
theorem dX2_halve_26 : decode cX2_halve 26 = .ok (.iload_n 2, 1) := by decide +kernel
theorem dX2_halve_27 : decode cX2_halve 27 = .ok (.iconst 2, 1) := by decide +kernel
theorem dX2_halve_28 : decode cX2_halve 28 = .ok (.idiv, 1) := by decide +kernel
theorem dX2_halve_29 : decode cX2_halve 29 = .ok (.iastore, 1) := by decide +kernel
theorem dX2_halve_30 : decode cX2_halve 30 = .ok (.aload_n 0, 1) := by decide +kernel
theorem dX2_halve_31 : decode cX2_halve 31 = .ok (.iload_n 1, 1) := by decide +kernel
theorem dX2_halve_32 : decode cX2_halve 32 = .ok (.iload_n 2, 1) := by decide +kernel
theorem dX2_halve_33 : decode cX2_halve 33 = .ok (.iload_n 2, 1) := by decide +kernel
theorem dX2_halve_34 : decode cX2_halve 34 = .ok (.iconst 2, 1) := by decide +kernel
theorem dX2_halve_35 : decode cX2_halve 35 = .ok (.idiv, 1) := by decide +kernel
theorem dX2_halve_36 : decode cX2_halve 36 = .ok (.isub, 1) := by decide +kernel
theorem dX2_halve_37 : decode cX2_halve 37 = .ok (.iastore, 1) := by decide +kernel
theorem dX2_halve_38 : decode cX2_halve 38 = .ok (.return_, 1) := by decide +kernel
theorem dX2_burstIfTooFull_0 : decode cX2_burstIfTooFull 0 = .ok (.iconst (-1), 1) := by decide +kernel
theorem dX2_burstIfTooFull_1 : decode cX2_burstIfTooFull 1 = .ok (.istore_n 1, 1) := by decide +kernel
theorem dX2_burstIfTooFull_2 : decode cX2_burstIfTooFull 2 = .ok (.iconst 0, 1) := by decide +kernel
theorem dX2_burstIfTooFull_3 : decode cX2_burstIfTooFull 3 = .ok (.istore_n 2, 1) := by decide +kernel
theorem dX2_burstIfTooFull_4 : decode cX2_burstIfTooFull 4 = .ok (.iload_n 2, 1) := by decide +kernel
theorem dX2_burstIfTooFull_5 : decode cX2_burstIfTooFull 5 = .ok (.bipush 10, 2) := by decide +kernel
theorem dX2_burstIfTooFull_7 : decode cX2_burstIfTooFull 7 = .ok (.if_icmp .ge 25, 3) := by decide +kernel
theorem dX2_burstIfTooFull_10 : decode cX2_burstIfTooFull 10 = .ok (.aload_n 0, 1) := by decide +kernel
theorem dX2_burstIfTooFull_11 : decode cX2_burstIfTooFull 11 = .ok (.getfield 9, 3) := by decide +kernel
theorem dX2_burstIfTooFull_14 : decode cX2_burstIfTooFull 14 = .ok (.iload_n 2, 1) := by decide +kernel
theorem dX2_burstIfTooFull_15 : decode cX2_burstIfTooFull 15 = .ok (.iaload, 1) := by decide +kernel
theorem dX2_burstIfTooFull_16 : decode cX2_burstIfTooFull 16 = .ok (.aload_n 0, 1) := by decide +kernel
theorem dX2_burstIfTooFull_17 : decode cX2_burstIfTooFull 17 = .ok (.iload_n 2, 1) := by decide +kernel
theorem dX2_burstIfTooFull_18 : decode cX2_burstIfTooFull 18 = .ok (.invokevirtual 56, 3) := by decide +kernel
theorem dX2_burstIfTooFull_21 : decode cX2_burstIfTooFull 21 = .ok (.if_icmp .le 5, 3) := by decide +kernel
theorem dX2_burstIfTooFull_24 : decode cX2_burstIfTooFull 24 = .ok (.iload_n 2, 1) := by decide +kernel
theorem dX2_burstIfTooFull_25 : decode cX2_burstIfTooFull 25 = .ok (.istore_n 1, 1) := by decide +kernel
theorem dX2_burstIfTooFull_26 : decode cX2_burstIfTooFull 26 = .ok (.iinc 2 1, 3) := by decide +kernel
theorem dX2_burstIfTooFull_29 : decode cX2_burstIfTooFull 29 = .ok (.goto (-25), 3) := by decide +kernel
theorem dX2_burstIfTooFull_32 : decode cX2_burstIfTooFull 32 = .ok (.iload_n 1, 1) := by decide +kernel
theorem dX2_burstIfTooFull_33 : decode cX2_burstIfTooFull 33 = .ok (.iconst (-1), 1) := by decide +kernel
theorem dX2_burstIfTooFull_34 : decode cX2_burstIfTooFull 34 = .ok (.if_icmp .ne 5, 3) := by decide +kernel
theorem dX2_burstIfTooFull_37 : decode cX2_burstIfTooFull 37 = .ok (.iconst 0, 1) := by decide +kernel
theorem dX2_burstIfTooFull_38 : decode cX2_burstIfTooFull 38 = .ok (.ireturn, 1) := by decide +kernel
theorem dX2_burstIfTooFull_39 : decode cX2_burstIfTooFull 39 = .ok (.iconst 0, 1) := by decide +kernel
theorem dX2_burstIfTooFull_40 : decode cX2_burstIfTooFull 40 = .ok (.istore_n 2, 1) := by decide +kernel
theorem dX2_burstIfTooFull_41 : decode cX2_burstIfTooFull 41 = .ok (.iconst 0, 1) := by decide +kernel
theorem dX2_burstIfTooFull_42 : decode cX2_burstIfTooFull 42 = .ok (.istore_n 3, 1) := by decide +kernel
theorem dX2_burstIfTooFull_43 : decode cX2_burstIfTooFull 43 = .ok (.iload_n 3, 1) := by decide +kernel
theorem dX2_burstIfTooFull_44 : decode cX2_burstIfTooFull 44 = .ok (.iload_n 1, 1) := by decide +kernel
theorem dX2_burstIfTooFull_45 : decode cX2_burstIfTooFull 45 = .ok (.if_icmp .gt 31, 3) := by decide +kernel
theorem dX2_burstIfTooFull_48 : decode cX2_burstIfTooFull 48 = .ok (.iload_n 3, 1) := by decide +kernel
theorem dX2_burstIfTooFull_49 : decode cX2_burstIfTooFull 49 = .ok (.bipush 10, 2) := by decide +kernel
theorem dX2_burstIfTooFull_51 : decode cX2_burstIfTooFull 51 = .ok (.if_icmp .ge 25, 3) := by decide +kernel
theorem dX2_burstIfTooFull_54 : decode cX2_burstIfTooFull 54 = .ok (.iload_n 2, 1) := by decide +kernel
theorem dX2_burstIfTooFull_55 : decode cX2_burstIfTooFull 55 = .ok (.aload_n 0, 1) := by decide +kernel
theorem dX2_burstIfTooFull_56 : decode cX2_burstIfTooFull 56 = .ok (.getfield 9, 3) := by decide +kernel
theorem dX2_burstIfTooFull_59 : decode cX2_burstIfTooFull 59 = .ok (.iload_n 3, 1) := by decide +kernel
theorem dX2_burstIfTooFull_60 : decode cX2_burstIfTooFull 60 = .ok (.iaload, 1) := by decide +kernel
theorem dX2_burstIfTooFull_61 : decode cX2_burstIfTooFull 61 = .ok (.iadd, 1) := by decide +kernel
theorem dX2_burstIfTooFull_62 : decode cX2_burstIfTooFull 62 = .ok (.istore_n 2, 1) := by decide +kernel
theorem dX2_burstIfTooFull_63 : decode cX2_burstIfTooFull 63 = .ok (.aload_n 0, 1) := by decide +kernel
theorem dX2_burstIfTooFull_64 : decode cX2_burstIfTooFull 64 = .ok (.getfield 9, 3) := by decide +kernel
theorem dX2_burstIfTooFull_67 : decode cX2_burstIfTooFull 67 = .ok (.iload_n 3, 1) := by decide +kernel
theorem dX2_burstIfTooFull_68 : decode cX2_burstIfTooFull 68 = .ok (.iconst 0, 1) := by decide +kernel
theorem dX2_burstIfTooFull_69 : decode cX2_burstIfTooFull 69 = .ok (.iastore, 1) := by decide +kernel
theorem dX2_burstIfTooFull_70 : decode cX2_burstIfTooFull 70 = .ok (.iinc 3 1, 3) := by decide +kernel
theorem dX2_burstIfTooFull_73 : decode cX2_burstIfTooFull 73 = .ok (.goto (-30), 3) := by decide +kernel
theorem dX2_burstIfTooFull_76 : decode cX2_burstIfTooFull 76 = .ok (.aload_n 0, 1) := by decide +kernel
theorem dX2_burstIfTooFull_77 : decode cX2_burstIfTooFull 77 = .ok (.dup, 1) := by decide +kernel
theorem dX2_burstIfTooFull_78 : decode cX2_burstIfTooFull 78 = .ok (.getfield 128, 3) := by decide +kernel
theorem dX2_burstIfTooFull_81 : decode cX2_burstIfTooFull 81 = .ok (.iload_n 2, 1) := by decide +kernel
theorem dX2_burstIfTooFull_82 : decode cX2_burstIfTooFull 82 = .ok (.iadd, 1) := by decide +kernel
theorem dX2_burstIfTooFull_83 : decode cX2_burstIfTooFull 83 = .ok (.putfield 128, 3) := by decide +kernel
theorem dX2_burstIfTooFull_86 : decode cX2_burstIfTooFull 86 = .ok (.aload_n 0, 1) := by decide +kernel
theorem dX2_burstIfTooFull_87 : decode cX2_burstIfTooFull 87 = .ok (.iload_n 2, 1) := by decide +kernel
theorem dX2_burstIfTooFull_88 : decode cX2_burstIfTooFull 88 = .ok (.putfield 131, 3) := by decide +kernel
theorem dX2_burstIfTooFull_91 : decode cX2_burstIfTooFull 91 = .ok (.iconst 1, 1) := by decide +kernel
theorem dX2_burstIfTooFull_92 : decode cX2_burstIfTooFull 92 = .ok (.ireturn, 1) := by decide +kernel
theorem dX3_init_0 : decode cX3_init 0 = .ok (.aload_n 0, 1) := by decide +kernel
theorem dX3_init_1 : decode cX3_init 1 = .ok (.invokespecial 1, 3) := by decide +kernel
theorem dX3_init_4 : decode cX3_init 4 = .ok (.aload_n 0, 1) := by decide +kernel
theorem dX3_init_5 : decode cX3_init 5 = .ok (.iload_n 1, 1) := by decide +kernel
theorem dX3_init_6 : decode cX3_init 6 = .ok (.putfield 7, 3) := by decide +kernel
theorem dX3_init_9 : decode cX3_init 9 = .ok (.aload_n 0, 1) := by decide +kernel
theorem dX3_init_10 : decode cX3_init 10 = .ok (.iload_n 2, 1) := by decide +kernel
theorem dX3_init_11 : decode cX3_init 11 = .ok (.putfield 13, 3) := by decide +kernel
theorem dX3_init_14 : decode cX3_init 14 = .ok (.aload_n 0, 1) := by decide +kernel
theorem dX3_init_15 : decode cX3_init 15 = .ok (.iload_n 3, 1) := by decide +kernel
theorem dX3_init_16 : decode cX3_init 16 = .ok (.putfield 16, 3) := by decide +kernel
theorem dX3_init_19 : decode cX3_init 19 = .ok (.aload_n 0, 1) := by decide +kernel
theorem dX3_init_20 : decode cX3_init 20 = .ok (.iload 4, 2) := by decide +kernel
theorem dX3_init_22 : decode cX3_init 22 = .ok (.putfield 19, 3) := by decide +kernel
theorem dX3_init_25 : decode cX3_init 25 = .ok (.return_, 1) := by decide +kernel
theorem dX3_become_0 : decode cX3_become 0 = .ok (.aload_n 0, 1) := by decide +kernel
theorem dX3_become_1 : decode cX3_become 1 = .ok (.aload_n 1, 1) := by decide +kernel
theorem dX3_become_2 : decode cX3_become 2 = .ok (.getfield 7, 3) := by decide +kernel
theorem dX3_become_5 : decode cX3_become 5 = .ok (.putfield 7, 3) := by decide +kernel
theorem dX3_become_8 : decode cX3_become 8 = .ok (.aload_n 0, 1) := by decide +kernel
theorem dX3_become_9 : decode cX3_become 9 = .ok (.aload_n 1, 1) := by decide +kernel
theorem dX3_become_10 : decode cX3_become 10 = .ok (.getfield 13, 3) := by decide +kernel
theorem dX3_become_13 : decode cX3_become 13 = .ok (.putfield 13, 3) := by decide +kernel
theorem dX3_become_16 : decode cX3_become 16 = .ok (.aload_n 0, 1) := by decide +kernel
theorem dX3_become_17 : decode cX3_become 17 = .ok (.aload_n 1, 1) := by decide +kernel
theorem dX3_become_18 : decode cX3_become 18 = .ok (.getfield 16, 3) := by decide +kernel
theorem dX3_become_21 : decode cX3_become 21 = .ok (.putfield 16, 3) := by decide +kernel
theorem dX3_become_24 : decode cX3_become 24 = .ok (.aload_n 0, 1) := by decide +kernel
theorem dX3_become_25 : decode cX3_become 25 = .ok (.aload_n 1, 1) := by decide +kernel
theorem dX3_become_26 : decode cX3_become 26 = .ok (.getfield 19, 3) := by decide +kernel
theorem dX3_become_29 : decode cX3_become 29 = .ok (.putfield 19, 3) := by decide +kernel
theorem dX3_become_32 : decode cX3_become 32 = .ok (.aload_n 0, 1) := by decide +kernel
theorem dX3_become_33 : decode cX3_become 33 = .ok (.aload_n 1, 1) := by decide +kernel
theorem dX3_become_34 : decode cX3_become 34 = .ok (.getfield 22, 3) := by decide +kernel
theorem dX3_become_37 : decode cX3_become 37 = .ok (.putfield 22, 3) := by decide +kernel
theorem dX3_become_40 : decode cX3_become 40 = .ok (.return_, 1) := by decide +kernel
theorem dX3_moveTo_0 : decode cX3_moveTo 0 = .ok (.aload_n 0, 1) := by decide +kernel
theorem dX3_moveTo_1 : decode cX3_moveTo 1 = .ok (.iload_n 1, 1) := by decide +kernel
theorem dX3_moveTo_2 : decode cX3_moveTo 2 = .ok (.putfield 13, 3) := by decide +kernel
theorem dX3_moveTo_5 : decode cX3_moveTo 5 = .ok (.aload_n 0, 1) := by decide +kernel
theorem dX3_moveTo_6 : decode cX3_moveTo 6 = .ok (.iconst 0, 1) := by decide +kernel
theorem dX3_moveTo_7 : decode cX3_moveTo 7 = .ok (.putfield 22, 3) := by decide +kernel
theorem dX3_moveTo_10 : decode cX3_moveTo 10 = .ok (.aload_n 0, 1) := by decide +kernel
theorem dX3_moveTo_11 : decode cX3_moveTo 11 = .ok (.dup, 1) := by decide +kernel
theorem dX3_moveTo_12 : decode cX3_moveTo 12 = .ok (.getfield 26, 3) := by decide +kernel
theorem dX3_moveTo_15 : decode cX3_moveTo 15 = .ok (.iconst 1, 1) := by decide +kernel
theorem dX3_moveTo_16 : decode cX3_moveTo 16 = .ok (.iadd, 1) := by decide +kernel
theorem dX3_moveTo_17 : decode cX3_moveTo 17 = .ok (.putfield 26, 3) := by decide +kernel
theorem dX3_moveTo_20 : decode cX3_moveTo 20 = .ok (.return_, 1) := by decide +kernel
theorem dX3_letOffFrom_0 : decode cX3_letOffFrom 0 = .ok (.aload_n 0, 1) := by decide +kernel
theorem dX3_letOffFrom_1 : decode cX3_letOffFrom 1 = .ok (.getfield 22, 3) := by decide +kernel
theorem dX3_letOffFrom_4 : decode cX3_letOffFrom 4 = .ok (.ifCond .eq 19, 3) := by decide +kernel
theorem dX3_letOffFrom_7 : decode cX3_letOffFrom 7 = .ok (.aload_n 0, 1) := by decide +kernel
theorem dX3_letOffFrom_8 : decode cX3_letOffFrom 8 = .ok (.getfield 13, 3) := by decide +kernel
theorem dX3_letOffFrom_11 : decode cX3_letOffFrom 11 = .ok (.ifCond .lt 12, 3) := by decide +kernel
theorem dX3_letOffFrom_14 : decode cX3_letOffFrom 14 = .ok (.aload_n 0, 1) := by decide +kernel
theorem dX3_letOffFrom_15 : decode cX3_letOffFrom 15 = .ok (.getfield 13, 3) := by decide +kernel
theorem dX3_letOffFrom_18 : decode cX3_letOffFrom 18 = .ok (.aload_n 1, 1) := by decide +kernel
theorem dX3_letOffFrom_19 : decode cX3_letOffFrom 19 = .ok (.arraylength, 1) := by decide +kernel
theorem dX3_letOffFrom_20 : decode cX3_letOffFrom 20 = .ok (.if_icmp .lt 5, 3) := by decide +kernel
theorem dX3_letOffFrom_23 : decode cX3_letOffFrom 23 = .ok (.iconst 0, 1) := by decide +kernel
theorem dX3_letOffFrom_24 : decode cX3_letOffFrom 24 = .ok (.ireturn, 1) := by decide +kernel
theorem dX3_letOffFrom_25 : decode cX3_letOffFrom 25 = .ok (.aload_n 1, 1) := by decide +kernel
theorem dX3_letOffFrom_26 : decode cX3_letOffFrom 26 = .ok (.aload_n 0, 1) := by decide +kernel
theorem dX3_letOffFrom_27 : decode cX3_letOffFrom 27 = .ok (.getfield 13, 3) := by decide +kernel
theorem dX3_letOffFrom_30 : decode cX3_letOffFrom 30 = .ok (.iaload, 1) := by decide +kernel
theorem dX3_letOffFrom_31 : decode cX3_letOffFrom 31 = .ok (.aload_n 0, 1) := by decide +kernel
theorem dX3_letOffFrom_32 : decode cX3_letOffFrom 32 = .ok (.getfield 19, 3) := by decide +kernel
theorem dX3_letOffFrom_35 : decode cX3_letOffFrom 35 = .ok (.if_icmp .ge 10, 3) := by decide +kernel
theorem dX3_letOffFrom_38 : decode cX3_letOffFrom 38 = .ok (.aload_n 0, 1) := by decide +kernel
theorem dX3_letOffFrom_39 : decode cX3_letOffFrom 39 = .ok (.iconst 0, 1) := by decide +kernel
theorem dX3_letOffFrom_40 : decode cX3_letOffFrom 40 = .ok (.putfield 22, 3) := by decide +kernel
theorem dX3_letOffFrom_43 : decode cX3_letOffFrom 43 = .ok (.iconst 0, 1) := by decide +kernel
theorem dX3_letOffFrom_44 : decode cX3_letOffFrom 44 = .ok (.ireturn, 1) := by decide +kernel
theorem dX3_letOffFrom_45 : decode cX3_letOffFrom 45 = .ok (.aload_n 1, 1) := by decide +kernel
theorem dX3_letOffFrom_46 : decode cX3_letOffFrom 46 = .ok (.aload_n 0, 1) := by decide +kernel
theorem dX3_letOffFrom_47 : decode cX3_letOffFrom 47 = .ok (.getfield 13, 3) := by decide +kernel
theorem dX3_letOffFrom_50 : decode cX3_letOffFrom 50 = .ok (.iaload, 1) := by decide +kernel
theorem dX3_letOffFrom_51 : decode cX3_letOffFrom 51 = .ok (.aload_n 0, 1) := by decide +kernel
theorem dX3_letOffFrom_52 : decode cX3_letOffFrom 52 = .ok (.getfield 16, 3) := by decide +kernel
theorem dX3_letOffFrom_55 : decode cX3_letOffFrom 55 = .ok (.imul, 1) := by decide +kernel
theorem dX3_letOffFrom_56 : decode cX3_letOffFrom 56 = .ok (.sipush 1000, 3) := by decide +kernel
theorem dX3_letOffFrom_59 : decode cX3_letOffFrom 59 = .ok (.idiv, 1) := by decide +kernel
theorem dX3_letOffFrom_60 : decode cX3_letOffFrom 60 = .ok (.istore_n 2, 1) := by decide +kernel
theorem dX3_letOffFrom_61 : decode cX3_letOffFrom 61 = .ok (.aload_n 1, 1) := by decide +kernel
theorem dX3_letOffFrom_62 : decode cX3_letOffFrom 62 = .ok (.aload_n 0, 1) := by decide +kernel
theorem dX3_letOffFrom_63 : decode cX3_letOffFrom 63 = .ok (.getfield 13, 3) := by decide +kernel
theorem dX3_letOffFrom_66 : decode cX3_letOffFrom 66 = .ok (.dup2, 1) := by decide +kernel
theorem dX3_letOffFrom_67 : decode cX3_letOffFrom 67 = .ok (.iaload, 1) := by decide +kernel
theorem dX3_letOffFrom_68 : decode cX3_letOffFrom 68 = .ok (.iload_n 2, 1) := by decide +kernel
theorem dX3_letOffFrom_69 : decode cX3_letOffFrom 69 = .ok (.isub, 1) := by decide +kernel
theorem dX3_letOffFrom_70 : decode cX3_letOffFrom 70 = .ok (.iastore, 1) := by decide +kernel
theorem dX3_letOffFrom_71 : decode cX3_letOffFrom 71 = .ok (.aload_n 0, 1) := by decide +kernel
theorem dX3_letOffFrom_72 : decode cX3_letOffFrom 72 = .ok (.dup, 1) := by decide +kernel
theorem dX3_letOffFrom_73 : decode cX3_letOffFrom 73 = .ok (.getfield 29, 3) := by decide +kernel
theorem dX3_letOffFrom_76 : decode cX3_letOffFrom 76 = .ok (.iload_n 2, 1) := by decide +kernel
theorem dX3_letOffFrom_77 : decode cX3_letOffFrom 77 = .ok (.iadd, 1) := by decide +kernel
theorem dX3_letOffFrom_78 : decode cX3_letOffFrom 78 = .ok (.putfield 29, 3) := by decide +kernel
theorem dX3_letOffFrom_81 : decode cX3_letOffFrom 81 = .ok (.iload_n 2, 1) := by decide +kernel
theorem dX3_letOffFrom_82 : decode cX3_letOffFrom 82 = .ok (.ireturn, 1) := by decide +kernel
theorem dX4_init_0 : decode cX4_init 0 = .ok (.aload_n 0, 1) := by decide +kernel
theorem dX4_init_1 : decode cX4_init 1 = .ok (.invokespecial 3, 3) := by decide +kernel
theorem dX4_init_4 : decode cX4_init 4 = .ok (.aload_n 0, 1) := by decide +kernel
theorem dX4_init_5 : decode cX4_init 5 = .ok (.iload_n 1, 1) := by decide +kernel
theorem dX4_init_6 : decode cX4_init 6 = .ok (.putfield 9, 3) := by decide +kernel
theorem dX4_init_9 : decode cX4_init 9 = .ok (.aload_n 0, 1) := by decide +kernel
theorem dX4_init_10 : decode cX4_init 10 = .ok (.aload_n 2, 1) := by decide +kernel
theorem dX4_init_11 : decode cX4_init 11 = .ok (.putfield 15, 3) := by decide +kernel
theorem dX4_init_14 : decode cX4_init 14 = .ok (.return_, 1) := by decide +kernel
theorem dX4_hasName_0 : decode cX4_hasName 0 = .ok (.iconst 0, 1) := by decide +kernel
theorem dX4_hasName_1 : decode cX4_hasName 1 = .ok (.istore_n 2, 1) := by decide +kernel
theorem dX4_hasName_2 : decode cX4_hasName 2 = .ok (.iload_n 2, 1) := by decide +kernel
theorem dX4_hasName_3 : decode cX4_hasName 3 = .ok (.aload_n 0, 1) := by decide +kernel
theorem dX4_hasName_4 : decode cX4_hasName 4 = .ok (.getfield 15, 3) := by decide +kernel
theorem dX4_hasName_7 : decode cX4_hasName 7 = .ok (.arraylength, 1) := by decide +kernel
theorem dX4_hasName_8 : decode cX4_hasName 8 = .ok (.if_icmp .ge 25, 3) := by decide +kernel
theorem dX4_hasName_11 : decode cX4_hasName 11 = .ok (.aload_n 0, 1) := by decide +kernel
theorem dX4_hasName_12 : decode cX4_hasName 12 = .ok (.getfield 15, 3) := by decide +kernel
theorem dX4_hasName_15 : decode cX4_hasName 15 = .ok (.iload_n 2, 1) := by decide +kernel
theorem dX4_hasName_16 : decode cX4_hasName 16 = .ok (.iaload, 1) := by decide +kernel
theorem dX4_hasName_17 : decode cX4_hasName 17 = .ok (.sipush 10000, 3) := by decide +kernel
theorem dX4_hasName_20 : decode cX4_hasName 20 = .ok (.iload_n 1, 1) := by decide +kernel
theorem dX4_hasName_21 : decode cX4_hasName 21 = .ok (.iadd, 1) := by decide +kernel
theorem dX4_hasName_22 : decode cX4_hasName 22 = .ok (.if_icmp .ne 5, 3) := by decide +kernel
theorem dX4_hasName_25 : decode cX4_hasName 25 = .ok (.iconst 1, 1) := by decide +kernel
theorem dX4_hasName_26 : decode cX4_hasName 26 = .ok (.ireturn, 1) := by decide +kernel
theorem dX4_hasName_27 : decode cX4_hasName 27 = .ok (.iinc 2 1, 3) := by decide +kernel
theorem dX4_hasName_30 : decode cX4_hasName 30 = .ok (.goto (-28), 3) := by decide +kernel
theorem dX4_hasName_33 : decode cX4_hasName 33 = .ok (.iconst 0, 1) := by decide +kernel
theorem dX4_hasName_34 : decode cX4_hasName 34 = .ok (.ireturn, 1) := by decide +kernel
theorem dX4_holds_0 : decode cX4_holds 0 = .ok (.iconst 0, 1) := by decide +kernel
theorem dX4_holds_1 : decode cX4_holds 1 = .ok (.istore_n 3, 1) := by decide +kernel
theorem dX4_holds_2 : decode cX4_holds 2 = .ok (.iconst 0, 1) := by decide +kernel
theorem dX4_holds_3 : decode cX4_holds 3 = .ok (.istore 4, 2) := by decide +kernel
theorem dX4_holds_5 : decode cX4_holds 5 = .ok (.iload 4, 2) := by decide +kernel
theorem dX4_holds_7 : decode cX4_holds 7 = .ok (.aload_n 0, 1) := by decide +kernel
theorem dX4_holds_8 : decode cX4_holds 8 = .ok (.getfield 15, 3) := by decide +kernel
theorem dX4_holds_11 : decode cX4_holds 11 = .ok (.arraylength, 1) := by decide +kernel
theorem dX4_holds_12 : decode cX4_holds 12 = .ok (.if_icmp .ge 65, 3) := by decide +kernel
theorem dX4_holds_15 : decode cX4_holds 15 = .ok (.aload_n 0, 1) := by decide +kernel
theorem dX4_holds_16 : decode cX4_holds 16 = .ok (.getfield 15, 3) := by decide +kernel
theorem dX4_holds_19 : decode cX4_holds 19 = .ok (.iload 4, 2) := by decide +kernel
theorem dX4_holds_21 : decode cX4_holds 21 = .ok (.iaload, 1) := by decide +kernel
theorem dX4_holds_22 : decode cX4_holds 22 = .ok (.sipush 20000, 3) := by decide +kernel
theorem dX4_holds_25 : decode cX4_holds 25 = .ok (.if_icmp .lt 23, 3) := by decide +kernel
theorem dX4_holds_28 : decode cX4_holds 28 = .ok (.aload_n 0, 1) := by decide +kernel
theorem dX4_holds_29 : decode cX4_holds 29 = .ok (.getfield 15, 3) := by decide +kernel
theorem dX4_holds_32 : decode cX4_holds 32 = .ok (.iload 4, 2) := by decide +kernel
theorem dX4_holds_34 : decode cX4_holds 34 = .ok (.iaload, 1) := by decide +kernel
theorem dX4_holds_35 : decode cX4_holds 35 = .ok (.sipush 20000, 3) := by decide +kernel
theorem dX4_holds_38 : decode cX4_holds 38 = .ok (.isub, 1) := by decide +kernel
theorem dX4_holds_39 : decode cX4_holds 39 = .ok (.aload_n 2, 1) := by decide +kernel
theorem dX4_holds_40 : decode cX4_holds 40 = .ok (.iload_n 3, 1) := by decide +kernel
theorem dX4_holds_41 : decode cX4_holds 41 = .ok (.invokestatic 19, 3) := by decide +kernel
theorem dX4_holds_44 : decode cX4_holds 44 = .ok (.istore_n 3, 1) := by decide +kernel
theorem dX4_holds_45 : decode cX4_holds 45 = .ok (.goto 26, 3) := by decide +kernel
theorem dX4_holds_48 : decode cX4_holds 48 = .ok (.iload_n 3, 1) := by decide +kernel
theorem dX4_holds_49 : decode cX4_holds 49 = .ok (.aload_n 2, 1) := by decide +kernel
theorem dX4_holds_50 : decode cX4_holds 50 = .ok (.arraylength, 1) := by decide +kernel
theorem dX4_holds_51 : decode cX4_holds 51 = .ok (.if_icmp .ge 20, 3) := by decide +kernel
theorem dX4_holds_54 : decode cX4_holds 54 = .ok (.aload_n 2, 1) := by decide +kernel
theorem dX4_holds_55 : decode cX4_holds 55 = .ok (.iload_n 3, 1) := by decide +kernel
theorem dX4_holds_56 : decode cX4_holds 56 = .ok (.aload_n 0, 1) := by decide +kernel
theorem dX4_holds_57 : decode cX4_holds 57 = .ok (.getfield 15, 3) := by decide +kernel
theorem dX4_holds_60 : decode cX4_holds 60 = .ok (.iload 4, 2) := by decide +kernel
theorem dX4_holds_62 : decode cX4_holds 62 = .ok (.iaload, 1) := by decide +kernel
theorem dX4_holds_63 : decode cX4_holds 63 = .ok (.aload_n 1, 1) := by decide +kernel
theorem dX4_holds_64 : decode cX4_holds 64 = .ok (.invokestatic 23, 3) := by decide +kernel
theorem dX4_holds_67 : decode cX4_holds 67 = .ok (.iastore, 1) := by decide +kernel
theorem dX4_holds_68 : decode cX4_holds 68 = .ok (.iinc 3 1, 3) := by decide +kernel
theorem dX4_holds_71 : decode cX4_holds 71 = .ok (.iinc 4 1, 3) := by decide +kernel
theorem dX4_holds_74 : decode cX4_holds 74 = .ok (.goto (-69), 3) := by decide +kernel
theorem dX4_holds_77 : decode cX4_holds 77 = .ok (.iload_n 3, 1) := by decide +kernel
theorem dX4_holds_78 : decode cX4_holds 78 = .ok (.iconst 1, 1) := by decide +kernel
theorem dX4_holds_79 : decode cX4_holds 79 = .ok (.if_icmp .ne 18, 3) := by decide +kernel
theorem dX4_holds_82 : decode cX4_holds 82 = .ok (.aload_n 2, 1) := by decide +kernel
theorem dX4_holds_83 : decode cX4_holds 83 = .ok (.arraylength, 1) := by decide +kernel
theorem dX4_holds_84 : decode cX4_holds 84 = .ok (.ifCond .le 13, 3) := by decide +kernel
theorem dX4_holds_87 : decode cX4_holds 87 = .ok (.aload_n 2, 1) := by decide +kernel
theorem dX4_holds_88 : decode cX4_holds 88 = .ok (.iconst 0, 1) := by decide +kernel
theorem dX4_holds_89 : decode cX4_holds 89 = .ok (.iaload, 1) := by decide +kernel
theorem dX4_holds_90 : decode cX4_holds 90 = .ok (.ifCond .eq 7, 3) := by decide +kernel
theorem dX4_holds_93 : decode cX4_holds 93 = .ok (.iconst 1, 1) := by decide +kernel
theorem dX4_holds_94 : decode cX4_holds 94 = .ok (.goto 4, 3) := by decide +kernel
theorem dX4_holds_97 : decode cX4_holds 97 = .ok (.iconst 0, 1) := by decide +kernel
theorem dX4_holds_98 : decode cX4_holds 98 = .ok (.ireturn, 1) := by decide +kernel
theorem dX4_worth_0 : decode cX4_worth 0 = .ok (.iload_n 0, 1) := by decide +kernel
theorem dX4_worth_1 : decode cX4_worth 1 = .ok (.sipush 10000, 3) := by decide +kernel
theorem dX4_worth_4 : decode cX4_worth 4 = .ok (.if_icmp .ge 5, 3) := by decide +kernel
theorem dX4_worth_7 : decode cX4_worth 7 = .ok (.iload_n 0, 1) := by decide +kernel
theorem dX4_worth_8 : decode cX4_worth 8 = .ok (.ireturn, 1) := by decide +kernel
theorem dX4_worth_9 : decode cX4_worth 9 = .ok (.iload_n 0, 1) := by decide +kernel
theorem dX4_worth_10 : decode cX4_worth 10 = .ok (.sipush 10000, 3) := by decide +kernel
theorem dX4_worth_13 : decode cX4_worth 13 = .ok (.isub, 1) := by decide +kernel
theorem dX4_worth_14 : decode cX4_worth 14 = .ok (.istore_n 2, 1) := by decide +kernel
theorem dX4_worth_15 : decode cX4_worth 15 = .ok (.iload_n 2, 1) := by decide +kernel
theorem dX4_worth_16 : decode cX4_worth 16 = .ok (.aload_n 1, 1) := by decide +kernel
theorem dX4_worth_17 : decode cX4_worth 17 = .ok (.arraylength, 1) := by decide +kernel
theorem dX4_worth_18 : decode cX4_worth 18 = .ok (.if_icmp .ge 9, 3) := by decide +kernel
theorem dX4_worth_21 : decode cX4_worth 21 = .ok (.aload_n 1, 1) := by decide +kernel
theorem dX4_worth_22 : decode cX4_worth 22 = .ok (.iload_n 2, 1) := by decide +kernel
theorem dX4_worth_23 : decode cX4_worth 23 = .ok (.iaload, 1) := by decide +kernel
theorem dX4_worth_24 : decode cX4_worth 24 = .ok (.goto 4, 3) := by decide +kernel
theorem dX4_worth_27 : decode cX4_worth 27 = .ok (.iconst 0, 1) := by decide +kernel
theorem dX4_worth_28 : decode cX4_worth 28 = .ok (.ireturn, 1) := by decide +kernel
theorem dX4_join_0 : decode cX4_join 0 = .ok (.iload_n 2, 1) := by decide +kernel
theorem dX4_join_1 : decode cX4_join 1 = .ok (.aload_n 1, 1) := by decide +kernel
theorem dX4_join_2 : decode cX4_join 2 = .ok (.arraylength, 1) := by decide +kernel
theorem dX4_join_3 : decode cX4_join 3 = .ok (.if_icmp .gt 8, 3) := by decide +kernel
theorem dX4_join_6 : decode cX4_join 6 = .ok (.iload_n 2, 1) := by decide +kernel
theorem dX4_join_7 : decode cX4_join 7 = .ok (.iconst 1, 1) := by decide +kernel
theorem dX4_join_8 : decode cX4_join 8 = .ok (.if_icmp .ge 5, 3) := by decide +kernel
theorem dX4_join_11 : decode cX4_join 11 = .ok (.iload_n 2, 1) := by decide +kernel
theorem dX4_join_12 : decode cX4_join 12 = .ok (.ireturn, 1) := by decide +kernel
theorem dX4_join_13 : decode cX4_join 13 = .ok (.iload_n 0, 1) := by decide +kernel
theorem dX4_join_14 : decode cX4_join 14 = .ok (.bipush 33, 2) := by decide +kernel
theorem dX4_join_16 : decode cX4_join 16 = .ok (.if_icmp .ne 17, 3) := by decide +kernel
theorem dX4_join_19 : decode cX4_join 19 = .ok (.aload_n 1, 1) := by decide +kernel
theorem dX4_join_20 : decode cX4_join 20 = .ok (.iload_n 2, 1) := by decide +kernel
theorem dX4_join_21 : decode cX4_join 21 = .ok (.iconst 1, 1) := by decide +kernel
theorem dX4_join_22 : decode cX4_join 22 = .ok (.isub, 1) := by decide +kernel
theorem dX4_join_23 : decode cX4_join 23 = .ok (.iconst 1, 1) := by decide +kernel
theorem dX4_join_24 : decode cX4_join 24 = .ok (.aload_n 1, 1) := by decide +kernel
theorem dX4_join_25 : decode cX4_join 25 = .ok (.iload_n 2, 1) := by decide +kernel
theorem dX4_join_26 : decode cX4_join 26 = .ok (.iconst 1, 1) := by decide +kernel
theorem dX4_join_27 : decode cX4_join 27 = .ok (.isub, 1) := by decide +kernel
theorem dX4_join_28 : decode cX4_join 28 = .ok (.iaload, 1) := by decide +kernel
theorem dX4_join_29 : decode cX4_join 29 = .ok (.isub, 1) := by decide +kernel
theorem dX4_join_30 : decode cX4_join 30 = .ok (.iastore, 1) := by decide +kernel
theorem dX4_join_31 : decode cX4_join 31 = .ok (.iload_n 2, 1) := by decide +kernel
theorem dX4_join_32 : decode cX4_join 32 = .ok (.ireturn, 1) := by decide +kernel
theorem dX4_join_33 : decode cX4_join 33 = .ok (.iload_n 2, 1) := by decide +kernel
theorem dX4_join_34 : decode cX4_join 34 = .ok (.iconst 2, 1) := by decide +kernel
theorem dX4_join_35 : decode cX4_join 35 = .ok (.if_icmp .ge 5, 3) := by decide +kernel
theorem dX4_join_38 : decode cX4_join 38 = .ok (.iload_n 2, 1) := by decide +kernel
theorem dX4_join_39 : decode cX4_join 39 = .ok (.ireturn, 1) := by decide +kernel
theorem dX4_join_40 : decode cX4_join 40 = .ok (.aload_n 1, 1) := by decide +kernel
theorem dX4_join_41 : decode cX4_join 41 = .ok (.iload_n 2, 1) := by decide +kernel
theorem dX4_join_42 : decode cX4_join 42 = .ok (.iconst 2, 1) := by decide +kernel
theorem dX4_join_43 : decode cX4_join 43 = .ok (.isub, 1) := by decide +kernel
theorem dX4_join_44 : decode cX4_join 44 = .ok (.iload_n 0, 1) := by decide +kernel
theorem dX4_join_45 : decode cX4_join 45 = .ok (.aload_n 1, 1) := by decide +kernel
theorem dX4_join_46 : decode cX4_join 46 = .ok (.iload_n 2, 1) := by decide +kernel
theorem dX4_join_47 : decode cX4_join 47 = .ok (.iconst 2, 1) := by decide +kernel
theorem dX4_join_48 : decode cX4_join 48 = .ok (.isub, 1) := by decide +kernel
theorem dX4_join_49 : decode cX4_join 49 = .ok (.iaload, 1) := by decide +kernel
theorem dX4_join_50 : decode cX4_join 50 = .ok (.aload_n 1, 1) := by decide +kernel
theorem dX4_join_51 : decode cX4_join 51 = .ok (.iload_n 2, 1) := by decide +kernel
theorem dX4_join_52 : decode cX4_join 52 = .ok (.iconst 1, 1) := by decide +kernel
theorem dX4_join_53 : decode cX4_join 53 = .ok (.isub, 1) := by decide +kernel
theorem dX4_join_54 : decode cX4_join 54 = .ok (.iaload, 1) := by decide +kernel
theorem dX4_join_55 : decode cX4_join 55 = .ok (.invokestatic 27, 3) := by decide +kernel
theorem dX4_join_58 : decode cX4_join 58 = .ok (.iastore, 1) := by decide +kernel
theorem dX4_join_59 : decode cX4_join 59 = .ok (.iload_n 2, 1) := by decide +kernel
theorem dX4_join_60 : decode cX4_join 60 = .ok (.iconst 1, 1) := by decide +kernel
theorem dX4_join_61 : decode cX4_join 61 = .ok (.isub, 1) := by decide +kernel
theorem dX4_join_62 : decode cX4_join 62 = .ok (.ireturn, 1) := by decide +kernel
theorem dX4_joined_0 : decode cX4_joined 0 = .ok (.iload_n 0, 1) := by decide +kernel
theorem dX4_joined_1 : decode cX4_joined 1 = .ok (.lookupswitch 104 #[(38, 100), (43, 59), (45, 63), (60, 67), (61, 89), (62, 78)], 59) := by decide +kernel
theorem dX4_joined_60 : decode cX4_joined 60 = .ok (.iload_n 1, 1) := by decide +kernel
theorem dX4_joined_61 : decode cX4_joined 61 = .ok (.iload_n 2, 1) := by decide +kernel
theorem dX4_joined_62 : decode cX4_joined 62 = .ok (.iadd, 1) := by decide +kernel
theorem dX4_joined_63 : decode cX4_joined 63 = .ok (.ireturn, 1) := by decide +kernel
theorem dX4_joined_64 : decode cX4_joined 64 = .ok (.iload_n 1, 1) := by decide +kernel
theorem dX4_joined_65 : decode cX4_joined 65 = .ok (.iload_n 2, 1) := by decide +kernel
theorem dX4_joined_66 : decode cX4_joined 66 = .ok (.isub, 1) := by decide +kernel
theorem dX4_joined_67 : decode cX4_joined 67 = .ok (.ireturn, 1) := by decide +kernel
theorem dX4_joined_68 : decode cX4_joined 68 = .ok (.iload_n 1, 1) := by decide +kernel
theorem dX4_joined_69 : decode cX4_joined 69 = .ok (.iload_n 2, 1) := by decide +kernel
theorem dX4_joined_70 : decode cX4_joined 70 = .ok (.if_icmp .ge 7, 3) := by decide +kernel
theorem dX4_joined_73 : decode cX4_joined 73 = .ok (.iconst 1, 1) := by decide +kernel
theorem dX4_joined_74 : decode cX4_joined 74 = .ok (.goto 4, 3) := by decide +kernel
theorem dX4_joined_77 : decode cX4_joined 77 = .ok (.iconst 0, 1) := by decide +kernel
theorem dX4_joined_78 : decode cX4_joined 78 = .ok (.ireturn, 1) := by decide +kernel
theorem dX4_joined_79 : decode cX4_joined 79 = .ok (.iload_n 1, 1) := by decide +kernel
theorem dX4_joined_80 : decode cX4_joined 80 = .ok (.iload_n 2, 1) := by decide +kernel
theorem dX4_joined_81 : decode cX4_joined 81 = .ok (.if_icmp .le 7, 3) := by decide +kernel
theorem dX4_joined_84 : decode cX4_joined 84 = .ok (.iconst 1, 1) := by decide +kernel
theorem dX4_joined_85 : decode cX4_joined 85 = .ok (.goto 4, 3) := by decide +kernel
theorem dX4_joined_88 : decode cX4_joined 88 = .ok (.iconst 0, 1) := by decide +kernel
theorem dX4_joined_89 : decode cX4_joined 89 = .ok (.ireturn, 1) := by decide +kernel
theorem dX4_joined_90 : decode cX4_joined 90 = .ok (.iload_n 1, 1) := by decide +kernel
theorem dX4_joined_91 : decode cX4_joined 91 = .ok (.iload_n 2, 1) := by decide +kernel
theorem dX4_joined_92 : decode cX4_joined 92 = .ok (.if_icmp .ne 7, 3) := by decide +kernel
theorem dX4_joined_95 : decode cX4_joined 95 = .ok (.iconst 1, 1) := by decide +kernel
theorem dX4_joined_96 : decode cX4_joined 96 = .ok (.goto 4, 3) := by decide +kernel
theorem dX4_joined_99 : decode cX4_joined 99 = .ok (.iconst 0, 1) := by decide +kernel
theorem dX4_joined_100 : decode cX4_joined 100 = .ok (.ireturn, 1) := by decide +kernel
theorem dX4_joined_101 : decode cX4_joined 101 = .ok (.iload_n 1, 1) := by decide +kernel
theorem dX4_joined_102 : decode cX4_joined 102 = .ok (.iload_n 2, 1) := by decide +kernel
theorem dX4_joined_103 : decode cX4_joined 103 = .ok (.iand, 1) := by decide +kernel
theorem dX4_joined_104 : decode cX4_joined 104 = .ok (.ireturn, 1) := by decide +kernel
theorem dX4_joined_105 : decode cX4_joined 105 = .ok (.iload_n 1, 1) := by decide +kernel
theorem dX4_joined_106 : decode cX4_joined 106 = .ok (.iload_n 2, 1) := by decide +kernel
theorem dX4_joined_107 : decode cX4_joined 107 = .ok (.ior, 1) := by decide +kernel
theorem dX4_joined_108 : decode cX4_joined 108 = .ok (.ireturn, 1) := by decide +kernel
theorem dX5_init_0 : decode cX5_init 0 = .ok (.aload_n 0, 1) := by decide +kernel
theorem dX5_init_1 : decode cX5_init 1 = .ok (.invokespecial 3, 3) := by decide +kernel
theorem dX5_init_4 : decode cX5_init 4 = .ok (.aload_n 0, 1) := by decide +kernel
theorem dX5_init_5 : decode cX5_init 5 = .ok (.sipush 300, 3) := by decide +kernel
theorem dX5_init_8 : decode cX5_init 8 = .ok (.newarray .int, 2) := by decide +kernel
theorem dX5_init_10 : decode cX5_init 10 = .ok (.putfield 9, 3) := by decide +kernel
theorem dX5_init_13 : decode cX5_init 13 = .ok (.aload_n 0, 1) := by decide +kernel
theorem dX5_init_14 : decode cX5_init 14 = .ok (.bipush 16, 2) := by decide +kernel
theorem dX5_init_16 : decode cX5_init 16 = .ok (.anewarray 15, 3) := by decide +kernel
theorem dX5_init_19 : decode cX5_init 19 = .ok (.putfield 17, 3) := by decide +kernel
theorem dX5_init_22 : decode cX5_init 22 = .ok (.aload_n 0, 1) := by decide +kernel
theorem dX5_init_23 : decode cX5_init 23 = .ok (.new 21, 3) := by decide +kernel
theorem dX5_init_26 : decode cX5_init 26 = .ok (.dup, 1) := by decide +kernel
theorem dX5_init_27 : decode cX5_init 27 = .ok (.aload_n 0, 1) := by decide +kernel
theorem dX5_init_28 : decode cX5_init 28 = .ok (.getfield 9, 3) := by decide +kernel
theorem dX5_init_31 : decode cX5_init 31 = .ok (.invokespecial 23, 3) := by decide +kernel
theorem dX5_init_34 : decode cX5_init 34 = .ok (.putfield 26, 3) := by decide +kernel
theorem dX5_init_37 : decode cX5_init 37 = .ok (.aload_n 0, 1) := by decide +kernel
theorem dX5_init_38 : decode cX5_init 38 = .ok (.bipush 9, 2) := by decide +kernel
theorem dX5_init_40 : decode cX5_init 40 = .ok (.newarray .int, 2) := by decide +kernel
theorem dX5_init_42 : decode cX5_init 42 = .ok (.putfield 30, 3) := by decide +kernel
theorem dX5_init_45 : decode cX5_init 45 = .ok (.aload_n 0, 1) := by decide +kernel
theorem dX5_init_46 : decode cX5_init 46 = .ok (.bipush 31, 2) := by decide +kernel
theorem dX5_init_48 : decode cX5_init 48 = .ok (.newarray .int, 2) := by decide +kernel
theorem dX5_init_50 : decode cX5_init 50 = .ok (.putfield 33, 3) := by decide +kernel
theorem dX5_init_53 : decode cX5_init 53 = .ok (.return_, 1) := by decide +kernel
theorem dX5_hasRoomOnTape_0 : decode cX5_hasRoomOnTape 0 = .ok (.aload_n 0, 1) := by decide +kernel
theorem dX5_hasRoomOnTape_1 : decode cX5_hasRoomOnTape 1 = .ok (.getfield 36, 3) := by decide +kernel
theorem dX5_hasRoomOnTape_4 : decode cX5_hasRoomOnTape 4 = .ok (.bipush 20, 2) := by decide +kernel
theorem dX5_hasRoomOnTape_6 : decode cX5_hasRoomOnTape 6 = .ok (.iadd, 1) := by decide +kernel
theorem dX5_hasRoomOnTape_7 : decode cX5_hasRoomOnTape 7 = .ok (.aload_n 0, 1) := by decide +kernel
theorem dX5_hasRoomOnTape_8 : decode cX5_hasRoomOnTape 8 = .ok (.getfield 9, 3) := by decide +kernel
theorem dX5_hasRoomOnTape_11 : decode cX5_hasRoomOnTape 11 = .ok (.arraylength, 1) := by decide +kernel
theorem dX5_hasRoomOnTape_12 : decode cX5_hasRoomOnTape 12 = .ok (.if_icmp .gt 7, 3) := by decide +kernel
theorem dX5_hasRoomOnTape_15 : decode cX5_hasRoomOnTape 15 = .ok (.iconst 1, 1) := by decide +kernel
theorem dX5_hasRoomOnTape_16 : decode cX5_hasRoomOnTape 16 = .ok (.goto 4, 3) := by decide +kernel
theorem dX5_hasRoomOnTape_19 : decode cX5_hasRoomOnTape 19 = .ok (.iconst 0, 1) := by decide +kernel
theorem dX5_hasRoomOnTape_20 : decode cX5_hasRoomOnTape 20 = .ok (.ireturn, 1) := by decide +kernel
theorem dX5_addBytes_0 : decode cX5_addBytes 0 = .ok (.bipush 24, 2) := by decide +kernel
theorem dX5_addBytes_2 : decode cX5_addBytes 2 = .ok (.istore_n 2, 1) := by decide +kernel
theorem dX5_addBytes_3 : decode cX5_addBytes 3 = .ok (.iload_n 2, 1) := by decide +kernel
theorem dX5_addBytes_4 : decode cX5_addBytes 4 = .ok (.ifCond .lt 54, 3) := by decide +kernel
theorem dX5_addBytes_7 : decode cX5_addBytes 7 = .ok (.aload_n 0, 1) := by decide +kernel
theorem dX5_addBytes_8 : decode cX5_addBytes 8 = .ok (.getfield 36, 3) := by decide +kernel
theorem dX5_addBytes_11 : decode cX5_addBytes 11 = .ok (.ifCond .lt 41, 3) := by decide +kernel
theorem dX5_addBytes_14 : decode cX5_addBytes 14 = .ok (.aload_n 0, 1) := by decide +kernel
theorem dX5_addBytes_15 : decode cX5_addBytes 15 = .ok (.getfield 36, 3) := by decide +kernel
theorem dX5_addBytes_18 : decode cX5_addBytes 18 = .ok (.aload_n 0, 1) := by decide +kernel
theorem dX5_addBytes_19 : decode cX5_addBytes 19 = .ok (.getfield 9, 3) := by decide +kernel
theorem dX5_addBytes_22 : decode cX5_addBytes 22 = .ok (.arraylength, 1) := by decide +kernel
theorem dX5_addBytes_23 : decode cX5_addBytes 23 = .ok (.if_icmp .ge 29, 3) := by decide +kernel
theorem dX5_addBytes_26 : decode cX5_addBytes 26 = .ok (.aload_n 0, 1) := by decide +kernel
theorem dX5_addBytes_27 : decode cX5_addBytes 27 = .ok (.getfield 9, 3) := by decide +kernel
theorem dX5_addBytes_30 : decode cX5_addBytes 30 = .ok (.aload_n 0, 1) := by decide +kernel
theorem dX5_addBytes_31 : decode cX5_addBytes 31 = .ok (.getfield 36, 3) := by decide +kernel
theorem dX5_addBytes_34 : decode cX5_addBytes 34 = .ok (.iload_n 1, 1) := by decide +kernel
theorem dX5_addBytes_35 : decode cX5_addBytes 35 = .ok (.iload_n 2, 1) := by decide +kernel
theorem dX5_addBytes_36 : decode cX5_addBytes 36 = .ok (.iushr, 1) := by decide +kernel
theorem dX5_addBytes_37 : decode cX5_addBytes 37 = .ok (.sipush 255, 3) := by decide +kernel
theorem dX5_addBytes_40 : decode cX5_addBytes 40 = .ok (.iand, 1) := by decide +kernel
theorem dX5_addBytes_41 : decode cX5_addBytes 41 = .ok (.iastore, 1) := by decide +kernel
theorem dX5_addBytes_42 : decode cX5_addBytes 42 = .ok (.aload_n 0, 1) := by decide +kernel
theorem dX5_addBytes_43 : decode cX5_addBytes 43 = .ok (.dup, 1) := by decide +kernel
theorem dX5_addBytes_44 : decode cX5_addBytes 44 = .ok (.getfield 36, 3) := by decide +kernel
theorem dX5_addBytes_47 : decode cX5_addBytes 47 = .ok (.iconst 1, 1) := by decide +kernel
theorem dX5_addBytes_48 : decode cX5_addBytes 48 = .ok (.iadd, 1) := by decide +kernel
theorem dX5_addBytes_49 : decode cX5_addBytes 49 = .ok (.putfield 36, 3) := by decide +kernel
theorem dX5_addBytes_52 : decode cX5_addBytes 52 = .ok (.iinc 2 (-8), 3) := by decide +kernel
theorem dX5_addBytes_55 : decode cX5_addBytes 55 = .ok (.goto (-52), 3) := by decide +kernel
theorem dX5_addBytes_58 : decode cX5_addBytes 58 = .ok (.return_, 1) := by decide +kernel
theorem dX5_readTape_0 : decode cX5_readTape 0 = .ok (.aload_n 0, 1) := by decide +kernel
theorem dX5_readTape_1 : decode cX5_readTape 1 = .ok (.getfield 26, 3) := by decide +kernel
theorem dX5_readTape_4 : decode cX5_readTape 4 = .ok (.iload_n 1, 1) := by decide +kernel
theorem dX5_readTape_5 : decode cX5_readTape 5 = .ok (.invokevirtual 40, 3) := by decide +kernel
theorem dX5_readTape_8 : decode cX5_readTape 8 = .ok (.astore_n 2, 1) := by decide +kernel
theorem dX5_readTape_9 : decode cX5_readTape 9 = .ok (.aload_n 0, 1) := by decide +kernel
theorem dX5_readTape_10 : decode cX5_readTape 10 = .ok (.iconst 0, 1) := by decide +kernel
theorem dX5_readTape_11 : decode cX5_readTape 11 = .ok (.putfield 36, 3) := by decide +kernel
theorem dX5_readTape_14 : decode cX5_readTape 14 = .ok (.aload_n 0, 1) := by decide +kernel
theorem dX5_readTape_15 : decode cX5_readTape 15 = .ok (.aload_n 2, 1) := by decide +kernel
theorem dX5_readTape_16 : decode cX5_readTape 16 = .ok (.ifnonnull 13, 3) := by decide +kernel
theorem dX5_readTape_19 : decode cX5_readTape 19 = .ok (.aload_n 0, 1) := by decide +kernel
theorem dX5_readTape_20 : decode cX5_readTape 20 = .ok (.getfield 26, 3) := by decide +kernel
theorem dX5_readTape_23 : decode cX5_readTape 23 = .ok (.getfield 44, 3) := by decide +kernel
theorem dX5_readTape_26 : decode cX5_readTape 26 = .ok (.goto 4, 3) := by decide +kernel
theorem dX5_readTape_29 : decode cX5_readTape 29 = .ok (.iconst 0, 1) := by decide +kernel
theorem dX5_readTape_30 : decode cX5_readTape 30 = .ok (.putfield 47, 3) := by decide +kernel
theorem dX5_readTape_33 : decode cX5_readTape 33 = .ok (.aload_n 0, 1) := by decide +kernel
theorem dX5_readTape_34 : decode cX5_readTape 34 = .ok (.aload_n 2, 1) := by decide +kernel
theorem dX5_readTape_35 : decode cX5_readTape 35 = .ok (.ifnonnull 13, 3) := by decide +kernel
theorem dX5_readTape_38 : decode cX5_readTape 38 = .ok (.aload_n 0, 1) := by decide +kernel
theorem dX5_readTape_39 : decode cX5_readTape 39 = .ok (.getfield 26, 3) := by decide +kernel
theorem dX5_readTape_42 : decode cX5_readTape 42 = .ok (.getfield 48, 3) := by decide +kernel
theorem dX5_readTape_45 : decode cX5_readTape 45 = .ok (.goto 4, 3) := by decide +kernel
theorem dX5_readTape_48 : decode cX5_readTape 48 = .ok (.iconst (-1), 1) := by decide +kernel
theorem dX5_readTape_49 : decode cX5_readTape 49 = .ok (.putfield 51, 3) := by decide +kernel
theorem dX5_readTape_52 : decode cX5_readTape 52 = .ok (.aload_n 2, 1) := by decide +kernel
theorem dX5_readTape_53 : decode cX5_readTape 53 = .ok (.areturn, 1) := by decide +kernel
theorem dX5_addRule_0 : decode cX5_addRule 0 = .ok (.aload_n 0, 1) := by decide +kernel
theorem dX5_addRule_1 : decode cX5_addRule 1 = .ok (.getfield 54, 3) := by decide +kernel
theorem dX5_addRule_4 : decode cX5_addRule 4 = .ok (.ifCond .lt 15, 3) := by decide +kernel
theorem dX5_addRule_7 : decode cX5_addRule 7 = .ok (.aload_n 0, 1) := by decide +kernel
theorem dX5_addRule_8 : decode cX5_addRule 8 = .ok (.getfield 54, 3) := by decide +kernel
theorem dX5_addRule_11 : decode cX5_addRule 11 = .ok (.aload_n 0, 1) := by decide +kernel
theorem dX5_addRule_12 : decode cX5_addRule 12 = .ok (.getfield 17, 3) := by decide +kernel
theorem dX5_addRule_15 : decode cX5_addRule 15 = .ok (.arraylength, 1) := by decide +kernel
theorem dX5_addRule_16 : decode cX5_addRule 16 = .ok (.if_icmp .lt 5, 3) := by decide +kernel
theorem dX5_addRule_19 : decode cX5_addRule 19 = .ok (.iconst 0, 1) := by decide +kernel
theorem dX5_addRule_20 : decode cX5_addRule 20 = .ok (.ireturn, 1) := by decide +kernel
theorem dX5_addRule_21 : decode cX5_addRule 21 = .ok (.aload_n 0, 1) := by decide +kernel
theorem dX5_addRule_22 : decode cX5_addRule 22 = .ok (.getfield 17, 3) := by decide +kernel
theorem dX5_addRule_25 : decode cX5_addRule 25 = .ok (.aload_n 0, 1) := by decide +kernel
theorem dX5_addRule_26 : decode cX5_addRule 26 = .ok (.getfield 54, 3) := by decide +kernel
theorem dX5_addRule_29 : decode cX5_addRule 29 = .ok (.aload_n 1, 1) := by decide +kernel
theorem dX5_addRule_30 : decode cX5_addRule 30 = .ok (.aastore, 1) := by decide +kernel
theorem dX5_addRule_31 : decode cX5_addRule 31 = .ok (.aload_n 0, 1) := by decide +kernel
theorem dX5_addRule_32 : decode cX5_addRule 32 = .ok (.dup, 1) := by decide +kernel
theorem dX5_addRule_33 : decode cX5_addRule 33 = .ok (.getfield 54, 3) := by decide +kernel
theorem dX5_addRule_36 : decode cX5_addRule 36 = .ok (.iconst 1, 1) := by decide +kernel
theorem dX5_addRule_37 : decode cX5_addRule 37 = .ok (.iadd, 1) := by decide +kernel
theorem dX5_addRule_38 : decode cX5_addRule 38 = .ok (.putfield 54, 3) := by decide +kernel
theorem dX5_addRule_41 : decode cX5_addRule 41 = .ok (.iconst 1, 1) := by decide +kernel
theorem dX5_addRule_42 : decode cX5_addRule 42 = .ok (.ireturn, 1) := by decide +kernel
theorem dX5_removeRule_0 : decode cX5_removeRule 0 = .ok (.iload_n 1, 1) := by decide +kernel
theorem dX5_removeRule_1 : decode cX5_removeRule 1 = .ok (.ifCond .lt 23, 3) := by decide +kernel
theorem dX5_removeRule_4 : decode cX5_removeRule 4 = .ok (.iload_n 1, 1) := by decide +kernel
theorem dX5_removeRule_5 : decode cX5_removeRule 5 = .ok (.aload_n 0, 1) := by decide +kernel
theorem dX5_removeRule_6 : decode cX5_removeRule 6 = .ok (.getfield 54, 3) := by decide +kernel
theorem dX5_removeRule_9 : decode cX5_removeRule 9 = .ok (.if_icmp .ge 15, 3) := by decide +kernel
theorem dX5_removeRule_12 : decode cX5_removeRule 12 = .ok (.aload_n 0, 1) := by decide +kernel
theorem dX5_removeRule_13 : decode cX5_removeRule 13 = .ok (.getfield 54, 3) := by decide +kernel
theorem dX5_removeRule_16 : decode cX5_removeRule 16 = .ok (.aload_n 0, 1) := by decide +kernel
theorem dX5_removeRule_17 : decode cX5_removeRule 17 = .ok (.getfield 17, 3) := by decide +kernel
theorem dX5_removeRule_20 : decode cX5_removeRule 20 = .ok (.arraylength, 1) := by decide +kernel
theorem dX5_removeRule_21 : decode cX5_removeRule 21 = .ok (.if_icmp .le 5, 3) := by decide +kernel
theorem dX5_removeRule_24 : decode cX5_removeRule 24 = .ok (.iconst 0, 1) := by decide +kernel
theorem dX5_removeRule_25 : decode cX5_removeRule 25 = .ok (.ireturn, 1) := by decide +kernel
theorem dX5_removeRule_26 : decode cX5_removeRule 26 = .ok (.iload_n 1, 1) := by decide +kernel
theorem dX5_removeRule_27 : decode cX5_removeRule 27 = .ok (.istore_n 2, 1) := by decide +kernel
theorem dX5_removeRule_28 : decode cX5_removeRule 28 = .ok (.iload_n 2, 1) := by decide +kernel
theorem dX5_removeRule_29 : decode cX5_removeRule 29 = .ok (.iconst 1, 1) := by decide +kernel
theorem dX5_removeRule_30 : decode cX5_removeRule 30 = .ok (.iadd, 1) := by decide +kernel
theorem dX5_removeRule_31 : decode cX5_removeRule 31 = .ok (.aload_n 0, 1) := by decide +kernel
theorem dX5_removeRule_32 : decode cX5_removeRule 32 = .ok (.getfield 54, 3) := by decide +kernel
theorem dX5_removeRule_35 : decode cX5_removeRule 35 = .ok (.if_icmp .ge 23, 3) := by decide +kernel
theorem dX5_removeRule_38 : decode cX5_removeRule 38 = .ok (.aload_n 0, 1) := by decide +kernel
theorem dX5_removeRule_39 : decode cX5_removeRule 39 = .ok (.getfield 17, 3) := by decide +kernel
theorem dX5_removeRule_42 : decode cX5_removeRule 42 = .ok (.iload_n 2, 1) := by decide +kernel
theorem dX5_removeRule_43 : decode cX5_removeRule 43 = .ok (.aload_n 0, 1) := by decide +kernel
theorem dX5_removeRule_44 : decode cX5_removeRule 44 = .ok (.getfield 17, 3) := by decide +kernel
theorem dX5_removeRule_47 : decode cX5_removeRule 47 = .ok (.iload_n 2, 1) := by decide +kernel
theorem dX5_removeRule_48 : decode cX5_removeRule 48 = .ok (.iconst 1, 1) := by decide +kernel
theorem dX5_removeRule_49 : decode cX5_removeRule 49 = .ok (.iadd, 1) := by decide +kernel
theorem dX5_removeRule_50 : decode cX5_removeRule 50 = .ok (.aaload, 1) := by decide +kernel
theorem dX5_removeRule_51 : decode cX5_removeRule 51 = .ok (.aastore, 1) := by decide +kernel
theorem dX5_removeRule_52 : decode cX5_removeRule 52 = .ok (.iinc 2 1, 3) := by decide +kernel
theorem dX5_removeRule_55 : decode cX5_removeRule 55 = .ok (.goto (-27), 3) := by decide +kernel
theorem dX5_removeRule_58 : decode cX5_removeRule 58 = .ok (.aload_n 0, 1) := by decide +kernel
theorem dX5_removeRule_59 : decode cX5_removeRule 59 = .ok (.dup, 1) := by decide +kernel
theorem dX5_removeRule_60 : decode cX5_removeRule 60 = .ok (.getfield 54, 3) := by decide +kernel
theorem dX5_removeRule_63 : decode cX5_removeRule 63 = .ok (.iconst 1, 1) := by decide +kernel
theorem dX5_removeRule_64 : decode cX5_removeRule 64 = .ok (.isub, 1) := by decide +kernel
theorem dX5_removeRule_65 : decode cX5_removeRule 65 = .ok (.putfield 54, 3) := by decide +kernel
theorem dX5_removeRule_68 : decode cX5_removeRule 68 = .ok (.aload_n 0, 1) := by decide +kernel
theorem dX5_removeRule_69 : decode cX5_removeRule 69 = .ok (.getfield 17, 3) := by decide +kernel
theorem dX5_removeRule_72 : decode cX5_removeRule 72 = .ok (.aload_n 0, 1) := by decide +kernel
theorem dX5_removeRule_73 : decode cX5_removeRule 73 = .ok (.getfield 54, 3) := by decide +kernel
theorem dX5_removeRule_76 : decode cX5_removeRule 76 = .ok (.aconst_null, 1) := by decide +kernel
theorem dX5_removeRule_77 : decode cX5_removeRule 77 = .ok (.aastore, 1) := by decide +kernel
theorem dX5_removeRule_78 : decode cX5_removeRule 78 = .ok (.iconst 1, 1) := by decide +kernel
theorem dX5_removeRule_79 : decode cX5_removeRule 79 = .ok (.ireturn, 1) := by decide +kernel
theorem dX5_tellName_0 : decode cX5_tellName 0 = .ok (.iload_n 1, 1) := by decide +kernel
theorem dX5_tellName_1 : decode cX5_tellName 1 = .ok (.ifCond .lt 19, 3) := by decide +kernel
theorem dX5_tellName_4 : decode cX5_tellName 4 = .ok (.iload_n 1, 1) := by decide +kernel
theorem dX5_tellName_5 : decode cX5_tellName 5 = .ok (.aload_n 0, 1) := by decide +kernel
theorem dX5_tellName_6 : decode cX5_tellName 6 = .ok (.getfield 30, 3) := by decide +kernel
theorem dX5_tellName_9 : decode cX5_tellName 9 = .ok (.arraylength, 1) := by decide +kernel
theorem dX5_tellName_10 : decode cX5_tellName 10 = .ok (.if_icmp .ge 10, 3) := by decide +kernel
theorem dX5_tellName_13 : decode cX5_tellName 13 = .ok (.aload_n 0, 1) := by decide +kernel
theorem dX5_tellName_14 : decode cX5_tellName 14 = .ok (.getfield 30, 3) := by decide +kernel
theorem dX5_tellName_17 : decode cX5_tellName 17 = .ok (.iload_n 1, 1) := by decide +kernel
theorem dX5_tellName_18 : decode cX5_tellName 18 = .ok (.iload_n 2, 1) := by decide +kernel
theorem dX5_tellName_19 : decode cX5_tellName 19 = .ok (.iastore, 1) := by decide +kernel
theorem dX5_tellName_20 : decode cX5_tellName 20 = .ok (.return_, 1) := by decide +kernel
theorem dX5_names_0 : decode cX5_names 0 = .ok (.iconst 0, 1) := by decide +kernel
theorem dX5_names_1 : decode cX5_names 1 = .ok (.istore_n 2, 1) := by decide +kernel
theorem dX5_names_2 : decode cX5_names 2 = .ok (.iload_n 2, 1) := by decide +kernel
theorem dX5_names_3 : decode cX5_names 3 = .ok (.aload_n 0, 1) := by decide +kernel
theorem dX5_names_4 : decode cX5_names 4 = .ok (.getfield 54, 3) := by decide +kernel
theorem dX5_names_7 : decode cX5_names 7 = .ok (.if_icmp .ge 39, 3) := by decide +kernel
theorem dX5_names_10 : decode cX5_names 10 = .ok (.iload_n 2, 1) := by decide +kernel
theorem dX5_names_11 : decode cX5_names 11 = .ok (.aload_n 0, 1) := by decide +kernel
theorem dX5_names_12 : decode cX5_names 12 = .ok (.getfield 17, 3) := by decide +kernel
theorem dX5_names_15 : decode cX5_names 15 = .ok (.arraylength, 1) := by decide +kernel
theorem dX5_names_16 : decode cX5_names 16 = .ok (.if_icmp .ge 30, 3) := by decide +kernel
theorem dX5_names_19 : decode cX5_names 19 = .ok (.aload_n 0, 1) := by decide +kernel
theorem dX5_names_20 : decode cX5_names 20 = .ok (.getfield 17, 3) := by decide +kernel
theorem dX5_names_23 : decode cX5_names 23 = .ok (.iload_n 2, 1) := by decide +kernel
theorem dX5_names_24 : decode cX5_names 24 = .ok (.aaload, 1) := by decide +kernel
theorem dX5_names_25 : decode cX5_names 25 = .ok (.astore_n 3, 1) := by decide +kernel
theorem dX5_names_26 : decode cX5_names 26 = .ok (.aload_n 3, 1) := by decide +kernel
theorem dX5_names_27 : decode cX5_names 27 = .ok (.ifnull 13, 3) := by decide +kernel
theorem dX5_names_30 : decode cX5_names 30 = .ok (.aload_n 3, 1) := by decide +kernel
theorem dX5_names_31 : decode cX5_names 31 = .ok (.iload_n 1, 1) := by decide +kernel
theorem dX5_names_32 : decode cX5_names 32 = .ok (.invokevirtual 57, 3) := by decide +kernel
theorem dX5_names_35 : decode cX5_names 35 = .ok (.ifCond .eq 5, 3) := by decide +kernel
theorem dX5_names_38 : decode cX5_names 38 = .ok (.iconst 1, 1) := by decide +kernel
theorem dX5_names_39 : decode cX5_names 39 = .ok (.ireturn, 1) := by decide +kernel
theorem dX5_names_40 : decode cX5_names 40 = .ok (.iinc 2 1, 3) := by decide +kernel
theorem dX5_names_43 : decode cX5_names 43 = .ok (.goto (-41), 3) := by decide +kernel
theorem dX5_names_46 : decode cX5_names 46 = .ok (.iconst 0, 1) := by decide +kernel
theorem dX5_names_47 : decode cX5_names 47 = .ok (.ireturn, 1) := by decide +kernel
theorem dX5_someHolds_0 : decode cX5_someHolds 0 = .ok (.iconst 0, 1) := by decide +kernel
theorem dX5_someHolds_1 : decode cX5_someHolds 1 = .ok (.istore_n 2, 1) := by decide +kernel
theorem dX5_someHolds_2 : decode cX5_someHolds 2 = .ok (.iload_n 2, 1) := by decide +kernel
theorem dX5_someHolds_3 : decode cX5_someHolds 3 = .ok (.aload_n 0, 1) := by decide +kernel
theorem dX5_someHolds_4 : decode cX5_someHolds 4 = .ok (.getfield 54, 3) := by decide +kernel
theorem dX5_someHolds_7 : decode cX5_someHolds 7 = .ok (.if_icmp .ge 54, 3) := by decide +kernel
theorem dX5_someHolds_10 : decode cX5_someHolds 10 = .ok (.iload_n 2, 1) := by decide +kernel
theorem dX5_someHolds_11 : decode cX5_someHolds 11 = .ok (.aload_n 0, 1) := by decide +kernel
theorem dX5_someHolds_12 : decode cX5_someHolds 12 = .ok (.getfield 17, 3) := by decide +kernel
theorem dX5_someHolds_15 : decode cX5_someHolds 15 = .ok (.arraylength, 1) := by decide +kernel
theorem dX5_someHolds_16 : decode cX5_someHolds 16 = .ok (.if_icmp .ge 45, 3) := by decide +kernel
theorem dX5_someHolds_19 : decode cX5_someHolds 19 = .ok (.aload_n 0, 1) := by decide +kernel
theorem dX5_someHolds_20 : decode cX5_someHolds 20 = .ok (.getfield 17, 3) := by decide +kernel
theorem dX5_someHolds_23 : decode cX5_someHolds 23 = .ok (.iload_n 2, 1) := by decide +kernel
theorem dX5_someHolds_24 : decode cX5_someHolds 24 = .ok (.aaload, 1) := by decide +kernel
theorem dX5_someHolds_25 : decode cX5_someHolds 25 = .ok (.astore_n 3, 1) := by decide +kernel
theorem dX5_someHolds_26 : decode cX5_someHolds 26 = .ok (.aload_n 3, 1) := by decide +kernel
theorem dX5_someHolds_27 : decode cX5_someHolds 27 = .ok (.ifnull 28, 3) := by decide +kernel
theorem dX5_someHolds_30 : decode cX5_someHolds 30 = .ok (.aload_n 3, 1) := by decide +kernel
theorem dX5_someHolds_31 : decode cX5_someHolds 31 = .ok (.getfield 61, 3) := by decide +kernel
theorem dX5_someHolds_34 : decode cX5_someHolds 34 = .ok (.iload_n 1, 1) := by decide +kernel
theorem dX5_someHolds_35 : decode cX5_someHolds 35 = .ok (.if_icmp .ne 20, 3) := by decide +kernel
theorem dX5_someHolds_38 : decode cX5_someHolds 38 = .ok (.aload_n 3, 1) := by decide +kernel
theorem dX5_someHolds_39 : decode cX5_someHolds 39 = .ok (.aload_n 0, 1) := by decide +kernel
theorem dX5_someHolds_40 : decode cX5_someHolds 40 = .ok (.getfield 30, 3) := by decide +kernel
theorem dX5_someHolds_43 : decode cX5_someHolds 43 = .ok (.aload_n 0, 1) := by decide +kernel
theorem dX5_someHolds_44 : decode cX5_someHolds 44 = .ok (.getfield 33, 3) := by decide +kernel
theorem dX5_someHolds_47 : decode cX5_someHolds 47 = .ok (.invokevirtual 64, 3) := by decide +kernel
theorem dX5_someHolds_50 : decode cX5_someHolds 50 = .ok (.ifCond .eq 5, 3) := by decide +kernel
theorem dX5_someHolds_53 : decode cX5_someHolds 53 = .ok (.iconst 1, 1) := by decide +kernel
theorem dX5_someHolds_54 : decode cX5_someHolds 54 = .ok (.ireturn, 1) := by decide +kernel
theorem dX5_someHolds_55 : decode cX5_someHolds 55 = .ok (.iinc 2 1, 3) := by decide +kernel
theorem dX5_someHolds_58 : decode cX5_someHolds 58 = .ok (.goto (-56), 3) := by decide +kernel
theorem dX5_someHolds_61 : decode cX5_someHolds 61 = .ok (.iconst 0, 1) := by decide +kernel
theorem dX5_someHolds_62 : decode cX5_someHolds 62 = .ok (.ireturn, 1) := by decide +kernel
theorem dX5_allHold_0 : decode cX5_allHold 0 = .ok (.iconst 0, 1) := by decide +kernel
theorem dX5_allHold_1 : decode cX5_allHold 1 = .ok (.istore_n 2, 1) := by decide +kernel
theorem dX5_allHold_2 : decode cX5_allHold 2 = .ok (.iload_n 2, 1) := by decide +kernel
theorem dX5_allHold_3 : decode cX5_allHold 3 = .ok (.aload_n 0, 1) := by decide +kernel
theorem dX5_allHold_4 : decode cX5_allHold 4 = .ok (.getfield 54, 3) := by decide +kernel
theorem dX5_allHold_7 : decode cX5_allHold 7 = .ok (.if_icmp .ge 54, 3) := by decide +kernel
theorem dX5_allHold_10 : decode cX5_allHold 10 = .ok (.iload_n 2, 1) := by decide +kernel
theorem dX5_allHold_11 : decode cX5_allHold 11 = .ok (.aload_n 0, 1) := by decide +kernel
theorem dX5_allHold_12 : decode cX5_allHold 12 = .ok (.getfield 17, 3) := by decide +kernel
theorem dX5_allHold_15 : decode cX5_allHold 15 = .ok (.arraylength, 1) := by decide +kernel
theorem dX5_allHold_16 : decode cX5_allHold 16 = .ok (.if_icmp .ge 45, 3) := by decide +kernel
theorem dX5_allHold_19 : decode cX5_allHold 19 = .ok (.aload_n 0, 1) := by decide +kernel
theorem dX5_allHold_20 : decode cX5_allHold 20 = .ok (.getfield 17, 3) := by decide +kernel
theorem dX5_allHold_23 : decode cX5_allHold 23 = .ok (.iload_n 2, 1) := by decide +kernel
theorem dX5_allHold_24 : decode cX5_allHold 24 = .ok (.aaload, 1) := by decide +kernel
theorem dX5_allHold_25 : decode cX5_allHold 25 = .ok (.astore_n 3, 1) := by decide +kernel
theorem dX5_allHold_26 : decode cX5_allHold 26 = .ok (.aload_n 3, 1) := by decide +kernel
theorem dX5_allHold_27 : decode cX5_allHold 27 = .ok (.ifnull 28, 3) := by decide +kernel
theorem dX5_allHold_30 : decode cX5_allHold 30 = .ok (.aload_n 3, 1) := by decide +kernel
theorem dX5_allHold_31 : decode cX5_allHold 31 = .ok (.getfield 61, 3) := by decide +kernel
theorem dX5_allHold_34 : decode cX5_allHold 34 = .ok (.iload_n 1, 1) := by decide +kernel
theorem dX5_allHold_35 : decode cX5_allHold 35 = .ok (.if_icmp .ne 20, 3) := by decide +kernel
theorem dX5_allHold_38 : decode cX5_allHold 38 = .ok (.aload_n 3, 1) := by decide +kernel
theorem dX5_allHold_39 : decode cX5_allHold 39 = .ok (.aload_n 0, 1) := by decide +kernel
theorem dX5_allHold_40 : decode cX5_allHold 40 = .ok (.getfield 30, 3) := by decide +kernel
theorem dX5_allHold_43 : decode cX5_allHold 43 = .ok (.aload_n 0, 1) := by decide +kernel
theorem dX5_allHold_44 : decode cX5_allHold 44 = .ok (.getfield 33, 3) := by decide +kernel
theorem dX5_allHold_47 : decode cX5_allHold 47 = .ok (.invokevirtual 64, 3) := by decide +kernel
theorem dX5_allHold_50 : decode cX5_allHold 50 = .ok (.ifCond .ne 5, 3) := by decide +kernel
theorem dX5_allHold_53 : decode cX5_allHold 53 = .ok (.iconst 0, 1) := by decide +kernel
theorem dX5_allHold_54 : decode cX5_allHold 54 = .ok (.ireturn, 1) := by decide +kernel
theorem dX5_allHold_55 : decode cX5_allHold 55 = .ok (.iinc 2 1, 3) := by decide +kernel
theorem dX5_allHold_58 : decode cX5_allHold 58 = .ok (.goto (-56), 3) := by decide +kernel
theorem dX5_allHold_61 : decode cX5_allHold 61 = .ok (.iconst 1, 1) := by decide +kernel
theorem dX5_allHold_62 : decode cX5_allHold 62 = .ok (.ireturn, 1) := by decide +kernel
theorem dX5_letsWork_0 : decode cX5_letsWork 0 = .ok (.aload_n 0, 1) := by decide +kernel
theorem dX5_letsWork_1 : decode cX5_letsWork 1 = .ok (.iconst 1, 1) := by decide +kernel
theorem dX5_letsWork_2 : decode cX5_letsWork 2 = .ok (.invokevirtual 68, 3) := by decide +kernel
theorem dX5_letsWork_5 : decode cX5_letsWork 5 = .ok (.ifCond .eq 15, 3) := by decide +kernel
theorem dX5_letsWork_8 : decode cX5_letsWork 8 = .ok (.aload_n 0, 1) := by decide +kernel
theorem dX5_letsWork_9 : decode cX5_letsWork 9 = .ok (.iconst 2, 1) := by decide +kernel
theorem dX5_letsWork_10 : decode cX5_letsWork 10 = .ok (.invokevirtual 71, 3) := by decide +kernel
theorem dX5_letsWork_13 : decode cX5_letsWork 13 = .ok (.ifCond .ne 7, 3) := by decide +kernel
theorem dX5_letsWork_16 : decode cX5_letsWork 16 = .ok (.iconst 1, 1) := by decide +kernel
theorem dX5_letsWork_17 : decode cX5_letsWork 17 = .ok (.goto 4, 3) := by decide +kernel
theorem dX5_letsWork_20 : decode cX5_letsWork 20 = .ok (.iconst 0, 1) := by decide +kernel
theorem dX5_letsWork_21 : decode cX5_letsWork 21 = .ok (.ireturn, 1) := by decide +kernel
theorem dX6_init_0 : decode cX6_init 0 = .ok (.aload_n 0, 1) := by decide +kernel
theorem dX6_init_1 : decode cX6_init 1 = .ok (.invokespecial 3, 3) := by decide +kernel
theorem dX6_init_4 : decode cX6_init 4 = .ok (.aload_n 0, 1) := by decide +kernel
theorem dX6_init_5 : decode cX6_init 5 = .ok (.sipush 300, 3) := by decide +kernel
theorem dX6_init_8 : decode cX6_init 8 = .ok (.newarray .int, 2) := by decide +kernel
theorem dX6_init_10 : decode cX6_init 10 = .ok (.putfield 9, 3) := by decide +kernel
theorem dX6_init_13 : decode cX6_init 13 = .ok (.aload_n 0, 1) := by decide +kernel
theorem dX6_init_14 : decode cX6_init 14 = .ok (.sipush 300, 3) := by decide +kernel
theorem dX6_init_17 : decode cX6_init 17 = .ok (.newarray .int, 2) := by decide +kernel
theorem dX6_init_19 : decode cX6_init 19 = .ok (.putfield 15, 3) := by decide +kernel
theorem dX6_init_22 : decode cX6_init 22 = .ok (.aload_n 0, 1) := by decide +kernel
theorem dX6_init_23 : decode cX6_init 23 = .ok (.aload_n 1, 1) := by decide +kernel
theorem dX6_init_24 : decode cX6_init 24 = .ok (.putfield 18, 3) := by decide +kernel
theorem dX6_init_27 : decode cX6_init 27 = .ok (.return_, 1) := by decide +kernel
theorem dX6_readRule_0 : decode cX6_readRule 0 = .ok (.aload_n 0, 1) := by decide +kernel
theorem dX6_readRule_1 : decode cX6_readRule 1 = .ok (.iload_n 1, 1) := by decide +kernel
theorem dX6_readRule_2 : decode cX6_readRule 2 = .ok (.aload_n 0, 1) := by decide +kernel
theorem dX6_readRule_3 : decode cX6_readRule 3 = .ok (.getfield 18, 3) := by decide +kernel
theorem dX6_readRule_6 : decode cX6_readRule 6 = .ok (.arraylength, 1) := by decide +kernel
theorem dX6_readRule_7 : decode cX6_readRule 7 = .ok (.invokestatic 21, 3) := by decide +kernel
theorem dX6_readRule_10 : decode cX6_readRule 10 = .ok (.putfield 27, 3) := by decide +kernel
theorem dX6_readRule_13 : decode cX6_readRule 13 = .ok (.aload_n 0, 1) := by decide +kernel
theorem dX6_readRule_14 : decode cX6_readRule 14 = .ok (.iconst 0, 1) := by decide +kernel
theorem dX6_readRule_15 : decode cX6_readRule 15 = .ok (.putfield 31, 3) := by decide +kernel
theorem dX6_readRule_18 : decode cX6_readRule 18 = .ok (.aload_n 0, 1) := by decide +kernel
theorem dX6_readRule_19 : decode cX6_readRule 19 = .ok (.iconst 0, 1) := by decide +kernel
theorem dX6_readRule_20 : decode cX6_readRule 20 = .ok (.putfield 34, 3) := by decide +kernel
theorem dX6_readRule_23 : decode cX6_readRule 23 = .ok (.aload_n 0, 1) := by decide +kernel
theorem dX6_readRule_24 : decode cX6_readRule 24 = .ok (.iconst 0, 1) := by decide +kernel
theorem dX6_readRule_25 : decode cX6_readRule 25 = .ok (.putfield 37, 3) := by decide +kernel
theorem dX6_readRule_28 : decode cX6_readRule 28 = .ok (.aload_n 0, 1) := by decide +kernel
theorem dX6_readRule_29 : decode cX6_readRule 29 = .ok (.iconst 0, 1) := by decide +kernel
theorem dX6_readRule_30 : decode cX6_readRule 30 = .ok (.putfield 40, 3) := by decide +kernel
theorem dX6_readRule_33 : decode cX6_readRule 33 = .ok (.aload_n 0, 1) := by decide +kernel
theorem dX6_readRule_34 : decode cX6_readRule 34 = .ok (.iconst 0, 1) := by decide +kernel
theorem dX6_readRule_35 : decode cX6_readRule 35 = .ok (.putfield 44, 3) := by decide +kernel
theorem dX6_readRule_38 : decode cX6_readRule 38 = .ok (.aload_n 0, 1) := by decide +kernel
theorem dX6_readRule_39 : decode cX6_readRule 39 = .ok (.iconst 0, 1) := by decide +kernel
theorem dX6_readRule_40 : decode cX6_readRule 40 = .ok (.putfield 47, 3) := by decide +kernel
theorem dX6_readRule_43 : decode cX6_readRule 43 = .ok (.aload_n 0, 1) := by decide +kernel
theorem dX6_readRule_44 : decode cX6_readRule 44 = .ok (.iconst 0, 1) := by decide +kernel
theorem dX6_readRule_45 : decode cX6_readRule 45 = .ok (.putfield 50, 3) := by decide +kernel
theorem dX6_readRule_48 : decode cX6_readRule 48 = .ok (.aload_n 0, 1) := by decide +kernel
theorem dX6_readRule_49 : decode cX6_readRule 49 = .ok (.iconst 0, 1) := by decide +kernel
theorem dX6_readRule_50 : decode cX6_readRule 50 = .ok (.putfield 53, 3) := by decide +kernel
theorem dX6_readRule_53 : decode cX6_readRule 53 = .ok (.aload_n 0, 1) := by decide +kernel
theorem dX6_readRule_54 : decode cX6_readRule 54 = .ok (.iconst 0, 1) := by decide +kernel
theorem dX6_readRule_55 : decode cX6_readRule 55 = .ok (.putfield 56, 3) := by decide +kernel
theorem dX6_readRule_58 : decode cX6_readRule 58 = .ok (.iconst 0, 1) := by decide +kernel
theorem dX6_readRule_59 : decode cX6_readRule 59 = .ok (.istore_n 2, 1) := by decide +kernel
theorem dX6_readRule_60 : decode cX6_readRule 60 = .ok (.iload_n 2, 1) := by decide +kernel
theorem dX6_readRule_61 : decode cX6_readRule 61 = .ok (.sipush 300, 3) := by decide +kernel
theorem dX6_readRule_64 : decode cX6_readRule 64 = .ok (.if_icmp .gt 31, 3) := by decide +kernel
theorem dX6_readRule_67 : decode cX6_readRule 67 = .ok (.aload_n 0, 1) := by decide +kernel
theorem dX6_readRule_68 : decode cX6_readRule 68 = .ok (.getfield 37, 3) := by decide +kernel
theorem dX6_readRule_71 : decode cX6_readRule 71 = .ok (.bipush 6, 2) := by decide +kernel
theorem dX6_readRule_73 : decode cX6_readRule 73 = .ok (.if_icmp .eq 22, 3) := by decide +kernel
theorem dX6_readRule_76 : decode cX6_readRule 76 = .ok (.aload_n 0, 1) := by decide +kernel
theorem dX6_readRule_77 : decode cX6_readRule 77 = .ok (.invokevirtual 59, 3) := by decide +kernel
theorem dX6_readRule_80 : decode cX6_readRule 80 = .ok (.aload_n 0, 1) := by decide +kernel
theorem dX6_readRule_81 : decode cX6_readRule 81 = .ok (.invokevirtual 62, 3) := by decide +kernel
theorem dX6_readRule_84 : decode cX6_readRule 84 = .ok (.ifCond .ne 5, 3) := by decide +kernel
theorem dX6_readRule_87 : decode cX6_readRule 87 = .ok (.aconst_null, 1) := by decide +kernel
theorem dX6_readRule_88 : decode cX6_readRule 88 = .ok (.areturn, 1) := by decide +kernel
theorem dX6_readRule_89 : decode cX6_readRule 89 = .ok (.iinc 2 1, 3) := by decide +kernel
theorem dX6_readRule_92 : decode cX6_readRule 92 = .ok (.goto (-32), 3) := by decide +kernel
theorem dX6_readRule_95 : decode cX6_readRule 95 = .ok (.aload_n 0, 1) := by decide +kernel
theorem dX6_readRule_96 : decode cX6_readRule 96 = .ok (.getfield 53, 3) := by decide +kernel
theorem dX6_readRule_99 : decode cX6_readRule 99 = .ok (.ifCond .ge 7, 3) := by decide +kernel
theorem dX6_readRule_102 : decode cX6_readRule 102 = .ok (.aconst_null, 1) := by decide +kernel
theorem dX6_readRule_103 : decode cX6_readRule 103 = .ok (.goto 25, 3) := by decide +kernel
theorem dX6_readRule_106 : decode cX6_readRule 106 = .ok (.new 66, 3) := by decide +kernel
theorem dX6_readRule_109 : decode cX6_readRule 109 = .ok (.dup, 1) := by decide +kernel
theorem dX6_readRule_110 : decode cX6_readRule 110 = .ok (.aload_n 0, 1) := by decide +kernel
theorem dX6_readRule_111 : decode cX6_readRule 111 = .ok (.getfield 68, 3) := by decide +kernel
theorem dX6_readRule_114 : decode cX6_readRule 114 = .ok (.aload_n 0, 1) := by decide +kernel
theorem dX6_readRule_115 : decode cX6_readRule 115 = .ok (.getfield 9, 3) := by decide +kernel
theorem dX6_readRule_118 : decode cX6_readRule 118 = .ok (.aload_n 0, 1) := by decide +kernel
theorem dX6_readRule_119 : decode cX6_readRule 119 = .ok (.getfield 53, 3) := by decide +kernel
theorem dX6_readRule_122 : decode cX6_readRule 122 = .ok (.invokestatic 71, 3) := by decide +kernel
theorem dX6_readRule_125 : decode cX6_readRule 125 = .ok (.invokespecial 77, 3) := by decide +kernel
theorem dX6_readRule_128 : decode cX6_readRule 128 = .ok (.areturn, 1) := by decide +kernel
theorem dX6_readToken_0 : decode cX6_readToken 0 = .ok (.aload_n 0, 1) := by decide +kernel
theorem dX6_readToken_1 : decode cX6_readToken 1 = .ok (.getfield 31, 3) := by decide +kernel
theorem dX6_readToken_4 : decode cX6_readToken 4 = .ok (.istore_n 1, 1) := by decide +kernel
theorem dX6_readToken_5 : decode cX6_readToken 5 = .ok (.iload_n 1, 1) := by decide +kernel
theorem dX6_readToken_6 : decode cX6_readToken 6 = .ok (.aload_n 0, 1) := by decide +kernel
theorem dX6_readToken_7 : decode cX6_readToken 7 = .ok (.getfield 27, 3) := by decide +kernel
theorem dX6_readToken_10 : decode cX6_readToken 10 = .ok (.if_icmp .ge 19, 3) := by decide +kernel
theorem dX6_readToken_13 : decode cX6_readToken 13 = .ok (.aload_n 0, 1) := by decide +kernel
theorem dX6_readToken_14 : decode cX6_readToken 14 = .ok (.iload_n 1, 1) := by decide +kernel
theorem dX6_readToken_15 : decode cX6_readToken 15 = .ok (.invokevirtual 80, 3) := by decide +kernel
theorem dX6_readToken_18 : decode cX6_readToken 18 = .ok (.bipush 32, 2) := by decide +kernel
theorem dX6_readToken_20 : decode cX6_readToken 20 = .ok (.if_icmp .ne 9, 3) := by decide +kernel
theorem dX6_readToken_23 : decode cX6_readToken 23 = .ok (.iinc 1 1, 3) := by decide +kernel
theorem dX6_readToken_26 : decode cX6_readToken 26 = .ok (.goto (-21), 3) := by decide +kernel
theorem dX6_readToken_29 : decode cX6_readToken 29 = .ok (.aload_n 0, 1) := by decide +kernel
theorem dX6_readToken_30 : decode cX6_readToken 30 = .ok (.iload_n 1, 1) := by decide +kernel
theorem dX6_readToken_31 : decode cX6_readToken 31 = .ok (.putfield 84, 3) := by decide +kernel
theorem dX6_readToken_34 : decode cX6_readToken 34 = .ok (.aload_n 0, 1) := by decide +kernel
theorem dX6_readToken_35 : decode cX6_readToken 35 = .ok (.iload_n 1, 1) := by decide +kernel
theorem dX6_readToken_36 : decode cX6_readToken 36 = .ok (.iconst 1, 1) := by decide +kernel
theorem dX6_readToken_37 : decode cX6_readToken 37 = .ok (.iadd, 1) := by decide +kernel
theorem dX6_readToken_38 : decode cX6_readToken 38 = .ok (.putfield 31, 3) := by decide +kernel
theorem dX6_readToken_41 : decode cX6_readToken 41 = .ok (.aload_n 0, 1) := by decide +kernel
theorem dX6_readToken_42 : decode cX6_readToken 42 = .ok (.aload_n 0, 1) := by decide +kernel
theorem dX6_readToken_43 : decode cX6_readToken 43 = .ok (.iload_n 1, 1) := by decide +kernel
theorem dX6_readToken_44 : decode cX6_readToken 44 = .ok (.invokevirtual 80, 3) := by decide +kernel
theorem dX6_readToken_47 : decode cX6_readToken 47 = .ok (.putfield 87, 3) := by decide +kernel
theorem dX6_readToken_50 : decode cX6_readToken 50 = .ok (.iload_n 1, 1) := by decide +kernel
theorem dX6_readToken_51 : decode cX6_readToken 51 = .ok (.aload_n 0, 1) := by decide +kernel
theorem dX6_readToken_52 : decode cX6_readToken 52 = .ok (.getfield 27, 3) := by decide +kernel
theorem dX6_readToken_55 : decode cX6_readToken 55 = .ok (.if_icmp .lt 11, 3) := by decide +kernel
theorem dX6_readToken_58 : decode cX6_readToken 58 = .ok (.aload_n 0, 1) := by decide +kernel
theorem dX6_readToken_59 : decode cX6_readToken 59 = .ok (.iconst 0, 1) := by decide +kernel
theorem dX6_readToken_60 : decode cX6_readToken 60 = .ok (.putfield 90, 3) := by decide +kernel
theorem dX6_readToken_63 : decode cX6_readToken 63 = .ok (.goto 56, 3) := by decide +kernel
theorem dX6_readToken_66 : decode cX6_readToken 66 = .ok (.aload_n 0, 1) := by decide +kernel
theorem dX6_readToken_67 : decode cX6_readToken 67 = .ok (.getfield 87, 3) := by decide +kernel
theorem dX6_readToken_70 : decode cX6_readToken 70 = .ok (.invokestatic 93, 3) := by decide +kernel
theorem dX6_readToken_73 : decode cX6_readToken 73 = .ok (.ifCond .eq 10, 3) := by decide +kernel
theorem dX6_readToken_76 : decode cX6_readToken 76 = .ok (.aload_n 0, 1) := by decide +kernel
theorem dX6_readToken_77 : decode cX6_readToken 77 = .ok (.invokevirtual 97, 3) := by decide +kernel
theorem dX6_readToken_80 : decode cX6_readToken 80 = .ok (.goto 39, 3) := by decide +kernel
theorem dX6_readToken_83 : decode cX6_readToken 83 = .ok (.aload_n 0, 1) := by decide +kernel
theorem dX6_readToken_84 : decode cX6_readToken 84 = .ok (.getfield 87, 3) := by decide +kernel
theorem dX6_readToken_87 : decode cX6_readToken 87 = .ok (.invokestatic 100, 3) := by decide +kernel
theorem dX6_readToken_90 : decode cX6_readToken 90 = .ok (.ifCond .eq 10, 3) := by decide +kernel
theorem dX6_readToken_93 : decode cX6_readToken 93 = .ok (.aload_n 0, 1) := by decide +kernel
theorem dX6_readToken_94 : decode cX6_readToken 94 = .ok (.invokevirtual 103, 3) := by decide +kernel
theorem dX6_readToken_97 : decode cX6_readToken 97 = .ok (.goto 22, 3) := by decide +kernel
theorem dX6_readToken_100 : decode cX6_readToken 100 = .ok (.aload_n 0, 1) := by decide +kernel
theorem dX6_readToken_101 : decode cX6_readToken 101 = .ok (.aload_n 0, 1) := by decide +kernel
theorem dX6_readToken_102 : decode cX6_readToken 102 = .ok (.getfield 87, 3) := by decide +kernel
theorem dX6_readToken_105 : decode cX6_readToken 105 = .ok (.invokestatic 106, 3) := by decide +kernel
theorem dX6_readToken_108 : decode cX6_readToken 108 = .ok (.ifCond .eq 7, 3) := by decide +kernel
theorem dX6_readToken_111 : decode cX6_readToken 111 = .ok (.iconst 3, 1) := by decide +kernel
theorem dX6_readToken_112 : decode cX6_readToken 112 = .ok (.goto 4, 3) := by decide +kernel
theorem dX6_readToken_115 : decode cX6_readToken 115 = .ok (.iconst 1, 1) := by decide +kernel
theorem dX6_readToken_116 : decode cX6_readToken 116 = .ok (.putfield 90, 3) := by decide +kernel
theorem dX6_readToken_119 : decode cX6_readToken 119 = .ok (.return_, 1) := by decide +kernel
theorem dX6_byteAt_0 : decode cX6_byteAt 0 = .ok (.iload_n 1, 1) := by decide +kernel
theorem dX6_byteAt_1 : decode cX6_byteAt 1 = .ok (.ifCond .lt 29, 3) := by decide +kernel
theorem dX6_byteAt_4 : decode cX6_byteAt 4 = .ok (.iload_n 1, 1) := by decide +kernel
theorem dX6_byteAt_5 : decode cX6_byteAt 5 = .ok (.aload_n 0, 1) := by decide +kernel
theorem dX6_byteAt_6 : decode cX6_byteAt 6 = .ok (.getfield 27, 3) := by decide +kernel
theorem dX6_byteAt_9 : decode cX6_byteAt 9 = .ok (.if_icmp .ge 21, 3) := by decide +kernel
theorem dX6_byteAt_12 : decode cX6_byteAt 12 = .ok (.iload_n 1, 1) := by decide +kernel
theorem dX6_byteAt_13 : decode cX6_byteAt 13 = .ok (.aload_n 0, 1) := by decide +kernel
theorem dX6_byteAt_14 : decode cX6_byteAt 14 = .ok (.getfield 18, 3) := by decide +kernel
theorem dX6_byteAt_17 : decode cX6_byteAt 17 = .ok (.arraylength, 1) := by decide +kernel
theorem dX6_byteAt_18 : decode cX6_byteAt 18 = .ok (.if_icmp .ge 12, 3) := by decide +kernel
theorem dX6_byteAt_21 : decode cX6_byteAt 21 = .ok (.aload_n 0, 1) := by decide +kernel
theorem dX6_byteAt_22 : decode cX6_byteAt 22 = .ok (.getfield 18, 3) := by decide +kernel
theorem dX6_byteAt_25 : decode cX6_byteAt 25 = .ok (.iload_n 1, 1) := by decide +kernel
theorem dX6_byteAt_26 : decode cX6_byteAt 26 = .ok (.iaload, 1) := by decide +kernel
theorem dX6_byteAt_27 : decode cX6_byteAt 27 = .ok (.goto 4, 3) := by decide +kernel
theorem dX6_byteAt_30 : decode cX6_byteAt 30 = .ok (.iconst 0, 1) := by decide +kernel
theorem dX6_byteAt_31 : decode cX6_byteAt 31 = .ok (.ireturn, 1) := by decide +kernel
theorem dX6_isLetter_0 : decode cX6_isLetter 0 = .ok (.iload_n 0, 1) := by decide +kernel
theorem dX6_isLetter_1 : decode cX6_isLetter 1 = .ok (.bipush 97, 2) := by decide +kernel
theorem dX6_isLetter_3 : decode cX6_isLetter 3 = .ok (.if_icmp .lt 13, 3) := by decide +kernel
theorem dX6_isLetter_6 : decode cX6_isLetter 6 = .ok (.iload_n 0, 1) := by decide +kernel
theorem dX6_isLetter_7 : decode cX6_isLetter 7 = .ok (.bipush 122, 2) := by decide +kernel
theorem dX6_isLetter_9 : decode cX6_isLetter 9 = .ok (.if_icmp .gt 7, 3) := by decide +kernel
theorem dX6_isLetter_12 : decode cX6_isLetter 12 = .ok (.iconst 1, 1) := by decide +kernel
theorem dX6_isLetter_13 : decode cX6_isLetter 13 = .ok (.goto 4, 3) := by decide +kernel
theorem dX6_isLetter_16 : decode cX6_isLetter 16 = .ok (.iconst 0, 1) := by decide +kernel
theorem dX6_isLetter_17 : decode cX6_isLetter 17 = .ok (.ireturn, 1) := by decide +kernel
theorem dX6_isDigit_0 : decode cX6_isDigit 0 = .ok (.iload_n 0, 1) := by decide +kernel
theorem dX6_isDigit_1 : decode cX6_isDigit 1 = .ok (.bipush 48, 2) := by decide +kernel
theorem dX6_isDigit_3 : decode cX6_isDigit 3 = .ok (.if_icmp .lt 13, 3) := by decide +kernel
theorem dX6_isDigit_6 : decode cX6_isDigit 6 = .ok (.iload_n 0, 1) := by decide +kernel
theorem dX6_isDigit_7 : decode cX6_isDigit 7 = .ok (.bipush 57, 2) := by decide +kernel
theorem dX6_isDigit_9 : decode cX6_isDigit 9 = .ok (.if_icmp .gt 7, 3) := by decide +kernel
theorem dX6_isDigit_12 : decode cX6_isDigit 12 = .ok (.iconst 1, 1) := by decide +kernel
theorem dX6_isDigit_13 : decode cX6_isDigit 13 = .ok (.goto 4, 3) := by decide +kernel
theorem dX6_isDigit_16 : decode cX6_isDigit 16 = .ok (.iconst 0, 1) := by decide +kernel
theorem dX6_isDigit_17 : decode cX6_isDigit 17 = .ok (.ireturn, 1) := by decide +kernel
theorem dX6_isSign_0 : decode cX6_isSign 0 = .ok (.iload_n 0, 1) := by decide +kernel
theorem dX6_isSign_1 : decode cX6_isSign 1 = .ok (.invokestatic 109, 3) := by decide +kernel
theorem dX6_isSign_4 : decode cX6_isSign 4 = .ok (.ifCond .ne 22, 3) := by decide +kernel
theorem dX6_isSign_7 : decode cX6_isSign 7 = .ok (.iload_n 0, 1) := by decide +kernel
theorem dX6_isSign_8 : decode cX6_isSign 8 = .ok (.invokestatic 112, 3) := by decide +kernel
theorem dX6_isSign_11 : decode cX6_isSign 11 = .ok (.ifCond .ne 15, 3) := by decide +kernel
theorem dX6_isSign_14 : decode cX6_isSign 14 = .ok (.iload_n 0, 1) := by decide +kernel
theorem dX6_isSign_15 : decode cX6_isSign 15 = .ok (.bipush 40, 2) := by decide +kernel
theorem dX6_isSign_17 : decode cX6_isSign 17 = .ok (.if_icmp .eq 9, 3) := by decide +kernel
theorem dX6_isSign_20 : decode cX6_isSign 20 = .ok (.iload_n 0, 1) := by decide +kernel
theorem dX6_isSign_21 : decode cX6_isSign 21 = .ok (.bipush 41, 2) := by decide +kernel
theorem dX6_isSign_23 : decode cX6_isSign 23 = .ok (.if_icmp .ne 7, 3) := by decide +kernel
theorem dX6_isSign_26 : decode cX6_isSign 26 = .ok (.iconst 1, 1) := by decide +kernel
theorem dX6_isSign_27 : decode cX6_isSign 27 = .ok (.goto 4, 3) := by decide +kernel
theorem dX6_isSign_30 : decode cX6_isSign 30 = .ok (.iconst 0, 1) := by decide +kernel
theorem dX6_isSign_31 : decode cX6_isSign 31 = .ok (.ireturn, 1) := by decide +kernel
theorem dX6_isSumSign_0 : decode cX6_isSumSign 0 = .ok (.iload_n 0, 1) := by decide +kernel
theorem dX6_isSumSign_1 : decode cX6_isSumSign 1 = .ok (.bipush 43, 2) := by decide +kernel
theorem dX6_isSumSign_3 : decode cX6_isSumSign 3 = .ok (.if_icmp .eq 9, 3) := by decide +kernel
theorem dX6_isSumSign_6 : decode cX6_isSumSign 6 = .ok (.iload_n 0, 1) := by decide +kernel
theorem dX6_isSumSign_7 : decode cX6_isSumSign 7 = .ok (.bipush 45, 2) := by decide +kernel
theorem dX6_isSumSign_9 : decode cX6_isSumSign 9 = .ok (.if_icmp .ne 7, 3) := by decide +kernel
theorem dX6_isSumSign_12 : decode cX6_isSumSign 12 = .ok (.iconst 1, 1) := by decide +kernel
theorem dX6_isSumSign_13 : decode cX6_isSumSign 13 = .ok (.goto 4, 3) := by decide +kernel
theorem dX6_isSumSign_16 : decode cX6_isSumSign 16 = .ok (.iconst 0, 1) := by decide +kernel
theorem dX6_isSumSign_17 : decode cX6_isSumSign 17 = .ok (.ireturn, 1) := by decide +kernel
theorem dX6_isCompareSign_0 : decode cX6_isCompareSign 0 = .ok (.iload_n 0, 1) := by decide +kernel
theorem dX6_isCompareSign_1 : decode cX6_isCompareSign 1 = .ok (.bipush 60, 2) := by decide +kernel
theorem dX6_isCompareSign_3 : decode cX6_isCompareSign 3 = .ok (.if_icmp .eq 15, 3) := by decide +kernel
theorem dX6_isCompareSign_6 : decode cX6_isCompareSign 6 = .ok (.iload_n 0, 1) := by decide +kernel
theorem dX6_isCompareSign_7 : decode cX6_isCompareSign 7 = .ok (.bipush 62, 2) := by decide +kernel
theorem dX6_isCompareSign_9 : decode cX6_isCompareSign 9 = .ok (.if_icmp .eq 9, 3) := by decide +kernel
theorem dX6_isCompareSign_12 : decode cX6_isCompareSign 12 = .ok (.iload_n 0, 1) := by decide +kernel
theorem dX6_isCompareSign_13 : decode cX6_isCompareSign 13 = .ok (.bipush 61, 2) := by decide +kernel
theorem dX6_isCompareSign_15 : decode cX6_isCompareSign 15 = .ok (.if_icmp .ne 7, 3) := by decide +kernel
theorem dX6_isCompareSign_18 : decode cX6_isCompareSign 18 = .ok (.iconst 1, 1) := by decide +kernel
theorem dX6_isCompareSign_19 : decode cX6_isCompareSign 19 = .ok (.goto 4, 3) := by decide +kernel
theorem dX6_isCompareSign_22 : decode cX6_isCompareSign 22 = .ok (.iconst 0, 1) := by decide +kernel
theorem dX6_isCompareSign_23 : decode cX6_isCompareSign 23 = .ok (.ireturn, 1) := by decide +kernel
theorem dX6_readWhole_0 : decode cX6_readWhole 0 = .ok (.aload_n 0, 1) := by decide +kernel
theorem dX6_readWhole_1 : decode cX6_readWhole 1 = .ok (.iconst 0, 1) := by decide +kernel
theorem dX6_readWhole_2 : decode cX6_readWhole 2 = .ok (.putfield 87, 3) := by decide +kernel
theorem dX6_readWhole_5 : decode cX6_readWhole 5 = .ok (.aload_n 0, 1) := by decide +kernel
theorem dX6_readWhole_6 : decode cX6_readWhole 6 = .ok (.getfield 84, 3) := by decide +kernel
theorem dX6_readWhole_9 : decode cX6_readWhole 9 = .ok (.istore_n 1, 1) := by decide +kernel
theorem dX6_readWhole_10 : decode cX6_readWhole 10 = .ok (.iload_n 1, 1) := by decide +kernel
theorem dX6_readWhole_11 : decode cX6_readWhole 11 = .ok (.aload_n 0, 1) := by decide +kernel
theorem dX6_readWhole_12 : decode cX6_readWhole 12 = .ok (.getfield 27, 3) := by decide +kernel
theorem dX6_readWhole_15 : decode cX6_readWhole 15 = .ok (.if_icmp .ge 50, 3) := by decide +kernel
theorem dX6_readWhole_18 : decode cX6_readWhole 18 = .ok (.aload_n 0, 1) := by decide +kernel
theorem dX6_readWhole_19 : decode cX6_readWhole 19 = .ok (.iload_n 1, 1) := by decide +kernel
theorem dX6_readWhole_20 : decode cX6_readWhole 20 = .ok (.invokevirtual 80, 3) := by decide +kernel
theorem dX6_readWhole_23 : decode cX6_readWhole 23 = .ok (.invokestatic 100, 3) := by decide +kernel
theorem dX6_readWhole_26 : decode cX6_readWhole 26 = .ok (.ifCond .eq 39, 3) := by decide +kernel
theorem dX6_readWhole_29 : decode cX6_readWhole 29 = .ok (.iload_n 1, 1) := by decide +kernel
theorem dX6_readWhole_30 : decode cX6_readWhole 30 = .ok (.aload_n 0, 1) := by decide +kernel
theorem dX6_readWhole_31 : decode cX6_readWhole 31 = .ok (.getfield 84, 3) := by decide +kernel
theorem dX6_readWhole_34 : decode cX6_readWhole 34 = .ok (.isub, 1) := by decide +kernel
theorem dX6_readWhole_35 : decode cX6_readWhole 35 = .ok (.iconst 4, 1) := by decide +kernel
theorem dX6_readWhole_36 : decode cX6_readWhole 36 = .ok (.if_icmp .ge 23, 3) := by decide +kernel
theorem dX6_readWhole_39 : decode cX6_readWhole 39 = .ok (.aload_n 0, 1) := by decide +kernel
theorem dX6_readWhole_40 : decode cX6_readWhole 40 = .ok (.aload_n 0, 1) := by decide +kernel
theorem dX6_readWhole_41 : decode cX6_readWhole 41 = .ok (.getfield 87, 3) := by decide +kernel
theorem dX6_readWhole_44 : decode cX6_readWhole 44 = .ok (.bipush 10, 2) := by decide +kernel
theorem dX6_readWhole_46 : decode cX6_readWhole 46 = .ok (.imul, 1) := by decide +kernel
theorem dX6_readWhole_47 : decode cX6_readWhole 47 = .ok (.aload_n 0, 1) := by decide +kernel
theorem dX6_readWhole_48 : decode cX6_readWhole 48 = .ok (.iload_n 1, 1) := by decide +kernel
theorem dX6_readWhole_49 : decode cX6_readWhole 49 = .ok (.invokevirtual 80, 3) := by decide +kernel
theorem dX6_readWhole_52 : decode cX6_readWhole 52 = .ok (.iadd, 1) := by decide +kernel
theorem dX6_readWhole_53 : decode cX6_readWhole 53 = .ok (.bipush 48, 2) := by decide +kernel
theorem dX6_readWhole_55 : decode cX6_readWhole 55 = .ok (.isub, 1) := by decide +kernel
theorem dX6_readWhole_56 : decode cX6_readWhole 56 = .ok (.putfield 87, 3) := by decide +kernel
theorem dX6_readWhole_59 : decode cX6_readWhole 59 = .ok (.iinc 1 1, 3) := by decide +kernel
theorem dX6_readWhole_62 : decode cX6_readWhole 62 = .ok (.goto (-52), 3) := by decide +kernel
theorem dX6_readWhole_65 : decode cX6_readWhole 65 = .ok (.aload_n 0, 1) := by decide +kernel
theorem dX6_readWhole_66 : decode cX6_readWhole 66 = .ok (.iload_n 1, 1) := by decide +kernel
theorem dX6_readWhole_67 : decode cX6_readWhole 67 = .ok (.putfield 31, 3) := by decide +kernel
theorem dX6_readWhole_70 : decode cX6_readWhole 70 = .ok (.aload_n 0, 1) := by decide +kernel
theorem dX6_readWhole_71 : decode cX6_readWhole 71 = .ok (.iload_n 1, 1) := by decide +kernel
theorem dX6_readWhole_72 : decode cX6_readWhole 72 = .ok (.aload_n 0, 1) := by decide +kernel
theorem dX6_readWhole_73 : decode cX6_readWhole 73 = .ok (.getfield 84, 3) := by decide +kernel
theorem dX6_readWhole_76 : decode cX6_readWhole 76 = .ok (.isub, 1) := by decide +kernel
theorem dX6_readWhole_77 : decode cX6_readWhole 77 = .ok (.iconst 4, 1) := by decide +kernel
theorem dX6_readWhole_78 : decode cX6_readWhole 78 = .ok (.if_icmp .le 7, 3) := by decide +kernel
theorem dX6_readWhole_81 : decode cX6_readWhole 81 = .ok (.iconst 1, 1) := by decide +kernel
theorem dX6_readWhole_82 : decode cX6_readWhole 82 = .ok (.goto 4, 3) := by decide +kernel
theorem dX6_readWhole_85 : decode cX6_readWhole 85 = .ok (.iconst 2, 1) := by decide +kernel
theorem dX6_readWhole_86 : decode cX6_readWhole 86 = .ok (.putfield 90, 3) := by decide +kernel
theorem dX6_readWhole_89 : decode cX6_readWhole 89 = .ok (.return_, 1) := by decide +kernel
theorem dX6_readWord_0 : decode cX6_readWord 0 = .ok (.aload_n 0, 1) := by decide +kernel
theorem dX6_readWord_1 : decode cX6_readWord 1 = .ok (.getfield 84, 3) := by decide +kernel
theorem dX6_readWord_4 : decode cX6_readWord 4 = .ok (.istore_n 1, 1) := by decide +kernel
theorem dX6_readWord_5 : decode cX6_readWord 5 = .ok (.iload_n 1, 1) := by decide +kernel
theorem dX6_readWord_6 : decode cX6_readWord 6 = .ok (.aload_n 0, 1) := by decide +kernel
theorem dX6_readWord_7 : decode cX6_readWord 7 = .ok (.getfield 27, 3) := by decide +kernel
theorem dX6_readWord_10 : decode cX6_readWord 10 = .ok (.if_icmp .ge 20, 3) := by decide +kernel
theorem dX6_readWord_13 : decode cX6_readWord 13 = .ok (.aload_n 0, 1) := by decide +kernel
theorem dX6_readWord_14 : decode cX6_readWord 14 = .ok (.iload_n 1, 1) := by decide +kernel
theorem dX6_readWord_15 : decode cX6_readWord 15 = .ok (.invokevirtual 80, 3) := by decide +kernel
theorem dX6_readWord_18 : decode cX6_readWord 18 = .ok (.invokestatic 93, 3) := by decide +kernel
theorem dX6_readWord_21 : decode cX6_readWord 21 = .ok (.ifCond .eq 9, 3) := by decide +kernel
theorem dX6_readWord_24 : decode cX6_readWord 24 = .ok (.iinc 1 1, 3) := by decide +kernel
theorem dX6_readWord_27 : decode cX6_readWord 27 = .ok (.goto (-22), 3) := by decide +kernel
theorem dX6_readWord_30 : decode cX6_readWord 30 = .ok (.aload_n 0, 1) := by decide +kernel
theorem dX6_readWord_31 : decode cX6_readWord 31 = .ok (.iload_n 1, 1) := by decide +kernel
theorem dX6_readWord_32 : decode cX6_readWord 32 = .ok (.putfield 31, 3) := by decide +kernel
theorem dX6_readWord_35 : decode cX6_readWord 35 = .ok (.iload_n 1, 1) := by decide +kernel
theorem dX6_readWord_36 : decode cX6_readWord 36 = .ok (.aload_n 0, 1) := by decide +kernel
theorem dX6_readWord_37 : decode cX6_readWord 37 = .ok (.getfield 84, 3) := by decide +kernel
theorem dX6_readWord_40 : decode cX6_readWord 40 = .ok (.isub, 1) := by decide +kernel
theorem dX6_readWord_41 : decode cX6_readWord 41 = .ok (.bipush 8, 2) := by decide +kernel
theorem dX6_readWord_43 : decode cX6_readWord 43 = .ok (.if_icmp .le 9, 3) := by decide +kernel
theorem dX6_readWord_46 : decode cX6_readWord 46 = .ok (.aload_n 0, 1) := by decide +kernel
theorem dX6_readWord_47 : decode cX6_readWord 47 = .ok (.iconst 1, 1) := by decide +kernel
theorem dX6_readWord_48 : decode cX6_readWord 48 = .ok (.putfield 90, 3) := by decide +kernel
theorem dX6_readWord_51 : decode cX6_readWord 51 = .ok (.return_, 1) := by decide +kernel
theorem dX6_readWord_52 : decode cX6_readWord 52 = .ok (.aload_n 0, 1) := by decide +kernel
theorem dX6_readWord_53 : decode cX6_readWord 53 = .ok (.iconst 4, 1) := by decide +kernel
theorem dX6_readWord_54 : decode cX6_readWord 54 = .ok (.putfield 90, 3) := by decide +kernel
theorem dX6_readWord_57 : decode cX6_readWord 57 = .ok (.aload_n 0, 1) := by decide +kernel
theorem dX6_readWord_58 : decode cX6_readWord 58 = .ok (.aload_n 0, 1) := by decide +kernel
theorem dX6_readWord_59 : decode cX6_readWord 59 = .ok (.invokevirtual 115, 3) := by decide +kernel
theorem dX6_readWord_62 : decode cX6_readWord 62 = .ok (.putfield 87, 3) := by decide +kernel
theorem dX6_readWord_65 : decode cX6_readWord 65 = .ok (.aload_n 0, 1) := by decide +kernel
theorem dX6_readWord_66 : decode cX6_readWord 66 = .ok (.getfield 87, 3) := by decide +kernel
theorem dX6_readWord_69 : decode cX6_readWord 69 = .ok (.iconst (-1), 1) := by decide +kernel
theorem dX6_readWord_70 : decode cX6_readWord 70 = .ok (.if_icmp .ne 16, 3) := by decide +kernel
theorem dX6_readWord_73 : decode cX6_readWord 73 = .ok (.aload_n 0, 1) := by decide +kernel
theorem dX6_readWord_74 : decode cX6_readWord 74 = .ok (.iconst 5, 1) := by decide +kernel
theorem dX6_readWord_75 : decode cX6_readWord 75 = .ok (.putfield 90, 3) := by decide +kernel
theorem dX6_readWord_78 : decode cX6_readWord 78 = .ok (.aload_n 0, 1) := by decide +kernel
theorem dX6_readWord_79 : decode cX6_readWord 79 = .ok (.aload_n 0, 1) := by decide +kernel
theorem dX6_readWord_80 : decode cX6_readWord 80 = .ok (.invokevirtual 119, 3) := by decide +kernel
theorem dX6_readWord_83 : decode cX6_readWord 83 = .ok (.putfield 87, 3) := by decide +kernel
theorem dX6_readWord_86 : decode cX6_readWord 86 = .ok (.aload_n 0, 1) := by decide +kernel
theorem dX6_readWord_87 : decode cX6_readWord 87 = .ok (.getfield 87, 3) := by decide +kernel
theorem dX6_readWord_90 : decode cX6_readWord 90 = .ok (.iconst (-1), 1) := by decide +kernel
theorem dX6_readWord_91 : decode cX6_readWord 91 = .ok (.if_icmp .ne 17, 3) := by decide +kernel
theorem dX6_readWord_94 : decode cX6_readWord 94 = .ok (.aload_n 0, 1) := by decide +kernel
theorem dX6_readWord_95 : decode cX6_readWord 95 = .ok (.bipush 6, 2) := by decide +kernel
theorem dX6_readWord_97 : decode cX6_readWord 97 = .ok (.putfield 90, 3) := by decide +kernel
theorem dX6_readWord_100 : decode cX6_readWord 100 = .ok (.aload_n 0, 1) := by decide +kernel
theorem dX6_readWord_101 : decode cX6_readWord 101 = .ok (.aload_n 0, 1) := by decide +kernel
theorem dX6_readWord_102 : decode cX6_readWord 102 = .ok (.invokevirtual 122, 3) := by decide +kernel
theorem dX6_readWord_105 : decode cX6_readWord 105 = .ok (.putfield 87, 3) := by decide +kernel
theorem dX6_readWord_108 : decode cX6_readWord 108 = .ok (.aload_n 0, 1) := by decide +kernel
theorem dX6_readWord_109 : decode cX6_readWord 109 = .ok (.getfield 87, 3) := by decide +kernel
theorem dX6_readWord_112 : decode cX6_readWord 112 = .ok (.iconst (-1), 1) := by decide +kernel
theorem dX6_readWord_113 : decode cX6_readWord 113 = .ok (.if_icmp .ne 9, 3) := by decide +kernel
theorem dX6_readWord_116 : decode cX6_readWord 116 = .ok (.aload_n 0, 1) := by decide +kernel
theorem dX6_readWord_117 : decode cX6_readWord 117 = .ok (.bipush 7, 2) := by decide +kernel
theorem dX6_readWord_119 : decode cX6_readWord 119 = .ok (.putfield 90, 3) := by decide +kernel
theorem dX6_readWord_122 : decode cX6_readWord 122 = .ok (.return_, 1) := by decide +kernel
theorem dX6_actSpelled_0 : decode cX6_actSpelled 0 = .ok (.aload_n 0, 1) := by decide +kernel
theorem dX6_actSpelled_1 : decode cX6_actSpelled 1 = .ok (.ldc 125, 2) := by decide +kernel
theorem dX6_actSpelled_3 : decode cX6_actSpelled 3 = .ok (.invokevirtual 127, 3) := by decide +kernel
theorem dX6_actSpelled_6 : decode cX6_actSpelled 6 = .ok (.ifCond .eq 5, 3) := by decide +kernel
theorem dX6_actSpelled_9 : decode cX6_actSpelled 9 = .ok (.iconst 0, 1) := by decide +kernel
theorem dX6_actSpelled_10 : decode cX6_actSpelled 10 = .ok (.ireturn, 1) := by decide +kernel
theorem dX6_actSpelled_11 : decode cX6_actSpelled 11 = .ok (.aload_n 0, 1) := by decide +kernel
theorem dX6_actSpelled_12 : decode cX6_actSpelled 12 = .ok (.ldc 131, 2) := by decide +kernel
theorem dX6_actSpelled_14 : decode cX6_actSpelled 14 = .ok (.invokevirtual 127, 3) := by decide +kernel
theorem dX6_actSpelled_17 : decode cX6_actSpelled 17 = .ok (.ifCond .eq 5, 3) := by decide +kernel
theorem dX6_actSpelled_20 : decode cX6_actSpelled 20 = .ok (.iconst 1, 1) := by decide +kernel
theorem dX6_actSpelled_21 : decode cX6_actSpelled 21 = .ok (.ireturn, 1) := by decide +kernel
theorem dX6_actSpelled_22 : decode cX6_actSpelled 22 = .ok (.aload_n 0, 1) := by decide +kernel
theorem dX6_actSpelled_23 : decode cX6_actSpelled 23 = .ok (.ldc 133, 2) := by decide +kernel
theorem dX6_actSpelled_25 : decode cX6_actSpelled 25 = .ok (.invokevirtual 127, 3) := by decide +kernel
theorem dX6_actSpelled_28 : decode cX6_actSpelled 28 = .ok (.ifCond .eq 5, 3) := by decide +kernel
theorem dX6_actSpelled_31 : decode cX6_actSpelled 31 = .ok (.iconst 2, 1) := by decide +kernel
theorem dX6_actSpelled_32 : decode cX6_actSpelled 32 = .ok (.ireturn, 1) := by decide +kernel
theorem dX6_actSpelled_33 : decode cX6_actSpelled 33 = .ok (.aload_n 0, 1) := by decide +kernel
theorem dX6_actSpelled_34 : decode cX6_actSpelled 34 = .ok (.ldc 135, 2) := by decide +kernel
theorem dX6_actSpelled_36 : decode cX6_actSpelled 36 = .ok (.invokevirtual 127, 3) := by decide +kernel
theorem dX6_actSpelled_39 : decode cX6_actSpelled 39 = .ok (.ifCond .eq 7, 3) := by decide +kernel
theorem dX6_actSpelled_42 : decode cX6_actSpelled 42 = .ok (.iconst 3, 1) := by decide +kernel
theorem dX6_actSpelled_43 : decode cX6_actSpelled 43 = .ok (.goto 4, 3) := by decide +kernel
theorem dX6_actSpelled_46 : decode cX6_actSpelled 46 = .ok (.iconst (-1), 1) := by decide +kernel
theorem dX6_actSpelled_47 : decode cX6_actSpelled 47 = .ok (.ireturn, 1) := by decide +kernel
theorem dX6_nameSpelled_0 : decode cX6_nameSpelled 0 = .ok (.aload_n 0, 1) := by decide +kernel
theorem dX6_nameSpelled_1 : decode cX6_nameSpelled 1 = .ok (.ldc 137, 2) := by decide +kernel
theorem dX6_nameSpelled_3 : decode cX6_nameSpelled 3 = .ok (.invokevirtual 127, 3) := by decide +kernel
theorem dX6_nameSpelled_6 : decode cX6_nameSpelled 6 = .ok (.ifCond .eq 5, 3) := by decide +kernel
theorem dX6_nameSpelled_9 : decode cX6_nameSpelled 9 = .ok (.iconst 0, 1) := by decide +kernel
theorem dX6_nameSpelled_10 : decode cX6_nameSpelled 10 = .ok (.ireturn, 1) := by decide +kernel
theorem dX6_nameSpelled_11 : decode cX6_nameSpelled 11 = .ok (.aload_n 0, 1) := by decide +kernel
theorem dX6_nameSpelled_12 : decode cX6_nameSpelled 12 = .ok (.ldc 139, 2) := by decide +kernel
theorem dX6_nameSpelled_14 : decode cX6_nameSpelled 14 = .ok (.invokevirtual 127, 3) := by decide +kernel
theorem dX6_nameSpelled_17 : decode cX6_nameSpelled 17 = .ok (.ifCond .eq 5, 3) := by decide +kernel
theorem dX6_nameSpelled_20 : decode cX6_nameSpelled 20 = .ok (.iconst 1, 1) := by decide +kernel
theorem dX6_nameSpelled_21 : decode cX6_nameSpelled 21 = .ok (.ireturn, 1) := by decide +kernel
theorem dX6_nameSpelled_22 : decode cX6_nameSpelled 22 = .ok (.aload_n 0, 1) := by decide +kernel
theorem dX6_nameSpelled_23 : decode cX6_nameSpelled 23 = .ok (.ldc 141, 2) := by decide +kernel
theorem dX6_nameSpelled_25 : decode cX6_nameSpelled 25 = .ok (.invokevirtual 127, 3) := by decide +kernel
theorem dX6_nameSpelled_28 : decode cX6_nameSpelled 28 = .ok (.ifCond .eq 5, 3) := by decide +kernel
theorem dX6_nameSpelled_31 : decode cX6_nameSpelled 31 = .ok (.iconst 2, 1) := by decide +kernel
theorem dX6_nameSpelled_32 : decode cX6_nameSpelled 32 = .ok (.ireturn, 1) := by decide +kernel
theorem dX6_nameSpelled_33 : decode cX6_nameSpelled 33 = .ok (.aload_n 0, 1) := by decide +kernel
theorem dX6_nameSpelled_34 : decode cX6_nameSpelled 34 = .ok (.ldc 143, 2) := by decide +kernel
theorem dX6_nameSpelled_36 : decode cX6_nameSpelled 36 = .ok (.invokevirtual 127, 3) := by decide +kernel
theorem dX6_nameSpelled_39 : decode cX6_nameSpelled 39 = .ok (.ifCond .eq 5, 3) := by decide +kernel
theorem dX6_nameSpelled_42 : decode cX6_nameSpelled 42 = .ok (.iconst 3, 1) := by decide +kernel
theorem dX6_nameSpelled_43 : decode cX6_nameSpelled 43 = .ok (.ireturn, 1) := by decide +kernel
theorem dX6_nameSpelled_44 : decode cX6_nameSpelled 44 = .ok (.aload_n 0, 1) := by decide +kernel
theorem dX6_nameSpelled_45 : decode cX6_nameSpelled 45 = .ok (.ldc 145, 2) := by decide +kernel
theorem dX6_nameSpelled_47 : decode cX6_nameSpelled 47 = .ok (.invokevirtual 127, 3) := by decide +kernel
theorem dX6_nameSpelled_50 : decode cX6_nameSpelled 50 = .ok (.ifCond .eq 5, 3) := by decide +kernel
theorem dX6_nameSpelled_53 : decode cX6_nameSpelled 53 = .ok (.iconst 4, 1) := by decide +kernel
theorem dX6_nameSpelled_54 : decode cX6_nameSpelled 54 = .ok (.ireturn, 1) := by decide +kernel
theorem dX6_nameSpelled_55 : decode cX6_nameSpelled 55 = .ok (.aload_n 0, 1) := by decide +kernel
theorem dX6_nameSpelled_56 : decode cX6_nameSpelled 56 = .ok (.ldc 147, 2) := by decide +kernel
theorem dX6_nameSpelled_58 : decode cX6_nameSpelled 58 = .ok (.invokevirtual 127, 3) := by decide +kernel
theorem dX6_nameSpelled_61 : decode cX6_nameSpelled 61 = .ok (.ifCond .eq 5, 3) := by decide +kernel
theorem dX6_nameSpelled_64 : decode cX6_nameSpelled 64 = .ok (.iconst 5, 1) := by decide +kernel
theorem dX6_nameSpelled_65 : decode cX6_nameSpelled 65 = .ok (.ireturn, 1) := by decide +kernel
theorem dX6_nameSpelled_66 : decode cX6_nameSpelled 66 = .ok (.aload_n 0, 1) := by decide +kernel
theorem dX6_nameSpelled_67 : decode cX6_nameSpelled 67 = .ok (.ldc 149, 2) := by decide +kernel
theorem dX6_nameSpelled_69 : decode cX6_nameSpelled 69 = .ok (.invokevirtual 127, 3) := by decide +kernel
theorem dX6_nameSpelled_72 : decode cX6_nameSpelled 72 = .ok (.ifCond .eq 6, 3) := by decide +kernel
theorem dX6_nameSpelled_75 : decode cX6_nameSpelled 75 = .ok (.bipush 6, 2) := by decide +kernel
theorem dX6_nameSpelled_77 : decode cX6_nameSpelled 77 = .ok (.ireturn, 1) := by decide +kernel
theorem dX6_nameSpelled_78 : decode cX6_nameSpelled 78 = .ok (.aload_n 0, 1) := by decide +kernel
theorem dX6_nameSpelled_79 : decode cX6_nameSpelled 79 = .ok (.ldc 151, 2) := by decide +kernel
theorem dX6_nameSpelled_81 : decode cX6_nameSpelled 81 = .ok (.invokevirtual 127, 3) := by decide +kernel
theorem dX6_nameSpelled_84 : decode cX6_nameSpelled 84 = .ok (.ifCond .eq 6, 3) := by decide +kernel
theorem dX6_nameSpelled_87 : decode cX6_nameSpelled 87 = .ok (.bipush 7, 2) := by decide +kernel
theorem dX6_nameSpelled_89 : decode cX6_nameSpelled 89 = .ok (.ireturn, 1) := by decide +kernel
theorem dX6_nameSpelled_90 : decode cX6_nameSpelled 90 = .ok (.aload_n 0, 1) := by decide +kernel
theorem dX6_nameSpelled_91 : decode cX6_nameSpelled 91 = .ok (.ldc 153, 2) := by decide +kernel
theorem dX6_nameSpelled_93 : decode cX6_nameSpelled 93 = .ok (.invokevirtual 127, 3) := by decide +kernel
theorem dX6_nameSpelled_96 : decode cX6_nameSpelled 96 = .ok (.ifCond .eq 8, 3) := by decide +kernel
theorem dX6_nameSpelled_99 : decode cX6_nameSpelled 99 = .ok (.bipush 8, 2) := by decide +kernel
theorem dX6_nameSpelled_101 : decode cX6_nameSpelled 101 = .ok (.goto 4, 3) := by decide +kernel
theorem dX6_nameSpelled_104 : decode cX6_nameSpelled 104 = .ok (.iconst (-1), 1) := by decide +kernel
theorem dX6_nameSpelled_105 : decode cX6_nameSpelled 105 = .ok (.ireturn, 1) := by decide +kernel
theorem dX6_jointSpelled_0 : decode cX6_jointSpelled 0 = .ok (.aload_n 0, 1) := by decide +kernel
theorem dX6_jointSpelled_1 : decode cX6_jointSpelled 1 = .ok (.ldc 155, 2) := by decide +kernel
theorem dX6_jointSpelled_3 : decode cX6_jointSpelled 3 = .ok (.invokevirtual 127, 3) := by decide +kernel
theorem dX6_jointSpelled_6 : decode cX6_jointSpelled 6 = .ok (.ifCond .eq 6, 3) := by decide +kernel
theorem dX6_jointSpelled_9 : decode cX6_jointSpelled 9 = .ok (.bipush 105, 2) := by decide +kernel
theorem dX6_jointSpelled_11 : decode cX6_jointSpelled 11 = .ok (.ireturn, 1) := by decide +kernel
theorem dX6_jointSpelled_12 : decode cX6_jointSpelled 12 = .ok (.aload_n 0, 1) := by decide +kernel
theorem dX6_jointSpelled_13 : decode cX6_jointSpelled 13 = .ok (.ldc 157, 2) := by decide +kernel
theorem dX6_jointSpelled_15 : decode cX6_jointSpelled 15 = .ok (.invokevirtual 127, 3) := by decide +kernel
theorem dX6_jointSpelled_18 : decode cX6_jointSpelled 18 = .ok (.ifCond .eq 6, 3) := by decide +kernel
theorem dX6_jointSpelled_21 : decode cX6_jointSpelled 21 = .ok (.bipush 38, 2) := by decide +kernel
theorem dX6_jointSpelled_23 : decode cX6_jointSpelled 23 = .ok (.ireturn, 1) := by decide +kernel
theorem dX6_jointSpelled_24 : decode cX6_jointSpelled 24 = .ok (.aload_n 0, 1) := by decide +kernel
theorem dX6_jointSpelled_25 : decode cX6_jointSpelled 25 = .ok (.ldc 159, 2) := by decide +kernel
theorem dX6_jointSpelled_27 : decode cX6_jointSpelled 27 = .ok (.invokevirtual 127, 3) := by decide +kernel
theorem dX6_jointSpelled_30 : decode cX6_jointSpelled 30 = .ok (.ifCond .eq 6, 3) := by decide +kernel
theorem dX6_jointSpelled_33 : decode cX6_jointSpelled 33 = .ok (.bipush 124, 2) := by decide +kernel
theorem dX6_jointSpelled_35 : decode cX6_jointSpelled 35 = .ok (.ireturn, 1) := by decide +kernel
theorem dX6_jointSpelled_36 : decode cX6_jointSpelled 36 = .ok (.aload_n 0, 1) := by decide +kernel
theorem dX6_jointSpelled_37 : decode cX6_jointSpelled 37 = .ok (.ldc 161, 2) := by decide +kernel
theorem dX6_jointSpelled_39 : decode cX6_jointSpelled 39 = .ok (.invokevirtual 127, 3) := by decide +kernel
theorem dX6_jointSpelled_42 : decode cX6_jointSpelled 42 = .ok (.ifCond .eq 8, 3) := by decide +kernel
theorem dX6_jointSpelled_45 : decode cX6_jointSpelled 45 = .ok (.bipush 33, 2) := by decide +kernel
theorem dX6_jointSpelled_47 : decode cX6_jointSpelled 47 = .ok (.goto 4, 3) := by decide +kernel
theorem dX6_jointSpelled_50 : decode cX6_jointSpelled 50 = .ok (.iconst (-1), 1) := by decide +kernel
theorem dX6_jointSpelled_51 : decode cX6_jointSpelled 51 = .ok (.ireturn, 1) := by decide +kernel
theorem dX6_spells_0 : decode cX6_spells 0 = .ok (.aload_n 0, 1) := by decide +kernel
theorem dX6_spells_1 : decode cX6_spells 1 = .ok (.getfield 31, 3) := by decide +kernel
theorem dX6_spells_4 : decode cX6_spells 4 = .ok (.aload_n 0, 1) := by decide +kernel
theorem dX6_spells_5 : decode cX6_spells 5 = .ok (.getfield 84, 3) := by decide +kernel
theorem dX6_spells_8 : decode cX6_spells 8 = .ok (.isub, 1) := by decide +kernel
theorem dX6_spells_9 : decode cX6_spells 9 = .ok (.aload_n 1, 1) := by decide +kernel
theorem dX6_spells_10 : decode cX6_spells 10 = .ok (.invokevirtual 163, 3) := by decide +kernel
theorem dX6_spells_13 : decode cX6_spells 13 = .ok (.if_icmp .eq 5, 3) := by decide +kernel
theorem dX6_spells_16 : decode cX6_spells 16 = .ok (.iconst 0, 1) := by decide +kernel
theorem dX6_spells_17 : decode cX6_spells 17 = .ok (.ireturn, 1) := by decide +kernel
theorem dX6_spells_18 : decode cX6_spells 18 = .ok (.iconst 0, 1) := by decide +kernel
theorem dX6_spells_19 : decode cX6_spells 19 = .ok (.istore_n 2, 1) := by decide +kernel
theorem dX6_spells_20 : decode cX6_spells 20 = .ok (.iload_n 2, 1) := by decide +kernel
theorem dX6_spells_21 : decode cX6_spells 21 = .ok (.aload_n 1, 1) := by decide +kernel
theorem dX6_spells_22 : decode cX6_spells 22 = .ok (.invokevirtual 163, 3) := by decide +kernel
theorem dX6_spells_25 : decode cX6_spells 25 = .ok (.if_icmp .ge 29, 3) := by decide +kernel
theorem dX6_spells_28 : decode cX6_spells 28 = .ok (.aload_n 0, 1) := by decide +kernel
theorem dX6_spells_29 : decode cX6_spells 29 = .ok (.aload_n 0, 1) := by decide +kernel
theorem dX6_spells_30 : decode cX6_spells 30 = .ok (.getfield 84, 3) := by decide +kernel
theorem dX6_spells_33 : decode cX6_spells 33 = .ok (.iload_n 2, 1) := by decide +kernel
theorem dX6_spells_34 : decode cX6_spells 34 = .ok (.iadd, 1) := by decide +kernel
theorem dX6_spells_35 : decode cX6_spells 35 = .ok (.invokevirtual 80, 3) := by decide +kernel
theorem dX6_spells_38 : decode cX6_spells 38 = .ok (.aload_n 1, 1) := by decide +kernel
theorem dX6_spells_39 : decode cX6_spells 39 = .ok (.iload_n 2, 1) := by decide +kernel
theorem dX6_spells_40 : decode cX6_spells 40 = .ok (.invokevirtual 167, 3) := by decide +kernel
theorem dX6_spells_43 : decode cX6_spells 43 = .ok (.if_icmp .eq 5, 3) := by decide +kernel
theorem dX6_spells_46 : decode cX6_spells 46 = .ok (.iconst 0, 1) := by decide +kernel
theorem dX6_spells_47 : decode cX6_spells 47 = .ok (.ireturn, 1) := by decide +kernel
theorem dX6_spells_48 : decode cX6_spells 48 = .ok (.iinc 2 1, 3) := by decide +kernel
theorem dX6_spells_51 : decode cX6_spells 51 = .ok (.goto (-31), 3) := by decide +kernel
theorem dX6_spells_54 : decode cX6_spells 54 = .ok (.iconst 1, 1) := by decide +kernel
theorem dX6_spells_55 : decode cX6_spells 55 = .ok (.ireturn, 1) := by decide +kernel
theorem dX6_is_0 : decode cX6_is 0 = .ok (.aload_n 0, 1) := by decide +kernel
theorem dX6_is_1 : decode cX6_is 1 = .ok (.getfield 90, 3) := by decide +kernel
theorem dX6_is_4 : decode cX6_is 4 = .ok (.iload_n 1, 1) := by decide +kernel
theorem dX6_is_5 : decode cX6_is 5 = .ok (.if_icmp .ne 15, 3) := by decide +kernel
theorem dX6_is_8 : decode cX6_is 8 = .ok (.aload_n 0, 1) := by decide +kernel
theorem dX6_is_9 : decode cX6_is 9 = .ok (.getfield 87, 3) := by decide +kernel
theorem dX6_is_12 : decode cX6_is 12 = .ok (.iload_n 2, 1) := by decide +kernel
theorem dX6_is_13 : decode cX6_is 13 = .ok (.if_icmp .ne 7, 3) := by decide +kernel
theorem dX6_is_16 : decode cX6_is 16 = .ok (.iconst 1, 1) := by decide +kernel
theorem dX6_is_17 : decode cX6_is 17 = .ok (.goto 4, 3) := by decide +kernel
theorem dX6_is_20 : decode cX6_is 20 = .ok (.iconst 0, 1) := by decide +kernel
theorem dX6_is_21 : decode cX6_is 21 = .ok (.ireturn, 1) := by decide +kernel
theorem dX6_faulty_0 : decode cX6_faulty 0 = .ok (.aload_n 0, 1) := by decide +kernel
theorem dX6_faulty_1 : decode cX6_faulty 1 = .ok (.iload_n 1, 1) := by decide +kernel
theorem dX6_faulty_2 : decode cX6_faulty 2 = .ok (.putfield 34, 3) := by decide +kernel
theorem dX6_faulty_5 : decode cX6_faulty 5 = .ok (.iconst 0, 1) := by decide +kernel
theorem dX6_faulty_6 : decode cX6_faulty 6 = .ok (.ireturn, 1) := by decide +kernel
theorem dX6_takeToken_0 : decode cX6_takeToken 0 = .ok (.aload_n 0, 1) := by decide +kernel
theorem dX6_takeToken_1 : decode cX6_takeToken 1 = .ok (.getfield 37, 3) := by decide +kernel
theorem dX6_takeToken_4 : decode cX6_takeToken 4 = .ok (.tableswitch 88 0 4 #[36, 41, 46, 51, 56], 36) := by decide +kernel
theorem dX6_takeToken_40 : decode cX6_takeToken 40 = .ok (.aload_n 0, 1) := by decide +kernel
theorem dX6_takeToken_41 : decode cX6_takeToken 41 = .ok (.invokevirtual 171, 3) := by decide +kernel
theorem dX6_takeToken_44 : decode cX6_takeToken 44 = .ok (.ireturn, 1) := by decide +kernel
theorem dX6_takeToken_45 : decode cX6_takeToken 45 = .ok (.aload_n 0, 1) := by decide +kernel
theorem dX6_takeToken_46 : decode cX6_takeToken 46 = .ok (.invokevirtual 174, 3) := by decide +kernel
theorem dX6_takeToken_49 : decode cX6_takeToken 49 = .ok (.ireturn, 1) := by decide +kernel
theorem dX6_takeToken_50 : decode cX6_takeToken 50 = .ok (.aload_n 0, 1) := by decide +kernel
theorem dX6_takeToken_51 : decode cX6_takeToken 51 = .ok (.invokevirtual 177, 3) := by decide +kernel
theorem dX6_takeToken_54 : decode cX6_takeToken 54 = .ok (.ireturn, 1) := by decide +kernel
theorem dX6_takeToken_55 : decode cX6_takeToken 55 = .ok (.aload_n 0, 1) := by decide +kernel
theorem dX6_takeToken_56 : decode cX6_takeToken 56 = .ok (.invokevirtual 180, 3) := by decide +kernel
theorem dX6_takeToken_59 : decode cX6_takeToken 59 = .ok (.ireturn, 1) := by decide +kernel
theorem dX6_takeToken_60 : decode cX6_takeToken 60 = .ok (.aload_n 0, 1) := by decide +kernel
theorem dX6_takeToken_61 : decode cX6_takeToken 61 = .ok (.invokevirtual 183, 3) := by decide +kernel
theorem dX6_takeToken_64 : decode cX6_takeToken 64 = .ok (.ifCond .eq 8, 3) := by decide +kernel
theorem dX6_takeToken_67 : decode cX6_takeToken 67 = .ok (.aload_n 0, 1) := by decide +kernel
theorem dX6_takeToken_68 : decode cX6_takeToken 68 = .ok (.invokevirtual 186, 3) := by decide +kernel
theorem dX6_takeToken_71 : decode cX6_takeToken 71 = .ok (.ireturn, 1) := by decide +kernel
theorem dX6_takeToken_72 : decode cX6_takeToken 72 = .ok (.aload_n 0, 1) := by decide +kernel
theorem dX6_takeToken_73 : decode cX6_takeToken 73 = .ok (.getfield 40, 3) := by decide +kernel
theorem dX6_takeToken_76 : decode cX6_takeToken 76 = .ok (.ifCond .eq 10, 3) := by decide +kernel
theorem dX6_takeToken_79 : decode cX6_takeToken 79 = .ok (.aload_n 0, 1) := by decide +kernel
theorem dX6_takeToken_80 : decode cX6_takeToken 80 = .ok (.invokevirtual 189, 3) := by decide +kernel
theorem dX6_takeToken_83 : decode cX6_takeToken 83 = .ok (.goto 8, 3) := by decide +kernel
theorem dX6_takeToken_86 : decode cX6_takeToken 86 = .ok (.aload_n 0, 1) := by decide +kernel
theorem dX6_takeToken_87 : decode cX6_takeToken 87 = .ok (.iconst 1, 1) := by decide +kernel
theorem dX6_takeToken_88 : decode cX6_takeToken 88 = .ok (.invokevirtual 192, 3) := by decide +kernel
theorem dX6_takeToken_91 : decode cX6_takeToken 91 = .ok (.ireturn, 1) := by decide +kernel
theorem dX6_takeToken_92 : decode cX6_takeToken 92 = .ok (.aload_n 0, 1) := by decide +kernel
theorem dX6_takeToken_93 : decode cX6_takeToken 93 = .ok (.invokevirtual 189, 3) := by decide +kernel
theorem dX6_takeToken_96 : decode cX6_takeToken 96 = .ok (.ireturn, 1) := by decide +kernel
theorem dX6_takeAct_0 : decode cX6_takeAct 0 = .ok (.aload_n 0, 1) := by decide +kernel
theorem dX6_takeAct_1 : decode cX6_takeAct 1 = .ok (.getfield 90, 3) := by decide +kernel
theorem dX6_takeAct_4 : decode cX6_takeAct 4 = .ok (.iconst 4, 1) := by decide +kernel
theorem dX6_takeAct_5 : decode cX6_takeAct 5 = .ok (.if_icmp .ne 18, 3) := by decide +kernel
theorem dX6_takeAct_8 : decode cX6_takeAct 8 = .ok (.aload_n 0, 1) := by decide +kernel
theorem dX6_takeAct_9 : decode cX6_takeAct 9 = .ok (.aload_n 0, 1) := by decide +kernel
theorem dX6_takeAct_10 : decode cX6_takeAct 10 = .ok (.getfield 87, 3) := by decide +kernel
theorem dX6_takeAct_13 : decode cX6_takeAct 13 = .ok (.putfield 68, 3) := by decide +kernel
theorem dX6_takeAct_16 : decode cX6_takeAct 16 = .ok (.aload_n 0, 1) := by decide +kernel
theorem dX6_takeAct_17 : decode cX6_takeAct 17 = .ok (.iconst 1, 1) := by decide +kernel
theorem dX6_takeAct_18 : decode cX6_takeAct 18 = .ok (.putfield 37, 3) := by decide +kernel
theorem dX6_takeAct_21 : decode cX6_takeAct 21 = .ok (.iconst 1, 1) := by decide +kernel
theorem dX6_takeAct_22 : decode cX6_takeAct 22 = .ok (.ireturn, 1) := by decide +kernel
theorem dX6_takeAct_23 : decode cX6_takeAct 23 = .ok (.aload_n 0, 1) := by decide +kernel
theorem dX6_takeAct_24 : decode cX6_takeAct 24 = .ok (.aload_n 0, 1) := by decide +kernel
theorem dX6_takeAct_25 : decode cX6_takeAct 25 = .ok (.getfield 90, 3) := by decide +kernel
theorem dX6_takeAct_28 : decode cX6_takeAct 28 = .ok (.iconst 5, 1) := by decide +kernel
theorem dX6_takeAct_29 : decode cX6_takeAct 29 = .ok (.if_icmp .eq 12, 3) := by decide +kernel
theorem dX6_takeAct_32 : decode cX6_takeAct 32 = .ok (.aload_n 0, 1) := by decide +kernel
theorem dX6_takeAct_33 : decode cX6_takeAct 33 = .ok (.getfield 90, 3) := by decide +kernel
theorem dX6_takeAct_36 : decode cX6_takeAct 36 = .ok (.bipush 7, 2) := by decide +kernel
theorem dX6_takeAct_38 : decode cX6_takeAct 38 = .ok (.if_icmp .ne 7, 3) := by decide +kernel
theorem dX6_takeAct_41 : decode cX6_takeAct 41 = .ok (.iconst 2, 1) := by decide +kernel
theorem dX6_takeAct_42 : decode cX6_takeAct 42 = .ok (.goto 4, 3) := by decide +kernel
theorem dX6_takeAct_45 : decode cX6_takeAct 45 = .ok (.iconst 1, 1) := by decide +kernel
theorem dX6_takeAct_46 : decode cX6_takeAct 46 = .ok (.invokevirtual 192, 3) := by decide +kernel
theorem dX6_takeAct_49 : decode cX6_takeAct 49 = .ok (.ireturn, 1) := by decide +kernel
theorem dX6_takeIf_0 : decode cX6_takeIf 0 = .ok (.aload_n 0, 1) := by decide +kernel
theorem dX6_takeIf_1 : decode cX6_takeIf 1 = .ok (.bipush 6, 2) := by decide +kernel
theorem dX6_takeIf_3 : decode cX6_takeIf 3 = .ok (.bipush 105, 2) := by decide +kernel
theorem dX6_takeIf_5 : decode cX6_takeIf 5 = .ok (.invokevirtual 195, 3) := by decide +kernel
theorem dX6_takeIf_8 : decode cX6_takeIf 8 = .ok (.ifCond .ne 9, 3) := by decide +kernel
theorem dX6_takeIf_11 : decode cX6_takeIf 11 = .ok (.aload_n 0, 1) := by decide +kernel
theorem dX6_takeIf_12 : decode cX6_takeIf 12 = .ok (.iconst 1, 1) := by decide +kernel
theorem dX6_takeIf_13 : decode cX6_takeIf 13 = .ok (.invokevirtual 192, 3) := by decide +kernel
theorem dX6_takeIf_16 : decode cX6_takeIf 16 = .ok (.ireturn, 1) := by decide +kernel
theorem dX6_takeIf_17 : decode cX6_takeIf 17 = .ok (.aload_n 0, 1) := by decide +kernel
theorem dX6_takeIf_18 : decode cX6_takeIf 18 = .ok (.iconst 2, 1) := by decide +kernel
theorem dX6_takeIf_19 : decode cX6_takeIf 19 = .ok (.putfield 37, 3) := by decide +kernel
theorem dX6_takeIf_22 : decode cX6_takeIf 22 = .ok (.iconst 1, 1) := by decide +kernel
theorem dX6_takeIf_23 : decode cX6_takeIf 23 = .ok (.ireturn, 1) := by decide +kernel
theorem dX6_takeOne_0 : decode cX6_takeOne 0 = .ok (.aload_n 0, 1) := by decide +kernel
theorem dX6_takeOne_1 : decode cX6_takeOne 1 = .ok (.iconst 0, 1) := by decide +kernel
theorem dX6_takeOne_2 : decode cX6_takeOne 2 = .ok (.putfield 40, 3) := by decide +kernel
theorem dX6_takeOne_5 : decode cX6_takeOne 5 = .ok (.aload_n 0, 1) := by decide +kernel
theorem dX6_takeOne_6 : decode cX6_takeOne 6 = .ok (.bipush 6, 2) := by decide +kernel
theorem dX6_takeOne_8 : decode cX6_takeOne 8 = .ok (.bipush 33, 2) := by decide +kernel
theorem dX6_takeOne_10 : decode cX6_takeOne 10 = .ok (.invokevirtual 195, 3) := by decide +kernel
theorem dX6_takeOne_13 : decode cX6_takeOne 13 = .ok (.ifCond .eq 36, 3) := by decide +kernel
theorem dX6_takeOne_16 : decode cX6_takeOne 16 = .ok (.aload_n 0, 1) := by decide +kernel
theorem dX6_takeOne_17 : decode cX6_takeOne 17 = .ok (.dup, 1) := by decide +kernel
theorem dX6_takeOne_18 : decode cX6_takeOne 18 = .ok (.getfield 44, 3) := by decide +kernel
theorem dX6_takeOne_21 : decode cX6_takeOne 21 = .ok (.iconst 1, 1) := by decide +kernel
theorem dX6_takeOne_22 : decode cX6_takeOne 22 = .ok (.iadd, 1) := by decide +kernel
theorem dX6_takeOne_23 : decode cX6_takeOne 23 = .ok (.putfield 44, 3) := by decide +kernel
theorem dX6_takeOne_26 : decode cX6_takeOne 26 = .ok (.aload_n 0, 1) := by decide +kernel
theorem dX6_takeOne_27 : decode cX6_takeOne 27 = .ok (.getfield 44, 3) := by decide +kernel
theorem dX6_takeOne_30 : decode cX6_takeOne 30 = .ok (.bipush 8, 2) := by decide +kernel
theorem dX6_takeOne_32 : decode cX6_takeOne 32 = .ok (.if_icmp .le 9, 3) := by decide +kernel
theorem dX6_takeOne_35 : decode cX6_takeOne 35 = .ok (.aload_n 0, 1) := by decide +kernel
theorem dX6_takeOne_36 : decode cX6_takeOne 36 = .ok (.iconst 3, 1) := by decide +kernel
theorem dX6_takeOne_37 : decode cX6_takeOne 37 = .ok (.invokevirtual 192, 3) := by decide +kernel
theorem dX6_takeOne_40 : decode cX6_takeOne 40 = .ok (.ireturn, 1) := by decide +kernel
theorem dX6_takeOne_41 : decode cX6_takeOne 41 = .ok (.aload_n 0, 1) := by decide +kernel
theorem dX6_takeOne_42 : decode cX6_takeOne 42 = .ok (.bipush 33, 2) := by decide +kernel
theorem dX6_takeOne_44 : decode cX6_takeOne 44 = .ok (.invokevirtual 199, 3) := by decide +kernel
theorem dX6_takeOne_47 : decode cX6_takeOne 47 = .ok (.iconst 1, 1) := by decide +kernel
theorem dX6_takeOne_48 : decode cX6_takeOne 48 = .ok (.ireturn, 1) := by decide +kernel
theorem dX6_takeOne_49 : decode cX6_takeOne 49 = .ok (.aload_n 0, 1) := by decide +kernel
theorem dX6_takeOne_50 : decode cX6_takeOne 50 = .ok (.iconst 0, 1) := by decide +kernel
theorem dX6_takeOne_51 : decode cX6_takeOne 51 = .ok (.putfield 44, 3) := by decide +kernel
theorem dX6_takeOne_54 : decode cX6_takeOne 54 = .ok (.aload_n 0, 1) := by decide +kernel
theorem dX6_takeOne_55 : decode cX6_takeOne 55 = .ok (.iconst 3, 1) := by decide +kernel
theorem dX6_takeOne_56 : decode cX6_takeOne 56 = .ok (.bipush 40, 2) := by decide +kernel
theorem dX6_takeOne_58 : decode cX6_takeOne 58 = .ok (.invokevirtual 195, 3) := by decide +kernel
theorem dX6_takeOne_61 : decode cX6_takeOne 61 = .ok (.ifCond .eq 36, 3) := by decide +kernel
theorem dX6_takeOne_64 : decode cX6_takeOne 64 = .ok (.aload_n 0, 1) := by decide +kernel
theorem dX6_takeOne_65 : decode cX6_takeOne 65 = .ok (.dup, 1) := by decide +kernel
theorem dX6_takeOne_66 : decode cX6_takeOne 66 = .ok (.getfield 47, 3) := by decide +kernel
theorem dX6_takeOne_69 : decode cX6_takeOne 69 = .ok (.iconst 1, 1) := by decide +kernel
theorem dX6_takeOne_70 : decode cX6_takeOne 70 = .ok (.iadd, 1) := by decide +kernel
theorem dX6_takeOne_71 : decode cX6_takeOne 71 = .ok (.putfield 47, 3) := by decide +kernel
theorem dX6_takeOne_74 : decode cX6_takeOne 74 = .ok (.aload_n 0, 1) := by decide +kernel
theorem dX6_takeOne_75 : decode cX6_takeOne 75 = .ok (.getfield 47, 3) := by decide +kernel
theorem dX6_takeOne_78 : decode cX6_takeOne 78 = .ok (.bipush 8, 2) := by decide +kernel
theorem dX6_takeOne_80 : decode cX6_takeOne 80 = .ok (.if_icmp .le 9, 3) := by decide +kernel
theorem dX6_takeOne_83 : decode cX6_takeOne 83 = .ok (.aload_n 0, 1) := by decide +kernel
theorem dX6_takeOne_84 : decode cX6_takeOne 84 = .ok (.iconst 3, 1) := by decide +kernel
theorem dX6_takeOne_85 : decode cX6_takeOne 85 = .ok (.invokevirtual 192, 3) := by decide +kernel
theorem dX6_takeOne_88 : decode cX6_takeOne 88 = .ok (.ireturn, 1) := by decide +kernel
theorem dX6_takeOne_89 : decode cX6_takeOne 89 = .ok (.aload_n 0, 1) := by decide +kernel
theorem dX6_takeOne_90 : decode cX6_takeOne 90 = .ok (.bipush 40, 2) := by decide +kernel
theorem dX6_takeOne_92 : decode cX6_takeOne 92 = .ok (.invokevirtual 199, 3) := by decide +kernel
theorem dX6_takeOne_95 : decode cX6_takeOne 95 = .ok (.iconst 1, 1) := by decide +kernel
theorem dX6_takeOne_96 : decode cX6_takeOne 96 = .ok (.ireturn, 1) := by decide +kernel
theorem dX6_takeOne_97 : decode cX6_takeOne 97 = .ok (.aload_n 0, 1) := by decide +kernel
theorem dX6_takeOne_98 : decode cX6_takeOne 98 = .ok (.invokevirtual 180, 3) := by decide +kernel
theorem dX6_takeOne_101 : decode cX6_takeOne 101 = .ok (.ireturn, 1) := by decide +kernel
theorem dX6_takeTerm_0 : decode cX6_takeTerm 0 = .ok (.aload_n 0, 1) := by decide +kernel
theorem dX6_takeTerm_1 : decode cX6_takeTerm 1 = .ok (.getfield 90, 3) := by decide +kernel
theorem dX6_takeTerm_4 : decode cX6_takeTerm 4 = .ok (.iconst 4, 1) := by decide +kernel
theorem dX6_takeTerm_5 : decode cX6_takeTerm 5 = .ok (.if_icmp .eq 12, 3) := by decide +kernel
theorem dX6_takeTerm_8 : decode cX6_takeTerm 8 = .ok (.aload_n 0, 1) := by decide +kernel
theorem dX6_takeTerm_9 : decode cX6_takeTerm 9 = .ok (.getfield 90, 3) := by decide +kernel
theorem dX6_takeTerm_12 : decode cX6_takeTerm 12 = .ok (.bipush 7, 2) := by decide +kernel
theorem dX6_takeTerm_14 : decode cX6_takeTerm 14 = .ok (.if_icmp .ne 9, 3) := by decide +kernel
theorem dX6_takeTerm_17 : decode cX6_takeTerm 17 = .ok (.aload_n 0, 1) := by decide +kernel
theorem dX6_takeTerm_18 : decode cX6_takeTerm 18 = .ok (.iconst 2, 1) := by decide +kernel
theorem dX6_takeTerm_19 : decode cX6_takeTerm 19 = .ok (.invokevirtual 192, 3) := by decide +kernel
theorem dX6_takeTerm_22 : decode cX6_takeTerm 22 = .ok (.ireturn, 1) := by decide +kernel
theorem dX6_takeTerm_23 : decode cX6_takeTerm 23 = .ok (.aload_n 0, 1) := by decide +kernel
theorem dX6_takeTerm_24 : decode cX6_takeTerm 24 = .ok (.getfield 90, 3) := by decide +kernel
theorem dX6_takeTerm_27 : decode cX6_takeTerm 27 = .ok (.iconst 2, 1) := by decide +kernel
theorem dX6_takeTerm_28 : decode cX6_takeTerm 28 = .ok (.if_icmp .eq 17, 3) := by decide +kernel
theorem dX6_takeTerm_31 : decode cX6_takeTerm 31 = .ok (.aload_n 0, 1) := by decide +kernel
theorem dX6_takeTerm_32 : decode cX6_takeTerm 32 = .ok (.getfield 90, 3) := by decide +kernel
theorem dX6_takeTerm_35 : decode cX6_takeTerm 35 = .ok (.iconst 5, 1) := by decide +kernel
theorem dX6_takeTerm_36 : decode cX6_takeTerm 36 = .ok (.if_icmp .eq 9, 3) := by decide +kernel
theorem dX6_takeTerm_39 : decode cX6_takeTerm 39 = .ok (.aload_n 0, 1) := by decide +kernel
theorem dX6_takeTerm_40 : decode cX6_takeTerm 40 = .ok (.iconst 1, 1) := by decide +kernel
theorem dX6_takeTerm_41 : decode cX6_takeTerm 41 = .ok (.invokevirtual 192, 3) := by decide +kernel
theorem dX6_takeTerm_44 : decode cX6_takeTerm 44 = .ok (.ireturn, 1) := by decide +kernel
theorem dX6_takeTerm_45 : decode cX6_takeTerm 45 = .ok (.aload_n 0, 1) := by decide +kernel
theorem dX6_takeTerm_46 : decode cX6_takeTerm 46 = .ok (.dup, 1) := by decide +kernel
theorem dX6_takeTerm_47 : decode cX6_takeTerm 47 = .ok (.getfield 50, 3) := by decide +kernel
theorem dX6_takeTerm_50 : decode cX6_takeTerm 50 = .ok (.iconst 1, 1) := by decide +kernel
theorem dX6_takeTerm_51 : decode cX6_takeTerm 51 = .ok (.iadd, 1) := by decide +kernel
theorem dX6_takeTerm_52 : decode cX6_takeTerm 52 = .ok (.putfield 50, 3) := by decide +kernel
theorem dX6_takeTerm_55 : decode cX6_takeTerm 55 = .ok (.aload_n 0, 1) := by decide +kernel
theorem dX6_takeTerm_56 : decode cX6_takeTerm 56 = .ok (.getfield 50, 3) := by decide +kernel
theorem dX6_takeTerm_59 : decode cX6_takeTerm 59 = .ok (.bipush 30, 2) := by decide +kernel
theorem dX6_takeTerm_61 : decode cX6_takeTerm 61 = .ok (.if_icmp .le 9, 3) := by decide +kernel
theorem dX6_takeTerm_64 : decode cX6_takeTerm 64 = .ok (.aload_n 0, 1) := by decide +kernel
theorem dX6_takeTerm_65 : decode cX6_takeTerm 65 = .ok (.iconst 3, 1) := by decide +kernel
theorem dX6_takeTerm_66 : decode cX6_takeTerm 66 = .ok (.invokevirtual 192, 3) := by decide +kernel
theorem dX6_takeTerm_69 : decode cX6_takeTerm 69 = .ok (.ireturn, 1) := by decide +kernel
theorem dX6_takeTerm_70 : decode cX6_takeTerm 70 = .ok (.aload_n 0, 1) := by decide +kernel
theorem dX6_takeTerm_71 : decode cX6_takeTerm 71 = .ok (.aload_n 0, 1) := by decide +kernel
theorem dX6_takeTerm_72 : decode cX6_takeTerm 72 = .ok (.getfield 90, 3) := by decide +kernel
theorem dX6_takeTerm_75 : decode cX6_takeTerm 75 = .ok (.iconst 5, 1) := by decide +kernel
theorem dX6_takeTerm_76 : decode cX6_takeTerm 76 = .ok (.if_icmp .ne 14, 3) := by decide +kernel
theorem dX6_takeTerm_79 : decode cX6_takeTerm 79 = .ok (.sipush 10000, 3) := by decide +kernel
theorem dX6_takeTerm_82 : decode cX6_takeTerm 82 = .ok (.aload_n 0, 1) := by decide +kernel
theorem dX6_takeTerm_83 : decode cX6_takeTerm 83 = .ok (.getfield 87, 3) := by decide +kernel
theorem dX6_takeTerm_86 : decode cX6_takeTerm 86 = .ok (.iadd, 1) := by decide +kernel
theorem dX6_takeTerm_87 : decode cX6_takeTerm 87 = .ok (.goto 7, 3) := by decide +kernel
theorem dX6_takeTerm_90 : decode cX6_takeTerm 90 = .ok (.aload_n 0, 1) := by decide +kernel
theorem dX6_takeTerm_91 : decode cX6_takeTerm 91 = .ok (.getfield 87, 3) := by decide +kernel
theorem dX6_takeTerm_94 : decode cX6_takeTerm 94 = .ok (.invokevirtual 203, 3) := by decide +kernel
theorem dX6_takeTerm_97 : decode cX6_takeTerm 97 = .ok (.aload_n 0, 1) := by decide +kernel
theorem dX6_takeTerm_98 : decode cX6_takeTerm 98 = .ok (.iconst 4, 1) := by decide +kernel
theorem dX6_takeTerm_99 : decode cX6_takeTerm 99 = .ok (.putfield 37, 3) := by decide +kernel
theorem dX6_takeTerm_102 : decode cX6_takeTerm 102 = .ok (.iconst 1, 1) := by decide +kernel
theorem dX6_takeTerm_103 : decode cX6_takeTerm 103 = .ok (.ireturn, 1) := by decide +kernel
theorem dX6_goesOnComparing_0 : decode cX6_goesOnComparing 0 = .ok (.aload_n 0, 1) := by decide +kernel
theorem dX6_goesOnComparing_1 : decode cX6_goesOnComparing 1 = .ok (.getfield 90, 3) := by decide +kernel
theorem dX6_goesOnComparing_4 : decode cX6_goesOnComparing 4 = .ok (.iconst 3, 1) := by decide +kernel
theorem dX6_goesOnComparing_5 : decode cX6_goesOnComparing 5 = .ok (.if_icmp .ne 34, 3) := by decide +kernel
theorem dX6_goesOnComparing_8 : decode cX6_goesOnComparing 8 = .ok (.aload_n 0, 1) := by decide +kernel
theorem dX6_goesOnComparing_9 : decode cX6_goesOnComparing 9 = .ok (.getfield 87, 3) := by decide +kernel
theorem dX6_goesOnComparing_12 : decode cX6_goesOnComparing 12 = .ok (.invokestatic 109, 3) := by decide +kernel
theorem dX6_goesOnComparing_15 : decode cX6_goesOnComparing 15 = .ok (.ifCond .ne 20, 3) := by decide +kernel
theorem dX6_goesOnComparing_18 : decode cX6_goesOnComparing 18 = .ok (.aload_n 0, 1) := by decide +kernel
theorem dX6_goesOnComparing_19 : decode cX6_goesOnComparing 19 = .ok (.getfield 40, 3) := by decide +kernel
theorem dX6_goesOnComparing_22 : decode cX6_goesOnComparing 22 = .ok (.ifCond .ne 17, 3) := by decide +kernel
theorem dX6_goesOnComparing_25 : decode cX6_goesOnComparing 25 = .ok (.aload_n 0, 1) := by decide +kernel
theorem dX6_goesOnComparing_26 : decode cX6_goesOnComparing 26 = .ok (.getfield 87, 3) := by decide +kernel
theorem dX6_goesOnComparing_29 : decode cX6_goesOnComparing 29 = .ok (.invokestatic 112, 3) := by decide +kernel
theorem dX6_goesOnComparing_32 : decode cX6_goesOnComparing 32 = .ok (.ifCond .eq 7, 3) := by decide +kernel
theorem dX6_goesOnComparing_35 : decode cX6_goesOnComparing 35 = .ok (.iconst 1, 1) := by decide +kernel
theorem dX6_goesOnComparing_36 : decode cX6_goesOnComparing 36 = .ok (.goto 4, 3) := by decide +kernel
theorem dX6_goesOnComparing_39 : decode cX6_goesOnComparing 39 = .ok (.iconst 0, 1) := by decide +kernel
theorem dX6_goesOnComparing_40 : decode cX6_goesOnComparing 40 = .ok (.ireturn, 1) := by decide +kernel
theorem dX6_takeComparing_0 : decode cX6_takeComparing 0 = .ok (.aload_n 0, 1) := by decide +kernel
theorem dX6_takeComparing_1 : decode cX6_takeComparing 1 = .ok (.getfield 87, 3) := by decide +kernel
theorem dX6_takeComparing_4 : decode cX6_takeComparing 4 = .ok (.invokestatic 112, 3) := by decide +kernel
theorem dX6_takeComparing_7 : decode cX6_takeComparing 7 = .ok (.ifCond .eq 8, 3) := by decide +kernel
theorem dX6_takeComparing_10 : decode cX6_takeComparing 10 = .ok (.aload_n 0, 1) := by decide +kernel
theorem dX6_takeComparing_11 : decode cX6_takeComparing 11 = .ok (.iconst 1, 1) := by decide +kernel
theorem dX6_takeComparing_12 : decode cX6_takeComparing 12 = .ok (.putfield 40, 3) := by decide +kernel
theorem dX6_takeComparing_15 : decode cX6_takeComparing 15 = .ok (.aload_n 0, 1) := by decide +kernel
theorem dX6_takeComparing_16 : decode cX6_takeComparing 16 = .ok (.iconst 3, 1) := by decide +kernel
theorem dX6_takeComparing_17 : decode cX6_takeComparing 17 = .ok (.invokevirtual 206, 3) := by decide +kernel
theorem dX6_takeComparing_20 : decode cX6_takeComparing 20 = .ok (.iconst 1, 1) := by decide +kernel
theorem dX6_takeComparing_21 : decode cX6_takeComparing 21 = .ok (.ireturn, 1) := by decide +kernel
theorem dX6_takeBehindOne_0 : decode cX6_takeBehindOne 0 = .ok (.aload_n 0, 1) := by decide +kernel
theorem dX6_takeBehindOne_1 : decode cX6_takeBehindOne 1 = .ok (.bipush 6, 2) := by decide +kernel
theorem dX6_takeBehindOne_3 : decode cX6_takeBehindOne 3 = .ok (.bipush 38, 2) := by decide +kernel
theorem dX6_takeBehindOne_5 : decode cX6_takeBehindOne 5 = .ok (.invokevirtual 195, 3) := by decide +kernel
theorem dX6_takeBehindOne_8 : decode cX6_takeBehindOne 8 = .ok (.ifCond .ne 14, 3) := by decide +kernel
theorem dX6_takeBehindOne_11 : decode cX6_takeBehindOne 11 = .ok (.aload_n 0, 1) := by decide +kernel
theorem dX6_takeBehindOne_12 : decode cX6_takeBehindOne 12 = .ok (.bipush 6, 2) := by decide +kernel
theorem dX6_takeBehindOne_14 : decode cX6_takeBehindOne 14 = .ok (.bipush 124, 2) := by decide +kernel
theorem dX6_takeBehindOne_16 : decode cX6_takeBehindOne 16 = .ok (.invokevirtual 195, 3) := by decide +kernel
theorem dX6_takeBehindOne_19 : decode cX6_takeBehindOne 19 = .ok (.ifCond .eq 10, 3) := by decide +kernel
theorem dX6_takeBehindOne_22 : decode cX6_takeBehindOne 22 = .ok (.aload_n 0, 1) := by decide +kernel
theorem dX6_takeBehindOne_23 : decode cX6_takeBehindOne 23 = .ok (.iconst 2, 1) := by decide +kernel
theorem dX6_takeBehindOne_24 : decode cX6_takeBehindOne 24 = .ok (.invokevirtual 206, 3) := by decide +kernel
theorem dX6_takeBehindOne_27 : decode cX6_takeBehindOne 27 = .ok (.iconst 1, 1) := by decide +kernel
theorem dX6_takeBehindOne_28 : decode cX6_takeBehindOne 28 = .ok (.ireturn, 1) := by decide +kernel
theorem dX6_takeBehindOne_29 : decode cX6_takeBehindOne 29 = .ok (.aload_n 0, 1) := by decide +kernel
theorem dX6_takeBehindOne_30 : decode cX6_takeBehindOne 30 = .ok (.iconst 3, 1) := by decide +kernel
theorem dX6_takeBehindOne_31 : decode cX6_takeBehindOne 31 = .ok (.bipush 41, 2) := by decide +kernel
theorem dX6_takeBehindOne_33 : decode cX6_takeBehindOne 33 = .ok (.invokevirtual 195, 3) := by decide +kernel
theorem dX6_takeBehindOne_36 : decode cX6_takeBehindOne 36 = .ok (.ifCond .eq 36, 3) := by decide +kernel
theorem dX6_takeBehindOne_39 : decode cX6_takeBehindOne 39 = .ok (.aload_n 0, 1) := by decide +kernel
theorem dX6_takeBehindOne_40 : decode cX6_takeBehindOne 40 = .ok (.getfield 47, 3) := by decide +kernel
theorem dX6_takeBehindOne_43 : decode cX6_takeBehindOne 43 = .ok (.ifCond .le 29, 3) := by decide +kernel
theorem dX6_takeBehindOne_46 : decode cX6_takeBehindOne 46 = .ok (.aload_n 0, 1) := by decide +kernel
theorem dX6_takeBehindOne_47 : decode cX6_takeBehindOne 47 = .ok (.dup, 1) := by decide +kernel
theorem dX6_takeBehindOne_48 : decode cX6_takeBehindOne 48 = .ok (.getfield 47, 3) := by decide +kernel
theorem dX6_takeBehindOne_51 : decode cX6_takeBehindOne 51 = .ok (.iconst 1, 1) := by decide +kernel
theorem dX6_takeBehindOne_52 : decode cX6_takeBehindOne 52 = .ok (.isub, 1) := by decide +kernel
theorem dX6_takeBehindOne_53 : decode cX6_takeBehindOne 53 = .ok (.putfield 47, 3) := by decide +kernel
theorem dX6_takeBehindOne_56 : decode cX6_takeBehindOne 56 = .ok (.aload_n 0, 1) := by decide +kernel
theorem dX6_takeBehindOne_57 : decode cX6_takeBehindOne 57 = .ok (.iconst 1, 1) := by decide +kernel
theorem dX6_takeBehindOne_58 : decode cX6_takeBehindOne 58 = .ok (.invokevirtual 209, 3) := by decide +kernel
theorem dX6_takeBehindOne_61 : decode cX6_takeBehindOne 61 = .ok (.aload_n 0, 1) := by decide +kernel
theorem dX6_takeBehindOne_62 : decode cX6_takeBehindOne 62 = .ok (.invokevirtual 212, 3) := by decide +kernel
theorem dX6_takeBehindOne_65 : decode cX6_takeBehindOne 65 = .ok (.aload_n 0, 1) := by decide +kernel
theorem dX6_takeBehindOne_66 : decode cX6_takeBehindOne 66 = .ok (.iconst 5, 1) := by decide +kernel
theorem dX6_takeBehindOne_67 : decode cX6_takeBehindOne 67 = .ok (.putfield 37, 3) := by decide +kernel
theorem dX6_takeBehindOne_70 : decode cX6_takeBehindOne 70 = .ok (.iconst 1, 1) := by decide +kernel
theorem dX6_takeBehindOne_71 : decode cX6_takeBehindOne 71 = .ok (.ireturn, 1) := by decide +kernel
theorem dX6_takeBehindOne_72 : decode cX6_takeBehindOne 72 = .ok (.aload_n 0, 1) := by decide +kernel
theorem dX6_takeBehindOne_73 : decode cX6_takeBehindOne 73 = .ok (.getfield 90, 3) := by decide +kernel
theorem dX6_takeBehindOne_76 : decode cX6_takeBehindOne 76 = .ok (.ifCond .ne 23, 3) := by decide +kernel
theorem dX6_takeBehindOne_79 : decode cX6_takeBehindOne 79 = .ok (.aload_n 0, 1) := by decide +kernel
theorem dX6_takeBehindOne_80 : decode cX6_takeBehindOne 80 = .ok (.getfield 47, 3) := by decide +kernel
theorem dX6_takeBehindOne_83 : decode cX6_takeBehindOne 83 = .ok (.ifCond .ne 16, 3) := by decide +kernel
theorem dX6_takeBehindOne_86 : decode cX6_takeBehindOne 86 = .ok (.aload_n 0, 1) := by decide +kernel
theorem dX6_takeBehindOne_87 : decode cX6_takeBehindOne 87 = .ok (.iconst 0, 1) := by decide +kernel
theorem dX6_takeBehindOne_88 : decode cX6_takeBehindOne 88 = .ok (.invokevirtual 209, 3) := by decide +kernel
theorem dX6_takeBehindOne_91 : decode cX6_takeBehindOne 91 = .ok (.aload_n 0, 1) := by decide +kernel
theorem dX6_takeBehindOne_92 : decode cX6_takeBehindOne 92 = .ok (.bipush 6, 2) := by decide +kernel
theorem dX6_takeBehindOne_94 : decode cX6_takeBehindOne 94 = .ok (.putfield 37, 3) := by decide +kernel
theorem dX6_takeBehindOne_97 : decode cX6_takeBehindOne 97 = .ok (.iconst 1, 1) := by decide +kernel
theorem dX6_takeBehindOne_98 : decode cX6_takeBehindOne 98 = .ok (.ireturn, 1) := by decide +kernel
theorem dX6_takeBehindOne_99 : decode cX6_takeBehindOne 99 = .ok (.aload_n 0, 1) := by decide +kernel
theorem dX6_takeBehindOne_100 : decode cX6_takeBehindOne 100 = .ok (.iconst 1, 1) := by decide +kernel
theorem dX6_takeBehindOne_101 : decode cX6_takeBehindOne 101 = .ok (.invokevirtual 192, 3) := by decide +kernel
theorem dX6_takeBehindOne_104 : decode cX6_takeBehindOne 104 = .ok (.ireturn, 1) := by decide +kernel
theorem dX6_takeJoining_0 : decode cX6_takeJoining 0 = .ok (.aload_n 0, 1) := by decide +kernel
theorem dX6_takeJoining_1 : decode cX6_takeJoining 1 = .ok (.aload_n 0, 1) := by decide +kernel
theorem dX6_takeJoining_2 : decode cX6_takeJoining 2 = .ok (.getfield 87, 3) := by decide +kernel
theorem dX6_takeJoining_5 : decode cX6_takeJoining 5 = .ok (.invokestatic 215, 3) := by decide +kernel
theorem dX6_takeJoining_8 : decode cX6_takeJoining 8 = .ok (.invokevirtual 209, 3) := by decide +kernel
theorem dX6_takeJoining_11 : decode cX6_takeJoining 11 = .ok (.aload_n 0, 1) := by decide +kernel
theorem dX6_takeJoining_12 : decode cX6_takeJoining 12 = .ok (.aload_n 0, 1) := by decide +kernel
theorem dX6_takeJoining_13 : decode cX6_takeJoining 13 = .ok (.getfield 87, 3) := by decide +kernel
theorem dX6_takeJoining_16 : decode cX6_takeJoining 16 = .ok (.invokevirtual 199, 3) := by decide +kernel
theorem dX6_takeJoining_19 : decode cX6_takeJoining 19 = .ok (.aload_n 0, 1) := by decide +kernel
theorem dX6_takeJoining_20 : decode cX6_takeJoining 20 = .ok (.iload_n 1, 1) := by decide +kernel
theorem dX6_takeJoining_21 : decode cX6_takeJoining 21 = .ok (.putfield 37, 3) := by decide +kernel
theorem dX6_takeJoining_24 : decode cX6_takeJoining 24 = .ok (.return_, 1) := by decide +kernel
theorem dX6_bindingOf_0 : decode cX6_bindingOf 0 = .ok (.iload_n 0, 1) := by decide +kernel
theorem dX6_bindingOf_1 : decode cX6_bindingOf 1 = .ok (.lookupswitch 77 #[(33, 73), (38, 71), (40, 67), (60, 75), (61, 75), (62, 75), (124, 69)], 67) := by decide +kernel
theorem dX6_bindingOf_68 : decode cX6_bindingOf 68 = .ok (.iconst 0, 1) := by decide +kernel
theorem dX6_bindingOf_69 : decode cX6_bindingOf 69 = .ok (.ireturn, 1) := by decide +kernel
theorem dX6_bindingOf_70 : decode cX6_bindingOf 70 = .ok (.iconst 1, 1) := by decide +kernel
theorem dX6_bindingOf_71 : decode cX6_bindingOf 71 = .ok (.ireturn, 1) := by decide +kernel
theorem dX6_bindingOf_72 : decode cX6_bindingOf 72 = .ok (.iconst 2, 1) := by decide +kernel
theorem dX6_bindingOf_73 : decode cX6_bindingOf 73 = .ok (.ireturn, 1) := by decide +kernel
theorem dX6_bindingOf_74 : decode cX6_bindingOf 74 = .ok (.iconst 3, 1) := by decide +kernel
theorem dX6_bindingOf_75 : decode cX6_bindingOf 75 = .ok (.ireturn, 1) := by decide +kernel
theorem dX6_bindingOf_76 : decode cX6_bindingOf 76 = .ok (.iconst 4, 1) := by decide +kernel
theorem dX6_bindingOf_77 : decode cX6_bindingOf 77 = .ok (.ireturn, 1) := by decide +kernel
theorem dX6_bindingOf_78 : decode cX6_bindingOf 78 = .ok (.iconst 5, 1) := by decide +kernel
theorem dX6_bindingOf_79 : decode cX6_bindingOf 79 = .ok (.ireturn, 1) := by decide +kernel
theorem dX6_setAside_0 : decode cX6_setAside 0 = .ok (.aload_n 0, 1) := by decide +kernel
theorem dX6_setAside_1 : decode cX6_setAside 1 = .ok (.getfield 56, 3) := by decide +kernel
theorem dX6_setAside_4 : decode cX6_setAside 4 = .ok (.ifCond .lt 35, 3) := by decide +kernel
theorem dX6_setAside_7 : decode cX6_setAside 7 = .ok (.aload_n 0, 1) := by decide +kernel
theorem dX6_setAside_8 : decode cX6_setAside 8 = .ok (.getfield 56, 3) := by decide +kernel
theorem dX6_setAside_11 : decode cX6_setAside 11 = .ok (.aload_n 0, 1) := by decide +kernel
theorem dX6_setAside_12 : decode cX6_setAside 12 = .ok (.getfield 15, 3) := by decide +kernel
theorem dX6_setAside_15 : decode cX6_setAside 15 = .ok (.arraylength, 1) := by decide +kernel
theorem dX6_setAside_16 : decode cX6_setAside 16 = .ok (.if_icmp .ge 23, 3) := by decide +kernel
theorem dX6_setAside_19 : decode cX6_setAside 19 = .ok (.aload_n 0, 1) := by decide +kernel
theorem dX6_setAside_20 : decode cX6_setAside 20 = .ok (.getfield 15, 3) := by decide +kernel
theorem dX6_setAside_23 : decode cX6_setAside 23 = .ok (.aload_n 0, 1) := by decide +kernel
theorem dX6_setAside_24 : decode cX6_setAside 24 = .ok (.getfield 56, 3) := by decide +kernel
theorem dX6_setAside_27 : decode cX6_setAside 27 = .ok (.iload_n 1, 1) := by decide +kernel
theorem dX6_setAside_28 : decode cX6_setAside 28 = .ok (.iastore, 1) := by decide +kernel
theorem dX6_setAside_29 : decode cX6_setAside 29 = .ok (.aload_n 0, 1) := by decide +kernel
theorem dX6_setAside_30 : decode cX6_setAside 30 = .ok (.dup, 1) := by decide +kernel
theorem dX6_setAside_31 : decode cX6_setAside 31 = .ok (.getfield 56, 3) := by decide +kernel
theorem dX6_setAside_34 : decode cX6_setAside 34 = .ok (.iconst 1, 1) := by decide +kernel
theorem dX6_setAside_35 : decode cX6_setAside 35 = .ok (.iadd, 1) := by decide +kernel
theorem dX6_setAside_36 : decode cX6_setAside 36 = .ok (.putfield 56, 3) := by decide +kernel
theorem dX6_setAside_39 : decode cX6_setAside 39 = .ok (.return_, 1) := by decide +kernel
theorem dX6_dropWaiting_0 : decode cX6_dropWaiting 0 = .ok (.aload_n 0, 1) := by decide +kernel
theorem dX6_dropWaiting_1 : decode cX6_dropWaiting 1 = .ok (.getfield 56, 3) := by decide +kernel
theorem dX6_dropWaiting_4 : decode cX6_dropWaiting 4 = .ok (.ifCond .le 13, 3) := by decide +kernel
theorem dX6_dropWaiting_7 : decode cX6_dropWaiting 7 = .ok (.aload_n 0, 1) := by decide +kernel
theorem dX6_dropWaiting_8 : decode cX6_dropWaiting 8 = .ok (.dup, 1) := by decide +kernel
theorem dX6_dropWaiting_9 : decode cX6_dropWaiting 9 = .ok (.getfield 56, 3) := by decide +kernel
theorem dX6_dropWaiting_12 : decode cX6_dropWaiting 12 = .ok (.iconst 1, 1) := by decide +kernel
theorem dX6_dropWaiting_13 : decode cX6_dropWaiting 13 = .ok (.isub, 1) := by decide +kernel
theorem dX6_dropWaiting_14 : decode cX6_dropWaiting 14 = .ok (.putfield 56, 3) := by decide +kernel
theorem dX6_dropWaiting_17 : decode cX6_dropWaiting 17 = .ok (.return_, 1) := by decide +kernel
theorem dX6_putWaiting_0 : decode cX6_putWaiting 0 = .ok (.aload_n 0, 1) := by decide +kernel
theorem dX6_putWaiting_1 : decode cX6_putWaiting 1 = .ok (.getfield 56, 3) := by decide +kernel
theorem dX6_putWaiting_4 : decode cX6_putWaiting 4 = .ok (.ifCond .le 65, 3) := by decide +kernel
theorem dX6_putWaiting_7 : decode cX6_putWaiting 7 = .ok (.aload_n 0, 1) := by decide +kernel
theorem dX6_putWaiting_8 : decode cX6_putWaiting 8 = .ok (.getfield 56, 3) := by decide +kernel
theorem dX6_putWaiting_11 : decode cX6_putWaiting 11 = .ok (.aload_n 0, 1) := by decide +kernel
theorem dX6_putWaiting_12 : decode cX6_putWaiting 12 = .ok (.getfield 15, 3) := by decide +kernel
theorem dX6_putWaiting_15 : decode cX6_putWaiting 15 = .ok (.arraylength, 1) := by decide +kernel
theorem dX6_putWaiting_16 : decode cX6_putWaiting 16 = .ok (.if_icmp .gt 53, 3) := by decide +kernel
theorem dX6_putWaiting_19 : decode cX6_putWaiting 19 = .ok (.aload_n 0, 1) := by decide +kernel
theorem dX6_putWaiting_20 : decode cX6_putWaiting 20 = .ok (.getfield 15, 3) := by decide +kernel
theorem dX6_putWaiting_23 : decode cX6_putWaiting 23 = .ok (.aload_n 0, 1) := by decide +kernel
theorem dX6_putWaiting_24 : decode cX6_putWaiting 24 = .ok (.getfield 56, 3) := by decide +kernel
theorem dX6_putWaiting_27 : decode cX6_putWaiting 27 = .ok (.iconst 1, 1) := by decide +kernel
theorem dX6_putWaiting_28 : decode cX6_putWaiting 28 = .ok (.isub, 1) := by decide +kernel
theorem dX6_putWaiting_29 : decode cX6_putWaiting 29 = .ok (.iaload, 1) := by decide +kernel
theorem dX6_putWaiting_30 : decode cX6_putWaiting 30 = .ok (.invokestatic 215, 3) := by decide +kernel
theorem dX6_putWaiting_33 : decode cX6_putWaiting 33 = .ok (.iload_n 1, 1) := by decide +kernel
theorem dX6_putWaiting_34 : decode cX6_putWaiting 34 = .ok (.if_icmp .lt 35, 3) := by decide +kernel
theorem dX6_putWaiting_37 : decode cX6_putWaiting 37 = .ok (.aload_n 0, 1) := by decide +kernel
theorem dX6_putWaiting_38 : decode cX6_putWaiting 38 = .ok (.sipush 20000, 3) := by decide +kernel
theorem dX6_putWaiting_41 : decode cX6_putWaiting 41 = .ok (.aload_n 0, 1) := by decide +kernel
theorem dX6_putWaiting_42 : decode cX6_putWaiting 42 = .ok (.getfield 15, 3) := by decide +kernel
theorem dX6_putWaiting_45 : decode cX6_putWaiting 45 = .ok (.aload_n 0, 1) := by decide +kernel
theorem dX6_putWaiting_46 : decode cX6_putWaiting 46 = .ok (.getfield 56, 3) := by decide +kernel
theorem dX6_putWaiting_49 : decode cX6_putWaiting 49 = .ok (.iconst 1, 1) := by decide +kernel
theorem dX6_putWaiting_50 : decode cX6_putWaiting 50 = .ok (.isub, 1) := by decide +kernel
theorem dX6_putWaiting_51 : decode cX6_putWaiting 51 = .ok (.iaload, 1) := by decide +kernel
theorem dX6_putWaiting_52 : decode cX6_putWaiting 52 = .ok (.iadd, 1) := by decide +kernel
theorem dX6_putWaiting_53 : decode cX6_putWaiting 53 = .ok (.invokevirtual 203, 3) := by decide +kernel
theorem dX6_putWaiting_56 : decode cX6_putWaiting 56 = .ok (.aload_n 0, 1) := by decide +kernel
theorem dX6_putWaiting_57 : decode cX6_putWaiting 57 = .ok (.dup, 1) := by decide +kernel
theorem dX6_putWaiting_58 : decode cX6_putWaiting 58 = .ok (.getfield 56, 3) := by decide +kernel
theorem dX6_putWaiting_61 : decode cX6_putWaiting 61 = .ok (.iconst 1, 1) := by decide +kernel
theorem dX6_putWaiting_62 : decode cX6_putWaiting 62 = .ok (.isub, 1) := by decide +kernel
theorem dX6_putWaiting_63 : decode cX6_putWaiting 63 = .ok (.putfield 56, 3) := by decide +kernel
theorem dX6_putWaiting_66 : decode cX6_putWaiting 66 = .ok (.goto (-66), 3) := by decide +kernel
theorem dX6_putWaiting_69 : decode cX6_putWaiting 69 = .ok (.return_, 1) := by decide +kernel
theorem dX6_put_0 : decode cX6_put 0 = .ok (.aload_n 0, 1) := by decide +kernel
theorem dX6_put_1 : decode cX6_put 1 = .ok (.getfield 53, 3) := by decide +kernel
theorem dX6_put_4 : decode cX6_put 4 = .ok (.ifCond .lt 35, 3) := by decide +kernel
theorem dX6_put_7 : decode cX6_put 7 = .ok (.aload_n 0, 1) := by decide +kernel
theorem dX6_put_8 : decode cX6_put 8 = .ok (.getfield 53, 3) := by decide +kernel
theorem dX6_put_11 : decode cX6_put 11 = .ok (.aload_n 0, 1) := by decide +kernel
theorem dX6_put_12 : decode cX6_put 12 = .ok (.getfield 9, 3) := by decide +kernel
theorem dX6_put_15 : decode cX6_put 15 = .ok (.arraylength, 1) := by decide +kernel
theorem dX6_put_16 : decode cX6_put 16 = .ok (.if_icmp .ge 23, 3) := by decide +kernel
theorem dX6_put_19 : decode cX6_put 19 = .ok (.aload_n 0, 1) := by decide +kernel
theorem dX6_put_20 : decode cX6_put 20 = .ok (.getfield 9, 3) := by decide +kernel
theorem dX6_put_23 : decode cX6_put 23 = .ok (.aload_n 0, 1) := by decide +kernel
theorem dX6_put_24 : decode cX6_put 24 = .ok (.getfield 53, 3) := by decide +kernel
theorem dX6_put_27 : decode cX6_put 27 = .ok (.iload_n 1, 1) := by decide +kernel
theorem dX6_put_28 : decode cX6_put 28 = .ok (.iastore, 1) := by decide +kernel
theorem dX6_put_29 : decode cX6_put 29 = .ok (.aload_n 0, 1) := by decide +kernel
theorem dX6_put_30 : decode cX6_put 30 = .ok (.dup, 1) := by decide +kernel
theorem dX6_put_31 : decode cX6_put 31 = .ok (.getfield 53, 3) := by decide +kernel
theorem dX6_put_34 : decode cX6_put 34 = .ok (.iconst 1, 1) := by decide +kernel
theorem dX6_put_35 : decode cX6_put 35 = .ok (.iadd, 1) := by decide +kernel
theorem dX6_put_36 : decode cX6_put 36 = .ok (.putfield 53, 3) := by decide +kernel
theorem dX6_put_39 : decode cX6_put 39 = .ok (.return_, 1) := by decide +kernel
theorem dX7_init_0 : decode cX7_init 0 = .ok (.aload_n 0, 1) := by decide +kernel
theorem dX7_init_1 : decode cX7_init 1 = .ok (.invokespecial 3, 3) := by decide +kernel
theorem dX7_init_4 : decode cX7_init 4 = .ok (.aload_n 0, 1) := by decide +kernel
theorem dX7_init_5 : decode cX7_init 5 = .ok (.sipush 300, 3) := by decide +kernel
theorem dX7_init_8 : decode cX7_init 8 = .ok (.newarray .int, 2) := by decide +kernel
theorem dX7_init_10 : decode cX7_init 10 = .ok (.putfield 9, 3) := by decide +kernel
theorem dX7_init_13 : decode cX7_init 13 = .ok (.aload_n 0, 1) := by decide +kernel
theorem dX7_init_14 : decode cX7_init 14 = .ok (.sipush 300, 3) := by decide +kernel
theorem dX7_init_17 : decode cX7_init 17 = .ok (.newarray .int, 2) := by decide +kernel
theorem dX7_init_19 : decode cX7_init 19 = .ok (.putfield 15, 3) := by decide +kernel
theorem dX7_init_22 : decode cX7_init 22 = .ok (.aload_n 0, 1) := by decide +kernel
theorem dX7_init_23 : decode cX7_init 23 = .ok (.sipush 300, 3) := by decide +kernel
theorem dX7_init_26 : decode cX7_init 26 = .ok (.newarray .int, 2) := by decide +kernel
theorem dX7_init_28 : decode cX7_init 28 = .ok (.putfield 18, 3) := by decide +kernel
theorem dX7_init_31 : decode cX7_init 31 = .ok (.aload_n 0, 1) := by decide +kernel
theorem dX7_init_32 : decode cX7_init 32 = .ok (.bipush 60, 2) := by decide +kernel
theorem dX7_init_34 : decode cX7_init 34 = .ok (.newarray .int, 2) := by decide +kernel
theorem dX7_init_36 : decode cX7_init 36 = .ok (.putfield 21, 3) := by decide +kernel
theorem dX7_init_39 : decode cX7_init 39 = .ok (.aload_n 0, 1) := by decide +kernel
theorem dX7_init_40 : decode cX7_init 40 = .ok (.bipush 60, 2) := by decide +kernel
theorem dX7_init_42 : decode cX7_init 42 = .ok (.newarray .int, 2) := by decide +kernel
theorem dX7_init_44 : decode cX7_init 44 = .ok (.putfield 24, 3) := by decide +kernel
theorem dX7_init_47 : decode cX7_init 47 = .ok (.aload_n 0, 1) := by decide +kernel
theorem dX7_init_48 : decode cX7_init 48 = .ok (.bipush 60, 2) := by decide +kernel
theorem dX7_init_50 : decode cX7_init 50 = .ok (.newarray .int, 2) := by decide +kernel
theorem dX7_init_52 : decode cX7_init 52 = .ok (.putfield 27, 3) := by decide +kernel
theorem dX7_init_55 : decode cX7_init 55 = .ok (.aload_n 0, 1) := by decide +kernel
theorem dX7_init_56 : decode cX7_init 56 = .ok (.bipush 60, 2) := by decide +kernel
theorem dX7_init_58 : decode cX7_init 58 = .ok (.newarray .int, 2) := by decide +kernel
theorem dX7_init_60 : decode cX7_init 60 = .ok (.putfield 30, 3) := by decide +kernel
theorem dX7_init_63 : decode cX7_init 63 = .ok (.return_, 1) := by decide +kernel
theorem dX7_addReading_0 : decode cX7_addReading 0 = .ok (.aload_n 0, 1) := by decide +kernel
theorem dX7_addReading_1 : decode cX7_addReading 1 = .ok (.getfield 33, 3) := by decide +kernel
theorem dX7_addReading_4 : decode cX7_addReading 4 = .ok (.ifCond .lt 13, 3) := by decide +kernel
theorem dX7_addReading_7 : decode cX7_addReading 7 = .ok (.aload_n 0, 1) := by decide +kernel
theorem dX7_addReading_8 : decode cX7_addReading 8 = .ok (.getfield 33, 3) := by decide +kernel
theorem dX7_addReading_11 : decode cX7_addReading 11 = .ok (.sipush 300, 3) := by decide +kernel
theorem dX7_addReading_14 : decode cX7_addReading 14 = .ok (.if_icmp .lt 5, 3) := by decide +kernel
theorem dX7_addReading_17 : decode cX7_addReading 17 = .ok (.iconst 0, 1) := by decide +kernel
theorem dX7_addReading_18 : decode cX7_addReading 18 = .ok (.ireturn, 1) := by decide +kernel
theorem dX7_addReading_19 : decode cX7_addReading 19 = .ok (.aload_n 0, 1) := by decide +kernel
theorem dX7_addReading_20 : decode cX7_addReading 20 = .ok (.getfield 9, 3) := by decide +kernel
theorem dX7_addReading_23 : decode cX7_addReading 23 = .ok (.aload_n 0, 1) := by decide +kernel
theorem dX7_addReading_24 : decode cX7_addReading 24 = .ok (.getfield 33, 3) := by decide +kernel
theorem dX7_addReading_27 : decode cX7_addReading 27 = .ok (.iload_n 1, 1) := by decide +kernel
theorem dX7_addReading_28 : decode cX7_addReading 28 = .ok (.iastore, 1) := by decide +kernel
theorem dX7_addReading_29 : decode cX7_addReading 29 = .ok (.aload_n 0, 1) := by decide +kernel
theorem dX7_addReading_30 : decode cX7_addReading 30 = .ok (.getfield 15, 3) := by decide +kernel
theorem dX7_addReading_33 : decode cX7_addReading 33 = .ok (.aload_n 0, 1) := by decide +kernel
theorem dX7_addReading_34 : decode cX7_addReading 34 = .ok (.getfield 33, 3) := by decide +kernel
theorem dX7_addReading_37 : decode cX7_addReading 37 = .ok (.iload_n 2, 1) := by decide +kernel
theorem dX7_addReading_38 : decode cX7_addReading 38 = .ok (.iastore, 1) := by decide +kernel
theorem dX7_addReading_39 : decode cX7_addReading 39 = .ok (.aload_n 0, 1) := by decide +kernel
theorem dX7_addReading_40 : decode cX7_addReading 40 = .ok (.getfield 18, 3) := by decide +kernel
theorem dX7_addReading_43 : decode cX7_addReading 43 = .ok (.aload_n 0, 1) := by decide +kernel
theorem dX7_addReading_44 : decode cX7_addReading 44 = .ok (.getfield 33, 3) := by decide +kernel
theorem dX7_addReading_47 : decode cX7_addReading 47 = .ok (.iload_n 3, 1) := by decide +kernel
theorem dX7_addReading_48 : decode cX7_addReading 48 = .ok (.iastore, 1) := by decide +kernel
theorem dX7_addReading_49 : decode cX7_addReading 49 = .ok (.aload_n 0, 1) := by decide +kernel
theorem dX7_addReading_50 : decode cX7_addReading 50 = .ok (.dup, 1) := by decide +kernel
theorem dX7_addReading_51 : decode cX7_addReading 51 = .ok (.getfield 33, 3) := by decide +kernel
theorem dX7_addReading_54 : decode cX7_addReading 54 = .ok (.iconst 1, 1) := by decide +kernel
theorem dX7_addReading_55 : decode cX7_addReading 55 = .ok (.iadd, 1) := by decide +kernel
theorem dX7_addReading_56 : decode cX7_addReading 56 = .ok (.putfield 33, 3) := by decide +kernel
theorem dX7_addReading_59 : decode cX7_addReading 59 = .ok (.iconst 0, 1) := by decide +kernel
theorem dX7_addReading_60 : decode cX7_addReading 60 = .ok (.istore 4, 2) := by decide +kernel
theorem dX7_addReading_62 : decode cX7_addReading 62 = .ok (.iload 4, 2) := by decide +kernel
theorem dX7_addReading_64 : decode cX7_addReading 64 = .ok (.aload_n 0, 1) := by decide +kernel
theorem dX7_addReading_65 : decode cX7_addReading 65 = .ok (.getfield 37, 3) := by decide +kernel
theorem dX7_addReading_68 : decode cX7_addReading 68 = .ok (.if_icmp .ge 54, 3) := by decide +kernel
theorem dX7_addReading_71 : decode cX7_addReading 71 = .ok (.iload 4, 2) := by decide +kernel
theorem dX7_addReading_73 : decode cX7_addReading 73 = .ok (.bipush 60, 2) := by decide +kernel
theorem dX7_addReading_75 : decode cX7_addReading 75 = .ok (.if_icmp .ge 47, 3) := by decide +kernel
theorem dX7_addReading_78 : decode cX7_addReading 78 = .ok (.aload_n 0, 1) := by decide +kernel
theorem dX7_addReading_79 : decode cX7_addReading 79 = .ok (.getfield 21, 3) := by decide +kernel
theorem dX7_addReading_82 : decode cX7_addReading 82 = .ok (.iload 4, 2) := by decide +kernel
theorem dX7_addReading_84 : decode cX7_addReading 84 = .ok (.iaload, 1) := by decide +kernel
theorem dX7_addReading_85 : decode cX7_addReading 85 = .ok (.iload_n 1, 1) := by decide +kernel
theorem dX7_addReading_86 : decode cX7_addReading 86 = .ok (.if_icmp .ne 30, 3) := by decide +kernel
theorem dX7_addReading_89 : decode cX7_addReading 89 = .ok (.aload_n 0, 1) := by decide +kernel
theorem dX7_addReading_90 : decode cX7_addReading 90 = .ok (.getfield 24, 3) := by decide +kernel
theorem dX7_addReading_93 : decode cX7_addReading 93 = .ok (.iload 4, 2) := by decide +kernel
theorem dX7_addReading_95 : decode cX7_addReading 95 = .ok (.iaload, 1) := by decide +kernel
theorem dX7_addReading_96 : decode cX7_addReading 96 = .ok (.iload_n 2, 1) := by decide +kernel
theorem dX7_addReading_97 : decode cX7_addReading 97 = .ok (.if_icmp .ne 19, 3) := by decide +kernel
theorem dX7_addReading_100 : decode cX7_addReading 100 = .ok (.aload_n 0, 1) := by decide +kernel
theorem dX7_addReading_101 : decode cX7_addReading 101 = .ok (.getfield 30, 3) := by decide +kernel
theorem dX7_addReading_104 : decode cX7_addReading 104 = .ok (.iload 4, 2) := by decide +kernel
theorem dX7_addReading_106 : decode cX7_addReading 106 = .ok (.aload_n 0, 1) := by decide +kernel
theorem dX7_addReading_107 : decode cX7_addReading 107 = .ok (.getfield 27, 3) := by decide +kernel
theorem dX7_addReading_110 : decode cX7_addReading 110 = .ok (.iload 4, 2) := by decide +kernel
theorem dX7_addReading_112 : decode cX7_addReading 112 = .ok (.iaload, 1) := by decide +kernel
theorem dX7_addReading_113 : decode cX7_addReading 113 = .ok (.iload_n 3, 1) := by decide +kernel
theorem dX7_addReading_114 : decode cX7_addReading 114 = .ok (.isub, 1) := by decide +kernel
theorem dX7_addReading_115 : decode cX7_addReading 115 = .ok (.iastore, 1) := by decide +kernel
theorem dX7_addReading_116 : decode cX7_addReading 116 = .ok (.iinc 4 1, 3) := by decide +kernel
theorem dX7_addReading_119 : decode cX7_addReading 119 = .ok (.goto (-57), 3) := by decide +kernel
theorem dX7_addReading_122 : decode cX7_addReading 122 = .ok (.iconst 1, 1) := by decide +kernel
theorem dX7_addReading_123 : decode cX7_addReading 123 = .ok (.ireturn, 1) := by decide +kernel
theorem dX7_addSounding_0 : decode cX7_addSounding 0 = .ok (.iload_n 3, 1) := by decide +kernel
theorem dX7_addSounding_1 : decode cX7_addSounding 1 = .ok (.aload_n 0, 1) := by decide +kernel
theorem dX7_addSounding_2 : decode cX7_addSounding 2 = .ok (.aload_n 0, 1) := by decide +kernel
theorem dX7_addSounding_3 : decode cX7_addSounding 3 = .ok (.iload_n 1, 1) := by decide +kernel
theorem dX7_addSounding_4 : decode cX7_addSounding 4 = .ok (.iload_n 2, 1) := by decide +kernel
theorem dX7_addSounding_5 : decode cX7_addSounding 5 = .ok (.iload_n 2, 1) := by decide +kernel
theorem dX7_addSounding_6 : decode cX7_addSounding 6 = .ok (.invokevirtual 40, 3) := by decide +kernel
theorem dX7_addSounding_9 : decode cX7_addSounding 9 = .ok (.invokevirtual 44, 3) := by decide +kernel
theorem dX7_addSounding_12 : decode cX7_addSounding 12 = .ok (.isub, 1) := by decide +kernel
theorem dX7_addSounding_13 : decode cX7_addSounding 13 = .ok (.istore 4, 2) := by decide +kernel
theorem dX7_addSounding_15 : decode cX7_addSounding 15 = .ok (.aload_n 0, 1) := by decide +kernel
theorem dX7_addSounding_16 : decode cX7_addSounding 16 = .ok (.getfield 37, 3) := by decide +kernel
theorem dX7_addSounding_19 : decode cX7_addSounding 19 = .ok (.ifCond .lt 63, 3) := by decide +kernel
theorem dX7_addSounding_22 : decode cX7_addSounding 22 = .ok (.aload_n 0, 1) := by decide +kernel
theorem dX7_addSounding_23 : decode cX7_addSounding 23 = .ok (.getfield 37, 3) := by decide +kernel
theorem dX7_addSounding_26 : decode cX7_addSounding 26 = .ok (.bipush 60, 2) := by decide +kernel
theorem dX7_addSounding_28 : decode cX7_addSounding 28 = .ok (.if_icmp .ge 54, 3) := by decide +kernel
theorem dX7_addSounding_31 : decode cX7_addSounding 31 = .ok (.aload_n 0, 1) := by decide +kernel
theorem dX7_addSounding_32 : decode cX7_addSounding 32 = .ok (.getfield 21, 3) := by decide +kernel
theorem dX7_addSounding_35 : decode cX7_addSounding 35 = .ok (.aload_n 0, 1) := by decide +kernel
theorem dX7_addSounding_36 : decode cX7_addSounding 36 = .ok (.getfield 37, 3) := by decide +kernel
theorem dX7_addSounding_39 : decode cX7_addSounding 39 = .ok (.iload_n 1, 1) := by decide +kernel
theorem dX7_addSounding_40 : decode cX7_addSounding 40 = .ok (.iastore, 1) := by decide +kernel
theorem dX7_addSounding_41 : decode cX7_addSounding 41 = .ok (.aload_n 0, 1) := by decide +kernel
theorem dX7_addSounding_42 : decode cX7_addSounding 42 = .ok (.getfield 24, 3) := by decide +kernel
theorem dX7_addSounding_45 : decode cX7_addSounding 45 = .ok (.aload_n 0, 1) := by decide +kernel
theorem dX7_addSounding_46 : decode cX7_addSounding 46 = .ok (.getfield 37, 3) := by decide +kernel
theorem dX7_addSounding_49 : decode cX7_addSounding 49 = .ok (.iload_n 2, 1) := by decide +kernel
theorem dX7_addSounding_50 : decode cX7_addSounding 50 = .ok (.iastore, 1) := by decide +kernel
theorem dX7_addSounding_51 : decode cX7_addSounding 51 = .ok (.aload_n 0, 1) := by decide +kernel
theorem dX7_addSounding_52 : decode cX7_addSounding 52 = .ok (.getfield 27, 3) := by decide +kernel
theorem dX7_addSounding_55 : decode cX7_addSounding 55 = .ok (.aload_n 0, 1) := by decide +kernel
theorem dX7_addSounding_56 : decode cX7_addSounding 56 = .ok (.getfield 37, 3) := by decide +kernel
theorem dX7_addSounding_59 : decode cX7_addSounding 59 = .ok (.iload_n 3, 1) := by decide +kernel
theorem dX7_addSounding_60 : decode cX7_addSounding 60 = .ok (.iastore, 1) := by decide +kernel
theorem dX7_addSounding_61 : decode cX7_addSounding 61 = .ok (.aload_n 0, 1) := by decide +kernel
theorem dX7_addSounding_62 : decode cX7_addSounding 62 = .ok (.getfield 30, 3) := by decide +kernel
theorem dX7_addSounding_65 : decode cX7_addSounding 65 = .ok (.aload_n 0, 1) := by decide +kernel
theorem dX7_addSounding_66 : decode cX7_addSounding 66 = .ok (.getfield 37, 3) := by decide +kernel
theorem dX7_addSounding_69 : decode cX7_addSounding 69 = .ok (.iload 4, 2) := by decide +kernel
theorem dX7_addSounding_71 : decode cX7_addSounding 71 = .ok (.iastore, 1) := by decide +kernel
theorem dX7_addSounding_72 : decode cX7_addSounding 72 = .ok (.aload_n 0, 1) := by decide +kernel
theorem dX7_addSounding_73 : decode cX7_addSounding 73 = .ok (.dup, 1) := by decide +kernel
theorem dX7_addSounding_74 : decode cX7_addSounding 74 = .ok (.getfield 37, 3) := by decide +kernel
theorem dX7_addSounding_77 : decode cX7_addSounding 77 = .ok (.iconst 1, 1) := by decide +kernel
theorem dX7_addSounding_78 : decode cX7_addSounding 78 = .ok (.iadd, 1) := by decide +kernel
theorem dX7_addSounding_79 : decode cX7_addSounding 79 = .ok (.putfield 37, 3) := by decide +kernel
theorem dX7_addSounding_82 : decode cX7_addSounding 82 = .ok (.iload 4, 2) := by decide +kernel
theorem dX7_addSounding_84 : decode cX7_addSounding 84 = .ok (.ireturn, 1) := by decide +kernel
theorem dX7_gasOfReading_0 : decode cX7_gasOfReading 0 = .ok (.iload_n 1, 1) := by decide +kernel
theorem dX7_gasOfReading_1 : decode cX7_gasOfReading 1 = .ok (.ifCond .lt 19, 3) := by decide +kernel
theorem dX7_gasOfReading_4 : decode cX7_gasOfReading 4 = .ok (.iload_n 1, 1) := by decide +kernel
theorem dX7_gasOfReading_5 : decode cX7_gasOfReading 5 = .ok (.sipush 300, 3) := by decide +kernel
theorem dX7_gasOfReading_8 : decode cX7_gasOfReading 8 = .ok (.if_icmp .ge 12, 3) := by decide +kernel
theorem dX7_gasOfReading_11 : decode cX7_gasOfReading 11 = .ok (.aload_n 0, 1) := by decide +kernel
theorem dX7_gasOfReading_12 : decode cX7_gasOfReading 12 = .ok (.getfield 18, 3) := by decide +kernel
theorem dX7_gasOfReading_15 : decode cX7_gasOfReading 15 = .ok (.iload_n 1, 1) := by decide +kernel
theorem dX7_gasOfReading_16 : decode cX7_gasOfReading 16 = .ok (.iaload, 1) := by decide +kernel
theorem dX7_gasOfReading_17 : decode cX7_gasOfReading 17 = .ok (.goto 4, 3) := by decide +kernel
theorem dX7_gasOfReading_20 : decode cX7_gasOfReading 20 = .ok (.iconst 0, 1) := by decide +kernel
theorem dX7_gasOfReading_21 : decode cX7_gasOfReading 21 = .ok (.ireturn, 1) := by decide +kernel
theorem dX7_latestReading_0 : decode cX7_latestReading 0 = .ok (.aload_n 0, 1) := by decide +kernel
theorem dX7_latestReading_1 : decode cX7_latestReading 1 = .ok (.getfield 33, 3) := by decide +kernel
theorem dX7_latestReading_4 : decode cX7_latestReading 4 = .ok (.sipush 300, 3) := by decide +kernel
theorem dX7_latestReading_7 : decode cX7_latestReading 7 = .ok (.invokestatic 48, 3) := by decide +kernel
theorem dX7_latestReading_10 : decode cX7_latestReading 10 = .ok (.iconst 1, 1) := by decide +kernel
theorem dX7_latestReading_11 : decode cX7_latestReading 11 = .ok (.isub, 1) := by decide +kernel
theorem dX7_latestReading_12 : decode cX7_latestReading 12 = .ok (.istore 4, 2) := by decide +kernel
theorem dX7_latestReading_14 : decode cX7_latestReading 14 = .ok (.iload 4, 2) := by decide +kernel
theorem dX7_latestReading_16 : decode cX7_latestReading 16 = .ok (.ifCond .lt 45, 3) := by decide +kernel
theorem dX7_latestReading_19 : decode cX7_latestReading 19 = .ok (.aload_n 0, 1) := by decide +kernel
theorem dX7_latestReading_20 : decode cX7_latestReading 20 = .ok (.getfield 9, 3) := by decide +kernel
theorem dX7_latestReading_23 : decode cX7_latestReading 23 = .ok (.iload 4, 2) := by decide +kernel
theorem dX7_latestReading_25 : decode cX7_latestReading 25 = .ok (.iaload, 1) := by decide +kernel
theorem dX7_latestReading_26 : decode cX7_latestReading 26 = .ok (.iload_n 1, 1) := by decide +kernel
theorem dX7_latestReading_27 : decode cX7_latestReading 27 = .ok (.if_icmp .ne 28, 3) := by decide +kernel
theorem dX7_latestReading_30 : decode cX7_latestReading 30 = .ok (.aload_n 0, 1) := by decide +kernel
theorem dX7_latestReading_31 : decode cX7_latestReading 31 = .ok (.getfield 15, 3) := by decide +kernel
theorem dX7_latestReading_34 : decode cX7_latestReading 34 = .ok (.iload 4, 2) := by decide +kernel
theorem dX7_latestReading_36 : decode cX7_latestReading 36 = .ok (.iaload, 1) := by decide +kernel
theorem dX7_latestReading_37 : decode cX7_latestReading 37 = .ok (.iload_n 2, 1) := by decide +kernel
theorem dX7_latestReading_38 : decode cX7_latestReading 38 = .ok (.if_icmp .lt 17, 3) := by decide +kernel
theorem dX7_latestReading_41 : decode cX7_latestReading 41 = .ok (.aload_n 0, 1) := by decide +kernel
theorem dX7_latestReading_42 : decode cX7_latestReading 42 = .ok (.getfield 15, 3) := by decide +kernel
theorem dX7_latestReading_45 : decode cX7_latestReading 45 = .ok (.iload 4, 2) := by decide +kernel
theorem dX7_latestReading_47 : decode cX7_latestReading 47 = .ok (.iaload, 1) := by decide +kernel
theorem dX7_latestReading_48 : decode cX7_latestReading 48 = .ok (.iload_n 3, 1) := by decide +kernel
theorem dX7_latestReading_49 : decode cX7_latestReading 49 = .ok (.if_icmp .gt 6, 3) := by decide +kernel
theorem dX7_latestReading_52 : decode cX7_latestReading 52 = .ok (.iload 4, 2) := by decide +kernel
theorem dX7_latestReading_54 : decode cX7_latestReading 54 = .ok (.ireturn, 1) := by decide +kernel
theorem dX7_latestReading_55 : decode cX7_latestReading 55 = .ok (.iinc 4 (-1), 3) := by decide +kernel
theorem dX7_latestReading_58 : decode cX7_latestReading 58 = .ok (.goto (-44), 3) := by decide +kernel
theorem dX7_latestReading_61 : decode cX7_latestReading 61 = .ok (.iconst (-1), 1) := by decide +kernel
theorem dX7_latestReading_62 : decode cX7_latestReading 62 = .ok (.ireturn, 1) := by decide +kernel
theorem dX7_latestAlive_0 : decode cX7_latestAlive 0 = .ok (.aload_n 0, 1) := by decide +kernel
theorem dX7_latestAlive_1 : decode cX7_latestAlive 1 = .ok (.iload_n 1, 1) := by decide +kernel
theorem dX7_latestAlive_2 : decode cX7_latestAlive 2 = .ok (.iload_n 2, 1) := by decide +kernel
theorem dX7_latestAlive_3 : decode cX7_latestAlive 3 = .ok (.bipush 7, 2) := by decide +kernel
theorem dX7_latestAlive_5 : decode cX7_latestAlive 5 = .ok (.isub, 1) := by decide +kernel
theorem dX7_latestAlive_6 : decode cX7_latestAlive 6 = .ok (.iconst 1, 1) := by decide +kernel
theorem dX7_latestAlive_7 : decode cX7_latestAlive 7 = .ok (.iadd, 1) := by decide +kernel
theorem dX7_latestAlive_8 : decode cX7_latestAlive 8 = .ok (.iload_n 2, 1) := by decide +kernel
theorem dX7_latestAlive_9 : decode cX7_latestAlive 9 = .ok (.invokevirtual 40, 3) := by decide +kernel
theorem dX7_latestAlive_12 : decode cX7_latestAlive 12 = .ok (.ireturn, 1) := by decide +kernel
theorem dX7_isDead_0 : decode cX7_isDead 0 = .ok (.aload_n 0, 1) := by decide +kernel
theorem dX7_isDead_1 : decode cX7_isDead 1 = .ok (.iload_n 1, 1) := by decide +kernel
theorem dX7_isDead_2 : decode cX7_isDead 2 = .ok (.iload_n 2, 1) := by decide +kernel
theorem dX7_isDead_3 : decode cX7_isDead 3 = .ok (.invokevirtual 54, 3) := by decide +kernel
theorem dX7_isDead_6 : decode cX7_isDead 6 = .ok (.iconst (-1), 1) := by decide +kernel
theorem dX7_isDead_7 : decode cX7_isDead 7 = .ok (.if_icmp .ne 7, 3) := by decide +kernel
theorem dX7_isDead_10 : decode cX7_isDead 10 = .ok (.iconst 1, 1) := by decide +kernel
theorem dX7_isDead_11 : decode cX7_isDead 11 = .ok (.goto 4, 3) := by decide +kernel
theorem dX7_isDead_14 : decode cX7_isDead 14 = .ok (.iconst 0, 1) := by decide +kernel
theorem dX7_isDead_15 : decode cX7_isDead 15 = .ok (.ireturn, 1) := by decide +kernel
theorem dX7_toldGas_0 : decode cX7_toldGas 0 = .ok (.aload_n 0, 1) := by decide +kernel
theorem dX7_toldGas_1 : decode cX7_toldGas 1 = .ok (.iload_n 1, 1) := by decide +kernel
theorem dX7_toldGas_2 : decode cX7_toldGas 2 = .ok (.iload_n 2, 1) := by decide +kernel
theorem dX7_toldGas_3 : decode cX7_toldGas 3 = .ok (.invokevirtual 54, 3) := by decide +kernel
theorem dX7_toldGas_6 : decode cX7_toldGas 6 = .ok (.istore 4, 2) := by decide +kernel
theorem dX7_toldGas_8 : decode cX7_toldGas 8 = .ok (.iload 4, 2) := by decide +kernel
theorem dX7_toldGas_10 : decode cX7_toldGas 10 = .ok (.iconst (-1), 1) := by decide +kernel
theorem dX7_toldGas_11 : decode cX7_toldGas 11 = .ok (.if_icmp .ne 7, 3) := by decide +kernel
theorem dX7_toldGas_14 : decode cX7_toldGas 14 = .ok (.iload_n 3, 1) := by decide +kernel
theorem dX7_toldGas_15 : decode cX7_toldGas 15 = .ok (.goto 10, 3) := by decide +kernel
theorem dX7_toldGas_18 : decode cX7_toldGas 18 = .ok (.aload_n 0, 1) := by decide +kernel
theorem dX7_toldGas_19 : decode cX7_toldGas 19 = .ok (.iload 4, 2) := by decide +kernel
theorem dX7_toldGas_21 : decode cX7_toldGas 21 = .ok (.iload_n 2, 1) := by decide +kernel
theorem dX7_toldGas_22 : decode cX7_toldGas 22 = .ok (.invokevirtual 57, 3) := by decide +kernel
theorem dX7_toldGas_25 : decode cX7_toldGas 25 = .ok (.ireturn, 1) := by decide +kernel
theorem dX7_putRight_0 : decode cX7_putRight 0 = .ok (.iload_n 1, 1) := by decide +kernel
theorem dX7_putRight_1 : decode cX7_putRight 1 = .ok (.ifCond .lt 10, 3) := by decide +kernel
theorem dX7_putRight_4 : decode cX7_putRight 4 = .ok (.iload_n 1, 1) := by decide +kernel
theorem dX7_putRight_5 : decode cX7_putRight 5 = .ok (.sipush 300, 3) := by decide +kernel
theorem dX7_putRight_8 : decode cX7_putRight 8 = .ok (.if_icmp .lt 5, 3) := by decide +kernel
theorem dX7_putRight_11 : decode cX7_putRight 11 = .ok (.iconst 0, 1) := by decide +kernel
theorem dX7_putRight_12 : decode cX7_putRight 12 = .ok (.ireturn, 1) := by decide +kernel
theorem dX7_putRight_13 : decode cX7_putRight 13 = .ok (.aload_n 0, 1) := by decide +kernel
theorem dX7_putRight_14 : decode cX7_putRight 14 = .ok (.aload_n 0, 1) := by decide +kernel
theorem dX7_putRight_15 : decode cX7_putRight 15 = .ok (.getfield 9, 3) := by decide +kernel
theorem dX7_putRight_18 : decode cX7_putRight 18 = .ok (.iload_n 1, 1) := by decide +kernel
theorem dX7_putRight_19 : decode cX7_putRight 19 = .ok (.iaload, 1) := by decide +kernel
theorem dX7_putRight_20 : decode cX7_putRight 20 = .ok (.aload_n 0, 1) := by decide +kernel
theorem dX7_putRight_21 : decode cX7_putRight 21 = .ok (.getfield 15, 3) := by decide +kernel
theorem dX7_putRight_24 : decode cX7_putRight 24 = .ok (.iload_n 1, 1) := by decide +kernel
theorem dX7_putRight_25 : decode cX7_putRight 25 = .ok (.iaload, 1) := by decide +kernel
theorem dX7_putRight_26 : decode cX7_putRight 26 = .ok (.iload_n 2, 1) := by decide +kernel
theorem dX7_putRight_27 : decode cX7_putRight 27 = .ok (.invokevirtual 60, 3) := by decide +kernel
theorem dX7_putRight_30 : decode cX7_putRight 30 = .ok (.istore_n 3, 1) := by decide +kernel
theorem dX7_putRight_31 : decode cX7_putRight 31 = .ok (.iconst 0, 1) := by decide +kernel
theorem dX7_putRight_32 : decode cX7_putRight 32 = .ok (.ldc 63, 2) := by decide +kernel
theorem dX7_putRight_34 : decode cX7_putRight 34 = .ok (.aload_n 0, 1) := by decide +kernel
theorem dX7_putRight_35 : decode cX7_putRight 35 = .ok (.getfield 18, 3) := by decide +kernel
theorem dX7_putRight_38 : decode cX7_putRight 38 = .ok (.iload_n 1, 1) := by decide +kernel
theorem dX7_putRight_39 : decode cX7_putRight 39 = .ok (.iaload, 1) := by decide +kernel
theorem dX7_putRight_40 : decode cX7_putRight 40 = .ok (.iload_n 3, 1) := by decide +kernel
theorem dX7_putRight_41 : decode cX7_putRight 41 = .ok (.iadd, 1) := by decide +kernel
theorem dX7_putRight_42 : decode cX7_putRight 42 = .ok (.invokestatic 48, 3) := by decide +kernel
theorem dX7_putRight_45 : decode cX7_putRight 45 = .ok (.invokestatic 64, 3) := by decide +kernel
theorem dX7_putRight_48 : decode cX7_putRight 48 = .ok (.ireturn, 1) := by decide +kernel
theorem dX7_driftOn_0 : decode cX7_driftOn 0 = .ok (.iconst (-1), 1) := by decide +kernel
theorem dX7_driftOn_1 : decode cX7_driftOn 1 = .ok (.istore 4, 2) := by decide +kernel
theorem dX7_driftOn_3 : decode cX7_driftOn 3 = .ok (.iconst (-1), 1) := by decide +kernel
theorem dX7_driftOn_4 : decode cX7_driftOn 4 = .ok (.istore 5, 2) := by decide +kernel
theorem dX7_driftOn_6 : decode cX7_driftOn 6 = .ok (.iconst 0, 1) := by decide +kernel
theorem dX7_driftOn_7 : decode cX7_driftOn 7 = .ok (.istore 6, 2) := by decide +kernel
theorem dX7_driftOn_9 : decode cX7_driftOn 9 = .ok (.iload 6, 2) := by decide +kernel
theorem dX7_driftOn_11 : decode cX7_driftOn 11 = .ok (.aload_n 0, 1) := by decide +kernel
theorem dX7_driftOn_12 : decode cX7_driftOn 12 = .ok (.getfield 37, 3) := by decide +kernel
theorem dX7_driftOn_15 : decode cX7_driftOn 15 = .ok (.if_icmp .ge 83, 3) := by decide +kernel
theorem dX7_driftOn_18 : decode cX7_driftOn 18 = .ok (.iload 6, 2) := by decide +kernel
theorem dX7_driftOn_20 : decode cX7_driftOn 20 = .ok (.bipush 60, 2) := by decide +kernel
theorem dX7_driftOn_22 : decode cX7_driftOn 22 = .ok (.if_icmp .ge 76, 3) := by decide +kernel
theorem dX7_driftOn_25 : decode cX7_driftOn 25 = .ok (.aload_n 0, 1) := by decide +kernel
theorem dX7_driftOn_26 : decode cX7_driftOn 26 = .ok (.getfield 21, 3) := by decide +kernel
theorem dX7_driftOn_29 : decode cX7_driftOn 29 = .ok (.iload 6, 2) := by decide +kernel
theorem dX7_driftOn_31 : decode cX7_driftOn 31 = .ok (.iaload, 1) := by decide +kernel
theorem dX7_driftOn_32 : decode cX7_driftOn 32 = .ok (.iload_n 1, 1) := by decide +kernel
theorem dX7_driftOn_33 : decode cX7_driftOn 33 = .ok (.if_icmp .ne 59, 3) := by decide +kernel
theorem dX7_driftOn_36 : decode cX7_driftOn 36 = .ok (.aload_n 0, 1) := by decide +kernel
theorem dX7_driftOn_37 : decode cX7_driftOn 37 = .ok (.getfield 24, 3) := by decide +kernel
theorem dX7_driftOn_40 : decode cX7_driftOn 40 = .ok (.iload 6, 2) := by decide +kernel
theorem dX7_driftOn_42 : decode cX7_driftOn 42 = .ok (.iaload, 1) := by decide +kernel
theorem dX7_driftOn_43 : decode cX7_driftOn 43 = .ok (.iload_n 3, 1) := by decide +kernel
theorem dX7_driftOn_44 : decode cX7_driftOn 44 = .ok (.if_icmp .gt 48, 3) := by decide +kernel
theorem dX7_driftOn_47 : decode cX7_driftOn 47 = .ok (.aload_n 0, 1) := by decide +kernel
theorem dX7_driftOn_48 : decode cX7_driftOn 48 = .ok (.getfield 24, 3) := by decide +kernel
theorem dX7_driftOn_51 : decode cX7_driftOn 51 = .ok (.iload 6, 2) := by decide +kernel
theorem dX7_driftOn_53 : decode cX7_driftOn 53 = .ok (.iaload, 1) := by decide +kernel
theorem dX7_driftOn_54 : decode cX7_driftOn 54 = .ok (.iload_n 2, 1) := by decide +kernel
theorem dX7_driftOn_55 : decode cX7_driftOn 55 = .ok (.if_icmp .gt 10, 3) := by decide +kernel
theorem dX7_driftOn_58 : decode cX7_driftOn 58 = .ok (.iload 6, 2) := by decide +kernel
theorem dX7_driftOn_60 : decode cX7_driftOn 60 = .ok (.istore 4, 2) := by decide +kernel
theorem dX7_driftOn_62 : decode cX7_driftOn 62 = .ok (.goto 30, 3) := by decide +kernel
theorem dX7_driftOn_65 : decode cX7_driftOn 65 = .ok (.iload 5, 2) := by decide +kernel
theorem dX7_driftOn_67 : decode cX7_driftOn 67 = .ok (.iconst (-1), 1) := by decide +kernel
theorem dX7_driftOn_68 : decode cX7_driftOn 68 = .ok (.if_icmp .eq 20, 3) := by decide +kernel
theorem dX7_driftOn_71 : decode cX7_driftOn 71 = .ok (.aload_n 0, 1) := by decide +kernel
theorem dX7_driftOn_72 : decode cX7_driftOn 72 = .ok (.getfield 24, 3) := by decide +kernel
theorem dX7_driftOn_75 : decode cX7_driftOn 75 = .ok (.iload 6, 2) := by decide +kernel
theorem dX7_driftOn_77 : decode cX7_driftOn 77 = .ok (.iaload, 1) := by decide +kernel
theorem dX7_driftOn_78 : decode cX7_driftOn 78 = .ok (.aload_n 0, 1) := by decide +kernel
theorem dX7_driftOn_79 : decode cX7_driftOn 79 = .ok (.getfield 24, 3) := by decide +kernel
theorem dX7_driftOn_82 : decode cX7_driftOn 82 = .ok (.iload 5, 2) := by decide +kernel
theorem dX7_driftOn_84 : decode cX7_driftOn 84 = .ok (.iaload, 1) := by decide +kernel
theorem dX7_driftOn_85 : decode cX7_driftOn 85 = .ok (.if_icmp .ne 7, 3) := by decide +kernel
theorem dX7_driftOn_88 : decode cX7_driftOn 88 = .ok (.iload 6, 2) := by decide +kernel
theorem dX7_driftOn_90 : decode cX7_driftOn 90 = .ok (.istore 5, 2) := by decide +kernel
theorem dX7_driftOn_92 : decode cX7_driftOn 92 = .ok (.iinc 6 1, 3) := by decide +kernel
theorem dX7_driftOn_95 : decode cX7_driftOn 95 = .ok (.goto (-86), 3) := by decide +kernel
theorem dX7_driftOn_98 : decode cX7_driftOn 98 = .ok (.iload 4, 2) := by decide +kernel
theorem dX7_driftOn_100 : decode cX7_driftOn 100 = .ok (.iconst (-1), 1) := by decide +kernel
theorem dX7_driftOn_101 : decode cX7_driftOn 101 = .ok (.if_icmp .ne 21, 3) := by decide +kernel
theorem dX7_driftOn_104 : decode cX7_driftOn 104 = .ok (.iload 5, 2) := by decide +kernel
theorem dX7_driftOn_106 : decode cX7_driftOn 106 = .ok (.iconst (-1), 1) := by decide +kernel
theorem dX7_driftOn_107 : decode cX7_driftOn 107 = .ok (.if_icmp .ne 7, 3) := by decide +kernel
theorem dX7_driftOn_110 : decode cX7_driftOn 110 = .ok (.iconst 0, 1) := by decide +kernel
theorem dX7_driftOn_111 : decode cX7_driftOn 111 = .ok (.goto 10, 3) := by decide +kernel
theorem dX7_driftOn_114 : decode cX7_driftOn 114 = .ok (.aload_n 0, 1) := by decide +kernel
theorem dX7_driftOn_115 : decode cX7_driftOn 115 = .ok (.getfield 30, 3) := by decide +kernel
theorem dX7_driftOn_118 : decode cX7_driftOn 118 = .ok (.iload 5, 2) := by decide +kernel
theorem dX7_driftOn_120 : decode cX7_driftOn 120 = .ok (.iaload, 1) := by decide +kernel
theorem dX7_driftOn_121 : decode cX7_driftOn 121 = .ok (.ireturn, 1) := by decide +kernel
theorem dX7_driftOn_122 : decode cX7_driftOn 122 = .ok (.iload 5, 2) := by decide +kernel
theorem dX7_driftOn_124 : decode cX7_driftOn 124 = .ok (.iconst (-1), 1) := by decide +kernel
theorem dX7_driftOn_125 : decode cX7_driftOn 125 = .ok (.if_icmp .ne 7, 3) := by decide +kernel
theorem dX7_driftOn_128 : decode cX7_driftOn 128 = .ok (.iconst 0, 1) := by decide +kernel
theorem dX7_driftOn_129 : decode cX7_driftOn 129 = .ok (.goto 18, 3) := by decide +kernel
theorem dX7_driftOn_132 : decode cX7_driftOn 132 = .ok (.aload_n 0, 1) := by decide +kernel
theorem dX7_driftOn_133 : decode cX7_driftOn 133 = .ok (.getfield 24, 3) := by decide +kernel
theorem dX7_driftOn_136 : decode cX7_driftOn 136 = .ok (.iload 5, 2) := by decide +kernel
theorem dX7_driftOn_138 : decode cX7_driftOn 138 = .ok (.iaload, 1) := by decide +kernel
theorem dX7_driftOn_139 : decode cX7_driftOn 139 = .ok (.aload_n 0, 1) := by decide +kernel
theorem dX7_driftOn_140 : decode cX7_driftOn 140 = .ok (.getfield 24, 3) := by decide +kernel
theorem dX7_driftOn_143 : decode cX7_driftOn 143 = .ok (.iload 4, 2) := by decide +kernel
theorem dX7_driftOn_145 : decode cX7_driftOn 145 = .ok (.iaload, 1) := by decide +kernel
theorem dX7_driftOn_146 : decode cX7_driftOn 146 = .ok (.isub, 1) := by decide +kernel
theorem dX7_driftOn_147 : decode cX7_driftOn 147 = .ok (.istore 6, 2) := by decide +kernel
theorem dX7_driftOn_149 : decode cX7_driftOn 149 = .ok (.iload 6, 2) := by decide +kernel
theorem dX7_driftOn_151 : decode cX7_driftOn 151 = .ok (.ifCond .gt 11, 3) := by decide +kernel
theorem dX7_driftOn_154 : decode cX7_driftOn 154 = .ok (.aload_n 0, 1) := by decide +kernel
theorem dX7_driftOn_155 : decode cX7_driftOn 155 = .ok (.getfield 30, 3) := by decide +kernel
theorem dX7_driftOn_158 : decode cX7_driftOn 158 = .ok (.iload 4, 2) := by decide +kernel
theorem dX7_driftOn_160 : decode cX7_driftOn 160 = .ok (.iaload, 1) := by decide +kernel
theorem dX7_driftOn_161 : decode cX7_driftOn 161 = .ok (.ireturn, 1) := by decide +kernel
theorem dX7_driftOn_162 : decode cX7_driftOn 162 = .ok (.aload_n 0, 1) := by decide +kernel
theorem dX7_driftOn_163 : decode cX7_driftOn 163 = .ok (.getfield 30, 3) := by decide +kernel
theorem dX7_driftOn_166 : decode cX7_driftOn 166 = .ok (.iload 5, 2) := by decide +kernel
theorem dX7_driftOn_168 : decode cX7_driftOn 168 = .ok (.iaload, 1) := by decide +kernel
theorem dX7_driftOn_169 : decode cX7_driftOn 169 = .ok (.aload_n 0, 1) := by decide +kernel
theorem dX7_driftOn_170 : decode cX7_driftOn 170 = .ok (.getfield 30, 3) := by decide +kernel
theorem dX7_driftOn_173 : decode cX7_driftOn 173 = .ok (.iload 4, 2) := by decide +kernel
theorem dX7_driftOn_175 : decode cX7_driftOn 175 = .ok (.iaload, 1) := by decide +kernel
theorem dX7_driftOn_176 : decode cX7_driftOn 176 = .ok (.isub, 1) := by decide +kernel
theorem dX7_driftOn_177 : decode cX7_driftOn 177 = .ok (.istore 7, 2) := by decide +kernel
theorem dX7_driftOn_179 : decode cX7_driftOn 179 = .ok (.aload_n 0, 1) := by decide +kernel
theorem dX7_driftOn_180 : decode cX7_driftOn 180 = .ok (.getfield 30, 3) := by decide +kernel
theorem dX7_driftOn_183 : decode cX7_driftOn 183 = .ok (.iload 4, 2) := by decide +kernel
theorem dX7_driftOn_185 : decode cX7_driftOn 185 = .ok (.iaload, 1) := by decide +kernel
theorem dX7_driftOn_186 : decode cX7_driftOn 186 = .ok (.iload 7, 2) := by decide +kernel
theorem dX7_driftOn_188 : decode cX7_driftOn 188 = .ok (.iload_n 2, 1) := by decide +kernel
theorem dX7_driftOn_189 : decode cX7_driftOn 189 = .ok (.aload_n 0, 1) := by decide +kernel
theorem dX7_driftOn_190 : decode cX7_driftOn 190 = .ok (.getfield 24, 3) := by decide +kernel
theorem dX7_driftOn_193 : decode cX7_driftOn 193 = .ok (.iload 4, 2) := by decide +kernel
theorem dX7_driftOn_195 : decode cX7_driftOn 195 = .ok (.iaload, 1) := by decide +kernel
theorem dX7_driftOn_196 : decode cX7_driftOn 196 = .ok (.isub, 1) := by decide +kernel
theorem dX7_driftOn_197 : decode cX7_driftOn 197 = .ok (.imul, 1) := by decide +kernel
theorem dX7_driftOn_198 : decode cX7_driftOn 198 = .ok (.iload 6, 2) := by decide +kernel
theorem dX7_driftOn_200 : decode cX7_driftOn 200 = .ok (.invokestatic 67, 3) := by decide +kernel
theorem dX7_driftOn_203 : decode cX7_driftOn 203 = .ok (.iadd, 1) := by decide +kernel
theorem dX7_driftOn_204 : decode cX7_driftOn 204 = .ok (.ireturn, 1) := by decide +kernel
theorem dX8_init_0 : decode cX8_init 0 = .ok (.aload_n 0, 1) := by decide +kernel
theorem dX8_init_1 : decode cX8_init 1 = .ok (.invokespecial 1, 3) := by decide +kernel
theorem dX8_init_4 : decode cX8_init 4 = .ok (.aload_n 0, 1) := by decide +kernel
theorem dX8_init_5 : decode cX8_init 5 = .ok (.iload_n 1, 1) := by decide +kernel
theorem dX8_init_6 : decode cX8_init 6 = .ok (.putfield 7, 3) := by decide +kernel
theorem dX8_init_9 : decode cX8_init 9 = .ok (.aload_n 0, 1) := by decide +kernel
theorem dX8_init_10 : decode cX8_init 10 = .ok (.iload_n 2, 1) := by decide +kernel
theorem dX8_init_11 : decode cX8_init 11 = .ok (.putfield 13, 3) := by decide +kernel
theorem dX8_init_14 : decode cX8_init 14 = .ok (.return_, 1) := by decide +kernel
theorem dX9_init_0 : decode cX9_init 0 = .ok (.aload_n 0, 1) := by decide +kernel
theorem dX9_init_1 : decode cX9_init 1 = .ok (.invokespecial 1, 3) := by decide +kernel
theorem dX9_init_4 : decode cX9_init 4 = .ok (.aload_n 0, 1) := by decide +kernel
theorem dX9_init_5 : decode cX9_init 5 = .ok (.iconst 2, 1) := by decide +kernel
theorem dX9_init_6 : decode cX9_init 6 = .ok (.anewarray 9, 3) := by decide +kernel
theorem dX9_init_9 : decode cX9_init 9 = .ok (.putfield 11, 3) := by decide +kernel
theorem dX9_init_12 : decode cX9_init 12 = .ok (.aload_n 0, 1) := by decide +kernel
theorem dX9_init_13 : decode cX9_init 13 = .ok (.new 9, 3) := by decide +kernel
theorem dX9_init_16 : decode cX9_init 16 = .ok (.dup, 1) := by decide +kernel
theorem dX9_init_17 : decode cX9_init 17 = .ok (.iconst 0, 1) := by decide +kernel
theorem dX9_init_18 : decode cX9_init 18 = .ok (.invokespecial 15, 3) := by decide +kernel
theorem dX9_init_21 : decode cX9_init 21 = .ok (.putfield 18, 3) := by decide +kernel
theorem dX9_init_24 : decode cX9_init 24 = .ok (.aload_n 0, 1) := by decide +kernel
theorem dX9_init_25 : decode cX9_init 25 = .ok (.bipush 6, 2) := by decide +kernel
theorem dX9_init_27 : decode cX9_init 27 = .ok (.anewarray 22, 3) := by decide +kernel
theorem dX9_init_30 : decode cX9_init 30 = .ok (.putfield 24, 3) := by decide +kernel
theorem dX9_init_33 : decode cX9_init 33 = .ok (.aload_n 0, 1) := by decide +kernel
theorem dX9_init_34 : decode cX9_init 34 = .ok (.iconst 3, 1) := by decide +kernel
theorem dX9_init_35 : decode cX9_init 35 = .ok (.newarray .int, 2) := by decide +kernel
theorem dX9_init_37 : decode cX9_init 37 = .ok (.putfield 28, 3) := by decide +kernel
theorem dX9_init_40 : decode cX9_init 40 = .ok (.aload_n 0, 1) := by decide +kernel
theorem dX9_init_41 : decode cX9_init 41 = .ok (.iconst 3, 1) := by decide +kernel
theorem dX9_init_42 : decode cX9_init 42 = .ok (.newarray .int, 2) := by decide +kernel
theorem dX9_init_44 : decode cX9_init 44 = .ok (.putfield 32, 3) := by decide +kernel
theorem dX9_init_47 : decode cX9_init 47 = .ok (.aload_n 0, 1) := by decide +kernel
theorem dX9_init_48 : decode cX9_init 48 = .ok (.new 35, 3) := by decide +kernel
theorem dX9_init_51 : decode cX9_init 51 = .ok (.dup, 1) := by decide +kernel
theorem dX9_init_52 : decode cX9_init 52 = .ok (.invokespecial 37, 3) := by decide +kernel
theorem dX9_init_55 : decode cX9_init 55 = .ok (.putfield 38, 3) := by decide +kernel
theorem dX9_init_58 : decode cX9_init 58 = .ok (.aload_n 0, 1) := by decide +kernel
theorem dX9_init_59 : decode cX9_init 59 = .ok (.new 42, 3) := by decide +kernel
theorem dX9_init_62 : decode cX9_init 62 = .ok (.dup, 1) := by decide +kernel
theorem dX9_init_63 : decode cX9_init 63 = .ok (.invokespecial 44, 3) := by decide +kernel
theorem dX9_init_66 : decode cX9_init 66 = .ok (.putfield 45, 3) := by decide +kernel
theorem dX9_init_69 : decode cX9_init 69 = .ok (.aload_n 0, 1) := by decide +kernel
theorem dX9_init_70 : decode cX9_init 70 = .ok (.new 49, 3) := by decide +kernel
theorem dX9_init_73 : decode cX9_init 73 = .ok (.dup, 1) := by decide +kernel
theorem dX9_init_74 : decode cX9_init 74 = .ok (.invokespecial 51, 3) := by decide +kernel
theorem dX9_init_77 : decode cX9_init 77 = .ok (.putfield 52, 3) := by decide +kernel
theorem dX9_init_80 : decode cX9_init 80 = .ok (.aload_n 0, 1) := by decide +kernel
theorem dX9_init_81 : decode cX9_init 81 = .ok (.bipush 20, 2) := by decide +kernel
theorem dX9_init_83 : decode cX9_init 83 = .ok (.anewarray 56, 3) := by decide +kernel
theorem dX9_init_86 : decode cX9_init 86 = .ok (.putfield 58, 3) := by decide +kernel
theorem dX9_init_89 : decode cX9_init 89 = .ok (.aload_n 0, 1) := by decide +kernel
theorem dX9_init_90 : decode cX9_init 90 = .ok (.bipush (-2), 2) := by decide +kernel
theorem dX9_init_92 : decode cX9_init 92 = .ok (.putfield 62, 3) := by decide +kernel
theorem dX9_init_95 : decode cX9_init 95 = .ok (.iconst 0, 1) := by decide +kernel
theorem dX9_init_96 : decode cX9_init 96 = .ok (.istore_n 1, 1) := by decide +kernel
theorem dX9_init_97 : decode cX9_init 97 = .ok (.iload_n 1, 1) := by decide +kernel
theorem dX9_init_98 : decode cX9_init 98 = .ok (.aload_n 0, 1) := by decide +kernel
theorem dX9_init_99 : decode cX9_init 99 = .ok (.getfield 11, 3) := by decide +kernel
theorem dX9_init_102 : decode cX9_init 102 = .ok (.arraylength, 1) := by decide +kernel
theorem dX9_init_103 : decode cX9_init 103 = .ok (.if_icmp .ge 33, 3) := by decide +kernel
theorem dX9_init_106 : decode cX9_init 106 = .ok (.aload_n 0, 1) := by decide +kernel
theorem dX9_init_107 : decode cX9_init 107 = .ok (.getfield 11, 3) := by decide +kernel
theorem dX9_init_110 : decode cX9_init 110 = .ok (.iload_n 1, 1) := by decide +kernel
theorem dX9_init_111 : decode cX9_init 111 = .ok (.new 9, 3) := by decide +kernel
theorem dX9_init_114 : decode cX9_init 114 = .ok (.dup, 1) := by decide +kernel
theorem dX9_init_115 : decode cX9_init 115 = .ok (.iload_n 1, 1) := by decide +kernel
theorem dX9_init_116 : decode cX9_init 116 = .ok (.ifCond .ne 7, 3) := by decide +kernel
theorem dX9_init_119 : decode cX9_init 119 = .ok (.iconst 0, 1) := by decide +kernel
theorem dX9_init_120 : decode cX9_init 120 = .ok (.goto 6, 3) := by decide +kernel
theorem dX9_init_123 : decode cX9_init 123 = .ok (.sipush 399, 3) := by decide +kernel
theorem dX9_init_126 : decode cX9_init 126 = .ok (.invokespecial 15, 3) := by decide +kernel
theorem dX9_init_129 : decode cX9_init 129 = .ok (.aastore, 1) := by decide +kernel
theorem dX9_init_130 : decode cX9_init 130 = .ok (.iinc 1 1, 3) := by decide +kernel
theorem dX9_init_133 : decode cX9_init 133 = .ok (.goto (-36), 3) := by decide +kernel
theorem dX9_init_136 : decode cX9_init 136 = .ok (.return_, 1) := by decide +kernel
theorem dX9_layer_0 : decode cX9_layer 0 = .ok (.aload_n 0, 1) := by decide +kernel
theorem dX9_layer_1 : decode cX9_layer 1 = .ok (.iload_n 1, 1) := by decide +kernel
theorem dX9_layer_2 : decode cX9_layer 2 = .ok (.invokevirtual 66, 3) := by decide +kernel
theorem dX9_layer_5 : decode cX9_layer 5 = .ok (.astore 6, 2) := by decide +kernel
theorem dX9_layer_7 : decode cX9_layer 7 = .ok (.aload 6, 2) := by decide +kernel
theorem dX9_layer_9 : decode cX9_layer 9 = .ok (.ifnull 10, 3) := by decide +kernel
theorem dX9_layer_12 : decode cX9_layer 12 = .ok (.iload_n 2, 1) := by decide +kernel
theorem dX9_layer_13 : decode cX9_layer 13 = .ok (.invokestatic 70, 3) := by decide +kernel
theorem dX9_layer_16 : decode cX9_layer 16 = .ok (.ifCond .ne 9, 3) := by decide +kernel
theorem dX9_layer_19 : decode cX9_layer 19 = .ok (.aload_n 0, 1) := by decide +kernel
theorem dX9_layer_20 : decode cX9_layer 20 = .ok (.iconst 1, 1) := by decide +kernel
theorem dX9_layer_21 : decode cX9_layer 21 = .ok (.invokevirtual 74, 3) := by decide +kernel
theorem dX9_layer_24 : decode cX9_layer 24 = .ok (.ireturn, 1) := by decide +kernel
theorem dX9_layer_25 : decode cX9_layer 25 = .ok (.iload_n 3, 1) := by decide +kernel
theorem dX9_layer_26 : decode cX9_layer 26 = .ok (.iconst 0, 1) := by decide +kernel
theorem dX9_layer_27 : decode cX9_layer 27 = .ok (.ldc 77, 2) := by decide +kernel
theorem dX9_layer_29 : decode cX9_layer 29 = .ok (.invokestatic 78, 3) := by decide +kernel
theorem dX9_layer_32 : decode cX9_layer 32 = .ok (.ifCond .eq 27, 3) := by decide +kernel
theorem dX9_layer_35 : decode cX9_layer 35 = .ok (.iload 4, 2) := by decide +kernel
theorem dX9_layer_37 : decode cX9_layer 37 = .ok (.iconst 0, 1) := by decide +kernel
theorem dX9_layer_38 : decode cX9_layer 38 = .ok (.sipush 400, 3) := by decide +kernel
theorem dX9_layer_41 : decode cX9_layer 41 = .ok (.invokestatic 78, 3) := by decide +kernel
theorem dX9_layer_44 : decode cX9_layer 44 = .ok (.ifCond .eq 15, 3) := by decide +kernel
theorem dX9_layer_47 : decode cX9_layer 47 = .ok (.iload 5, 2) := by decide +kernel
theorem dX9_layer_49 : decode cX9_layer 49 = .ok (.iconst 0, 1) := by decide +kernel
theorem dX9_layer_50 : decode cX9_layer 50 = .ok (.sipush 1000, 3) := by decide +kernel
theorem dX9_layer_53 : decode cX9_layer 53 = .ok (.invokestatic 78, 3) := by decide +kernel
theorem dX9_layer_56 : decode cX9_layer 56 = .ok (.ifCond .ne 9, 3) := by decide +kernel
theorem dX9_layer_59 : decode cX9_layer 59 = .ok (.aload_n 0, 1) := by decide +kernel
theorem dX9_layer_60 : decode cX9_layer 60 = .ok (.iconst 2, 1) := by decide +kernel
theorem dX9_layer_61 : decode cX9_layer 61 = .ok (.invokevirtual 74, 3) := by decide +kernel
theorem dX9_layer_64 : decode cX9_layer 64 = .ok (.ireturn, 1) := by decide +kernel
theorem dX9_layer_65 : decode cX9_layer 65 = .ok (.aload 6, 2) := by decide +kernel
theorem dX9_layer_67 : decode cX9_layer 67 = .ok (.iload_n 2, 1) := by decide +kernel
theorem dX9_layer_68 : decode cX9_layer 68 = .ok (.iload_n 3, 1) := by decide +kernel
theorem dX9_layer_69 : decode cX9_layer 69 = .ok (.iload 4, 2) := by decide +kernel
theorem dX9_layer_71 : decode cX9_layer 71 = .ok (.iload 5, 2) := by decide +kernel
theorem dX9_layer_73 : decode cX9_layer 73 = .ok (.invokevirtual 82, 3) := by decide +kernel
theorem dX9_layer_76 : decode cX9_layer 76 = .ok (.aload_n 0, 1) := by decide +kernel
theorem dX9_layer_77 : decode cX9_layer 77 = .ok (.invokevirtual 86, 3) := by decide +kernel
theorem dX9_layer_80 : decode cX9_layer 80 = .ok (.ireturn, 1) := by decide +kernel
theorem dX9_set_0 : decode cX9_set 0 = .ok (.aload_n 0, 1) := by decide +kernel
theorem dX9_set_1 : decode cX9_set 1 = .ok (.iload_n 1, 1) := by decide +kernel
theorem dX9_set_2 : decode cX9_set 2 = .ok (.invokevirtual 66, 3) := by decide +kernel
theorem dX9_set_5 : decode cX9_set 5 = .ok (.astore 4, 2) := by decide +kernel
theorem dX9_set_7 : decode cX9_set 7 = .ok (.aload 4, 2) := by decide +kernel
theorem dX9_set_9 : decode cX9_set 9 = .ok (.ifnull 23, 3) := by decide +kernel
theorem dX9_set_12 : decode cX9_set 12 = .ok (.iload_n 2, 1) := by decide +kernel
theorem dX9_set_13 : decode cX9_set 13 = .ok (.ifCond .lt 19, 3) := by decide +kernel
theorem dX9_set_16 : decode cX9_set 16 = .ok (.iload_n 2, 1) := by decide +kernel
theorem dX9_set_17 : decode cX9_set 17 = .ok (.getstatic 90, 3) := by decide +kernel
theorem dX9_set_20 : decode cX9_set 20 = .ok (.arraylength, 1) := by decide +kernel
theorem dX9_set_21 : decode cX9_set 21 = .ok (.if_icmp .ge 11, 3) := by decide +kernel
theorem dX9_set_24 : decode cX9_set 24 = .ok (.iload_n 2, 1) := by decide +kernel
theorem dX9_set_25 : decode cX9_set 25 = .ok (.getstatic 93, 3) := by decide +kernel
theorem dX9_set_28 : decode cX9_set 28 = .ok (.arraylength, 1) := by decide +kernel
theorem dX9_set_29 : decode cX9_set 29 = .ok (.if_icmp .lt 9, 3) := by decide +kernel
theorem dX9_set_32 : decode cX9_set 32 = .ok (.aload_n 0, 1) := by decide +kernel
theorem dX9_set_33 : decode cX9_set 33 = .ok (.iconst 1, 1) := by decide +kernel
theorem dX9_set_34 : decode cX9_set 34 = .ok (.invokevirtual 74, 3) := by decide +kernel
theorem dX9_set_37 : decode cX9_set 37 = .ok (.ireturn, 1) := by decide +kernel
theorem dX9_set_38 : decode cX9_set 38 = .ok (.iload_n 3, 1) := by decide +kernel
theorem dX9_set_39 : decode cX9_set 39 = .ok (.getstatic 90, 3) := by decide +kernel
theorem dX9_set_42 : decode cX9_set 42 = .ok (.iload_n 2, 1) := by decide +kernel
theorem dX9_set_43 : decode cX9_set 43 = .ok (.iaload, 1) := by decide +kernel
theorem dX9_set_44 : decode cX9_set 44 = .ok (.getstatic 93, 3) := by decide +kernel
theorem dX9_set_47 : decode cX9_set 47 = .ok (.iload_n 2, 1) := by decide +kernel
theorem dX9_set_48 : decode cX9_set 48 = .ok (.iaload, 1) := by decide +kernel
theorem dX9_set_49 : decode cX9_set 49 = .ok (.invokestatic 78, 3) := by decide +kernel
theorem dX9_set_52 : decode cX9_set 52 = .ok (.ifCond .ne 9, 3) := by decide +kernel
theorem dX9_set_55 : decode cX9_set 55 = .ok (.aload_n 0, 1) := by decide +kernel
theorem dX9_set_56 : decode cX9_set 56 = .ok (.iconst 2, 1) := by decide +kernel
theorem dX9_set_57 : decode cX9_set 57 = .ok (.invokevirtual 74, 3) := by decide +kernel
theorem dX9_set_60 : decode cX9_set 60 = .ok (.ireturn, 1) := by decide +kernel
theorem dX9_set_61 : decode cX9_set 61 = .ok (.aload 4, 2) := by decide +kernel
theorem dX9_set_63 : decode cX9_set 63 = .ok (.iload_n 2, 1) := by decide +kernel
theorem dX9_set_64 : decode cX9_set 64 = .ok (.iload_n 3, 1) := by decide +kernel
theorem dX9_set_65 : decode cX9_set 65 = .ok (.invokevirtual 96, 3) := by decide +kernel
theorem dX9_set_68 : decode cX9_set 68 = .ok (.aload_n 0, 1) := by decide +kernel
theorem dX9_set_69 : decode cX9_set 69 = .ok (.invokevirtual 86, 3) := by decide +kernel
theorem dX9_set_72 : decode cX9_set 72 = .ok (.ireturn, 1) := by decide +kernel
theorem dX9_of_0 : decode cX9_of 0 = .ok (.aload_n 0, 1) := by decide +kernel
theorem dX9_of_1 : decode cX9_of 1 = .ok (.iload_n 1, 1) := by decide +kernel
theorem dX9_of_2 : decode cX9_of 2 = .ok (.invokevirtual 66, 3) := by decide +kernel
theorem dX9_of_5 : decode cX9_of 5 = .ok (.astore 4, 2) := by decide +kernel
theorem dX9_of_7 : decode cX9_of 7 = .ok (.aload 4, 2) := by decide +kernel
theorem dX9_of_9 : decode cX9_of 9 = .ok (.ifnull 10, 3) := by decide +kernel
theorem dX9_of_12 : decode cX9_of 12 = .ok (.iload_n 2, 1) := by decide +kernel
theorem dX9_of_13 : decode cX9_of 13 = .ok (.invokestatic 70, 3) := by decide +kernel
theorem dX9_of_16 : decode cX9_of 16 = .ok (.ifCond .ne 6, 3) := by decide +kernel
theorem dX9_of_19 : decode cX9_of 19 = .ok (.ldc 100, 2) := by decide +kernel
theorem dX9_of_21 : decode cX9_of 21 = .ok (.ireturn, 1) := by decide +kernel
theorem dX9_of_22 : decode cX9_of 22 = .ok (.iload_n 3, 1) := by decide +kernel
theorem dX9_of_23 : decode cX9_of 23 = .ok (.tableswitch 127 0 6 #[41, 49, 57, 65, 72, 79, 102], 41) := by decide +kernel
theorem dX9_of_64 : decode cX9_of 64 = .ok (.aload 4, 2) := by decide +kernel
theorem dX9_of_66 : decode cX9_of 66 = .ok (.getfield 101, 3) := by decide +kernel
theorem dX9_of_69 : decode cX9_of 69 = .ok (.iload_n 2, 1) := by decide +kernel
theorem dX9_of_70 : decode cX9_of 70 = .ok (.iaload, 1) := by decide +kernel
theorem dX9_of_71 : decode cX9_of 71 = .ok (.ireturn, 1) := by decide +kernel
theorem dX9_of_72 : decode cX9_of 72 = .ok (.aload 4, 2) := by decide +kernel
theorem dX9_of_74 : decode cX9_of 74 = .ok (.getfield 104, 3) := by decide +kernel
theorem dX9_of_77 : decode cX9_of 77 = .ok (.iload_n 2, 1) := by decide +kernel
theorem dX9_of_78 : decode cX9_of 78 = .ok (.iaload, 1) := by decide +kernel
theorem dX9_of_79 : decode cX9_of 79 = .ok (.ireturn, 1) := by decide +kernel
theorem dX9_of_80 : decode cX9_of 80 = .ok (.aload 4, 2) := by decide +kernel
theorem dX9_of_82 : decode cX9_of 82 = .ok (.getfield 107, 3) := by decide +kernel
theorem dX9_of_85 : decode cX9_of 85 = .ok (.iload_n 2, 1) := by decide +kernel
theorem dX9_of_86 : decode cX9_of 86 = .ok (.iaload, 1) := by decide +kernel
theorem dX9_of_87 : decode cX9_of 87 = .ok (.ireturn, 1) := by decide +kernel
theorem dX9_of_88 : decode cX9_of 88 = .ok (.aload 4, 2) := by decide +kernel
theorem dX9_of_90 : decode cX9_of 90 = .ok (.iload_n 2, 1) := by decide +kernel
theorem dX9_of_91 : decode cX9_of 91 = .ok (.invokevirtual 110, 3) := by decide +kernel
theorem dX9_of_94 : decode cX9_of 94 = .ok (.ireturn, 1) := by decide +kernel
theorem dX9_of_95 : decode cX9_of 95 = .ok (.aload 4, 2) := by decide +kernel
theorem dX9_of_97 : decode cX9_of 97 = .ok (.iload_n 2, 1) := by decide +kernel
theorem dX9_of_98 : decode cX9_of 98 = .ok (.invokevirtual 114, 3) := by decide +kernel
theorem dX9_of_101 : decode cX9_of 101 = .ok (.ireturn, 1) := by decide +kernel
theorem dX9_of_102 : decode cX9_of 102 = .ok (.aload_n 0, 1) := by decide +kernel
theorem dX9_of_103 : decode cX9_of 103 = .ok (.getfield 45, 3) := by decide +kernel
theorem dX9_of_106 : decode cX9_of 106 = .ok (.iload_n 1, 1) := by decide +kernel
theorem dX9_of_107 : decode cX9_of 107 = .ok (.iload_n 2, 1) := by decide +kernel
theorem dX9_of_108 : decode cX9_of 108 = .ok (.invokestatic 117, 3) := by decide +kernel
theorem dX9_of_111 : decode cX9_of 111 = .ok (.aload_n 0, 1) := by decide +kernel
theorem dX9_of_112 : decode cX9_of 112 = .ok (.getfield 121, 3) := by decide +kernel
theorem dX9_of_115 : decode cX9_of 115 = .ok (.aload 4, 2) := by decide +kernel
theorem dX9_of_117 : decode cX9_of 117 = .ok (.iload_n 2, 1) := by decide +kernel
theorem dX9_of_118 : decode cX9_of 118 = .ok (.invokevirtual 114, 3) := by decide +kernel
theorem dX9_of_121 : decode cX9_of 121 = .ok (.invokevirtual 124, 3) := by decide +kernel
theorem dX9_of_124 : decode cX9_of 124 = .ok (.ireturn, 1) := by decide +kernel
theorem dX9_of_125 : decode cX9_of 125 = .ok (.aload_n 0, 1) := by decide +kernel
theorem dX9_of_126 : decode cX9_of 126 = .ok (.getfield 45, 3) := by decide +kernel
theorem dX9_of_129 : decode cX9_of 129 = .ok (.iload_n 1, 1) := by decide +kernel
theorem dX9_of_130 : decode cX9_of 130 = .ok (.iload_n 2, 1) := by decide +kernel
theorem dX9_of_131 : decode cX9_of 131 = .ok (.invokestatic 117, 3) := by decide +kernel
theorem dX9_of_134 : decode cX9_of 134 = .ok (.aload_n 0, 1) := by decide +kernel
theorem dX9_of_135 : decode cX9_of 135 = .ok (.getfield 121, 3) := by decide +kernel
theorem dX9_of_138 : decode cX9_of 138 = .ok (.invokevirtual 128, 3) := by decide +kernel
theorem dX9_of_141 : decode cX9_of 141 = .ok (.ifCond .eq 7, 3) := by decide +kernel
theorem dX9_of_144 : decode cX9_of 144 = .ok (.iconst 1, 1) := by decide +kernel
theorem dX9_of_145 : decode cX9_of 145 = .ok (.goto 4, 3) := by decide +kernel
theorem dX9_of_148 : decode cX9_of 148 = .ok (.iconst 0, 1) := by decide +kernel
theorem dX9_of_149 : decode cX9_of 149 = .ok (.ireturn, 1) := by decide +kernel
theorem dX9_of_150 : decode cX9_of 150 = .ok (.ldc 100, 2) := by decide +kernel
theorem dX9_of_152 : decode cX9_of 152 = .ok (.ireturn, 1) := by decide +kernel
theorem dX9_full_0 : decode cX9_full 0 = .ok (.aload_n 0, 1) := by decide +kernel
theorem dX9_full_1 : decode cX9_full 1 = .ok (.iload_n 1, 1) := by decide +kernel
theorem dX9_full_2 : decode cX9_full 2 = .ok (.invokevirtual 66, 3) := by decide +kernel
theorem dX9_full_5 : decode cX9_full 5 = .ok (.astore_n 3, 1) := by decide +kernel
theorem dX9_full_6 : decode cX9_full 6 = .ok (.aload_n 3, 1) := by decide +kernel
theorem dX9_full_7 : decode cX9_full 7 = .ok (.ifnonnull 5, 3) := by decide +kernel
theorem dX9_full_10 : decode cX9_full 10 = .ok (.iconst (-1), 1) := by decide +kernel
theorem dX9_full_11 : decode cX9_full 11 = .ok (.ireturn, 1) := by decide +kernel
theorem dX9_full_12 : decode cX9_full 12 = .ok (.iload_n 2, 1) := by decide +kernel
theorem dX9_full_13 : decode cX9_full 13 = .ok (.ifCond .eq 12, 3) := by decide +kernel
theorem dX9_full_16 : decode cX9_full 16 = .ok (.aload_n 0, 1) := by decide +kernel
theorem dX9_full_17 : decode cX9_full 17 = .ok (.iload_n 1, 1) := by decide +kernel
theorem dX9_full_18 : decode cX9_full 18 = .ok (.aload_n 3, 1) := by decide +kernel
theorem dX9_full_19 : decode cX9_full 19 = .ok (.invokevirtual 132, 3) := by decide +kernel
theorem dX9_full_22 : decode cX9_full 22 = .ok (.goto 7, 3) := by decide +kernel
theorem dX9_full_25 : decode cX9_full 25 = .ok (.aload_n 3, 1) := by decide +kernel
theorem dX9_full_26 : decode cX9_full 26 = .ok (.invokevirtual 136, 3) := by decide +kernel
theorem dX9_full_29 : decode cX9_full 29 = .ok (.ireturn, 1) := by decide +kernel
theorem dX9_led_0 : decode cX9_led 0 = .ok (.aload_n 0, 1) := by decide +kernel
theorem dX9_led_1 : decode cX9_led 1 = .ok (.iload_n 1, 1) := by decide +kernel
theorem dX9_led_2 : decode cX9_led 2 = .ok (.invokevirtual 66, 3) := by decide +kernel
theorem dX9_led_5 : decode cX9_led 5 = .ok (.astore_n 3, 1) := by decide +kernel
theorem dX9_led_6 : decode cX9_led 6 = .ok (.aload_n 3, 1) := by decide +kernel
theorem dX9_led_7 : decode cX9_led 7 = .ok (.ifnonnull 6, 3) := by decide +kernel
theorem dX9_led_10 : decode cX9_led 10 = .ok (.ldc 100, 2) := by decide +kernel
theorem dX9_led_12 : decode cX9_led 12 = .ok (.ireturn, 1) := by decide +kernel
theorem dX9_led_13 : decode cX9_led 13 = .ok (.iload_n 2, 1) := by decide +kernel
theorem dX9_led_14 : decode cX9_led 14 = .ok (.tableswitch 68 0 5 #[38, 43, 48, 53, 58, 63], 38) := by decide +kernel
theorem dX9_led_52 : decode cX9_led 52 = .ok (.aload_n 3, 1) := by decide +kernel
theorem dX9_led_53 : decode cX9_led 53 = .ok (.getfield 140, 3) := by decide +kernel
theorem dX9_led_56 : decode cX9_led 56 = .ok (.ireturn, 1) := by decide +kernel
theorem dX9_led_57 : decode cX9_led 57 = .ok (.aload_n 3, 1) := by decide +kernel
theorem dX9_led_58 : decode cX9_led 58 = .ok (.getfield 143, 3) := by decide +kernel
theorem dX9_led_61 : decode cX9_led 61 = .ok (.ireturn, 1) := by decide +kernel
theorem dX9_led_62 : decode cX9_led 62 = .ok (.aload_n 3, 1) := by decide +kernel
theorem dX9_led_63 : decode cX9_led 63 = .ok (.getfield 146, 3) := by decide +kernel
theorem dX9_led_66 : decode cX9_led 66 = .ok (.ireturn, 1) := by decide +kernel
theorem dX9_led_67 : decode cX9_led 67 = .ok (.aload_n 3, 1) := by decide +kernel
theorem dX9_led_68 : decode cX9_led 68 = .ok (.getfield 149, 3) := by decide +kernel
theorem dX9_led_71 : decode cX9_led 71 = .ok (.ireturn, 1) := by decide +kernel
theorem dX9_led_72 : decode cX9_led 72 = .ok (.aload_n 3, 1) := by decide +kernel
theorem dX9_led_73 : decode cX9_led 73 = .ok (.invokevirtual 152, 3) := by decide +kernel
theorem dX9_led_76 : decode cX9_led 76 = .ok (.ireturn, 1) := by decide +kernel
theorem dX9_led_77 : decode cX9_led 77 = .ok (.aload_n 3, 1) := by decide +kernel
theorem dX9_led_78 : decode cX9_led 78 = .ok (.getfield 155, 3) := by decide +kernel
theorem dX9_led_81 : decode cX9_led 81 = .ok (.ireturn, 1) := by decide +kernel
theorem dX9_led_82 : decode cX9_led 82 = .ok (.ldc 100, 2) := by decide +kernel
theorem dX9_led_84 : decode cX9_led 84 = .ok (.ireturn, 1) := by decide +kernel
theorem dX9_burst_0 : decode cX9_burst 0 = .ok (.aload_n 0, 1) := by decide +kernel
theorem dX9_burst_1 : decode cX9_burst 1 = .ok (.iload_n 1, 1) := by decide +kernel
theorem dX9_burst_2 : decode cX9_burst 2 = .ok (.invokevirtual 66, 3) := by decide +kernel
theorem dX9_burst_5 : decode cX9_burst 5 = .ok (.astore_n 2, 1) := by decide +kernel
theorem dX9_burst_6 : decode cX9_burst 6 = .ok (.aload_n 2, 1) := by decide +kernel
theorem dX9_burst_7 : decode cX9_burst 7 = .ok (.ifnonnull 7, 3) := by decide +kernel
theorem dX9_burst_10 : decode cX9_burst 10 = .ok (.iconst (-1), 1) := by decide +kernel
theorem dX9_burst_11 : decode cX9_burst 11 = .ok (.goto 8, 3) := by decide +kernel
theorem dX9_burst_14 : decode cX9_burst 14 = .ok (.aload_n 0, 1) := by decide +kernel
theorem dX9_burst_15 : decode cX9_burst 15 = .ok (.aload_n 2, 1) := by decide +kernel
theorem dX9_burst_16 : decode cX9_burst 16 = .ok (.invokevirtual 158, 3) := by decide +kernel
theorem dX9_burst_19 : decode cX9_burst 19 = .ok (.ireturn, 1) := by decide +kernel
theorem dX9_until_0 : decode cX9_until 0 = .ok (.aload_n 0, 1) := by decide +kernel
theorem dX9_until_1 : decode cX9_until 1 = .ok (.iload_n 1, 1) := by decide +kernel
theorem dX9_until_2 : decode cX9_until 2 = .ok (.invokevirtual 66, 3) := by decide +kernel
theorem dX9_until_5 : decode cX9_until 5 = .ok (.astore_n 3, 1) := by decide +kernel
theorem dX9_until_6 : decode cX9_until 6 = .ok (.aload_n 3, 1) := by decide +kernel
theorem dX9_until_7 : decode cX9_until 7 = .ok (.ifnonnull 9, 3) := by decide +kernel
theorem dX9_until_10 : decode cX9_until 10 = .ok (.aload_n 0, 1) := by decide +kernel
theorem dX9_until_11 : decode cX9_until 11 = .ok (.iconst 1, 1) := by decide +kernel
theorem dX9_until_12 : decode cX9_until 12 = .ok (.invokevirtual 162, 3) := by decide +kernel
theorem dX9_until_15 : decode cX9_until 15 = .ok (.ireturn, 1) := by decide +kernel
theorem dX9_until_16 : decode cX9_until 16 = .ok (.iload_n 2, 1) := by decide +kernel
theorem dX9_until_17 : decode cX9_until 17 = .ok (.iconst 1, 1) := by decide +kernel
theorem dX9_until_18 : decode cX9_until 18 = .ok (.sipush 999, 3) := by decide +kernel
theorem dX9_until_21 : decode cX9_until 21 = .ok (.invokestatic 78, 3) := by decide +kernel
theorem dX9_until_24 : decode cX9_until 24 = .ok (.ifCond .ne 9, 3) := by decide +kernel
theorem dX9_until_27 : decode cX9_until 27 = .ok (.aload_n 0, 1) := by decide +kernel
theorem dX9_until_28 : decode cX9_until 28 = .ok (.iconst 2, 1) := by decide +kernel
theorem dX9_until_29 : decode cX9_until 29 = .ok (.invokevirtual 162, 3) := by decide +kernel
theorem dX9_until_32 : decode cX9_until 32 = .ok (.ireturn, 1) := by decide +kernel
theorem dX9_until_33 : decode cX9_until 33 = .ok (.aload_n 0, 1) := by decide +kernel
theorem dX9_until_34 : decode cX9_until 34 = .ok (.aload_n 0, 1) := by decide +kernel
theorem dX9_until_35 : decode cX9_until 35 = .ok (.aload_n 3, 1) := by decide +kernel
theorem dX9_until_36 : decode cX9_until 36 = .ok (.iload_n 2, 1) := by decide +kernel
theorem dX9_until_37 : decode cX9_until 37 = .ok (.invokevirtual 165, 3) := by decide +kernel
theorem dX9_until_40 : decode cX9_until 40 = .ok (.invokevirtual 169, 3) := by decide +kernel
theorem dX9_until_43 : decode cX9_until 43 = .ok (.ireturn, 1) := by decide +kernel
theorem dX9_pipe_0 : decode cX9_pipe 0 = .ok (.aload_n 0, 1) := by decide +kernel
theorem dX9_pipe_1 : decode cX9_pipe 1 = .ok (.iload_n 1, 1) := by decide +kernel
theorem dX9_pipe_2 : decode cX9_pipe 2 = .ok (.invokevirtual 66, 3) := by decide +kernel
theorem dX9_pipe_5 : decode cX9_pipe 5 = .ok (.astore 5, 2) := by decide +kernel
theorem dX9_pipe_7 : decode cX9_pipe 7 = .ok (.aload 5, 2) := by decide +kernel
theorem dX9_pipe_9 : decode cX9_pipe 9 = .ok (.ifnull 10, 3) := by decide +kernel
theorem dX9_pipe_12 : decode cX9_pipe 12 = .ok (.iload_n 2, 1) := by decide +kernel
theorem dX9_pipe_13 : decode cX9_pipe 13 = .ok (.invokestatic 70, 3) := by decide +kernel
theorem dX9_pipe_16 : decode cX9_pipe 16 = .ok (.ifCond .ne 9, 3) := by decide +kernel
theorem dX9_pipe_19 : decode cX9_pipe 19 = .ok (.aload_n 0, 1) := by decide +kernel
theorem dX9_pipe_20 : decode cX9_pipe 20 = .ok (.iconst 1, 1) := by decide +kernel
theorem dX9_pipe_21 : decode cX9_pipe 21 = .ok (.invokevirtual 162, 3) := by decide +kernel
theorem dX9_pipe_24 : decode cX9_pipe 24 = .ok (.ireturn, 1) := by decide +kernel
theorem dX9_pipe_25 : decode cX9_pipe 25 = .ok (.iload_n 3, 1) := by decide +kernel
theorem dX9_pipe_26 : decode cX9_pipe 26 = .ok (.iconst 1, 1) := by decide +kernel
theorem dX9_pipe_27 : decode cX9_pipe 27 = .ok (.sipush 500, 3) := by decide +kernel
theorem dX9_pipe_30 : decode cX9_pipe 30 = .ok (.invokestatic 78, 3) := by decide +kernel
theorem dX9_pipe_33 : decode cX9_pipe 33 = .ok (.ifCond .eq 14, 3) := by decide +kernel
theorem dX9_pipe_36 : decode cX9_pipe 36 = .ok (.iload 4, 2) := by decide +kernel
theorem dX9_pipe_38 : decode cX9_pipe 38 = .ok (.iconst 0, 1) := by decide +kernel
theorem dX9_pipe_39 : decode cX9_pipe 39 = .ok (.ldc 77, 2) := by decide +kernel
theorem dX9_pipe_41 : decode cX9_pipe 41 = .ok (.invokestatic 78, 3) := by decide +kernel
theorem dX9_pipe_44 : decode cX9_pipe 44 = .ok (.ifCond .ne 9, 3) := by decide +kernel
theorem dX9_pipe_47 : decode cX9_pipe 47 = .ok (.aload_n 0, 1) := by decide +kernel
theorem dX9_pipe_48 : decode cX9_pipe 48 = .ok (.iconst 2, 1) := by decide +kernel
theorem dX9_pipe_49 : decode cX9_pipe 49 = .ok (.invokevirtual 162, 3) := by decide +kernel
theorem dX9_pipe_52 : decode cX9_pipe 52 = .ok (.ireturn, 1) := by decide +kernel
theorem dX9_pipe_53 : decode cX9_pipe 53 = .ok (.aload_n 0, 1) := by decide +kernel
theorem dX9_pipe_54 : decode cX9_pipe 54 = .ok (.getfield 172, 3) := by decide +kernel
theorem dX9_pipe_57 : decode cX9_pipe 57 = .ok (.aload_n 0, 1) := by decide +kernel
theorem dX9_pipe_58 : decode cX9_pipe 58 = .ok (.getfield 24, 3) := by decide +kernel
theorem dX9_pipe_61 : decode cX9_pipe 61 = .ok (.arraylength, 1) := by decide +kernel
theorem dX9_pipe_62 : decode cX9_pipe 62 = .ok (.if_icmp .ge 11, 3) := by decide +kernel
theorem dX9_pipe_65 : decode cX9_pipe 65 = .ok (.aload 5, 2) := by decide +kernel
theorem dX9_pipe_67 : decode cX9_pipe 67 = .ok (.invokevirtual 175, 3) := by decide +kernel
theorem dX9_pipe_70 : decode cX9_pipe 70 = .ok (.ifCond .ne 9, 3) := by decide +kernel
theorem dX9_pipe_73 : decode cX9_pipe 73 = .ok (.aload_n 0, 1) := by decide +kernel
theorem dX9_pipe_74 : decode cX9_pipe 74 = .ok (.iconst 3, 1) := by decide +kernel
theorem dX9_pipe_75 : decode cX9_pipe 75 = .ok (.invokevirtual 162, 3) := by decide +kernel
theorem dX9_pipe_78 : decode cX9_pipe 78 = .ok (.ireturn, 1) := by decide +kernel
theorem dX9_pipe_79 : decode cX9_pipe 79 = .ok (.new 22, 3) := by decide +kernel
theorem dX9_pipe_82 : decode cX9_pipe 82 = .ok (.dup, 1) := by decide +kernel
theorem dX9_pipe_83 : decode cX9_pipe 83 = .ok (.iload_n 1, 1) := by decide +kernel
theorem dX9_pipe_84 : decode cX9_pipe 84 = .ok (.iload_n 2, 1) := by decide +kernel
theorem dX9_pipe_85 : decode cX9_pipe 85 = .ok (.iload_n 3, 1) := by decide +kernel
theorem dX9_pipe_86 : decode cX9_pipe 86 = .ok (.iload 4, 2) := by decide +kernel
theorem dX9_pipe_88 : decode cX9_pipe 88 = .ok (.invokespecial 178, 3) := by decide +kernel
theorem dX9_pipe_91 : decode cX9_pipe 91 = .ok (.astore 6, 2) := by decide +kernel
theorem dX9_pipe_93 : decode cX9_pipe 93 = .ok (.aload 5, 2) := by decide +kernel
theorem dX9_pipe_95 : decode cX9_pipe 95 = .ok (.aload 6, 2) := by decide +kernel
theorem dX9_pipe_97 : decode cX9_pipe 97 = .ok (.invokevirtual 180, 3) := by decide +kernel
theorem dX9_pipe_100 : decode cX9_pipe 100 = .ok (.aload_n 0, 1) := by decide +kernel
theorem dX9_pipe_101 : decode cX9_pipe 101 = .ok (.getfield 24, 3) := by decide +kernel
theorem dX9_pipe_104 : decode cX9_pipe 104 = .ok (.aload_n 0, 1) := by decide +kernel
theorem dX9_pipe_105 : decode cX9_pipe 105 = .ok (.getfield 172, 3) := by decide +kernel
theorem dX9_pipe_108 : decode cX9_pipe 108 = .ok (.aload 6, 2) := by decide +kernel
theorem dX9_pipe_110 : decode cX9_pipe 110 = .ok (.aastore, 1) := by decide +kernel
theorem dX9_pipe_111 : decode cX9_pipe 111 = .ok (.aload_n 0, 1) := by decide +kernel
theorem dX9_pipe_112 : decode cX9_pipe 112 = .ok (.dup, 1) := by decide +kernel
theorem dX9_pipe_113 : decode cX9_pipe 113 = .ok (.getfield 172, 3) := by decide +kernel
theorem dX9_pipe_116 : decode cX9_pipe 116 = .ok (.iconst 1, 1) := by decide +kernel
theorem dX9_pipe_117 : decode cX9_pipe 117 = .ok (.iadd, 1) := by decide +kernel
theorem dX9_pipe_118 : decode cX9_pipe 118 = .ok (.putfield 172, 3) := by decide +kernel
theorem dX9_pipe_121 : decode cX9_pipe 121 = .ok (.aload_n 0, 1) := by decide +kernel
theorem dX9_pipe_122 : decode cX9_pipe 122 = .ok (.aload_n 0, 1) := by decide +kernel
theorem dX9_pipe_123 : decode cX9_pipe 123 = .ok (.getfield 172, 3) := by decide +kernel
theorem dX9_pipe_126 : decode cX9_pipe 126 = .ok (.iconst 1, 1) := by decide +kernel
theorem dX9_pipe_127 : decode cX9_pipe 127 = .ok (.isub, 1) := by decide +kernel
theorem dX9_pipe_128 : decode cX9_pipe 128 = .ok (.invokevirtual 169, 3) := by decide +kernel
theorem dX9_pipe_131 : decode cX9_pipe 131 = .ok (.ireturn, 1) := by decide +kernel
theorem dX9_pipeOf_0 : decode cX9_pipeOf 0 = .ok (.aload_n 0, 1) := by decide +kernel
theorem dX9_pipeOf_1 : decode cX9_pipeOf 1 = .ok (.iload_n 1, 1) := by decide +kernel
theorem dX9_pipeOf_2 : decode cX9_pipeOf 2 = .ok (.invokevirtual 184, 3) := by decide +kernel
theorem dX9_pipeOf_5 : decode cX9_pipeOf 5 = .ok (.astore_n 3, 1) := by decide +kernel
theorem dX9_pipeOf_6 : decode cX9_pipeOf 6 = .ok (.aload_n 3, 1) := by decide +kernel
theorem dX9_pipeOf_7 : decode cX9_pipeOf 7 = .ok (.ifnonnull 5, 3) := by decide +kernel
theorem dX9_pipeOf_10 : decode cX9_pipeOf 10 = .ok (.iconst (-1), 1) := by decide +kernel
theorem dX9_pipeOf_11 : decode cX9_pipeOf 11 = .ok (.ireturn, 1) := by decide +kernel
theorem dX9_pipeOf_12 : decode cX9_pipeOf 12 = .ok (.iload_n 2, 1) := by decide +kernel
theorem dX9_pipeOf_13 : decode cX9_pipeOf 13 = .ok (.tableswitch 68 0 4 #[35, 40, 45, 58, 63], 35) := by decide +kernel
theorem dX9_pipeOf_48 : decode cX9_pipeOf 48 = .ok (.aload_n 3, 1) := by decide +kernel
theorem dX9_pipeOf_49 : decode cX9_pipeOf 49 = .ok (.getfield 188, 3) := by decide +kernel
theorem dX9_pipeOf_52 : decode cX9_pipeOf 52 = .ok (.ireturn, 1) := by decide +kernel
theorem dX9_pipeOf_53 : decode cX9_pipeOf 53 = .ok (.aload_n 3, 1) := by decide +kernel
theorem dX9_pipeOf_54 : decode cX9_pipeOf 54 = .ok (.getfield 191, 3) := by decide +kernel
theorem dX9_pipeOf_57 : decode cX9_pipeOf 57 = .ok (.ireturn, 1) := by decide +kernel
theorem dX9_pipeOf_58 : decode cX9_pipeOf 58 = .ok (.aload_n 3, 1) := by decide +kernel
theorem dX9_pipeOf_59 : decode cX9_pipeOf 59 = .ok (.getfield 194, 3) := by decide +kernel
theorem dX9_pipeOf_62 : decode cX9_pipeOf 62 = .ok (.ifCond .eq 7, 3) := by decide +kernel
theorem dX9_pipeOf_65 : decode cX9_pipeOf 65 = .ok (.iconst 1, 1) := by decide +kernel
theorem dX9_pipeOf_66 : decode cX9_pipeOf 66 = .ok (.goto 4, 3) := by decide +kernel
theorem dX9_pipeOf_69 : decode cX9_pipeOf 69 = .ok (.iconst 0, 1) := by decide +kernel
theorem dX9_pipeOf_70 : decode cX9_pipeOf 70 = .ok (.ireturn, 1) := by decide +kernel
theorem dX9_pipeOf_71 : decode cX9_pipeOf 71 = .ok (.aload_n 3, 1) := by decide +kernel
theorem dX9_pipeOf_72 : decode cX9_pipeOf 72 = .ok (.getfield 198, 3) := by decide +kernel
theorem dX9_pipeOf_75 : decode cX9_pipeOf 75 = .ok (.ireturn, 1) := by decide +kernel
theorem dX9_pipeOf_76 : decode cX9_pipeOf 76 = .ok (.aload_n 3, 1) := by decide +kernel
theorem dX9_pipeOf_77 : decode cX9_pipeOf 77 = .ok (.getfield 201, 3) := by decide +kernel
theorem dX9_pipeOf_80 : decode cX9_pipeOf 80 = .ok (.ireturn, 1) := by decide +kernel
theorem dX9_pipeOf_81 : decode cX9_pipeOf 81 = .ok (.iconst (-1), 1) := by decide +kernel
theorem dX9_pipeOf_82 : decode cX9_pipeOf 82 = .ok (.ireturn, 1) := by decide +kernel
theorem dX9_move_0 : decode cX9_move 0 = .ok (.aload_n 0, 1) := by decide +kernel
theorem dX9_move_1 : decode cX9_move 1 = .ok (.iload_n 1, 1) := by decide +kernel
theorem dX9_move_2 : decode cX9_move 2 = .ok (.invokevirtual 184, 3) := by decide +kernel
theorem dX9_move_5 : decode cX9_move 5 = .ok (.astore_n 3, 1) := by decide +kernel
theorem dX9_move_6 : decode cX9_move 6 = .ok (.aload_n 3, 1) := by decide +kernel
theorem dX9_move_7 : decode cX9_move 7 = .ok (.ifnull 10, 3) := by decide +kernel
theorem dX9_move_10 : decode cX9_move 10 = .ok (.iload_n 2, 1) := by decide +kernel
theorem dX9_move_11 : decode cX9_move 11 = .ok (.invokestatic 70, 3) := by decide +kernel
theorem dX9_move_14 : decode cX9_move 14 = .ok (.ifCond .ne 9, 3) := by decide +kernel
theorem dX9_move_17 : decode cX9_move 17 = .ok (.aload_n 0, 1) := by decide +kernel
theorem dX9_move_18 : decode cX9_move 18 = .ok (.iconst 1, 1) := by decide +kernel
theorem dX9_move_19 : decode cX9_move 19 = .ok (.invokevirtual 74, 3) := by decide +kernel
theorem dX9_move_22 : decode cX9_move 22 = .ok (.ireturn, 1) := by decide +kernel
theorem dX9_move_23 : decode cX9_move 23 = .ok (.aload_n 0, 1) := by decide +kernel
theorem dX9_move_24 : decode cX9_move 24 = .ok (.aload_n 3, 1) := by decide +kernel
theorem dX9_move_25 : decode cX9_move 25 = .ok (.getfield 188, 3) := by decide +kernel
theorem dX9_move_28 : decode cX9_move 28 = .ok (.invokevirtual 66, 3) := by decide +kernel
theorem dX9_move_31 : decode cX9_move 31 = .ok (.astore 4, 2) := by decide +kernel
theorem dX9_move_33 : decode cX9_move 33 = .ok (.aload 4, 2) := by decide +kernel
theorem dX9_move_35 : decode cX9_move 35 = .ok (.ifnonnull 9, 3) := by decide +kernel
theorem dX9_move_38 : decode cX9_move 38 = .ok (.aload_n 0, 1) := by decide +kernel
theorem dX9_move_39 : decode cX9_move 39 = .ok (.iconst 1, 1) := by decide +kernel
theorem dX9_move_40 : decode cX9_move 40 = .ok (.invokevirtual 74, 3) := by decide +kernel
theorem dX9_move_43 : decode cX9_move 43 = .ok (.ireturn, 1) := by decide +kernel
theorem dX9_move_44 : decode cX9_move 44 = .ok (.aload_n 3, 1) := by decide +kernel
theorem dX9_move_45 : decode cX9_move 45 = .ok (.getfield 191, 3) := by decide +kernel
theorem dX9_move_48 : decode cX9_move 48 = .ok (.iload_n 2, 1) := by decide +kernel
theorem dX9_move_49 : decode cX9_move 49 = .ok (.if_icmp .ne 9, 3) := by decide +kernel
theorem dX9_move_52 : decode cX9_move 52 = .ok (.aload_n 0, 1) := by decide +kernel
theorem dX9_move_53 : decode cX9_move 53 = .ok (.iconst 5, 1) := by decide +kernel
theorem dX9_move_54 : decode cX9_move 54 = .ok (.invokevirtual 74, 3) := by decide +kernel
theorem dX9_move_57 : decode cX9_move 57 = .ok (.ireturn, 1) := by decide +kernel
theorem dX9_move_58 : decode cX9_move 58 = .ok (.aload_n 0, 1) := by decide +kernel
theorem dX9_move_59 : decode cX9_move 59 = .ok (.aload_n 3, 1) := by decide +kernel
theorem dX9_move_60 : decode cX9_move 60 = .ok (.getfield 188, 3) := by decide +kernel
theorem dX9_move_63 : decode cX9_move 63 = .ok (.aload 4, 2) := by decide +kernel
theorem dX9_move_65 : decode cX9_move 65 = .ok (.invokevirtual 204, 3) := by decide +kernel
theorem dX9_move_68 : decode cX9_move 68 = .ok (.ifCond .ne 10, 3) := by decide +kernel
theorem dX9_move_71 : decode cX9_move 71 = .ok (.aload_n 0, 1) := by decide +kernel
theorem dX9_move_72 : decode cX9_move 72 = .ok (.bipush 6, 2) := by decide +kernel
theorem dX9_move_74 : decode cX9_move 74 = .ok (.invokevirtual 74, 3) := by decide +kernel
theorem dX9_move_77 : decode cX9_move 77 = .ok (.ireturn, 1) := by decide +kernel
theorem dX9_move_78 : decode cX9_move 78 = .ok (.aload_n 0, 1) := by decide +kernel
theorem dX9_move_79 : decode cX9_move 79 = .ok (.aload_n 3, 1) := by decide +kernel
theorem dX9_move_80 : decode cX9_move 80 = .ok (.getfield 188, 3) := by decide +kernel
theorem dX9_move_83 : decode cX9_move 83 = .ok (.putfield 62, 3) := by decide +kernel
theorem dX9_move_86 : decode cX9_move 86 = .ok (.aload_n 3, 1) := by decide +kernel
theorem dX9_move_87 : decode cX9_move 87 = .ok (.iload_n 2, 1) := by decide +kernel
theorem dX9_move_88 : decode cX9_move 88 = .ok (.invokevirtual 208, 3) := by decide +kernel
theorem dX9_move_91 : decode cX9_move 91 = .ok (.aload 4, 2) := by decide +kernel
theorem dX9_move_93 : decode cX9_move 93 = .ok (.iload_n 2, 1) := by decide +kernel
theorem dX9_move_94 : decode cX9_move 94 = .ok (.ifCond .ne 7, 3) := by decide +kernel
theorem dX9_move_97 : decode cX9_move 97 = .ok (.iconst 1, 1) := by decide +kernel
theorem dX9_move_98 : decode cX9_move 98 = .ok (.goto 4, 3) := by decide +kernel
theorem dX9_move_101 : decode cX9_move 101 = .ok (.iload_n 2, 1) := by decide +kernel
theorem dX9_move_102 : decode cX9_move 102 = .ok (.invokevirtual 211, 3) := by decide +kernel
theorem dX9_move_105 : decode cX9_move 105 = .ok (.aload_n 0, 1) := by decide +kernel
theorem dX9_move_106 : decode cX9_move 106 = .ok (.invokevirtual 86, 3) := by decide +kernel
theorem dX9_move_109 : decode cX9_move 109 = .ok (.ireturn, 1) := by decide +kernel
theorem dX9_start_0 : decode cX9_start 0 = .ok (.aload_n 0, 1) := by decide +kernel
theorem dX9_start_1 : decode cX9_start 1 = .ok (.iload_n 1, 1) := by decide +kernel
theorem dX9_start_2 : decode cX9_start 2 = .ok (.invokevirtual 184, 3) := by decide +kernel
theorem dX9_start_5 : decode cX9_start 5 = .ok (.astore_n 2, 1) := by decide +kernel
theorem dX9_start_6 : decode cX9_start 6 = .ok (.aload_n 2, 1) := by decide +kernel
theorem dX9_start_7 : decode cX9_start 7 = .ok (.ifnonnull 9, 3) := by decide +kernel
theorem dX9_start_10 : decode cX9_start 10 = .ok (.aload_n 0, 1) := by decide +kernel
theorem dX9_start_11 : decode cX9_start 11 = .ok (.iconst 1, 1) := by decide +kernel
theorem dX9_start_12 : decode cX9_start 12 = .ok (.invokevirtual 74, 3) := by decide +kernel
theorem dX9_start_15 : decode cX9_start 15 = .ok (.ireturn, 1) := by decide +kernel
theorem dX9_start_16 : decode cX9_start 16 = .ok (.aload_n 0, 1) := by decide +kernel
theorem dX9_start_17 : decode cX9_start 17 = .ok (.aload_n 2, 1) := by decide +kernel
theorem dX9_start_18 : decode cX9_start 18 = .ok (.getfield 188, 3) := by decide +kernel
theorem dX9_start_21 : decode cX9_start 21 = .ok (.invokevirtual 66, 3) := by decide +kernel
theorem dX9_start_24 : decode cX9_start 24 = .ok (.astore_n 3, 1) := by decide +kernel
theorem dX9_start_25 : decode cX9_start 25 = .ok (.aload_n 3, 1) := by decide +kernel
theorem dX9_start_26 : decode cX9_start 26 = .ok (.ifnonnull 9, 3) := by decide +kernel
theorem dX9_start_29 : decode cX9_start 29 = .ok (.aload_n 0, 1) := by decide +kernel
theorem dX9_start_30 : decode cX9_start 30 = .ok (.iconst 1, 1) := by decide +kernel
theorem dX9_start_31 : decode cX9_start 31 = .ok (.invokevirtual 74, 3) := by decide +kernel
theorem dX9_start_34 : decode cX9_start 34 = .ok (.ireturn, 1) := by decide +kernel
theorem dX9_start_35 : decode cX9_start 35 = .ok (.aload_n 2, 1) := by decide +kernel
theorem dX9_start_36 : decode cX9_start 36 = .ok (.getfield 194, 3) := by decide +kernel
theorem dX9_start_39 : decode cX9_start 39 = .ok (.ifCond .eq 9, 3) := by decide +kernel
theorem dX9_start_42 : decode cX9_start 42 = .ok (.aload_n 0, 1) := by decide +kernel
theorem dX9_start_43 : decode cX9_start 43 = .ok (.iconst 5, 1) := by decide +kernel
theorem dX9_start_44 : decode cX9_start 44 = .ok (.invokevirtual 74, 3) := by decide +kernel
theorem dX9_start_47 : decode cX9_start 47 = .ok (.ireturn, 1) := by decide +kernel
theorem dX9_start_48 : decode cX9_start 48 = .ok (.aload_n 0, 1) := by decide +kernel
theorem dX9_start_49 : decode cX9_start 49 = .ok (.aload_n 2, 1) := by decide +kernel
theorem dX9_start_50 : decode cX9_start 50 = .ok (.getfield 188, 3) := by decide +kernel
theorem dX9_start_53 : decode cX9_start 53 = .ok (.aload_n 3, 1) := by decide +kernel
theorem dX9_start_54 : decode cX9_start 54 = .ok (.invokevirtual 204, 3) := by decide +kernel
theorem dX9_start_57 : decode cX9_start 57 = .ok (.ifCond .ne 10, 3) := by decide +kernel
theorem dX9_start_60 : decode cX9_start 60 = .ok (.aload_n 0, 1) := by decide +kernel
theorem dX9_start_61 : decode cX9_start 61 = .ok (.bipush 6, 2) := by decide +kernel
theorem dX9_start_63 : decode cX9_start 63 = .ok (.invokevirtual 74, 3) := by decide +kernel
theorem dX9_start_66 : decode cX9_start 66 = .ok (.ireturn, 1) := by decide +kernel
theorem dX9_start_67 : decode cX9_start 67 = .ok (.aload_n 0, 1) := by decide +kernel
theorem dX9_start_68 : decode cX9_start 68 = .ok (.aload_n 2, 1) := by decide +kernel
theorem dX9_start_69 : decode cX9_start 69 = .ok (.getfield 188, 3) := by decide +kernel
theorem dX9_start_72 : decode cX9_start 72 = .ok (.putfield 62, 3) := by decide +kernel
theorem dX9_start_75 : decode cX9_start 75 = .ok (.aload_n 2, 1) := by decide +kernel
theorem dX9_start_76 : decode cX9_start 76 = .ok (.iconst 1, 1) := by decide +kernel
theorem dX9_start_77 : decode cX9_start 77 = .ok (.putfield 194, 3) := by decide +kernel
theorem dX9_start_80 : decode cX9_start 80 = .ok (.aload_n 0, 1) := by decide +kernel
theorem dX9_start_81 : decode cX9_start 81 = .ok (.invokevirtual 86, 3) := by decide +kernel
theorem dX9_start_84 : decode cX9_start 84 = .ok (.ireturn, 1) := by decide +kernel
theorem dX9_plan_0 : decode cX9_plan 0 = .ok (.aload_n 0, 1) := by decide +kernel
theorem dX9_plan_1 : decode cX9_plan 1 = .ok (.iload_n 1, 1) := by decide +kernel
theorem dX9_plan_2 : decode cX9_plan 2 = .ok (.invokevirtual 66, 3) := by decide +kernel
theorem dX9_plan_5 : decode cX9_plan 5 = .ok (.astore_n 3, 1) := by decide +kernel
theorem dX9_plan_6 : decode cX9_plan 6 = .ok (.aload_n 3, 1) := by decide +kernel
theorem dX9_plan_7 : decode cX9_plan 7 = .ok (.ifnonnull 9, 3) := by decide +kernel
theorem dX9_plan_10 : decode cX9_plan 10 = .ok (.aload_n 0, 1) := by decide +kernel
theorem dX9_plan_11 : decode cX9_plan 11 = .ok (.iconst 1, 1) := by decide +kernel
theorem dX9_plan_12 : decode cX9_plan 12 = .ok (.invokevirtual 162, 3) := by decide +kernel
theorem dX9_plan_15 : decode cX9_plan 15 = .ok (.ireturn, 1) := by decide +kernel
theorem dX9_plan_16 : decode cX9_plan 16 = .ok (.iload_n 2, 1) := by decide +kernel
theorem dX9_plan_17 : decode cX9_plan 17 = .ok (.iconst 1, 1) := by decide +kernel
theorem dX9_plan_18 : decode cX9_plan 18 = .ok (.sipush 200, 3) := by decide +kernel
theorem dX9_plan_21 : decode cX9_plan 21 = .ok (.invokestatic 78, 3) := by decide +kernel
theorem dX9_plan_24 : decode cX9_plan 24 = .ok (.ifCond .ne 9, 3) := by decide +kernel
theorem dX9_plan_27 : decode cX9_plan 27 = .ok (.aload_n 0, 1) := by decide +kernel
theorem dX9_plan_28 : decode cX9_plan 28 = .ok (.iconst 2, 1) := by decide +kernel
theorem dX9_plan_29 : decode cX9_plan 29 = .ok (.invokevirtual 162, 3) := by decide +kernel
theorem dX9_plan_32 : decode cX9_plan 32 = .ok (.ireturn, 1) := by decide +kernel
theorem dX9_plan_33 : decode cX9_plan 33 = .ok (.bipush 61, 2) := by decide +kernel
theorem dX9_plan_35 : decode cX9_plan 35 = .ok (.istore 4, 2) := by decide +kernel
theorem dX9_plan_37 : decode cX9_plan 37 = .ok (.iconst 0, 1) := by decide +kernel
theorem dX9_plan_38 : decode cX9_plan 38 = .ok (.istore 5, 2) := by decide +kernel
theorem dX9_plan_40 : decode cX9_plan 40 = .ok (.iload 5, 2) := by decide +kernel
theorem dX9_plan_42 : decode cX9_plan 42 = .ok (.iconst 3, 1) := by decide +kernel
theorem dX9_plan_43 : decode cX9_plan 43 = .ok (.if_icmp .gt 27, 3) := by decide +kernel
theorem dX9_plan_46 : decode cX9_plan 46 = .ok (.iload 4, 2) := by decide +kernel
theorem dX9_plan_48 : decode cX9_plan 48 = .ok (.iconst 1, 1) := by decide +kernel
theorem dX9_plan_49 : decode cX9_plan 49 = .ok (.if_icmp .le 21, 3) := by decide +kernel
theorem dX9_plan_52 : decode cX9_plan 52 = .ok (.aload_n 0, 1) := by decide +kernel
theorem dX9_plan_53 : decode cX9_plan 53 = .ok (.aload_n 3, 1) := by decide +kernel
theorem dX9_plan_54 : decode cX9_plan 54 = .ok (.iload_n 2, 1) := by decide +kernel
theorem dX9_plan_55 : decode cX9_plan 55 = .ok (.iload 5, 2) := by decide +kernel
theorem dX9_plan_57 : decode cX9_plan 57 = .ok (.iload 4, 2) := by decide +kernel
theorem dX9_plan_59 : decode cX9_plan 59 = .ok (.invokevirtual 214, 3) := by decide +kernel
theorem dX9_plan_62 : decode cX9_plan 62 = .ok (.istore 4, 2) := by decide +kernel
theorem dX9_plan_64 : decode cX9_plan 64 = .ok (.iinc 5 1, 3) := by decide +kernel
theorem dX9_plan_67 : decode cX9_plan 67 = .ok (.goto (-27), 3) := by decide +kernel
theorem dX9_plan_70 : decode cX9_plan 70 = .ok (.aload_n 0, 1) := by decide +kernel
theorem dX9_plan_71 : decode cX9_plan 71 = .ok (.iload 4, 2) := by decide +kernel
theorem dX9_plan_73 : decode cX9_plan 73 = .ok (.bipush 60, 2) := by decide +kernel
theorem dX9_plan_75 : decode cX9_plan 75 = .ok (.if_icmp .le 8, 3) := by decide +kernel
theorem dX9_plan_78 : decode cX9_plan 78 = .ok (.bipush (-2), 2) := by decide +kernel
theorem dX9_plan_80 : decode cX9_plan 80 = .ok (.goto 5, 3) := by decide +kernel
theorem dX9_plan_83 : decode cX9_plan 83 = .ok (.iload 4, 2) := by decide +kernel
theorem dX9_plan_85 : decode cX9_plan 85 = .ok (.invokevirtual 169, 3) := by decide +kernel
theorem dX9_plan_88 : decode cX9_plan 88 = .ok (.ireturn, 1) := by decide +kernel
theorem dX9_planned_0 : decode cX9_planned 0 = .ok (.iload_n 1, 1) := by decide +kernel
theorem dX9_planned_1 : decode cX9_planned 1 = .ok (.ifCond .lt 20, 3) := by decide +kernel
theorem dX9_planned_4 : decode cX9_planned 4 = .ok (.iload_n 1, 1) := by decide +kernel
theorem dX9_planned_5 : decode cX9_planned 5 = .ok (.aload_n 0, 1) := by decide +kernel
theorem dX9_planned_6 : decode cX9_planned 6 = .ok (.getfield 218, 3) := by decide +kernel
theorem dX9_planned_9 : decode cX9_planned 9 = .ok (.if_icmp .ge 12, 3) := by decide +kernel
theorem dX9_planned_12 : decode cX9_planned 12 = .ok (.iload_n 1, 1) := by decide +kernel
theorem dX9_planned_13 : decode cX9_planned 13 = .ok (.aload_n 0, 1) := by decide +kernel
theorem dX9_planned_14 : decode cX9_planned 14 = .ok (.getfield 32, 3) := by decide +kernel
theorem dX9_planned_17 : decode cX9_planned 17 = .ok (.arraylength, 1) := by decide +kernel
theorem dX9_planned_18 : decode cX9_planned 18 = .ok (.if_icmp .lt 11, 3) := by decide +kernel
theorem dX9_planned_21 : decode cX9_planned 21 = .ok (.new 221, 3) := by decide +kernel
theorem dX9_planned_24 : decode cX9_planned 24 = .ok (.dup, 1) := by decide +kernel
theorem dX9_planned_25 : decode cX9_planned 25 = .ok (.invokespecial 223, 3) := by decide +kernel
theorem dX9_planned_28 : decode cX9_planned 28 = .ok (.athrow, 1) := by decide +kernel
theorem dX9_planned_29 : decode cX9_planned 29 = .ok (.aload_n 0, 1) := by decide +kernel
theorem dX9_planned_30 : decode cX9_planned 30 = .ok (.getfield 32, 3) := by decide +kernel
theorem dX9_planned_33 : decode cX9_planned 33 = .ok (.iload_n 1, 1) := by decide +kernel
theorem dX9_planned_34 : decode cX9_planned 34 = .ok (.iaload, 1) := by decide +kernel
theorem dX9_planned_35 : decode cX9_planned 35 = .ok (.ireturn, 1) := by decide +kernel
theorem dX9_check_0 : decode cX9_check 0 = .ok (.aload_n 0, 1) := by decide +kernel
theorem dX9_check_1 : decode cX9_check 1 = .ok (.iload_n 1, 1) := by decide +kernel
theorem dX9_check_2 : decode cX9_check 2 = .ok (.invokevirtual 66, 3) := by decide +kernel
theorem dX9_check_5 : decode cX9_check 5 = .ok (.astore 6, 2) := by decide +kernel
theorem dX9_check_7 : decode cX9_check 7 = .ok (.aload 6, 2) := by decide +kernel
theorem dX9_check_9 : decode cX9_check 9 = .ok (.ifnonnull 9, 3) := by decide +kernel
theorem dX9_check_12 : decode cX9_check 12 = .ok (.aload_n 0, 1) := by decide +kernel
theorem dX9_check_13 : decode cX9_check 13 = .ok (.iconst 1, 1) := by decide +kernel
theorem dX9_check_14 : decode cX9_check 14 = .ok (.invokevirtual 162, 3) := by decide +kernel
theorem dX9_check_17 : decode cX9_check 17 = .ok (.ireturn, 1) := by decide +kernel
theorem dX9_check_18 : decode cX9_check 18 = .ok (.aload 6, 2) := by decide +kernel
theorem dX9_check_20 : decode cX9_check 20 = .ok (.getfield 224, 3) := by decide +kernel
theorem dX9_check_23 : decode cX9_check 23 = .ok (.istore 7, 2) := by decide +kernel
theorem dX9_check_25 : decode cX9_check 25 = .ok (.iload_n 2, 1) := by decide +kernel
theorem dX9_check_26 : decode cX9_check 26 = .ok (.iconst 1, 1) := by decide +kernel
theorem dX9_check_27 : decode cX9_check 27 = .ok (.sipush 200, 3) := by decide +kernel
theorem dX9_check_30 : decode cX9_check 30 = .ok (.invokestatic 78, 3) := by decide +kernel
theorem dX9_check_33 : decode cX9_check 33 = .ok (.ifCond .eq 43, 3) := by decide +kernel
theorem dX9_check_36 : decode cX9_check 36 = .ok (.iload 7, 2) := by decide +kernel
theorem dX9_check_38 : decode cX9_check 38 = .ok (.ifCond .le 10, 3) := by decide +kernel
theorem dX9_check_41 : decode cX9_check 41 = .ok (.iload_n 3, 1) := by decide +kernel
theorem dX9_check_42 : decode cX9_check 42 = .ok (.invokestatic 70, 3) := by decide +kernel
theorem dX9_check_45 : decode cX9_check 45 = .ok (.ifCond .eq 31, 3) := by decide +kernel
theorem dX9_check_48 : decode cX9_check 48 = .ok (.iload 7, 2) := by decide +kernel
theorem dX9_check_50 : decode cX9_check 50 = .ok (.iconst 1, 1) := by decide +kernel
theorem dX9_check_51 : decode cX9_check 51 = .ok (.if_icmp .le 11, 3) := by decide +kernel
theorem dX9_check_54 : decode cX9_check 54 = .ok (.iload 4, 2) := by decide +kernel
theorem dX9_check_56 : decode cX9_check 56 = .ok (.invokestatic 70, 3) := by decide +kernel
theorem dX9_check_59 : decode cX9_check 59 = .ok (.ifCond .eq 17, 3) := by decide +kernel
theorem dX9_check_62 : decode cX9_check 62 = .ok (.iload 7, 2) := by decide +kernel
theorem dX9_check_64 : decode cX9_check 64 = .ok (.iconst 2, 1) := by decide +kernel
theorem dX9_check_65 : decode cX9_check 65 = .ok (.if_icmp .le 17, 3) := by decide +kernel
theorem dX9_check_68 : decode cX9_check 68 = .ok (.iload 5, 2) := by decide +kernel
theorem dX9_check_70 : decode cX9_check 70 = .ok (.invokestatic 70, 3) := by decide +kernel
theorem dX9_check_73 : decode cX9_check 73 = .ok (.ifCond .ne 9, 3) := by decide +kernel
theorem dX9_check_76 : decode cX9_check 76 = .ok (.aload_n 0, 1) := by decide +kernel
theorem dX9_check_77 : decode cX9_check 77 = .ok (.iconst 2, 1) := by decide +kernel
theorem dX9_check_78 : decode cX9_check 78 = .ok (.invokevirtual 162, 3) := by decide +kernel
theorem dX9_check_81 : decode cX9_check 81 = .ok (.ireturn, 1) := by decide +kernel
theorem dX9_check_82 : decode cX9_check 82 = .ok (.aload_n 0, 1) := by decide +kernel
theorem dX9_check_83 : decode cX9_check 83 = .ok (.getfield 18, 3) := by decide +kernel
theorem dX9_check_86 : decode cX9_check 86 = .ok (.aload 6, 2) := by decide +kernel
theorem dX9_check_88 : decode cX9_check 88 = .ok (.invokevirtual 225, 3) := by decide +kernel
theorem dX9_check_91 : decode cX9_check 91 = .ok (.aload_n 0, 1) := by decide +kernel
theorem dX9_check_92 : decode cX9_check 92 = .ok (.getfield 18, 3) := by decide +kernel
theorem dX9_check_95 : decode cX9_check 95 = .ok (.iconst 0, 1) := by decide +kernel
theorem dX9_check_96 : decode cX9_check 96 = .ok (.iload_n 3, 1) := by decide +kernel
theorem dX9_check_97 : decode cX9_check 97 = .ok (.invokevirtual 229, 3) := by decide +kernel
theorem dX9_check_100 : decode cX9_check 100 = .ok (.aload_n 0, 1) := by decide +kernel
theorem dX9_check_101 : decode cX9_check 101 = .ok (.getfield 18, 3) := by decide +kernel
theorem dX9_check_104 : decode cX9_check 104 = .ok (.iconst 1, 1) := by decide +kernel
theorem dX9_check_105 : decode cX9_check 105 = .ok (.iload 4, 2) := by decide +kernel
theorem dX9_check_107 : decode cX9_check 107 = .ok (.invokevirtual 229, 3) := by decide +kernel
theorem dX9_check_110 : decode cX9_check 110 = .ok (.aload_n 0, 1) := by decide +kernel
theorem dX9_check_111 : decode cX9_check 111 = .ok (.getfield 18, 3) := by decide +kernel
theorem dX9_check_114 : decode cX9_check 114 = .ok (.iconst 2, 1) := by decide +kernel
theorem dX9_check_115 : decode cX9_check 115 = .ok (.iload 5, 2) := by decide +kernel
theorem dX9_check_117 : decode cX9_check 117 = .ok (.invokevirtual 229, 3) := by decide +kernel
theorem dX9_check_120 : decode cX9_check 120 = .ok (.aload_n 0, 1) := by decide +kernel
theorem dX9_check_121 : decode cX9_check 121 = .ok (.aload_n 0, 1) := by decide +kernel
theorem dX9_check_122 : decode cX9_check 122 = .ok (.getfield 18, 3) := by decide +kernel
theorem dX9_check_125 : decode cX9_check 125 = .ok (.iload_n 2, 1) := by decide +kernel
theorem dX9_check_126 : decode cX9_check 126 = .ok (.bipush 60, 2) := by decide +kernel
theorem dX9_check_128 : decode cX9_check 128 = .ok (.invokevirtual 232, 3) := by decide +kernel
theorem dX9_check_131 : decode cX9_check 131 = .ok (.invokevirtual 169, 3) := by decide +kernel
theorem dX9_check_134 : decode cX9_check 134 = .ok (.ireturn, 1) := by decide +kernel
theorem dX9_feed_0 : decode cX9_feed 0 = .ok (.aload_n 0, 1) := by decide +kernel
theorem dX9_feed_1 : decode cX9_feed 1 = .ok (.getfield 38, 3) := by decide +kernel
theorem dX9_feed_4 : decode cX9_feed 4 = .ok (.invokevirtual 235, 3) := by decide +kernel
theorem dX9_feed_7 : decode cX9_feed 7 = .ok (.ifCond .ne 5, 3) := by decide +kernel
theorem dX9_feed_10 : decode cX9_feed 10 = .ok (.iconst (-1), 1) := by decide +kernel
theorem dX9_feed_11 : decode cX9_feed 11 = .ok (.ireturn, 1) := by decide +kernel
theorem dX9_feed_12 : decode cX9_feed 12 = .ok (.aload_n 0, 1) := by decide +kernel
theorem dX9_feed_13 : decode cX9_feed 13 = .ok (.getfield 38, 3) := by decide +kernel
theorem dX9_feed_16 : decode cX9_feed 16 = .ok (.iload_n 1, 1) := by decide +kernel
theorem dX9_feed_17 : decode cX9_feed 17 = .ok (.invokevirtual 238, 3) := by decide +kernel
theorem dX9_feed_20 : decode cX9_feed 20 = .ok (.aload_n 0, 1) := by decide +kernel
theorem dX9_feed_21 : decode cX9_feed 21 = .ok (.getfield 38, 3) := by decide +kernel
theorem dX9_feed_24 : decode cX9_feed 24 = .ok (.iload_n 2, 1) := by decide +kernel
theorem dX9_feed_25 : decode cX9_feed 25 = .ok (.invokevirtual 238, 3) := by decide +kernel
theorem dX9_feed_28 : decode cX9_feed 28 = .ok (.aload_n 0, 1) := by decide +kernel
theorem dX9_feed_29 : decode cX9_feed 29 = .ok (.getfield 38, 3) := by decide +kernel
theorem dX9_feed_32 : decode cX9_feed 32 = .ok (.iload_n 3, 1) := by decide +kernel
theorem dX9_feed_33 : decode cX9_feed 33 = .ok (.invokevirtual 238, 3) := by decide +kernel
theorem dX9_feed_36 : decode cX9_feed 36 = .ok (.aload_n 0, 1) := by decide +kernel
theorem dX9_feed_37 : decode cX9_feed 37 = .ok (.getfield 38, 3) := by decide +kernel
theorem dX9_feed_40 : decode cX9_feed 40 = .ok (.iload 4, 2) := by decide +kernel
theorem dX9_feed_42 : decode cX9_feed 42 = .ok (.invokevirtual 238, 3) := by decide +kernel
theorem dX9_feed_45 : decode cX9_feed 45 = .ok (.aload_n 0, 1) := by decide +kernel
theorem dX9_feed_46 : decode cX9_feed 46 = .ok (.getfield 38, 3) := by decide +kernel
theorem dX9_feed_49 : decode cX9_feed 49 = .ok (.iload 5, 2) := by decide +kernel
theorem dX9_feed_51 : decode cX9_feed 51 = .ok (.invokevirtual 238, 3) := by decide +kernel
theorem dX9_feed_54 : decode cX9_feed 54 = .ok (.aload_n 0, 1) := by decide +kernel
theorem dX9_feed_55 : decode cX9_feed 55 = .ok (.getfield 38, 3) := by decide +kernel
theorem dX9_feed_58 : decode cX9_feed 58 = .ok (.getfield 241, 3) := by decide +kernel
theorem dX9_feed_61 : decode cX9_feed 61 = .ok (.ireturn, 1) := by decide +kernel
theorem dX9_rule_0 : decode cX9_rule 0 = .ok (.iload_n 1, 1) := by decide +kernel
theorem dX9_rule_1 : decode cX9_rule 1 = .ok (.iconst 0, 1) := by decide +kernel
theorem dX9_rule_2 : decode cX9_rule 2 = .ok (.aload_n 0, 1) := by decide +kernel
theorem dX9_rule_3 : decode cX9_rule 3 = .ok (.getfield 38, 3) := by decide +kernel
theorem dX9_rule_6 : decode cX9_rule 6 = .ok (.getfield 241, 3) := by decide +kernel
theorem dX9_rule_9 : decode cX9_rule 9 = .ok (.invokestatic 78, 3) := by decide +kernel
theorem dX9_rule_12 : decode cX9_rule 12 = .ok (.ifCond .ne 9, 3) := by decide +kernel
theorem dX9_rule_15 : decode cX9_rule 15 = .ok (.aload_n 0, 1) := by decide +kernel
theorem dX9_rule_16 : decode cX9_rule 16 = .ok (.iconst 2, 1) := by decide +kernel
theorem dX9_rule_17 : decode cX9_rule 17 = .ok (.invokevirtual 162, 3) := by decide +kernel
theorem dX9_rule_20 : decode cX9_rule 20 = .ok (.ireturn, 1) := by decide +kernel
theorem dX9_rule_21 : decode cX9_rule 21 = .ok (.aload_n 0, 1) := by decide +kernel
theorem dX9_rule_22 : decode cX9_rule 22 = .ok (.getfield 38, 3) := by decide +kernel
theorem dX9_rule_25 : decode cX9_rule 25 = .ok (.iload_n 1, 1) := by decide +kernel
theorem dX9_rule_26 : decode cX9_rule 26 = .ok (.invokevirtual 244, 3) := by decide +kernel
theorem dX9_rule_29 : decode cX9_rule 29 = .ok (.astore_n 2, 1) := by decide +kernel
theorem dX9_rule_30 : decode cX9_rule 30 = .ok (.aload_n 2, 1) := by decide +kernel
theorem dX9_rule_31 : decode cX9_rule 31 = .ok (.ifnonnull 9, 3) := by decide +kernel
theorem dX9_rule_34 : decode cX9_rule 34 = .ok (.aload_n 0, 1) := by decide +kernel
theorem dX9_rule_35 : decode cX9_rule 35 = .ok (.iconst 4, 1) := by decide +kernel
theorem dX9_rule_36 : decode cX9_rule 36 = .ok (.invokevirtual 162, 3) := by decide +kernel
theorem dX9_rule_39 : decode cX9_rule 39 = .ok (.ireturn, 1) := by decide +kernel
theorem dX9_rule_40 : decode cX9_rule 40 = .ok (.aload_n 0, 1) := by decide +kernel
theorem dX9_rule_41 : decode cX9_rule 41 = .ok (.getfield 38, 3) := by decide +kernel
theorem dX9_rule_44 : decode cX9_rule 44 = .ok (.aload_n 2, 1) := by decide +kernel
theorem dX9_rule_45 : decode cX9_rule 45 = .ok (.invokevirtual 248, 3) := by decide +kernel
theorem dX9_rule_48 : decode cX9_rule 48 = .ok (.ifCond .ne 9, 3) := by decide +kernel
theorem dX9_rule_51 : decode cX9_rule 51 = .ok (.aload_n 0, 1) := by decide +kernel
theorem dX9_rule_52 : decode cX9_rule 52 = .ok (.iconst 3, 1) := by decide +kernel
theorem dX9_rule_53 : decode cX9_rule 53 = .ok (.invokevirtual 162, 3) := by decide +kernel
theorem dX9_rule_56 : decode cX9_rule 56 = .ok (.ireturn, 1) := by decide +kernel
theorem dX9_rule_57 : decode cX9_rule 57 = .ok (.aload_n 0, 1) := by decide +kernel
theorem dX9_rule_58 : decode cX9_rule 58 = .ok (.aload_n 0, 1) := by decide +kernel
theorem dX9_rule_59 : decode cX9_rule 59 = .ok (.getfield 38, 3) := by decide +kernel
theorem dX9_rule_62 : decode cX9_rule 62 = .ok (.getfield 252, 3) := by decide +kernel
theorem dX9_rule_65 : decode cX9_rule 65 = .ok (.iconst 1, 1) := by decide +kernel
theorem dX9_rule_66 : decode cX9_rule 66 = .ok (.isub, 1) := by decide +kernel
theorem dX9_rule_67 : decode cX9_rule 67 = .ok (.invokevirtual 169, 3) := by decide +kernel
theorem dX9_rule_70 : decode cX9_rule 70 = .ok (.ireturn, 1) := by decide +kernel
theorem dX9_fault_0 : decode cX9_fault 0 = .ok (.aload_n 0, 1) := by decide +kernel
theorem dX9_fault_1 : decode cX9_fault 1 = .ok (.getfield 38, 3) := by decide +kernel
theorem dX9_fault_4 : decode cX9_fault 4 = .ok (.getfield 255, 3) := by decide +kernel
theorem dX9_fault_7 : decode cX9_fault 7 = .ok (.ireturn, 1) := by decide +kernel
theorem dX9_where_0 : decode cX9_where 0 = .ok (.aload_n 0, 1) := by decide +kernel
theorem dX9_where_1 : decode cX9_where 1 = .ok (.getfield 258, 3) := by decide +kernel
theorem dX9_where_4 : decode cX9_where 4 = .ok (.iconst 4, 1) := by decide +kernel
theorem dX9_where_5 : decode cX9_where 5 = .ok (.if_icmp .ne 13, 3) := by decide +kernel
theorem dX9_where_8 : decode cX9_where 8 = .ok (.aload_n 0, 1) := by decide +kernel
theorem dX9_where_9 : decode cX9_where 9 = .ok (.getfield 38, 3) := by decide +kernel
theorem dX9_where_12 : decode cX9_where 12 = .ok (.getfield 261, 3) := by decide +kernel
theorem dX9_where_15 : decode cX9_where 15 = .ok (.goto 4, 3) := by decide +kernel
theorem dX9_where_18 : decode cX9_where 18 = .ok (.iconst (-1), 1) := by decide +kernel
theorem dX9_where_19 : decode cX9_where 19 = .ok (.ireturn, 1) := by decide +kernel
theorem dX9_repeal_0 : decode cX9_repeal 0 = .ok (.aload_n 0, 1) := by decide +kernel
theorem dX9_repeal_1 : decode cX9_repeal 1 = .ok (.getfield 38, 3) := by decide +kernel
theorem dX9_repeal_4 : decode cX9_repeal 4 = .ok (.iload_n 1, 1) := by decide +kernel
theorem dX9_repeal_5 : decode cX9_repeal 5 = .ok (.invokevirtual 264, 3) := by decide +kernel
theorem dX9_repeal_8 : decode cX9_repeal 8 = .ok (.ifCond .ne 9, 3) := by decide +kernel
theorem dX9_repeal_11 : decode cX9_repeal 11 = .ok (.aload_n 0, 1) := by decide +kernel
theorem dX9_repeal_12 : decode cX9_repeal 12 = .ok (.iconst 1, 1) := by decide +kernel
theorem dX9_repeal_13 : decode cX9_repeal 13 = .ok (.invokevirtual 74, 3) := by decide +kernel
theorem dX9_repeal_16 : decode cX9_repeal 16 = .ok (.ireturn, 1) := by decide +kernel
theorem dX9_repeal_17 : decode cX9_repeal 17 = .ok (.aload_n 0, 1) := by decide +kernel
theorem dX9_repeal_18 : decode cX9_repeal 18 = .ok (.invokevirtual 86, 3) := by decide +kernel
theorem dX9_repeal_21 : decode cX9_repeal 21 = .ok (.ireturn, 1) := by decide +kernel
theorem dX9_wind_0 : decode cX9_wind 0 = .ok (.iload_n 1, 1) := by decide +kernel
theorem dX9_wind_1 : decode cX9_wind 1 = .ok (.iconst 0, 1) := by decide +kernel
theorem dX9_wind_2 : decode cX9_wind 2 = .ok (.bipush 99, 2) := by decide +kernel
theorem dX9_wind_4 : decode cX9_wind 4 = .ok (.invokestatic 78, 3) := by decide +kernel
theorem dX9_wind_7 : decode cX9_wind 7 = .ok (.ifCond .ne 9, 3) := by decide +kernel
theorem dX9_wind_10 : decode cX9_wind 10 = .ok (.aload_n 0, 1) := by decide +kernel
theorem dX9_wind_11 : decode cX9_wind 11 = .ok (.iconst 2, 1) := by decide +kernel
theorem dX9_wind_12 : decode cX9_wind 12 = .ok (.invokevirtual 74, 3) := by decide +kernel
theorem dX9_wind_15 : decode cX9_wind 15 = .ok (.ireturn, 1) := by decide +kernel
theorem dX9_wind_16 : decode cX9_wind 16 = .ok (.aload_n 0, 1) := by decide +kernel
theorem dX9_wind_17 : decode cX9_wind 17 = .ok (.iload_n 1, 1) := by decide +kernel
theorem dX9_wind_18 : decode cX9_wind 18 = .ok (.putfield 267, 3) := by decide +kernel
theorem dX9_wind_21 : decode cX9_wind 21 = .ok (.aload_n 0, 1) := by decide +kernel
theorem dX9_wind_22 : decode cX9_wind 22 = .ok (.invokevirtual 86, 3) := by decide +kernel
theorem dX9_wind_25 : decode cX9_wind 25 = .ok (.ireturn, 1) := by decide +kernel
theorem dX9_says_0 : decode cX9_says 0 = .ok (.aload_n 0, 1) := by decide +kernel
theorem dX9_says_1 : decode cX9_says 1 = .ok (.iload_n 1, 1) := by decide +kernel
theorem dX9_says_2 : decode cX9_says 2 = .ok (.invokevirtual 66, 3) := by decide +kernel
theorem dX9_says_5 : decode cX9_says 5 = .ok (.astore_n 3, 1) := by decide +kernel
theorem dX9_says_6 : decode cX9_says 6 = .ok (.aload_n 3, 1) := by decide +kernel
theorem dX9_says_7 : decode cX9_says 7 = .ok (.ifnull 12, 3) := by decide +kernel
theorem dX9_says_10 : decode cX9_says 10 = .ok (.iload_n 2, 1) := by decide +kernel
theorem dX9_says_11 : decode cX9_says 11 = .ok (.iconst 0, 1) := by decide +kernel
theorem dX9_says_12 : decode cX9_says 12 = .ok (.iconst 2, 1) := by decide +kernel
theorem dX9_says_13 : decode cX9_says 13 = .ok (.invokestatic 78, 3) := by decide +kernel
theorem dX9_says_16 : decode cX9_says 16 = .ok (.ifCond .ne 5, 3) := by decide +kernel
theorem dX9_says_19 : decode cX9_says 19 = .ok (.iconst (-1), 1) := by decide +kernel
theorem dX9_says_20 : decode cX9_says 20 = .ok (.ireturn, 1) := by decide +kernel
theorem dX9_says_21 : decode cX9_says 21 = .ok (.aload_n 0, 1) := by decide +kernel
theorem dX9_says_22 : decode cX9_says 22 = .ok (.iload_n 1, 1) := by decide +kernel
theorem dX9_says_23 : decode cX9_says 23 = .ok (.aload_n 3, 1) := by decide +kernel
theorem dX9_says_24 : decode cX9_says 24 = .ok (.iconst 0, 1) := by decide +kernel
theorem dX9_says_25 : decode cX9_says 25 = .ok (.invokevirtual 270, 3) := by decide +kernel
theorem dX9_says_28 : decode cX9_says 28 = .ok (.iload_n 2, 1) := by decide +kernel
theorem dX9_says_29 : decode cX9_says 29 = .ok (.iconst 2, 1) := by decide +kernel
theorem dX9_says_30 : decode cX9_says 30 = .ok (.if_icmp .ne 19, 3) := by decide +kernel
theorem dX9_says_33 : decode cX9_says 33 = .ok (.aload_n 0, 1) := by decide +kernel
theorem dX9_says_34 : decode cX9_says 34 = .ok (.getfield 38, 3) := by decide +kernel
theorem dX9_says_37 : decode cX9_says 37 = .ok (.invokevirtual 274, 3) := by decide +kernel
theorem dX9_says_40 : decode cX9_says 40 = .ok (.ifCond .eq 7, 3) := by decide +kernel
theorem dX9_says_43 : decode cX9_says 43 = .ok (.iconst 1, 1) := by decide +kernel
theorem dX9_says_44 : decode cX9_says 44 = .ok (.goto 4, 3) := by decide +kernel
theorem dX9_says_47 : decode cX9_says 47 = .ok (.iconst 0, 1) := by decide +kernel
theorem dX9_says_48 : decode cX9_says 48 = .ok (.ireturn, 1) := by decide +kernel
theorem dX9_says_49 : decode cX9_says 49 = .ok (.aload_n 0, 1) := by decide +kernel
theorem dX9_says_50 : decode cX9_says 50 = .ok (.getfield 38, 3) := by decide +kernel
theorem dX9_says_53 : decode cX9_says 53 = .ok (.iload_n 2, 1) := by decide +kernel
theorem dX9_says_54 : decode cX9_says 54 = .ok (.ifCond .ne 7, 3) := by decide +kernel
theorem dX9_says_57 : decode cX9_says 57 = .ok (.iconst 0, 1) := by decide +kernel
theorem dX9_says_58 : decode cX9_says 58 = .ok (.goto 4, 3) := by decide +kernel
theorem dX9_says_61 : decode cX9_says 61 = .ok (.iconst 2, 1) := by decide +kernel
theorem dX9_says_62 : decode cX9_says 62 = .ok (.invokevirtual 277, 3) := by decide +kernel
theorem dX9_says_65 : decode cX9_says 65 = .ok (.ifCond .eq 7, 3) := by decide +kernel
theorem dX9_says_68 : decode cX9_says 68 = .ok (.iconst 1, 1) := by decide +kernel
theorem dX9_says_69 : decode cX9_says 69 = .ok (.goto 4, 3) := by decide +kernel
theorem dX9_says_72 : decode cX9_says 72 = .ok (.iconst 0, 1) := by decide +kernel
theorem dX9_says_73 : decode cX9_says 73 = .ok (.ireturn, 1) := by decide +kernel
theorem dX9_may_0 : decode cX9_may 0 = .ok (.iload_n 1, 1) := by decide +kernel
theorem dX9_may_1 : decode cX9_may 1 = .ok (.invokestatic 280, 3) := by decide +kernel
theorem dX9_may_4 : decode cX9_may 4 = .ok (.ifCond .ne 5, 3) := by decide +kernel
theorem dX9_may_7 : decode cX9_may 7 = .ok (.iconst (-1), 1) := by decide +kernel
theorem dX9_may_8 : decode cX9_may 8 = .ok (.ireturn, 1) := by decide +kernel
theorem dX9_may_9 : decode cX9_may 9 = .ok (.aload_n 0, 1) := by decide +kernel
theorem dX9_may_10 : decode cX9_may 10 = .ok (.iload_n 1, 1) := by decide +kernel
theorem dX9_may_11 : decode cX9_may 11 = .ok (.invokevirtual 283, 3) := by decide +kernel
theorem dX9_may_14 : decode cX9_may 14 = .ok (.ifCond .eq 7, 3) := by decide +kernel
theorem dX9_may_17 : decode cX9_may 17 = .ok (.iconst 1, 1) := by decide +kernel
theorem dX9_may_18 : decode cX9_may 18 = .ok (.goto 4, 3) := by decide +kernel
theorem dX9_may_21 : decode cX9_may 21 = .ok (.iconst 0, 1) := by decide +kernel
theorem dX9_may_22 : decode cX9_may 22 = .ok (.ireturn, 1) := by decide +kernel
theorem dX9_reading_0 : decode cX9_reading 0 = .ok (.aload_n 0, 1) := by decide +kernel
theorem dX9_reading_1 : decode cX9_reading 1 = .ok (.iload_n 1, 1) := by decide +kernel
theorem dX9_reading_2 : decode cX9_reading 2 = .ok (.invokevirtual 66, 3) := by decide +kernel
theorem dX9_reading_5 : decode cX9_reading 5 = .ok (.ifnull 10, 3) := by decide +kernel
theorem dX9_reading_8 : decode cX9_reading 8 = .ok (.iload_n 2, 1) := by decide +kernel
theorem dX9_reading_9 : decode cX9_reading 9 = .ok (.invokestatic 70, 3) := by decide +kernel
theorem dX9_reading_12 : decode cX9_reading 12 = .ok (.ifCond .ne 9, 3) := by decide +kernel
theorem dX9_reading_15 : decode cX9_reading 15 = .ok (.aload_n 0, 1) := by decide +kernel
theorem dX9_reading_16 : decode cX9_reading 16 = .ok (.iconst 1, 1) := by decide +kernel
theorem dX9_reading_17 : decode cX9_reading 17 = .ok (.invokevirtual 74, 3) := by decide +kernel
theorem dX9_reading_20 : decode cX9_reading 20 = .ok (.ireturn, 1) := by decide +kernel
theorem dX9_reading_21 : decode cX9_reading 21 = .ok (.iload_n 3, 1) := by decide +kernel
theorem dX9_reading_22 : decode cX9_reading 22 = .ok (.iconst 0, 1) := by decide +kernel
theorem dX9_reading_23 : decode cX9_reading 23 = .ok (.ldc 77, 2) := by decide +kernel
theorem dX9_reading_25 : decode cX9_reading 25 = .ok (.invokestatic 78, 3) := by decide +kernel
theorem dX9_reading_28 : decode cX9_reading 28 = .ok (.ifCond .ne 9, 3) := by decide +kernel
theorem dX9_reading_31 : decode cX9_reading 31 = .ok (.aload_n 0, 1) := by decide +kernel
theorem dX9_reading_32 : decode cX9_reading 32 = .ok (.iconst 2, 1) := by decide +kernel
theorem dX9_reading_33 : decode cX9_reading 33 = .ok (.invokevirtual 74, 3) := by decide +kernel
theorem dX9_reading_36 : decode cX9_reading 36 = .ok (.ireturn, 1) := by decide +kernel
theorem dX9_reading_37 : decode cX9_reading 37 = .ok (.aload_n 0, 1) := by decide +kernel
theorem dX9_reading_38 : decode cX9_reading 38 = .ok (.getfield 45, 3) := by decide +kernel
theorem dX9_reading_41 : decode cX9_reading 41 = .ok (.iload_n 1, 1) := by decide +kernel
theorem dX9_reading_42 : decode cX9_reading 42 = .ok (.iload_n 2, 1) := by decide +kernel
theorem dX9_reading_43 : decode cX9_reading 43 = .ok (.invokestatic 117, 3) := by decide +kernel
theorem dX9_reading_46 : decode cX9_reading 46 = .ok (.aload_n 0, 1) := by decide +kernel
theorem dX9_reading_47 : decode cX9_reading 47 = .ok (.getfield 121, 3) := by decide +kernel
theorem dX9_reading_50 : decode cX9_reading 50 = .ok (.iload_n 3, 1) := by decide +kernel
theorem dX9_reading_51 : decode cX9_reading 51 = .ok (.invokevirtual 286, 3) := by decide +kernel
theorem dX9_reading_54 : decode cX9_reading 54 = .ok (.ifCond .ne 9, 3) := by decide +kernel
theorem dX9_reading_57 : decode cX9_reading 57 = .ok (.aload_n 0, 1) := by decide +kernel
theorem dX9_reading_58 : decode cX9_reading 58 = .ok (.iconst 3, 1) := by decide +kernel
theorem dX9_reading_59 : decode cX9_reading 59 = .ok (.invokevirtual 74, 3) := by decide +kernel
theorem dX9_reading_62 : decode cX9_reading 62 = .ok (.ireturn, 1) := by decide +kernel
theorem dX9_reading_63 : decode cX9_reading 63 = .ok (.aload_n 0, 1) := by decide +kernel
theorem dX9_reading_64 : decode cX9_reading 64 = .ok (.invokevirtual 86, 3) := by decide +kernel
theorem dX9_reading_67 : decode cX9_reading 67 = .ok (.ireturn, 1) := by decide +kernel
theorem dX9_sounding_0 : decode cX9_sounding 0 = .ok (.aload_n 0, 1) := by decide +kernel
theorem dX9_sounding_1 : decode cX9_sounding 1 = .ok (.aload_n 0, 1) := by decide +kernel
theorem dX9_sounding_2 : decode cX9_sounding 2 = .ok (.iload_n 1, 1) := by decide +kernel
theorem dX9_sounding_3 : decode cX9_sounding 3 = .ok (.iload_n 2, 1) := by decide +kernel
theorem dX9_sounding_4 : decode cX9_sounding 4 = .ok (.iload_n 3, 1) := by decide +kernel
theorem dX9_sounding_5 : decode cX9_sounding 5 = .ok (.invokevirtual 289, 3) := by decide +kernel
theorem dX9_sounding_8 : decode cX9_sounding 8 = .ok (.putfield 258, 3) := by decide +kernel
theorem dX9_sounding_11 : decode cX9_sounding 11 = .ok (.aload_n 0, 1) := by decide +kernel
theorem dX9_sounding_12 : decode cX9_sounding 12 = .ok (.getfield 258, 3) := by decide +kernel
theorem dX9_sounding_15 : decode cX9_sounding 15 = .ok (.ifCond .eq 6, 3) := by decide +kernel
theorem dX9_sounding_18 : decode cX9_sounding 18 = .ok (.ldc 100, 2) := by decide +kernel
theorem dX9_sounding_20 : decode cX9_sounding 20 = .ok (.ireturn, 1) := by decide +kernel
theorem dX9_sounding_21 : decode cX9_sounding 21 = .ok (.aload_n 0, 1) := by decide +kernel
theorem dX9_sounding_22 : decode cX9_sounding 22 = .ok (.getfield 45, 3) := by decide +kernel
theorem dX9_sounding_25 : decode cX9_sounding 25 = .ok (.iload_n 1, 1) := by decide +kernel
theorem dX9_sounding_26 : decode cX9_sounding 26 = .ok (.iload_n 2, 1) := by decide +kernel
theorem dX9_sounding_27 : decode cX9_sounding 27 = .ok (.invokestatic 117, 3) := by decide +kernel
theorem dX9_sounding_30 : decode cX9_sounding 30 = .ok (.aload_n 0, 1) := by decide +kernel
theorem dX9_sounding_31 : decode cX9_sounding 31 = .ok (.getfield 121, 3) := by decide +kernel
theorem dX9_sounding_34 : decode cX9_sounding 34 = .ok (.iload_n 3, 1) := by decide +kernel
theorem dX9_sounding_35 : decode cX9_sounding 35 = .ok (.invokevirtual 292, 3) := by decide +kernel
theorem dX9_sounding_38 : decode cX9_sounding 38 = .ok (.ireturn, 1) := by decide +kernel
theorem dX9_known_0 : decode cX9_known 0 = .ok (.aload_n 0, 1) := by decide +kernel
theorem dX9_known_1 : decode cX9_known 1 = .ok (.iload_n 1, 1) := by decide +kernel
theorem dX9_known_2 : decode cX9_known 2 = .ok (.invokevirtual 66, 3) := by decide +kernel
theorem dX9_known_5 : decode cX9_known 5 = .ok (.astore 4, 2) := by decide +kernel
theorem dX9_known_7 : decode cX9_known 7 = .ok (.aload 4, 2) := by decide +kernel
theorem dX9_known_9 : decode cX9_known 9 = .ok (.ifnull 22, 3) := by decide +kernel
theorem dX9_known_12 : decode cX9_known 12 = .ok (.iload_n 2, 1) := by decide +kernel
theorem dX9_known_13 : decode cX9_known 13 = .ok (.invokestatic 70, 3) := by decide +kernel
theorem dX9_known_16 : decode cX9_known 16 = .ok (.ifCond .eq 15, 3) := by decide +kernel
theorem dX9_known_19 : decode cX9_known 19 = .ok (.iload_n 3, 1) := by decide +kernel
theorem dX9_known_20 : decode cX9_known 20 = .ok (.iconst 0, 1) := by decide +kernel
theorem dX9_known_21 : decode cX9_known 21 = .ok (.aload_n 0, 1) := by decide +kernel
theorem dX9_known_22 : decode cX9_known 22 = .ok (.getfield 121, 3) := by decide +kernel
theorem dX9_known_25 : decode cX9_known 25 = .ok (.invokestatic 78, 3) := by decide +kernel
theorem dX9_known_28 : decode cX9_known 28 = .ok (.ifCond .ne 6, 3) := by decide +kernel
theorem dX9_known_31 : decode cX9_known 31 = .ok (.ldc 100, 2) := by decide +kernel
theorem dX9_known_33 : decode cX9_known 33 = .ok (.ireturn, 1) := by decide +kernel
theorem dX9_known_34 : decode cX9_known 34 = .ok (.aload_n 0, 1) := by decide +kernel
theorem dX9_known_35 : decode cX9_known 35 = .ok (.getfield 45, 3) := by decide +kernel
theorem dX9_known_38 : decode cX9_known 38 = .ok (.iload_n 1, 1) := by decide +kernel
theorem dX9_known_39 : decode cX9_known 39 = .ok (.iload_n 2, 1) := by decide +kernel
theorem dX9_known_40 : decode cX9_known 40 = .ok (.invokestatic 117, 3) := by decide +kernel
theorem dX9_known_43 : decode cX9_known 43 = .ok (.iload_n 3, 1) := by decide +kernel
theorem dX9_known_44 : decode cX9_known 44 = .ok (.aload 4, 2) := by decide +kernel
theorem dX9_known_46 : decode cX9_known 46 = .ok (.iload_n 2, 1) := by decide +kernel
theorem dX9_known_47 : decode cX9_known 47 = .ok (.invokevirtual 114, 3) := by decide +kernel
theorem dX9_known_50 : decode cX9_known 50 = .ok (.invokevirtual 124, 3) := by decide +kernel
theorem dX9_known_53 : decode cX9_known 53 = .ok (.ireturn, 1) := by decide +kernel
