theorem dX7_readText_25 : decode cX7_readText 25 = .ok (.getfield 36, 3) := by decide +kernel
theorem dX7_readText_28 : decode cX7_readText 28 = .ok (.iload_n 1, 1) := by decide +kernel
theorem dX7_readText_29 : decode cX7_readText 29 = .ok (.invokevirtual 330, 3) := by decide +kernel
theorem dX7_readText_32 : decode cX7_readText 32 = .ok (.invokevirtual 354, 3) := by decide +kernel
theorem dX7_readText_35 : decode cX7_readText 35 = .ok (.ifCond .ne 5, 3) := by decide +kernel
theorem dX7_readText_38 : decode cX7_readText 38 = .ok (.iload_n 1, 1) := by decide +kernel
theorem dX7_readText_39 : decode cX7_readText 39 = .ok (.ireturn, 1) := by decide +kernel
theorem dX7_readText_40 : decode cX7_readText 40 = .ok (.iinc 1 1, 3) := by decide +kernel
theorem dX7_readText_43 : decode cX7_readText 43 = .ok (.goto (-34), 3) := by decide +kernel
theorem dX7_readText_46 : decode cX7_readText 46 = .ok (.aload_n 0, 1) := by decide +kernel
theorem dX7_readText_47 : decode cX7_readText 47 = .ok (.getfield 36, 3) := by decide +kernel
theorem dX7_readText_50 : decode cX7_readText 50 = .ok (.getfield 159, 3) := by decide +kernel
theorem dX7_readText_53 : decode cX7_readText 53 = .ok (.ireturn, 1) := by decide +kernel
theorem dX7_followOnTrial_0 : decode cX7_followOnTrial 0 = .ok (.aload_n 0, 1) := by decide +kernel
theorem dX7_followOnTrial_1 : decode cX7_followOnTrial 1 = .ok (.getfield 16, 3) := by decide +kernel
theorem dX7_followOnTrial_4 : decode cX7_followOnTrial 4 = .ok (.aload_n 0, 1) := by decide +kernel
theorem dX7_followOnTrial_5 : decode cX7_followOnTrial 5 = .ok (.getfield 10, 3) := by decide +kernel
theorem dX7_followOnTrial_8 : decode cX7_followOnTrial 8 = .ok (.invokevirtual 175, 3) := by decide +kernel
theorem dX7_followOnTrial_11 : decode cX7_followOnTrial 11 = .ok (.aload_n 0, 1) := by decide +kernel
theorem dX7_followOnTrial_12 : decode cX7_followOnTrial 12 = .ok (.getfield 43, 3) := by decide +kernel
theorem dX7_followOnTrial_15 : decode cX7_followOnTrial 15 = .ok (.invokevirtual 351, 3) := by decide +kernel
theorem dX7_followOnTrial_18 : decode cX7_followOnTrial 18 = .ok (.iconst 0, 1) := by decide +kernel
theorem dX7_followOnTrial_19 : decode cX7_followOnTrial 19 = .ok (.istore_n 1, 1) := by decide +kernel
theorem dX7_followOnTrial_20 : decode cX7_followOnTrial 20 = .ok (.iconst 0, 1) := by decide +kernel
theorem dX7_followOnTrial_21 : decode cX7_followOnTrial 21 = .ok (.istore_n 2, 1) := by decide +kernel
theorem dX7_followOnTrial_22 : decode cX7_followOnTrial 22 = .ok (.iload_n 2, 1) := by decide +kernel
theorem dX7_followOnTrial_23 : decode cX7_followOnTrial 23 = .ok (.aload_n 0, 1) := by decide +kernel
theorem dX7_followOnTrial_24 : decode cX7_followOnTrial 24 = .ok (.getfield 36, 3) := by decide +kernel
theorem dX7_followOnTrial_27 : decode cX7_followOnTrial 27 = .ok (.getfield 159, 3) := by decide +kernel
theorem dX7_followOnTrial_30 : decode cX7_followOnTrial 30 = .ok (.if_icmp .ge 45, 3) := by decide +kernel
theorem dX7_followOnTrial_33 : decode cX7_followOnTrial 33 = .ok (.aload_n 0, 1) := by decide +kernel
theorem dX7_followOnTrial_34 : decode cX7_followOnTrial 34 = .ok (.getfield 36, 3) := by decide +kernel
theorem dX7_followOnTrial_37 : decode cX7_followOnTrial 37 = .ok (.iload_n 2, 1) := by decide +kernel
theorem dX7_followOnTrial_38 : decode cX7_followOnTrial 38 = .ok (.invokevirtual 330, 3) := by decide +kernel
theorem dX7_followOnTrial_41 : decode cX7_followOnTrial 41 = .ok (.istore_n 3, 1) := by decide +kernel
theorem dX7_followOnTrial_42 : decode cX7_followOnTrial 42 = .ok (.iload_n 3, 1) := by decide +kernel
theorem dX7_followOnTrial_43 : decode cX7_followOnTrial 43 = .ok (.bipush 59, 2) := by decide +kernel
theorem dX7_followOnTrial_45 : decode cX7_followOnTrial 45 = .ok (.if_icmp .ne 15, 3) := by decide +kernel
theorem dX7_followOnTrial_48 : decode cX7_followOnTrial 48 = .ok (.aload_n 0, 1) := by decide +kernel
theorem dX7_followOnTrial_49 : decode cX7_followOnTrial 49 = .ok (.invokevirtual 358, 3) := by decide +kernel
theorem dX7_followOnTrial_52 : decode cX7_followOnTrial 52 = .ok (.ifCond .ne 5, 3) := by decide +kernel
theorem dX7_followOnTrial_55 : decode cX7_followOnTrial 55 = .ok (.iconst (-1), 1) := by decide +kernel
theorem dX7_followOnTrial_56 : decode cX7_followOnTrial 56 = .ok (.ireturn, 1) := by decide +kernel
theorem dX7_followOnTrial_57 : decode cX7_followOnTrial 57 = .ok (.iinc 1 1, 3) := by decide +kernel
theorem dX7_followOnTrial_60 : decode cX7_followOnTrial 60 = .ok (.aload_n 0, 1) := by decide +kernel
theorem dX7_followOnTrial_61 : decode cX7_followOnTrial 61 = .ok (.getfield 43, 3) := by decide +kernel
theorem dX7_followOnTrial_64 : decode cX7_followOnTrial 64 = .ok (.iload_n 3, 1) := by decide +kernel
theorem dX7_followOnTrial_65 : decode cX7_followOnTrial 65 = .ok (.invokevirtual 354, 3) := by decide +kernel
theorem dX7_followOnTrial_68 : decode cX7_followOnTrial 68 = .ok (.pop, 1) := by decide +kernel
theorem dX7_followOnTrial_69 : decode cX7_followOnTrial 69 = .ok (.iinc 2 1, 3) := by decide +kernel
theorem dX7_followOnTrial_72 : decode cX7_followOnTrial 72 = .ok (.goto (-50), 3) := by decide +kernel
theorem dX7_followOnTrial_75 : decode cX7_followOnTrial 75 = .ok (.aload_n 0, 1) := by decide +kernel
theorem dX7_followOnTrial_76 : decode cX7_followOnTrial 76 = .ok (.invokevirtual 358, 3) := by decide +kernel
theorem dX7_followOnTrial_79 : decode cX7_followOnTrial 79 = .ok (.ifCond .eq 9, 3) := by decide +kernel
theorem dX7_followOnTrial_82 : decode cX7_followOnTrial 82 = .ok (.iload_n 1, 1) := by decide +kernel
theorem dX7_followOnTrial_83 : decode cX7_followOnTrial 83 = .ok (.iconst 1, 1) := by decide +kernel
theorem dX7_followOnTrial_84 : decode cX7_followOnTrial 84 = .ok (.iadd, 1) := by decide +kernel
theorem dX7_followOnTrial_85 : decode cX7_followOnTrial 85 = .ok (.goto 4, 3) := by decide +kernel
theorem dX7_followOnTrial_88 : decode cX7_followOnTrial 88 = .ok (.iconst (-1), 1) := by decide +kernel
theorem dX7_followOnTrial_89 : decode cX7_followOnTrial 89 = .ok (.ireturn, 1) := by decide +kernel
theorem dX7_followOneOnTrial_0 : decode cX7_followOneOnTrial 0 = .ok (.aload_n 0, 1) := by decide +kernel
theorem dX7_followOneOnTrial_1 : decode cX7_followOneOnTrial 1 = .ok (.getfield 16, 3) := by decide +kernel
theorem dX7_followOneOnTrial_4 : decode cX7_followOneOnTrial 4 = .ok (.aload_n 0, 1) := by decide +kernel
theorem dX7_followOneOnTrial_5 : decode cX7_followOneOnTrial 5 = .ok (.getfield 43, 3) := by decide +kernel
theorem dX7_followOneOnTrial_8 : decode cX7_followOneOnTrial 8 = .ok (.getfield 361, 3) := by decide +kernel
theorem dX7_followOneOnTrial_11 : decode cX7_followOneOnTrial 11 = .ok (.invokevirtual 316, 3) := by decide +kernel
theorem dX7_followOneOnTrial_14 : decode cX7_followOneOnTrial 14 = .ok (.astore_n 1, 1) := by decide +kernel
theorem dX7_followOneOnTrial_15 : decode cX7_followOneOnTrial 15 = .ok (.aload_n 0, 1) := by decide +kernel
theorem dX7_followOneOnTrial_16 : decode cX7_followOneOnTrial 16 = .ok (.getfield 43, 3) := by decide +kernel
theorem dX7_followOneOnTrial_19 : decode cX7_followOneOnTrial 19 = .ok (.getfield 364, 3) := by decide +kernel
theorem dX7_followOneOnTrial_22 : decode cX7_followOneOnTrial 22 = .ok (.lookupswitch 108 #[(99, 85), (110, 53), (112, 34)], 34) := by decide +kernel
theorem dX7_followOneOnTrial_56 : decode cX7_followOneOnTrial 56 = .ok (.aload_n 1, 1) := by decide +kernel
theorem dX7_followOneOnTrial_57 : decode cX7_followOneOnTrial 57 = .ok (.ifnonnull 5, 3) := by decide +kernel
theorem dX7_followOneOnTrial_60 : decode cX7_followOneOnTrial 60 = .ok (.iconst 0, 1) := by decide +kernel
theorem dX7_followOneOnTrial_61 : decode cX7_followOneOnTrial 61 = .ok (.ireturn, 1) := by decide +kernel
theorem dX7_followOneOnTrial_62 : decode cX7_followOneOnTrial 62 = .ok (.aload_n 1, 1) := by decide +kernel
theorem dX7_followOneOnTrial_63 : decode cX7_followOneOnTrial 63 = .ok (.aload_n 0, 1) := by decide +kernel
theorem dX7_followOneOnTrial_64 : decode cX7_followOneOnTrial 64 = .ok (.getfield 43, 3) := by decide +kernel
theorem dX7_followOneOnTrial_67 : decode cX7_followOneOnTrial 67 = .ok (.getfield 368, 3) := by decide +kernel
theorem dX7_followOneOnTrial_70 : decode cX7_followOneOnTrial 70 = .ok (.putfield 87, 3) := by decide +kernel
theorem dX7_followOneOnTrial_73 : decode cX7_followOneOnTrial 73 = .ok (.iconst 1, 1) := by decide +kernel
theorem dX7_followOneOnTrial_74 : decode cX7_followOneOnTrial 74 = .ok (.ireturn, 1) := by decide +kernel
theorem dX7_followOneOnTrial_75 : decode cX7_followOneOnTrial 75 = .ok (.aload_n 1, 1) := by decide +kernel
theorem dX7_followOneOnTrial_76 : decode cX7_followOneOnTrial 76 = .ok (.ifnull 11, 3) := by decide +kernel
theorem dX7_followOneOnTrial_79 : decode cX7_followOneOnTrial 79 = .ok (.aload_n 1, 1) := by decide +kernel
theorem dX7_followOneOnTrial_80 : decode cX7_followOneOnTrial 80 = .ok (.getfield 92, 3) := by decide +kernel
theorem dX7_followOneOnTrial_83 : decode cX7_followOneOnTrial 83 = .ok (.iconst 3, 1) := by decide +kernel
theorem dX7_followOneOnTrial_84 : decode cX7_followOneOnTrial 84 = .ok (.if_icmp .ne 5, 3) := by decide +kernel
theorem dX7_followOneOnTrial_87 : decode cX7_followOneOnTrial 87 = .ok (.iconst 0, 1) := by decide +kernel
theorem dX7_followOneOnTrial_88 : decode cX7_followOneOnTrial 88 = .ok (.ireturn, 1) := by decide +kernel
theorem dX7_followOneOnTrial_89 : decode cX7_followOneOnTrial 89 = .ok (.aload_n 1, 1) := by decide +kernel
theorem dX7_followOneOnTrial_90 : decode cX7_followOneOnTrial 90 = .ok (.aload_n 1, 1) := by decide +kernel
theorem dX7_followOneOnTrial_91 : decode cX7_followOneOnTrial 91 = .ok (.getfield 97, 3) := by decide +kernel
theorem dX7_followOneOnTrial_94 : decode cX7_followOneOnTrial 94 = .ok (.ifCond .ne 7, 3) := by decide +kernel
theorem dX7_followOneOnTrial_97 : decode cX7_followOneOnTrial 97 = .ok (.iconst 1, 1) := by decide +kernel
theorem dX7_followOneOnTrial_98 : decode cX7_followOneOnTrial 98 = .ok (.goto 4, 3) := by decide +kernel
theorem dX7_followOneOnTrial_101 : decode cX7_followOneOnTrial 101 = .ok (.iconst 0, 1) := by decide +kernel
theorem dX7_followOneOnTrial_102 : decode cX7_followOneOnTrial 102 = .ok (.putfield 97, 3) := by decide +kernel
theorem dX7_followOneOnTrial_105 : decode cX7_followOneOnTrial 105 = .ok (.iconst 1, 1) := by decide +kernel
theorem dX7_followOneOnTrial_106 : decode cX7_followOneOnTrial 106 = .ok (.ireturn, 1) := by decide +kernel
theorem dX7_followOneOnTrial_107 : decode cX7_followOneOnTrial 107 = .ok (.aload_n 0, 1) := by decide +kernel
theorem dX7_followOneOnTrial_108 : decode cX7_followOneOnTrial 108 = .ok (.getfield 16, 3) := by decide +kernel
theorem dX7_followOneOnTrial_111 : decode cX7_followOneOnTrial 111 = .ok (.aload_n 0, 1) := by decide +kernel
theorem dX7_followOneOnTrial_112 : decode cX7_followOneOnTrial 112 = .ok (.getfield 43, 3) := by decide +kernel
theorem dX7_followOneOnTrial_115 : decode cX7_followOneOnTrial 115 = .ok (.getfield 361, 3) := by decide +kernel
theorem dX7_followOneOnTrial_118 : decode cX7_followOneOnTrial 118 = .ok (.aload_n 0, 1) := by decide +kernel
theorem dX7_followOneOnTrial_119 : decode cX7_followOneOnTrial 119 = .ok (.getfield 43, 3) := by decide +kernel
theorem dX7_followOneOnTrial_122 : decode cX7_followOneOnTrial 122 = .ok (.getfield 368, 3) := by decide +kernel
theorem dX7_followOneOnTrial_125 : decode cX7_followOneOnTrial 125 = .ok (.invokevirtual 119, 3) := by decide +kernel
theorem dX7_followOneOnTrial_128 : decode cX7_followOneOnTrial 128 = .ok (.iconst 1, 1) := by decide +kernel
theorem dX7_followOneOnTrial_129 : decode cX7_followOneOnTrial 129 = .ok (.ireturn, 1) := by decide +kernel
theorem dX7_followOneOnTrial_130 : decode cX7_followOneOnTrial 130 = .ok (.aload_n 0, 1) := by decide +kernel
theorem dX7_followOneOnTrial_131 : decode cX7_followOneOnTrial 131 = .ok (.getfield 16, 3) := by decide +kernel
theorem dX7_followOneOnTrial_134 : decode cX7_followOneOnTrial 134 = .ok (.getfield 62, 3) := by decide +kernel
theorem dX7_followOneOnTrial_137 : decode cX7_followOneOnTrial 137 = .ok (.ifCond .ne 5, 3) := by decide +kernel
theorem dX7_followOneOnTrial_140 : decode cX7_followOneOnTrial 140 = .ok (.iconst 0, 1) := by decide +kernel
theorem dX7_followOneOnTrial_141 : decode cX7_followOneOnTrial 141 = .ok (.ireturn, 1) := by decide +kernel
theorem dX7_followOneOnTrial_142 : decode cX7_followOneOnTrial 142 = .ok (.aload_n 0, 1) := by decide +kernel
theorem dX7_followOneOnTrial_143 : decode cX7_followOneOnTrial 143 = .ok (.getfield 16, 3) := by decide +kernel
theorem dX7_followOneOnTrial_146 : decode cX7_followOneOnTrial 146 = .ok (.aload_n 0, 1) := by decide +kernel
theorem dX7_followOneOnTrial_147 : decode cX7_followOneOnTrial 147 = .ok (.getfield 43, 3) := by decide +kernel
theorem dX7_followOneOnTrial_150 : decode cX7_followOneOnTrial 150 = .ok (.getfield 368, 3) := by decide +kernel
theorem dX7_followOneOnTrial_153 : decode cX7_followOneOnTrial 153 = .ok (.invokevirtual 144, 3) := by decide +kernel
theorem dX7_followOneOnTrial_156 : decode cX7_followOneOnTrial 156 = .ok (.iconst 1, 1) := by decide +kernel
theorem dX7_followOneOnTrial_157 : decode cX7_followOneOnTrial 157 = .ok (.ireturn, 1) := by decide +kernel
theorem dX7_known_0 : decode cX7_known 0 = .ok (.aload_n 0, 1) := by decide +kernel
theorem dX7_known_1 : decode cX7_known 1 = .ok (.getfield 10, 3) := by decide +kernel
theorem dX7_known_4 : decode cX7_known 4 = .ok (.iload_n 1, 1) := by decide +kernel
theorem dX7_known_5 : decode cX7_known 5 = .ok (.invokevirtual 316, 3) := by decide +kernel
theorem dX7_known_8 : decode cX7_known 8 = .ok (.astore_n 2, 1) := by decide +kernel
theorem dX7_known_9 : decode cX7_known 9 = .ok (.aload_n 2, 1) := by decide +kernel
theorem dX7_known_10 : decode cX7_known 10 = .ok (.ifnonnull 14, 3) := by decide +kernel
theorem dX7_known_13 : decode cX7_known 13 = .ok (.new 231, 3) := by decide +kernel
theorem dX7_known_16 : decode cX7_known 16 = .ok (.dup, 1) := by decide +kernel
theorem dX7_known_17 : decode cX7_known 17 = .ok (.ldc_w 369, 3) := by decide +kernel
theorem dX7_known_20 : decode cX7_known 20 = .ok (.invokespecial 235, 3) := by decide +kernel
theorem dX7_known_23 : decode cX7_known 23 = .ok (.athrow, 1) := by decide +kernel
theorem dX7_known_24 : decode cX7_known 24 = .ok (.aload_n 2, 1) := by decide +kernel
theorem dX7_known_25 : decode cX7_known 25 = .ok (.areturn, 1) := by decide +kernel
theorem dX7_knownToFly_0 : decode cX7_knownToFly 0 = .ok (.aload_n 0, 1) := by decide +kernel
theorem dX7_knownToFly_1 : decode cX7_knownToFly 1 = .ok (.iload_n 1, 1) := by decide +kernel
theorem dX7_knownToFly_2 : decode cX7_knownToFly 2 = .ok (.invokevirtual 79, 3) := by decide +kernel
theorem dX7_knownToFly_5 : decode cX7_knownToFly 5 = .ok (.astore_n 2, 1) := by decide +kernel
theorem dX7_knownToFly_6 : decode cX7_knownToFly 6 = .ok (.aload_n 2, 1) := by decide +kernel
theorem dX7_knownToFly_7 : decode cX7_knownToFly 7 = .ok (.getfield 92, 3) := by decide +kernel
theorem dX7_knownToFly_10 : decode cX7_knownToFly 10 = .ok (.iconst 1, 1) := by decide +kernel
theorem dX7_knownToFly_11 : decode cX7_knownToFly 11 = .ok (.if_icmp .eq 14, 3) := by decide +kernel
theorem dX7_knownToFly_14 : decode cX7_knownToFly 14 = .ok (.new 66, 3) := by decide +kernel
theorem dX7_knownToFly_17 : decode cX7_knownToFly 17 = .ok (.dup, 1) := by decide +kernel
theorem dX7_knownToFly_18 : decode cX7_knownToFly 18 = .ok (.ldc_w 371, 3) := by decide +kernel
theorem dX7_knownToFly_21 : decode cX7_knownToFly 21 = .ok (.invokespecial 70, 3) := by decide +kernel
theorem dX7_knownToFly_24 : decode cX7_knownToFly 24 = .ok (.athrow, 1) := by decide +kernel
theorem dX7_knownToFly_25 : decode cX7_knownToFly 25 = .ok (.aload_n 2, 1) := by decide +kernel
theorem dX7_knownToFly_26 : decode cX7_knownToFly 26 = .ok (.areturn, 1) := by decide +kernel
theorem dX7_checkRacing_0 : decode cX7_checkRacing 0 = .ok (.aload_n 0, 1) := by decide +kernel
theorem dX7_checkRacing_1 : decode cX7_checkRacing 1 = .ok (.getfield 10, 3) := by decide +kernel
theorem dX7_checkRacing_4 : decode cX7_checkRacing 4 = .ok (.getfield 62, 3) := by decide +kernel
theorem dX7_checkRacing_7 : decode cX7_checkRacing 7 = .ok (.ifCond .ne 14, 3) := by decide +kernel
theorem dX7_checkRacing_10 : decode cX7_checkRacing 10 = .ok (.new 66, 3) := by decide +kernel
theorem dX7_checkRacing_13 : decode cX7_checkRacing 13 = .ok (.dup, 1) := by decide +kernel
theorem dX7_checkRacing_14 : decode cX7_checkRacing 14 = .ok (.ldc_w 373, 3) := by decide +kernel
theorem dX7_checkRacing_17 : decode cX7_checkRacing 17 = .ok (.invokespecial 70, 3) := by decide +kernel
theorem dX7_checkRacing_20 : decode cX7_checkRacing 20 = .ok (.athrow, 1) := by decide +kernel
theorem dX7_checkRacing_21 : decode cX7_checkRacing 21 = .ok (.return_, 1) := by decide +kernel
theorem dX7_isPace_0 : decode cX7_isPace 0 = .ok (.iload_n 0, 1) := by decide +kernel
theorem dX7_isPace_1 : decode cX7_isPace 1 = .ok (.bipush 10, 2) := by decide +kernel
theorem dX7_isPace_3 : decode cX7_isPace 3 = .ok (.if_icmp .lt 13, 3) := by decide +kernel
theorem dX7_isPace_6 : decode cX7_isPace 6 = .ok (.iload_n 0, 1) := by decide +kernel
theorem dX7_isPace_7 : decode cX7_isPace 7 = .ok (.bipush 40, 2) := by decide +kernel
theorem dX7_isPace_9 : decode cX7_isPace 9 = .ok (.if_icmp .gt 7, 3) := by decide +kernel
theorem dX7_isPace_12 : decode cX7_isPace 12 = .ok (.iconst 1, 1) := by decide +kernel
theorem dX7_isPace_13 : decode cX7_isPace 13 = .ok (.goto 4, 3) := by decide +kernel
theorem dX7_isPace_16 : decode cX7_isPace 16 = .ok (.iconst 0, 1) := by decide +kernel
theorem dX7_isPace_17 : decode cX7_isPace 17 = .ok (.ireturn, 1) := by decide +kernel
theorem dX7_checkPace_0 : decode cX7_checkPace 0 = .ok (.iload_n 0, 1) := by decide +kernel
theorem dX7_checkPace_1 : decode cX7_checkPace 1 = .ok (.invokestatic 47, 3) := by decide +kernel
theorem dX7_checkPace_4 : decode cX7_checkPace 4 = .ok (.ifCond .ne 14, 3) := by decide +kernel
theorem dX7_checkPace_7 : decode cX7_checkPace 7 = .ok (.new 51, 3) := by decide +kernel
theorem dX7_checkPace_10 : decode cX7_checkPace 10 = .ok (.dup, 1) := by decide +kernel
theorem dX7_checkPace_11 : decode cX7_checkPace 11 = .ok (.ldc_w 375, 3) := by decide +kernel
theorem dX7_checkPace_14 : decode cX7_checkPace 14 = .ok (.invokespecial 55, 3) := by decide +kernel
theorem dX7_checkPace_17 : decode cX7_checkPace 17 = .ok (.athrow, 1) := by decide +kernel
theorem dX7_checkPace_18 : decode cX7_checkPace 18 = .ok (.return_, 1) := by decide +kernel
theorem dX7_checkSeconds_0 : decode cX7_checkSeconds 0 = .ok (.iload_n 0, 1) := by decide +kernel
theorem dX7_checkSeconds_1 : decode cX7_checkSeconds 1 = .ok (.iconst 1, 1) := by decide +kernel
theorem dX7_checkSeconds_2 : decode cX7_checkSeconds 2 = .ok (.if_icmp .lt 10, 3) := by decide +kernel
theorem dX7_checkSeconds_5 : decode cX7_checkSeconds 5 = .ok (.iload_n 0, 1) := by decide +kernel
theorem dX7_checkSeconds_6 : decode cX7_checkSeconds 6 = .ok (.sipush 200, 3) := by decide +kernel
theorem dX7_checkSeconds_9 : decode cX7_checkSeconds 9 = .ok (.if_icmp .le 14, 3) := by decide +kernel
theorem dX7_checkSeconds_12 : decode cX7_checkSeconds 12 = .ok (.new 51, 3) := by decide +kernel
theorem dX7_checkSeconds_15 : decode cX7_checkSeconds 15 = .ok (.dup, 1) := by decide +kernel
theorem dX7_checkSeconds_16 : decode cX7_checkSeconds 16 = .ok (.ldc_w 377, 3) := by decide +kernel
theorem dX7_checkSeconds_19 : decode cX7_checkSeconds 19 = .ok (.invokespecial 55, 3) := by decide +kernel
theorem dX7_checkSeconds_22 : decode cX7_checkSeconds 22 = .ok (.athrow, 1) := by decide +kernel
theorem dX7_checkSeconds_23 : decode cX7_checkSeconds 23 = .ok (.return_, 1) := by decide +kernel
theorem dX7_checkCorner_0 : decode cX7_checkCorner 0 = .ok (.iload_n 0, 1) := by decide +kernel
theorem dX7_checkCorner_1 : decode cX7_checkCorner 1 = .ok (.ifCond .lt 8, 3) := by decide +kernel
theorem dX7_checkCorner_4 : decode cX7_checkCorner 4 = .ok (.iload_n 0, 1) := by decide +kernel
theorem dX7_checkCorner_5 : decode cX7_checkCorner 5 = .ok (.iconst 4, 1) := by decide +kernel
theorem dX7_checkCorner_6 : decode cX7_checkCorner 6 = .ok (.if_icmp .lt 14, 3) := by decide +kernel
theorem dX7_checkCorner_9 : decode cX7_checkCorner 9 = .ok (.new 231, 3) := by decide +kernel
theorem dX7_checkCorner_12 : decode cX7_checkCorner 12 = .ok (.dup, 1) := by decide +kernel
theorem dX7_checkCorner_13 : decode cX7_checkCorner 13 = .ok (.ldc_w 379, 3) := by decide +kernel
theorem dX7_checkCorner_16 : decode cX7_checkCorner 16 = .ok (.invokespecial 235, 3) := by decide +kernel
theorem dX7_checkCorner_19 : decode cX7_checkCorner 19 = .ok (.athrow, 1) := by decide +kernel
theorem dX7_checkCorner_20 : decode cX7_checkCorner 20 = .ok (.return_, 1) := by decide +kernel
theorem dX7_checkSlot_0 : decode cX7_checkSlot 0 = .ok (.iload_n 0, 1) := by decide +kernel
theorem dX7_checkSlot_1 : decode cX7_checkSlot 1 = .ok (.ifCond .lt 8, 3) := by decide +kernel
theorem dX7_checkSlot_4 : decode cX7_checkSlot 4 = .ok (.iload_n 0, 1) := by decide +kernel
theorem dX7_checkSlot_5 : decode cX7_checkSlot 5 = .ok (.iconst 2, 1) := by decide +kernel
theorem dX7_checkSlot_6 : decode cX7_checkSlot 6 = .ok (.if_icmp .lt 14, 3) := by decide +kernel
theorem dX7_checkSlot_9 : decode cX7_checkSlot 9 = .ok (.new 51, 3) := by decide +kernel
theorem dX7_checkSlot_12 : decode cX7_checkSlot 12 = .ok (.dup, 1) := by decide +kernel
theorem dX7_checkSlot_13 : decode cX7_checkSlot 13 = .ok (.ldc_w 381, 3) := by decide +kernel
theorem dX7_checkSlot_16 : decode cX7_checkSlot 16 = .ok (.invokespecial 55, 3) := by decide +kernel
theorem dX7_checkSlot_19 : decode cX7_checkSlot 19 = .ok (.athrow, 1) := by decide +kernel
theorem dX7_checkSlot_20 : decode cX7_checkSlot 20 = .ok (.return_, 1) := by decide +kernel
theorem dL_cell_0 : decode cL_cell 0 = .ok (.iload_n 1, 1) := by decide +kernel
theorem dL_cell_1 : decode cL_cell 1 = .ok (.aload_n 0, 1) := by decide +kernel
theorem dL_cell_2 : decode cL_cell 2 = .ok (.arraylength, 1) := by decide +kernel
theorem dL_cell_3 : decode cL_cell 3 = .ok (.if_icmp .ge 9, 3) := by decide +kernel
theorem dL_cell_6 : decode cL_cell 6 = .ok (.aload_n 0, 1) := by decide +kernel
theorem dL_cell_7 : decode cL_cell 7 = .ok (.iload_n 1, 1) := by decide +kernel
theorem dL_cell_8 : decode cL_cell 8 = .ok (.iaload, 1) := by decide +kernel
theorem dL_cell_9 : decode cL_cell 9 = .ok (.goto 15, 3) := by decide +kernel
theorem dL_cell_12 : decode cL_cell 12 = .ok (.ldc 7, 2) := by decide +kernel
theorem dL_cell_14 : decode cL_cell 14 = .ok (.iload_n 1, 1) := by decide +kernel
theorem dL_cell_15 : decode cL_cell 15 = .ok (.sipush 409, 3) := by decide +kernel
theorem dL_cell_18 : decode cL_cell 18 = .ok (.iadd, 1) := by decide +kernel
theorem dL_cell_19 : decode cL_cell 19 = .ok (.imul, 1) := by decide +kernel
theorem dL_cell_20 : decode cL_cell 20 = .ok (.sipush 457, 3) := by decide +kernel
theorem dL_cell_23 : decode cL_cell 23 = .ok (.iadd, 1) := by decide +kernel
theorem dL_cell_24 : decode cL_cell 24 = .ok (.ldc 8, 2) := by decide +kernel
theorem dL_cell_26 : decode cL_cell 26 = .ok (.iand, 1) := by decide +kernel
theorem dL_cell_27 : decode cL_cell 27 = .ok (.ireturn, 1) := by decide +kernel
theorem dL_enter_0 : decode cL_enter 0 = .ok (.aload_n 0, 1) := by decide +kernel
theorem dL_enter_1 : decode cL_enter 1 = .ok (.iload_n 1, 1) := by decide +kernel
theorem dL_enter_2 : decode cL_enter 2 = .ok (.iload_n 2, 1) := by decide +kernel
theorem dL_enter_3 : decode cL_enter 3 = .ok (.iload_n 3, 1) := by decide +kernel
theorem dL_enter_4 : decode cL_enter 4 = .ok (.invokevirtual 9, 3) := by decide +kernel
theorem dL_enter_7 : decode cL_enter 7 = .ok (.ireturn, 1) := by decide +kernel
theorem dL_enter_8 : decode cL_enter 8 = .ok (.astore 4, 2) := by decide +kernel
theorem dL_enter_10 : decode cL_enter 10 = .ok (.bipush (-3), 2) := by decide +kernel
theorem dL_enter_12 : decode cL_enter 12 = .ok (.ireturn, 1) := by decide +kernel
theorem dL_enter_13 : decode cL_enter 13 = .ok (.astore 4, 2) := by decide +kernel
theorem dL_enter_15 : decode cL_enter 15 = .ok (.bipush (-4), 2) := by decide +kernel
theorem dL_enter_17 : decode cL_enter 17 = .ok (.ireturn, 1) := by decide +kernel
theorem dL_setPace_0 : decode cL_setPace 0 = .ok (.aload_n 0, 1) := by decide +kernel
theorem dL_setPace_1 : decode cL_setPace 1 = .ok (.iload_n 1, 1) := by decide +kernel
theorem dL_setPace_2 : decode cL_setPace 2 = .ok (.iload_n 2, 1) := by decide +kernel
theorem dL_setPace_3 : decode cL_setPace 3 = .ok (.invokevirtual 19, 3) := by decide +kernel
theorem dL_setPace_6 : decode cL_setPace 6 = .ok (.ireturn, 1) := by decide +kernel
theorem dL_setPace_7 : decode cL_setPace 7 = .ok (.astore_n 3, 1) := by decide +kernel
theorem dL_setPace_8 : decode cL_setPace 8 = .ok (.bipush (-2), 2) := by decide +kernel
theorem dL_setPace_10 : decode cL_setPace 10 = .ok (.ireturn, 1) := by decide +kernel
theorem dL_setPace_11 : decode cL_setPace 11 = .ok (.astore_n 3, 1) := by decide +kernel
theorem dL_setPace_12 : decode cL_setPace 12 = .ok (.bipush (-3), 2) := by decide +kernel
theorem dL_setPace_14 : decode cL_setPace 14 = .ok (.ireturn, 1) := by decide +kernel
theorem dL_callIn_0 : decode cL_callIn 0 = .ok (.aload_n 0, 1) := by decide +kernel
theorem dL_callIn_1 : decode cL_callIn 1 = .ok (.iload_n 1, 1) := by decide +kernel
theorem dL_callIn_2 : decode cL_callIn 2 = .ok (.invokevirtual 25, 3) := by decide +kernel
theorem dL_callIn_5 : decode cL_callIn 5 = .ok (.ifCond .eq 7, 3) := by decide +kernel
theorem dL_callIn_8 : decode cL_callIn 8 = .ok (.iconst 1, 1) := by decide +kernel
theorem dL_callIn_9 : decode cL_callIn 9 = .ok (.goto 4, 3) := by decide +kernel
theorem dL_callIn_12 : decode cL_callIn 12 = .ok (.iconst 0, 1) := by decide +kernel
theorem dL_callIn_13 : decode cL_callIn 13 = .ok (.ireturn, 1) := by decide +kernel
theorem dL_callIn_14 : decode cL_callIn 14 = .ok (.astore_n 2, 1) := by decide +kernel
theorem dL_callIn_15 : decode cL_callIn 15 = .ok (.bipush (-2), 2) := by decide +kernel
theorem dL_callIn_17 : decode cL_callIn 17 = .ok (.ireturn, 1) := by decide +kernel
theorem dL_callIn_18 : decode cL_callIn 18 = .ok (.astore_n 2, 1) := by decide +kernel
theorem dL_callIn_19 : decode cL_callIn 19 = .ok (.bipush (-4), 2) := by decide +kernel
theorem dL_callIn_21 : decode cL_callIn 21 = .ok (.ireturn, 1) := by decide +kernel
theorem dL_pair_0 : decode cL_pair 0 = .ok (.aload_n 0, 1) := by decide +kernel
theorem dL_pair_1 : decode cL_pair 1 = .ok (.iload_n 1, 1) := by decide +kernel
theorem dL_pair_2 : decode cL_pair 2 = .ok (.iload_n 2, 1) := by decide +kernel
theorem dL_pair_3 : decode cL_pair 3 = .ok (.invokevirtual 29, 3) := by decide +kernel
theorem dL_pair_6 : decode cL_pair 6 = .ok (.ireturn, 1) := by decide +kernel
theorem dL_pair_7 : decode cL_pair 7 = .ok (.astore_n 3, 1) := by decide +kernel
theorem dL_pair_8 : decode cL_pair 8 = .ok (.bipush (-2), 2) := by decide +kernel
theorem dL_pair_10 : decode cL_pair 10 = .ok (.ireturn, 1) := by decide +kernel
theorem dL_pair_11 : decode cL_pair 11 = .ok (.astore_n 3, 1) := by decide +kernel
theorem dL_pair_12 : decode cL_pair 12 = .ok (.bipush (-3), 2) := by decide +kernel
theorem dL_pair_14 : decode cL_pair 14 = .ok (.ireturn, 1) := by decide +kernel
theorem dL_setLimit_0 : decode cL_setLimit 0 = .ok (.aload_n 0, 1) := by decide +kernel
theorem dL_setLimit_1 : decode cL_setLimit 1 = .ok (.iload_n 1, 1) := by decide +kernel
theorem dL_setLimit_2 : decode cL_setLimit 2 = .ok (.iload_n 2, 1) := by decide +kernel
theorem dL_setLimit_3 : decode cL_setLimit 3 = .ok (.invokevirtual 32, 3) := by decide +kernel
theorem dL_setLimit_6 : decode cL_setLimit 6 = .ok (.ireturn, 1) := by decide +kernel
theorem dL_setLimit_7 : decode cL_setLimit 7 = .ok (.astore_n 3, 1) := by decide +kernel
theorem dL_setLimit_8 : decode cL_setLimit 8 = .ok (.bipush (-2), 2) := by decide +kernel
theorem dL_setLimit_10 : decode cL_setLimit 10 = .ok (.ireturn, 1) := by decide +kernel
theorem dL_setLimit_11 : decode cL_setLimit 11 = .ok (.astore_n 3, 1) := by decide +kernel
theorem dL_setLimit_12 : decode cL_setLimit 12 = .ok (.bipush (-3), 2) := by decide +kernel
theorem dL_setLimit_14 : decode cL_setLimit 14 = .ok (.ireturn, 1) := by decide +kernel
theorem dL_setLaps_0 : decode cL_setLaps 0 = .ok (.aload_n 0, 1) := by decide +kernel
theorem dL_setLaps_1 : decode cL_setLaps 1 = .ok (.iload_n 1, 1) := by decide +kernel
theorem dL_setLaps_2 : decode cL_setLaps 2 = .ok (.invokevirtual 35, 3) := by decide +kernel
theorem dL_setLaps_5 : decode cL_setLaps 5 = .ok (.ireturn, 1) := by decide +kernel
theorem dL_setLaps_6 : decode cL_setLaps 6 = .ok (.astore_n 2, 1) := by decide +kernel
theorem dL_setLaps_7 : decode cL_setLaps 7 = .ok (.bipush (-3), 2) := by decide +kernel
theorem dL_setLaps_9 : decode cL_setLaps 9 = .ok (.ireturn, 1) := by decide +kernel
theorem dL_setLaps_10 : decode cL_setLaps 10 = .ok (.astore_n 2, 1) := by decide +kernel
theorem dL_setLaps_11 : decode cL_setLaps 11 = .ok (.bipush (-4), 2) := by decide +kernel
theorem dL_setLaps_13 : decode cL_setLaps 13 = .ok (.ireturn, 1) := by decide +kernel
theorem dL_begin_0 : decode cL_begin 0 = .ok (.aload_n 0, 1) := by decide +kernel
theorem dL_begin_1 : decode cL_begin 1 = .ok (.invokevirtual 39, 3) := by decide +kernel
theorem dL_begin_4 : decode cL_begin 4 = .ok (.ireturn, 1) := by decide +kernel
theorem dL_begin_5 : decode cL_begin 5 = .ok (.astore_n 1, 1) := by decide +kernel
theorem dL_begin_6 : decode cL_begin 6 = .ok (.bipush (-4), 2) := by decide +kernel
theorem dL_begin_8 : decode cL_begin 8 = .ok (.ireturn, 1) := by decide +kernel
theorem dL_pass_0 : decode cL_pass 0 = .ok (.aload_n 0, 1) := by decide +kernel
theorem dL_pass_1 : decode cL_pass 1 = .ok (.iload_n 1, 1) := by decide +kernel
theorem dL_pass_2 : decode cL_pass 2 = .ok (.invokevirtual 43, 3) := by decide +kernel
theorem dL_pass_5 : decode cL_pass 5 = .ok (.ireturn, 1) := by decide +kernel
theorem dL_pass_6 : decode cL_pass 6 = .ok (.astore_n 2, 1) := by decide +kernel
theorem dL_pass_7 : decode cL_pass 7 = .ok (.bipush (-3), 2) := by decide +kernel
theorem dL_pass_9 : decode cL_pass 9 = .ok (.ireturn, 1) := by decide +kernel
theorem dL_pass_10 : decode cL_pass 10 = .ok (.astore_n 2, 1) := by decide +kernel
theorem dL_pass_11 : decode cL_pass 11 = .ok (.bipush (-4), 2) := by decide +kernel
theorem dL_pass_13 : decode cL_pass 13 = .ok (.ireturn, 1) := by decide +kernel
theorem dL_append_0 : decode cL_append 0 = .ok (.aload_n 0, 1) := by decide +kernel
theorem dL_append_1 : decode cL_append 1 = .ok (.iload_n 1, 1) := by decide +kernel
theorem dL_append_2 : decode cL_append 2 = .ok (.invokevirtual 46, 3) := by decide +kernel
theorem dL_append_5 : decode cL_append 5 = .ok (.ireturn, 1) := by decide +kernel
theorem dL_append_6 : decode cL_append 6 = .ok (.astore_n 2, 1) := by decide +kernel
theorem dL_append_7 : decode cL_append 7 = .ok (.bipush (-3), 2) := by decide +kernel
theorem dL_append_9 : decode cL_append 9 = .ok (.ireturn, 1) := by decide +kernel
theorem dL_append_10 : decode cL_append 10 = .ok (.astore_n 2, 1) := by decide +kernel
theorem dL_append_11 : decode cL_append 11 = .ok (.bipush (-4), 2) := by decide +kernel
theorem dL_append_13 : decode cL_append 13 = .ok (.ireturn, 1) := by decide +kernel
theorem dL_follow_0 : decode cL_follow 0 = .ok (.aload_n 0, 1) := by decide +kernel
theorem dL_follow_1 : decode cL_follow 1 = .ok (.invokevirtual 49, 3) := by decide +kernel
theorem dL_follow_4 : decode cL_follow 4 = .ok (.ireturn, 1) := by decide +kernel
theorem dL_follow_5 : decode cL_follow 5 = .ok (.astore_n 1, 1) := by decide +kernel
theorem dL_follow_6 : decode cL_follow 6 = .ok (.bipush (-3), 2) := by decide +kernel
theorem dL_follow_8 : decode cL_follow 8 = .ok (.ireturn, 1) := by decide +kernel
theorem dL_follow_9 : decode cL_follow 9 = .ok (.astore_n 1, 1) := by decide +kernel
theorem dL_follow_10 : decode cL_follow 10 = .ok (.bipush (-4), 2) := by decide +kernel
theorem dL_follow_12 : decode cL_follow 12 = .ok (.ireturn, 1) := by decide +kernel
theorem dL_keep_0 : decode cL_keep 0 = .ok (.aload_n 0, 1) := by decide +kernel
theorem dL_keep_1 : decode cL_keep 1 = .ok (.iload_n 1, 1) := by decide +kernel
theorem dL_keep_2 : decode cL_keep 2 = .ok (.invokevirtual 52, 3) := by decide +kernel
theorem dL_keep_5 : decode cL_keep 5 = .ok (.iconst 1, 1) := by decide +kernel
theorem dL_keep_6 : decode cL_keep 6 = .ok (.ireturn, 1) := by decide +kernel
theorem dL_keep_7 : decode cL_keep 7 = .ok (.astore_n 2, 1) := by decide +kernel
theorem dL_keep_8 : decode cL_keep 8 = .ok (.bipush (-3), 2) := by decide +kernel
theorem dL_keep_10 : decode cL_keep 10 = .ok (.ireturn, 1) := by decide +kernel
theorem dL_goBack_0 : decode cL_goBack 0 = .ok (.aload_n 0, 1) := by decide +kernel
theorem dL_goBack_1 : decode cL_goBack 1 = .ok (.iload_n 1, 1) := by decide +kernel
theorem dL_goBack_2 : decode cL_goBack 2 = .ok (.invokevirtual 56, 3) := by decide +kernel
theorem dL_goBack_5 : decode cL_goBack 5 = .ok (.iconst 1, 1) := by decide +kernel
theorem dL_goBack_6 : decode cL_goBack 6 = .ok (.ireturn, 1) := by decide +kernel
theorem dL_goBack_7 : decode cL_goBack 7 = .ok (.astore_n 2, 1) := by decide +kernel
theorem dL_goBack_8 : decode cL_goBack 8 = .ok (.bipush (-3), 2) := by decide +kernel
theorem dL_goBack_10 : decode cL_goBack 10 = .ok (.ireturn, 1) := by decide +kernel
theorem dL_goBack_11 : decode cL_goBack 11 = .ok (.astore_n 2, 1) := by decide +kernel
theorem dL_goBack_12 : decode cL_goBack 12 = .ok (.bipush (-4), 2) := by decide +kernel
theorem dL_goBack_14 : decode cL_goBack 14 = .ok (.ireturn, 1) := by decide +kernel
theorem dL_undo_0 : decode cL_undo 0 = .ok (.aload_n 0, 1) := by decide +kernel
theorem dL_undo_1 : decode cL_undo 1 = .ok (.invokevirtual 59, 3) := by decide +kernel
theorem dL_undo_4 : decode cL_undo 4 = .ok (.iconst 1, 1) := by decide +kernel
theorem dL_undo_5 : decode cL_undo 5 = .ok (.ireturn, 1) := by decide +kernel
theorem dL_undo_6 : decode cL_undo 6 = .ok (.astore_n 1, 1) := by decide +kernel
theorem dL_undo_7 : decode cL_undo 7 = .ok (.bipush (-4), 2) := by decide +kernel
theorem dL_undo_9 : decode cL_undo 9 = .ok (.ireturn, 1) := by decide +kernel
theorem dL_flown_0 : decode cL_flown 0 = .ok (.aload_n 0, 1) := by decide +kernel
theorem dL_flown_1 : decode cL_flown 1 = .ok (.iload_n 1, 1) := by decide +kernel
theorem dL_flown_2 : decode cL_flown 2 = .ok (.invokevirtual 62, 3) := by decide +kernel
theorem dL_flown_5 : decode cL_flown 5 = .ok (.ireturn, 1) := by decide +kernel
theorem dL_flown_6 : decode cL_flown 6 = .ok (.astore_n 2, 1) := by decide +kernel
theorem dL_flown_7 : decode cL_flown 7 = .ok (.bipush (-2), 2) := by decide +kernel
theorem dL_flown_9 : decode cL_flown 9 = .ok (.ireturn, 1) := by decide +kernel
theorem dL_lapsOf_0 : decode cL_lapsOf 0 = .ok (.aload_n 0, 1) := by decide +kernel
theorem dL_lapsOf_1 : decode cL_lapsOf 1 = .ok (.iload_n 1, 1) := by decide +kernel
theorem dL_lapsOf_2 : decode cL_lapsOf 2 = .ok (.invokevirtual 65, 3) := by decide +kernel
theorem dL_lapsOf_5 : decode cL_lapsOf 5 = .ok (.ireturn, 1) := by decide +kernel
theorem dL_lapsOf_6 : decode cL_lapsOf 6 = .ok (.astore_n 2, 1) := by decide +kernel
theorem dL_lapsOf_7 : decode cL_lapsOf 7 = .ok (.bipush (-2), 2) := by decide +kernel
theorem dL_lapsOf_9 : decode cL_lapsOf 9 = .ok (.ireturn, 1) := by decide +kernel
theorem dL_speedOf_0 : decode cL_speedOf 0 = .ok (.aload_n 0, 1) := by decide +kernel
theorem dL_speedOf_1 : decode cL_speedOf 1 = .ok (.iload_n 1, 1) := by decide +kernel
theorem dL_speedOf_2 : decode cL_speedOf 2 = .ok (.invokevirtual 68, 3) := by decide +kernel
theorem dL_speedOf_5 : decode cL_speedOf 5 = .ok (.ireturn, 1) := by decide +kernel
theorem dL_speedOf_6 : decode cL_speedOf 6 = .ok (.astore_n 2, 1) := by decide +kernel
theorem dL_speedOf_7 : decode cL_speedOf 7 = .ok (.bipush (-2), 2) := by decide +kernel
theorem dL_speedOf_9 : decode cL_speedOf 9 = .ok (.ireturn, 1) := by decide +kernel
theorem dL_strengthOf_0 : decode cL_strengthOf 0 = .ok (.aload_n 0, 1) := by decide +kernel
theorem dL_strengthOf_1 : decode cL_strengthOf 1 = .ok (.iload_n 1, 1) := by decide +kernel
theorem dL_strengthOf_2 : decode cL_strengthOf 2 = .ok (.invokevirtual 71, 3) := by decide +kernel
theorem dL_strengthOf_5 : decode cL_strengthOf 5 = .ok (.ireturn, 1) := by decide +kernel
theorem dL_strengthOf_6 : decode cL_strengthOf 6 = .ok (.astore_n 2, 1) := by decide +kernel
theorem dL_strengthOf_7 : decode cL_strengthOf 7 = .ok (.bipush (-2), 2) := by decide +kernel
theorem dL_strengthOf_9 : decode cL_strengthOf 9 = .ok (.ireturn, 1) := by decide +kernel
theorem dL_wearOf_0 : decode cL_wearOf 0 = .ok (.aload_n 0, 1) := by decide +kernel
theorem dL_wearOf_1 : decode cL_wearOf 1 = .ok (.iload_n 1, 1) := by decide +kernel
theorem dL_wearOf_2 : decode cL_wearOf 2 = .ok (.invokevirtual 74, 3) := by decide +kernel
theorem dL_wearOf_5 : decode cL_wearOf 5 = .ok (.ireturn, 1) := by decide +kernel
theorem dL_wearOf_6 : decode cL_wearOf 6 = .ok (.astore_n 2, 1) := by decide +kernel
theorem dL_wearOf_7 : decode cL_wearOf 7 = .ok (.bipush (-2), 2) := by decide +kernel
theorem dL_wearOf_9 : decode cL_wearOf 9 = .ok (.ireturn, 1) := by decide +kernel
theorem dL_laneOf_0 : decode cL_laneOf 0 = .ok (.aload_n 0, 1) := by decide +kernel
theorem dL_laneOf_1 : decode cL_laneOf 1 = .ok (.iload_n 1, 1) := by decide +kernel
theorem dL_laneOf_2 : decode cL_laneOf 2 = .ok (.invokevirtual 77, 3) := by decide +kernel
theorem dL_laneOf_5 : decode cL_laneOf 5 = .ok (.ireturn, 1) := by decide +kernel
theorem dL_laneOf_6 : decode cL_laneOf 6 = .ok (.astore_n 2, 1) := by decide +kernel
theorem dL_laneOf_7 : decode cL_laneOf 7 = .ok (.bipush (-2), 2) := by decide +kernel
theorem dL_laneOf_9 : decode cL_laneOf 9 = .ok (.ireturn, 1) := by decide +kernel
theorem dL_stateOf_0 : decode cL_stateOf 0 = .ok (.aload_n 0, 1) := by decide +kernel
theorem dL_stateOf_1 : decode cL_stateOf 1 = .ok (.iload_n 1, 1) := by decide +kernel
theorem dL_stateOf_2 : decode cL_stateOf 2 = .ok (.invokevirtual 80, 3) := by decide +kernel
theorem dL_stateOf_5 : decode cL_stateOf 5 = .ok (.ireturn, 1) := by decide +kernel
theorem dL_stateOf_6 : decode cL_stateOf 6 = .ok (.astore_n 2, 1) := by decide +kernel
theorem dL_stateOf_7 : decode cL_stateOf 7 = .ok (.bipush (-2), 2) := by decide +kernel
theorem dL_stateOf_9 : decode cL_stateOf 9 = .ok (.ireturn, 1) := by decide +kernel
theorem dL_paceOf_0 : decode cL_paceOf 0 = .ok (.aload_n 0, 1) := by decide +kernel
theorem dL_paceOf_1 : decode cL_paceOf 1 = .ok (.iload_n 1, 1) := by decide +kernel
theorem dL_paceOf_2 : decode cL_paceOf 2 = .ok (.invokevirtual 83, 3) := by decide +kernel
theorem dL_paceOf_5 : decode cL_paceOf 5 = .ok (.ireturn, 1) := by decide +kernel
theorem dL_paceOf_6 : decode cL_paceOf 6 = .ok (.astore_n 2, 1) := by decide +kernel
theorem dL_paceOf_7 : decode cL_paceOf 7 = .ok (.bipush (-2), 2) := by decide +kernel
theorem dL_paceOf_9 : decode cL_paceOf 9 = .ok (.ireturn, 1) := by decide +kernel
theorem dL_partnerOf_0 : decode cL_partnerOf 0 = .ok (.aload_n 0, 1) := by decide +kernel
theorem dL_partnerOf_1 : decode cL_partnerOf 1 = .ok (.iload_n 1, 1) := by decide +kernel
theorem dL_partnerOf_2 : decode cL_partnerOf 2 = .ok (.invokevirtual 86, 3) := by decide +kernel
theorem dL_partnerOf_5 : decode cL_partnerOf 5 = .ok (.ireturn, 1) := by decide +kernel
theorem dL_partnerOf_6 : decode cL_partnerOf 6 = .ok (.astore_n 2, 1) := by decide +kernel
theorem dL_partnerOf_7 : decode cL_partnerOf 7 = .ok (.bipush (-2), 2) := by decide +kernel
theorem dL_partnerOf_9 : decode cL_partnerOf 9 = .ok (.ireturn, 1) := by decide +kernel
theorem dL_partnerOf_10 : decode cL_partnerOf 10 = .ok (.astore_n 2, 1) := by decide +kernel
theorem dL_partnerOf_11 : decode cL_partnerOf 11 = .ok (.bipush (-4), 2) := by decide +kernel
theorem dL_partnerOf_13 : decode cL_partnerOf 13 = .ok (.ireturn, 1) := by decide +kernel
theorem dL_isCalledIn_0 : decode cL_isCalledIn 0 = .ok (.aload_n 0, 1) := by decide +kernel
theorem dL_isCalledIn_1 : decode cL_isCalledIn 1 = .ok (.iload_n 1, 1) := by decide +kernel
theorem dL_isCalledIn_2 : decode cL_isCalledIn 2 = .ok (.invokevirtual 89, 3) := by decide +kernel
theorem dL_isCalledIn_5 : decode cL_isCalledIn 5 = .ok (.ifCond .eq 7, 3) := by decide +kernel
theorem dL_isCalledIn_8 : decode cL_isCalledIn 8 = .ok (.iconst 1, 1) := by decide +kernel
theorem dL_isCalledIn_9 : decode cL_isCalledIn 9 = .ok (.goto 4, 3) := by decide +kernel
theorem dL_isCalledIn_12 : decode cL_isCalledIn 12 = .ok (.iconst 0, 1) := by decide +kernel
theorem dL_isCalledIn_13 : decode cL_isCalledIn 13 = .ok (.ireturn, 1) := by decide +kernel
theorem dL_isCalledIn_14 : decode cL_isCalledIn 14 = .ok (.astore_n 2, 1) := by decide +kernel
theorem dL_isCalledIn_15 : decode cL_isCalledIn 15 = .ok (.bipush (-2), 2) := by decide +kernel
theorem dL_isCalledIn_17 : decode cL_isCalledIn 17 = .ok (.ireturn, 1) := by decide +kernel
theorem dL_limitOf_0 : decode cL_limitOf 0 = .ok (.aload_n 0, 1) := by decide +kernel
theorem dL_limitOf_1 : decode cL_limitOf 1 = .ok (.iload_n 1, 1) := by decide +kernel
theorem dL_limitOf_2 : decode cL_limitOf 2 = .ok (.invokevirtual 92, 3) := by decide +kernel
theorem dL_limitOf_5 : decode cL_limitOf 5 = .ok (.ireturn, 1) := by decide +kernel
theorem dL_limitOf_6 : decode cL_limitOf 6 = .ok (.astore_n 2, 1) := by decide +kernel
theorem dL_limitOf_7 : decode cL_limitOf 7 = .ok (.bipush (-2), 2) := by decide +kernel
theorem dL_limitOf_9 : decode cL_limitOf 9 = .ok (.ireturn, 1) := by decide +kernel
theorem dL_placeByCounting_0 : decode cL_placeByCounting 0 = .ok (.aload_n 0, 1) := by decide +kernel
theorem dL_placeByCounting_1 : decode cL_placeByCounting 1 = .ok (.iload_n 1, 1) := by decide +kernel
theorem dL_placeByCounting_2 : decode cL_placeByCounting 2 = .ok (.invokevirtual 95, 3) := by decide +kernel
theorem dL_placeByCounting_5 : decode cL_placeByCounting 5 = .ok (.ireturn, 1) := by decide +kernel
theorem dL_placeByCounting_6 : decode cL_placeByCounting 6 = .ok (.astore_n 2, 1) := by decide +kernel
theorem dL_placeByCounting_7 : decode cL_placeByCounting 7 = .ok (.bipush (-2), 2) := by decide +kernel
theorem dL_placeByCounting_9 : decode cL_placeByCounting 9 = .ok (.ireturn, 1) := by decide +kernel
theorem dL_birdByOrder_0 : decode cL_birdByOrder 0 = .ok (.aload_n 0, 1) := by decide +kernel
theorem dL_birdByOrder_1 : decode cL_birdByOrder 1 = .ok (.iload_n 1, 1) := by decide +kernel
theorem dL_birdByOrder_2 : decode cL_birdByOrder 2 = .ok (.invokevirtual 98, 3) := by decide +kernel
theorem dL_birdByOrder_5 : decode cL_birdByOrder 5 = .ok (.ireturn, 1) := by decide +kernel
theorem dL_birdByOrder_6 : decode cL_birdByOrder 6 = .ok (.astore_n 2, 1) := by decide +kernel
theorem dL_birdByOrder_7 : decode cL_birdByOrder 7 = .ok (.bipush (-2), 2) := by decide +kernel
theorem dL_birdByOrder_9 : decode cL_birdByOrder 9 = .ok (.ireturn, 1) := by decide +kernel
theorem dL_gapAhead_0 : decode cL_gapAhead 0 = .ok (.aload_n 0, 1) := by decide +kernel
theorem dL_gapAhead_1 : decode cL_gapAhead 1 = .ok (.iload_n 1, 1) := by decide +kernel
theorem dL_gapAhead_2 : decode cL_gapAhead 2 = .ok (.invokevirtual 101, 3) := by decide +kernel
theorem dL_gapAhead_5 : decode cL_gapAhead 5 = .ok (.ireturn, 1) := by decide +kernel
theorem dL_gapAhead_6 : decode cL_gapAhead 6 = .ok (.astore_n 2, 1) := by decide +kernel
theorem dL_gapAhead_7 : decode cL_gapAhead 7 = .ok (.bipush (-2), 2) := by decide +kernel
theorem dL_gapAhead_9 : decode cL_gapAhead 9 = .ok (.ireturn, 1) := by decide +kernel
theorem dL_isDrafting_0 : decode cL_isDrafting 0 = .ok (.aload_n 0, 1) := by decide +kernel
theorem dL_isDrafting_1 : decode cL_isDrafting 1 = .ok (.iload_n 1, 1) := by decide +kernel
theorem dL_isDrafting_2 : decode cL_isDrafting 2 = .ok (.invokevirtual 104, 3) := by decide +kernel
theorem dL_isDrafting_5 : decode cL_isDrafting 5 = .ok (.ifCond .eq 7, 3) := by decide +kernel
theorem dL_isDrafting_8 : decode cL_isDrafting 8 = .ok (.iconst 1, 1) := by decide +kernel
theorem dL_isDrafting_9 : decode cL_isDrafting 9 = .ok (.goto 4, 3) := by decide +kernel
theorem dL_isDrafting_12 : decode cL_isDrafting 12 = .ok (.iconst 0, 1) := by decide +kernel
theorem dL_isDrafting_13 : decode cL_isDrafting 13 = .ok (.ireturn, 1) := by decide +kernel
theorem dL_isDrafting_14 : decode cL_isDrafting 14 = .ok (.astore_n 2, 1) := by decide +kernel
theorem dL_isDrafting_15 : decode cL_isDrafting 15 = .ok (.bipush (-2), 2) := by decide +kernel
theorem dL_isDrafting_17 : decode cL_isDrafting 17 = .ok (.ireturn, 1) := by decide +kernel
theorem dL_isDrafting_18 : decode cL_isDrafting 18 = .ok (.astore_n 2, 1) := by decide +kernel
theorem dL_isDrafting_19 : decode cL_isDrafting 19 = .ok (.bipush (-4), 2) := by decide +kernel
theorem dL_isDrafting_21 : decode cL_isDrafting 21 = .ok (.ireturn, 1) := by decide +kernel
theorem dL_whereIs_0 : decode cL_whereIs 0 = .ok (.aload_n 0, 1) := by decide +kernel
theorem dL_whereIs_1 : decode cL_whereIs 1 = .ok (.iload_n 1, 1) := by decide +kernel
theorem dL_whereIs_2 : decode cL_whereIs 2 = .ok (.invokevirtual 107, 3) := by decide +kernel
theorem dL_whereIs_5 : decode cL_whereIs 5 = .ok (.ireturn, 1) := by decide +kernel
theorem dL_whereIs_6 : decode cL_whereIs 6 = .ok (.astore_n 2, 1) := by decide +kernel
theorem dL_whereIs_7 : decode cL_whereIs 7 = .ok (.bipush (-2), 2) := by decide +kernel
theorem dL_whereIs_9 : decode cL_whereIs 9 = .ok (.ireturn, 1) := by decide +kernel
theorem dL_allowance_0 : decode cL_allowance 0 = .ok (.aload_n 0, 1) := by decide +kernel
theorem dL_allowance_1 : decode cL_allowance 1 = .ok (.iload_n 1, 1) := by decide +kernel
theorem dL_allowance_2 : decode cL_allowance 2 = .ok (.invokevirtual 110, 3) := by decide +kernel
theorem dL_allowance_5 : decode cL_allowance 5 = .ok (.ireturn, 1) := by decide +kernel
theorem dL_allowance_6 : decode cL_allowance 6 = .ok (.astore_n 2, 1) := by decide +kernel
theorem dL_allowance_7 : decode cL_allowance 7 = .ok (.bipush (-2), 2) := by decide +kernel
theorem dL_allowance_9 : decode cL_allowance 9 = .ok (.ireturn, 1) := by decide +kernel
theorem dL_allowance_10 : decode cL_allowance 10 = .ok (.astore_n 2, 1) := by decide +kernel
theorem dL_allowance_11 : decode cL_allowance 11 = .ok (.bipush (-4), 2) := by decide +kernel
theorem dL_allowance_13 : decode cL_allowance 13 = .ok (.ireturn, 1) := by decide +kernel
theorem dL_wouldFly_0 : decode cL_wouldFly 0 = .ok (.aload_n 0, 1) := by decide +kernel
theorem dL_wouldFly_1 : decode cL_wouldFly 1 = .ok (.iload_n 1, 1) := by decide +kernel
theorem dL_wouldFly_2 : decode cL_wouldFly 2 = .ok (.iload_n 2, 1) := by decide +kernel
theorem dL_wouldFly_3 : decode cL_wouldFly 3 = .ok (.invokevirtual 113, 3) := by decide +kernel
theorem dL_wouldFly_6 : decode cL_wouldFly 6 = .ok (.ireturn, 1) := by decide +kernel
theorem dL_wouldFly_7 : decode cL_wouldFly 7 = .ok (.astore_n 3, 1) := by decide +kernel
theorem dL_wouldFly_8 : decode cL_wouldFly 8 = .ok (.bipush (-2), 2) := by decide +kernel
theorem dL_wouldFly_10 : decode cL_wouldFly 10 = .ok (.ireturn, 1) := by decide +kernel
theorem dL_wouldFly_11 : decode cL_wouldFly 11 = .ok (.astore_n 3, 1) := by decide +kernel
theorem dL_wouldFly_12 : decode cL_wouldFly 12 = .ok (.bipush (-3), 2) := by decide +kernel
theorem dL_wouldFly_14 : decode cL_wouldFly 14 = .ok (.ireturn, 1) := by decide +kernel
theorem dL_wouldFly_15 : decode cL_wouldFly 15 = .ok (.astore_n 3, 1) := by decide +kernel
theorem dL_wouldFly_16 : decode cL_wouldFly 16 = .ok (.bipush (-4), 2) := by decide +kernel
theorem dL_wouldFly_18 : decode cL_wouldFly 18 = .ok (.ireturn, 1) := by decide +kernel
theorem dL_wouldWin_0 : decode cL_wouldWin 0 = .ok (.aload_n 0, 1) := by decide +kernel
theorem dL_wouldWin_1 : decode cL_wouldWin 1 = .ok (.invokevirtual 116, 3) := by decide +kernel
theorem dL_wouldWin_4 : decode cL_wouldWin 4 = .ok (.ireturn, 1) := by decide +kernel
theorem dL_wouldWin_5 : decode cL_wouldWin 5 = .ok (.astore_n 1, 1) := by decide +kernel
theorem dL_wouldWin_6 : decode cL_wouldWin 6 = .ok (.bipush (-4), 2) := by decide +kernel
theorem dL_wouldWin_8 : decode cL_wouldWin 8 = .ok (.ireturn, 1) := by decide +kernel
theorem dL_secondsToNext_0 : decode cL_secondsToNext 0 = .ok (.aload_n 0, 1) := by decide +kernel
theorem dL_secondsToNext_1 : decode cL_secondsToNext 1 = .ok (.invokevirtual 119, 3) := by decide +kernel
theorem dL_secondsToNext_4 : decode cL_secondsToNext 4 = .ok (.ireturn, 1) := by decide +kernel
theorem dL_secondsToNext_5 : decode cL_secondsToNext 5 = .ok (.astore_n 1, 1) := by decide +kernel
theorem dL_secondsToNext_6 : decode cL_secondsToNext 6 = .ok (.bipush (-4), 2) := by decide +kernel
theorem dL_secondsToNext_8 : decode cL_secondsToNext 8 = .ok (.ireturn, 1) := by decide +kernel
theorem dL_flownWithPace_0 : decode cL_flownWithPace 0 = .ok (.aload_n 0, 1) := by decide +kernel
theorem dL_flownWithPace_1 : decode cL_flownWithPace 1 = .ok (.iload_n 1, 1) := by decide +kernel
theorem dL_flownWithPace_2 : decode cL_flownWithPace 2 = .ok (.iload_n 2, 1) := by decide +kernel
theorem dL_flownWithPace_3 : decode cL_flownWithPace 3 = .ok (.invokevirtual 122, 3) := by decide +kernel
theorem dL_flownWithPace_6 : decode cL_flownWithPace 6 = .ok (.ireturn, 1) := by decide +kernel
theorem dL_flownWithPace_7 : decode cL_flownWithPace 7 = .ok (.astore_n 3, 1) := by decide +kernel
theorem dL_flownWithPace_8 : decode cL_flownWithPace 8 = .ok (.bipush (-2), 2) := by decide +kernel
theorem dL_flownWithPace_10 : decode cL_flownWithPace 10 = .ok (.ireturn, 1) := by decide +kernel
theorem dL_flownWithPace_11 : decode cL_flownWithPace 11 = .ok (.astore_n 3, 1) := by decide +kernel
theorem dL_flownWithPace_12 : decode cL_flownWithPace 12 = .ok (.bipush (-3), 2) := by decide +kernel
theorem dL_flownWithPace_14 : decode cL_flownWithPace 14 = .ok (.ireturn, 1) := by decide +kernel
theorem dL_flownWithPace_15 : decode cL_flownWithPace 15 = .ok (.astore_n 3, 1) := by decide +kernel
theorem dL_flownWithPace_16 : decode cL_flownWithPace 16 = .ok (.bipush (-4), 2) := by decide +kernel
theorem dL_flownWithPace_18 : decode cL_flownWithPace 18 = .ok (.ireturn, 1) := by decide +kernel
theorem dL_bestPace_0 : decode cL_bestPace 0 = .ok (.aload_n 0, 1) := by decide +kernel
theorem dL_bestPace_1 : decode cL_bestPace 1 = .ok (.iload_n 1, 1) := by decide +kernel
theorem dL_bestPace_2 : decode cL_bestPace 2 = .ok (.invokevirtual 125, 3) := by decide +kernel
theorem dL_bestPace_5 : decode cL_bestPace 5 = .ok (.ireturn, 1) := by decide +kernel
theorem dL_bestPace_6 : decode cL_bestPace 6 = .ok (.astore_n 2, 1) := by decide +kernel
theorem dL_bestPace_7 : decode cL_bestPace 7 = .ok (.bipush (-2), 2) := by decide +kernel
theorem dL_bestPace_9 : decode cL_bestPace 9 = .ok (.ireturn, 1) := by decide +kernel
theorem dL_bestPace_10 : decode cL_bestPace 10 = .ok (.astore_n 2, 1) := by decide +kernel
theorem dL_bestPace_11 : decode cL_bestPace 11 = .ok (.bipush (-4), 2) := by decide +kernel
theorem dL_bestPace_13 : decode cL_bestPace 13 = .ok (.ireturn, 1) := by decide +kernel
theorem dL_arrivedAt_0 : decode cL_arrivedAt 0 = .ok (.aload_n 0, 1) := by decide +kernel
theorem dL_arrivedAt_1 : decode cL_arrivedAt 1 = .ok (.iload_n 1, 1) := by decide +kernel
theorem dL_arrivedAt_2 : decode cL_arrivedAt 2 = .ok (.invokevirtual 128, 3) := by decide +kernel
theorem dL_arrivedAt_5 : decode cL_arrivedAt 5 = .ok (.ireturn, 1) := by decide +kernel
theorem dL_arrivedAt_6 : decode cL_arrivedAt 6 = .ok (.astore_n 2, 1) := by decide +kernel
theorem dL_arrivedAt_7 : decode cL_arrivedAt 7 = .ok (.bipush (-2), 2) := by decide +kernel
theorem dL_arrivedAt_9 : decode cL_arrivedAt 9 = .ok (.ireturn, 1) := by decide +kernel
theorem dL_timeOf_0 : decode cL_timeOf 0 = .ok (.aload_n 0, 1) := by decide +kernel
theorem dL_timeOf_1 : decode cL_timeOf 1 = .ok (.iload_n 1, 1) := by decide +kernel
theorem dL_timeOf_2 : decode cL_timeOf 2 = .ok (.invokevirtual 131, 3) := by decide +kernel
theorem dL_timeOf_5 : decode cL_timeOf 5 = .ok (.ireturn, 1) := by decide +kernel
theorem dL_timeOf_6 : decode cL_timeOf 6 = .ok (.astore_n 2, 1) := by decide +kernel
theorem dL_timeOf_7 : decode cL_timeOf 7 = .ok (.bipush (-2), 2) := by decide +kernel
theorem dL_timeOf_9 : decode cL_timeOf 9 = .ok (.ireturn, 1) := by decide +kernel
theorem dL_timeOf_10 : decode cL_timeOf 10 = .ok (.astore_n 2, 1) := by decide +kernel
theorem dL_timeOf_11 : decode cL_timeOf 11 = .ok (.bipush (-4), 2) := by decide +kernel
theorem dL_timeOf_13 : decode cL_timeOf 13 = .ok (.ireturn, 1) := by decide +kernel
theorem dL_number_0 : decode cL_number 0 = .ok (.iload_n 1, 1) := by decide +kernel
theorem dL_number_1 : decode cL_number 1 = .ok (.bipush 99, 2) := by decide +kernel
theorem dL_number_3 : decode cL_number 3 = .ok (.if_icmp .le 17, 3) := by decide +kernel
theorem dL_number_6 : decode cL_number 6 = .ok (.aload_n 0, 1) := by decide +kernel
theorem dL_number_7 : decode cL_number 7 = .ok (.bipush 48, 2) := by decide +kernel
theorem dL_number_9 : decode cL_number 9 = .ok (.iload_n 1, 1) := by decide +kernel
theorem dL_number_10 : decode cL_number 10 = .ok (.bipush 100, 2) := by decide +kernel
theorem dL_number_12 : decode cL_number 12 = .ok (.idiv, 1) := by decide +kernel
theorem dL_number_13 : decode cL_number 13 = .ok (.iadd, 1) := by decide +kernel
theorem dL_number_14 : decode cL_number 14 = .ok (.invokestatic 134, 3) := by decide +kernel
theorem dL_number_17 : decode cL_number 17 = .ok (.goto 4, 3) := by decide +kernel
theorem dL_number_20 : decode cL_number 20 = .ok (.iconst 0, 1) := by decide +kernel
theorem dL_number_21 : decode cL_number 21 = .ok (.istore_n 2, 1) := by decide +kernel
theorem dL_number_22 : decode cL_number 22 = .ok (.iload_n 1, 1) := by decide +kernel
theorem dL_number_23 : decode cL_number 23 = .ok (.bipush 9, 2) := by decide +kernel
theorem dL_number_25 : decode cL_number 25 = .ok (.if_icmp .le 20, 3) := by decide +kernel
theorem dL_number_28 : decode cL_number 28 = .ok (.aload_n 0, 1) := by decide +kernel
theorem dL_number_29 : decode cL_number 29 = .ok (.bipush 48, 2) := by decide +kernel
theorem dL_number_31 : decode cL_number 31 = .ok (.iload_n 1, 1) := by decide +kernel
theorem dL_number_32 : decode cL_number 32 = .ok (.bipush 10, 2) := by decide +kernel
theorem dL_number_34 : decode cL_number 34 = .ok (.idiv, 1) := by decide +kernel
theorem dL_number_35 : decode cL_number 35 = .ok (.bipush 10, 2) := by decide +kernel
theorem dL_number_37 : decode cL_number 37 = .ok (.irem, 1) := by decide +kernel
theorem dL_number_38 : decode cL_number 38 = .ok (.iadd, 1) := by decide +kernel
theorem dL_number_39 : decode cL_number 39 = .ok (.invokestatic 134, 3) := by decide +kernel
theorem dL_number_42 : decode cL_number 42 = .ok (.goto 4, 3) := by decide +kernel
theorem dL_number_45 : decode cL_number 45 = .ok (.iload_n 2, 1) := by decide +kernel
theorem dL_number_46 : decode cL_number 46 = .ok (.istore_n 2, 1) := by decide +kernel
theorem dL_number_47 : decode cL_number 47 = .ok (.aload_n 0, 1) := by decide +kernel
theorem dL_number_48 : decode cL_number 48 = .ok (.bipush 48, 2) := by decide +kernel
theorem dL_number_50 : decode cL_number 50 = .ok (.iload_n 1, 1) := by decide +kernel
theorem dL_number_51 : decode cL_number 51 = .ok (.bipush 10, 2) := by decide +kernel
theorem dL_number_53 : decode cL_number 53 = .ok (.irem, 1) := by decide +kernel
theorem dL_number_54 : decode cL_number 54 = .ok (.iadd, 1) := by decide +kernel
theorem dL_number_55 : decode cL_number 55 = .ok (.invokestatic 134, 3) := by decide +kernel
theorem dL_number_58 : decode cL_number 58 = .ok (.ireturn, 1) := by decide +kernel
theorem dL_acts_0 : decode cL_acts 0 = .ok (.iload_n 1, 1) := by decide +kernel
theorem dL_acts_1 : decode cL_acts 1 = .ok (.bipush 32, 2) := by decide +kernel
theorem dL_acts_3 : decode cL_acts 3 = .ok (.idiv, 1) := by decide +kernel
theorem dL_acts_4 : decode cL_acts 4 = .ok (.istore_n 2, 1) := by decide +kernel
theorem dL_acts_5 : decode cL_acts 5 = .ok (.iload_n 1, 1) := by decide +kernel
theorem dL_acts_6 : decode cL_acts 6 = .ok (.bipush 32, 2) := by decide +kernel
theorem dL_acts_8 : decode cL_acts 8 = .ok (.irem, 1) := by decide +kernel
theorem dL_acts_9 : decode cL_acts 9 = .ok (.istore_n 3, 1) := by decide +kernel
theorem dL_acts_10 : decode cL_acts 10 = .ok (.aload_n 0, 1) := by decide +kernel
theorem dL_acts_11 : decode cL_acts 11 = .ok (.invokevirtual 139, 3) := by decide +kernel
theorem dL_acts_14 : decode cL_acts 14 = .ok (.istore 4, 2) := by decide +kernel
theorem dL_acts_16 : decode cL_acts 16 = .ok (.iload 4, 2) := by decide +kernel
theorem dL_acts_18 : decode cL_acts 18 = .ok (.ifCond .ne 7, 3) := by decide +kernel
theorem dL_acts_21 : decode cL_acts 21 = .ok (.iconst 0, 1) := by decide +kernel
theorem dL_acts_22 : decode cL_acts 22 = .ok (.goto 10, 3) := by decide +kernel
theorem dL_acts_25 : decode cL_acts 25 = .ok (.iload_n 2, 1) := by decide +kernel
theorem dL_acts_26 : decode cL_acts 26 = .ok (.bipush 8, 2) := by decide +kernel
theorem dL_acts_28 : decode cL_acts 28 = .ok (.idiv, 1) := by decide +kernel
theorem dL_acts_29 : decode cL_acts 29 = .ok (.iload 4, 2) := by decide +kernel
theorem dL_acts_31 : decode cL_acts 31 = .ok (.irem, 1) := by decide +kernel
theorem dL_acts_32 : decode cL_acts 32 = .ok (.istore 5, 2) := by decide +kernel
theorem dL_acts_34 : decode cL_acts 34 = .ok (.iload_n 3, 1) := by decide +kernel
theorem dL_acts_35 : decode cL_acts 35 = .ok (.iconst 5, 1) := by decide +kernel
theorem dL_acts_36 : decode cL_acts 36 = .ok (.if_icmp .ge 38, 3) := by decide +kernel
theorem dL_acts_39 : decode cL_acts 39 = .ok (.iload_n 3, 1) := by decide +kernel
theorem dL_acts_40 : decode cL_acts 40 = .ok (.iconst 3, 1) := by decide +kernel
theorem dL_acts_41 : decode cL_acts 41 = .ok (.if_icmp .ge 10, 3) := by decide +kernel
theorem dL_acts_44 : decode cL_acts 44 = .ok (.aload_n 0, 1) := by decide +kernel
theorem dL_acts_45 : decode cL_acts 45 = .ok (.invokestatic 142, 3) := by decide +kernel
theorem dL_acts_48 : decode cL_acts 48 = .ok (.goto 25, 3) := by decide +kernel
theorem dL_acts_51 : decode cL_acts 51 = .ok (.iload_n 3, 1) := by decide +kernel
theorem dL_acts_52 : decode cL_acts 52 = .ok (.iconst 3, 1) := by decide +kernel
theorem dL_acts_53 : decode cL_acts 53 = .ok (.if_icmp .ne 13, 3) := by decide +kernel
theorem dL_acts_56 : decode cL_acts 56 = .ok (.aload_n 0, 1) := by decide +kernel
theorem dL_acts_57 : decode cL_acts 57 = .ok (.iload_n 2, 1) := by decide +kernel
theorem dL_acts_58 : decode cL_acts 58 = .ok (.iconst 2, 1) := by decide +kernel
theorem dL_acts_59 : decode cL_acts 59 = .ok (.irem, 1) := by decide +kernel
theorem dL_acts_60 : decode cL_acts 60 = .ok (.invokestatic 145, 3) := by decide +kernel
theorem dL_acts_63 : decode cL_acts 63 = .ok (.goto 10, 3) := by decide +kernel
theorem dL_acts_66 : decode cL_acts 66 = .ok (.aload_n 0, 1) := by decide +kernel
theorem dL_acts_67 : decode cL_acts 67 = .ok (.iload_n 2, 1) := by decide +kernel
theorem dL_acts_68 : decode cL_acts 68 = .ok (.iconst 2, 1) := by decide +kernel
theorem dL_acts_69 : decode cL_acts 69 = .ok (.irem, 1) := by decide +kernel
theorem dL_acts_70 : decode cL_acts 70 = .ok (.invokestatic 147, 3) := by decide +kernel
theorem dL_acts_73 : decode cL_acts 73 = .ok (.ireturn, 1) := by decide +kernel
theorem dL_acts_74 : decode cL_acts 74 = .ok (.iload_n 3, 1) := by decide +kernel
theorem dL_acts_75 : decode cL_acts 75 = .ok (.bipush 9, 2) := by decide +kernel
theorem dL_acts_77 : decode cL_acts 77 = .ok (.if_icmp .ge 291, 3) := by decide +kernel
theorem dL_acts_80 : decode cL_acts 80 = .ok (.aload_n 0, 1) := by decide +kernel
theorem dL_acts_81 : decode cL_acts 81 = .ok (.invokevirtual 149, 3) := by decide +kernel
theorem dL_acts_84 : decode cL_acts 84 = .ok (.istore 6, 2) := by decide +kernel
theorem dL_acts_86 : decode cL_acts 86 = .ok (.iconst 0, 1) := by decide +kernel
theorem dL_acts_87 : decode cL_acts 87 = .ok (.istore 7, 2) := by decide +kernel
theorem dL_acts_89 : decode cL_acts 89 = .ok (.iload 7, 2) := by decide +kernel
theorem dL_acts_91 : decode cL_acts 91 = .ok (.iconst 1, 1) := by decide +kernel
theorem dL_acts_92 : decode cL_acts 92 = .ok (.iload_n 2, 1) := by decide +kernel
theorem dL_acts_93 : decode cL_acts 93 = .ok (.bipush 7, 2) := by decide +kernel
theorem dL_acts_95 : decode cL_acts 95 = .ok (.irem, 1) := by decide +kernel
theorem dL_acts_96 : decode cL_acts 96 = .ok (.iadd, 1) := by decide +kernel
theorem dL_acts_97 : decode cL_acts 97 = .ok (.if_icmp .ge 246, 3) := by decide +kernel
theorem dL_acts_100 : decode cL_acts 100 = .ok (.iload_n 2, 1) := by decide +kernel
theorem dL_acts_101 : decode cL_acts 101 = .ok (.bipush 8, 2) := by decide +kernel
theorem dL_acts_103 : decode cL_acts 103 = .ok (.idiv, 1) := by decide +kernel
theorem dL_acts_104 : decode cL_acts 104 = .ok (.iconst 2, 1) := by decide +kernel
theorem dL_acts_105 : decode cL_acts 105 = .ok (.iload 7, 2) := by decide +kernel
theorem dL_acts_107 : decode cL_acts 107 = .ok (.imul, 1) := by decide +kernel
theorem dL_acts_108 : decode cL_acts 108 = .ok (.ishr, 1) := by decide +kernel
theorem dL_acts_109 : decode cL_acts 109 = .ok (.istore 8, 2) := by decide +kernel
theorem dL_acts_111 : decode cL_acts 111 = .ok (.iload 8, 2) := by decide +kernel
theorem dL_acts_113 : decode cL_acts 113 = .ok (.bipush 8, 2) := by decide +kernel
theorem dL_acts_115 : decode cL_acts 115 = .ok (.irem, 1) := by decide +kernel
theorem dL_acts_116 : decode cL_acts 116 = .ok (.istore 9, 2) := by decide +kernel
theorem dL_acts_118 : decode cL_acts 118 = .ok (.iload 7, 2) := by decide +kernel
theorem dL_acts_120 : decode cL_acts 120 = .ok (.ifCond .le 12, 3) := by decide +kernel
theorem dL_acts_123 : decode cL_acts 123 = .ok (.aload_n 0, 1) := by decide +kernel
theorem dL_acts_124 : decode cL_acts 124 = .ok (.bipush 59, 2) := by decide +kernel
theorem dL_acts_126 : decode cL_acts 126 = .ok (.invokestatic 134, 3) := by decide +kernel
theorem dL_acts_129 : decode cL_acts 129 = .ok (.goto 4, 3) := by decide +kernel
theorem dL_acts_132 : decode cL_acts 132 = .ok (.iconst 0, 1) := by decide +kernel
theorem dL_acts_133 : decode cL_acts 133 = .ok (.istore 6, 2) := by decide +kernel
theorem dL_acts_135 : decode cL_acts 135 = .ok (.aload_n 0, 1) := by decide +kernel
theorem dL_acts_136 : decode cL_acts 136 = .ok (.iload 9, 2) := by decide +kernel
theorem dL_acts_138 : decode cL_acts 138 = .ok (.iconst 3, 1) := by decide +kernel
theorem dL_acts_139 : decode cL_acts 139 = .ok (.if_icmp .ge 8, 3) := by decide +kernel
theorem dL_acts_142 : decode cL_acts 142 = .ok (.bipush 112, 2) := by decide +kernel
theorem dL_acts_144 : decode cL_acts 144 = .ok (.goto 27, 3) := by decide +kernel
theorem dL_acts_147 : decode cL_acts 147 = .ok (.iload 9, 2) := by decide +kernel
theorem dL_acts_149 : decode cL_acts 149 = .ok (.iconst 5, 1) := by decide +kernel
theorem dL_acts_150 : decode cL_acts 150 = .ok (.if_icmp .ge 8, 3) := by decide +kernel
theorem dL_acts_153 : decode cL_acts 153 = .ok (.bipush 110, 2) := by decide +kernel
theorem dL_acts_155 : decode cL_acts 155 = .ok (.goto 16, 3) := by decide +kernel
theorem dL_acts_158 : decode cL_acts 158 = .ok (.iload 9, 2) := by decide +kernel
theorem dL_acts_160 : decode cL_acts 160 = .ok (.iconst 5, 1) := by decide +kernel
theorem dL_acts_161 : decode cL_acts 161 = .ok (.if_icmp .ne 8, 3) := by decide +kernel
theorem dL_acts_164 : decode cL_acts 164 = .ok (.bipush 99, 2) := by decide +kernel
theorem dL_acts_166 : decode cL_acts 166 = .ok (.goto 5, 3) := by decide +kernel
theorem dL_acts_169 : decode cL_acts 169 = .ok (.bipush 116, 2) := by decide +kernel
theorem dL_acts_171 : decode cL_acts 171 = .ok (.invokestatic 134, 3) := by decide +kernel
theorem dL_acts_174 : decode cL_acts 174 = .ok (.istore 6, 2) := by decide +kernel
theorem dL_acts_176 : decode cL_acts 176 = .ok (.iload 9, 2) := by decide +kernel
theorem dL_acts_178 : decode cL_acts 178 = .ok (.iconst 5, 1) := by decide +kernel
theorem dL_acts_179 : decode cL_acts 179 = .ok (.if_icmp .ge 34, 3) := by decide +kernel
theorem dL_acts_182 : decode cL_acts 182 = .ok (.aload_n 0, 1) := by decide +kernel
theorem dL_acts_183 : decode cL_acts 183 = .ok (.iload 4, 2) := by decide +kernel
theorem dL_acts_185 : decode cL_acts 185 = .ok (.ifCond .ne 14, 3) := by decide +kernel
theorem dL_acts_188 : decode cL_acts 188 = .ok (.iload 8, 2) := by decide +kernel
theorem dL_acts_190 : decode cL_acts 190 = .ok (.bipush 8, 2) := by decide +kernel
theorem dL_acts_192 : decode cL_acts 192 = .ok (.idiv, 1) := by decide +kernel
theorem dL_acts_193 : decode cL_acts 193 = .ok (.bipush 8, 2) := by decide +kernel
theorem dL_acts_195 : decode cL_acts 195 = .ok (.irem, 1) := by decide +kernel
theorem dL_acts_196 : decode cL_acts 196 = .ok (.goto 11, 3) := by decide +kernel
theorem dL_acts_199 : decode cL_acts 199 = .ok (.iload 8, 2) := by decide +kernel
theorem dL_acts_201 : decode cL_acts 201 = .ok (.bipush 8, 2) := by decide +kernel
theorem dL_acts_203 : decode cL_acts 203 = .ok (.idiv, 1) := by decide +kernel
theorem dL_acts_204 : decode cL_acts 204 = .ok (.iload 4, 2) := by decide +kernel
theorem dL_acts_206 : decode cL_acts 206 = .ok (.irem, 1) := by decide +kernel
theorem dL_acts_207 : decode cL_acts 207 = .ok (.invokestatic 152, 3) := by decide +kernel
theorem dL_acts_210 : decode cL_acts 210 = .ok (.goto 25, 3) := by decide +kernel
theorem dL_acts_213 : decode cL_acts 213 = .ok (.iload 9, 2) := by decide +kernel
theorem dL_acts_215 : decode cL_acts 215 = .ok (.iconst 5, 1) := by decide +kernel
theorem dL_acts_216 : decode cL_acts 216 = .ok (.if_icmp .ne 17, 3) := by decide +kernel
theorem dL_acts_219 : decode cL_acts 219 = .ok (.aload_n 0, 1) := by decide +kernel
theorem dL_acts_220 : decode cL_acts 220 = .ok (.iload 8, 2) := by decide +kernel
theorem dL_acts_222 : decode cL_acts 222 = .ok (.bipush 8, 2) := by decide +kernel
theorem dL_acts_224 : decode cL_acts 224 = .ok (.idiv, 1) := by decide +kernel
theorem dL_acts_225 : decode cL_acts 225 = .ok (.iconst 4, 1) := by decide +kernel
theorem dL_acts_226 : decode cL_acts 226 = .ok (.irem, 1) := by decide +kernel
theorem dL_acts_227 : decode cL_acts 227 = .ok (.invokestatic 152, 3) := by decide +kernel
theorem dL_acts_230 : decode cL_acts 230 = .ok (.goto 5, 3) := by decide +kernel
theorem dL_acts_233 : decode cL_acts 233 = .ok (.iload 6, 2) := by decide +kernel
theorem dL_acts_235 : decode cL_acts 235 = .ok (.istore 6, 2) := by decide +kernel
theorem dL_acts_237 : decode cL_acts 237 = .ok (.iload 9, 2) := by decide +kernel
theorem dL_acts_239 : decode cL_acts 239 = .ok (.iconst 3, 1) := by decide +kernel
theorem dL_acts_240 : decode cL_acts 240 = .ok (.if_icmp .lt 9, 3) := by decide +kernel
theorem dL_acts_243 : decode cL_acts 243 = .ok (.iload 9, 2) := by decide +kernel
theorem dL_acts_245 : decode cL_acts 245 = .ok (.iconst 5, 1) := by decide +kernel
theorem dL_acts_246 : decode cL_acts 246 = .ok (.if_icmp .ne 12, 3) := by decide +kernel
theorem dL_acts_249 : decode cL_acts 249 = .ok (.aload_n 0, 1) := by decide +kernel
theorem dL_acts_250 : decode cL_acts 250 = .ok (.bipush 61, 2) := by decide +kernel
theorem dL_acts_252 : decode cL_acts 252 = .ok (.invokestatic 134, 3) := by decide +kernel
theorem dL_acts_255 : decode cL_acts 255 = .ok (.goto 5, 3) := by decide +kernel
theorem dL_acts_258 : decode cL_acts 258 = .ok (.iload 6, 2) := by decide +kernel
theorem dL_acts_260 : decode cL_acts 260 = .ok (.istore 6, 2) := by decide +kernel
theorem dL_acts_262 : decode cL_acts 262 = .ok (.iload 9, 2) := by decide +kernel
theorem dL_acts_264 : decode cL_acts 264 = .ok (.iconst 3, 1) := by decide +kernel
theorem dL_acts_265 : decode cL_acts 265 = .ok (.if_icmp .ge 21, 3) := by decide +kernel
theorem dL_acts_268 : decode cL_acts 268 = .ok (.aload_n 0, 1) := by decide +kernel
theorem dL_acts_269 : decode cL_acts 269 = .ok (.bipush 10, 2) := by decide +kernel
theorem dL_acts_271 : decode cL_acts 271 = .ok (.iload 8, 2) := by decide +kernel
theorem dL_acts_273 : decode cL_acts 273 = .ok (.bipush 64, 2) := by decide +kernel
theorem dL_acts_275 : decode cL_acts 275 = .ok (.idiv, 1) := by decide +kernel
theorem dL_acts_276 : decode cL_acts 276 = .ok (.bipush 31, 2) := by decide +kernel
theorem dL_acts_278 : decode cL_acts 278 = .ok (.irem, 1) := by decide +kernel
theorem dL_acts_279 : decode cL_acts 279 = .ok (.iadd, 1) := by decide +kernel
theorem dL_acts_280 : decode cL_acts 280 = .ok (.invokestatic 152, 3) := by decide +kernel
theorem dL_acts_283 : decode cL_acts 283 = .ok (.goto 52, 3) := by decide +kernel
theorem dL_acts_286 : decode cL_acts 286 = .ok (.iload 9, 2) := by decide +kernel
theorem dL_acts_288 : decode cL_acts 288 = .ok (.iconst 5, 1) := by decide +kernel
theorem dL_acts_289 : decode cL_acts 289 = .ok (.if_icmp .ne 21, 3) := by decide +kernel
theorem dL_acts_292 : decode cL_acts 292 = .ok (.aload_n 0, 1) := by decide +kernel
theorem dL_acts_293 : decode cL_acts 293 = .ok (.bipush 8, 2) := by decide +kernel
theorem dL_acts_295 : decode cL_acts 295 = .ok (.iload 8, 2) := by decide +kernel
theorem dL_acts_297 : decode cL_acts 297 = .ok (.bipush 64, 2) := by decide +kernel
theorem dL_acts_299 : decode cL_acts 299 = .ok (.idiv, 1) := by decide +kernel
theorem dL_acts_300 : decode cL_acts 300 = .ok (.bipush 33, 2) := by decide +kernel
theorem dL_acts_302 : decode cL_acts 302 = .ok (.irem, 1) := by decide +kernel
theorem dL_acts_303 : decode cL_acts 303 = .ok (.iadd, 1) := by decide +kernel
theorem dL_acts_304 : decode cL_acts 304 = .ok (.invokestatic 152, 3) := by decide +kernel
theorem dL_acts_307 : decode cL_acts 307 = .ok (.goto 28, 3) := by decide +kernel
theorem dL_acts_310 : decode cL_acts 310 = .ok (.iload 9, 2) := by decide +kernel
theorem dL_acts_312 : decode cL_acts 312 = .ok (.iconst 5, 1) := by decide +kernel
theorem dL_acts_313 : decode cL_acts 313 = .ok (.if_icmp .le 20, 3) := by decide +kernel
theorem dL_acts_316 : decode cL_acts 316 = .ok (.aload_n 0, 1) := by decide +kernel
theorem dL_acts_317 : decode cL_acts 317 = .ok (.iconst 1, 1) := by decide +kernel
theorem dL_acts_318 : decode cL_acts 318 = .ok (.iload 8, 2) := by decide +kernel
theorem dL_acts_320 : decode cL_acts 320 = .ok (.bipush 8, 2) := by decide +kernel
theorem dL_acts_322 : decode cL_acts 322 = .ok (.idiv, 1) := by decide +kernel
theorem dL_acts_323 : decode cL_acts 323 = .ok (.bipush 60, 2) := by decide +kernel
theorem dL_acts_325 : decode cL_acts 325 = .ok (.irem, 1) := by decide +kernel
theorem dL_acts_326 : decode cL_acts 326 = .ok (.iadd, 1) := by decide +kernel
theorem dL_acts_327 : decode cL_acts 327 = .ok (.invokestatic 152, 3) := by decide +kernel
theorem dL_acts_330 : decode cL_acts 330 = .ok (.goto 5, 3) := by decide +kernel
theorem dL_acts_333 : decode cL_acts 333 = .ok (.iload 6, 2) := by decide +kernel
theorem dL_acts_335 : decode cL_acts 335 = .ok (.istore 6, 2) := by decide +kernel
theorem dL_acts_337 : decode cL_acts 337 = .ok (.iinc 7 1, 3) := by decide +kernel
theorem dL_acts_340 : decode cL_acts 340 = .ok (.goto (-251), 3) := by decide +kernel
theorem dL_acts_343 : decode cL_acts 343 = .ok (.iload 6, 2) := by decide +kernel
theorem dL_acts_345 : decode cL_acts 345 = .ok (.iconst 1, 1) := by decide +kernel
theorem dL_acts_346 : decode cL_acts 346 = .ok (.if_icmp .lt 12, 3) := by decide +kernel
theorem dL_acts_349 : decode cL_acts 349 = .ok (.aload_n 0, 1) := by decide +kernel
theorem dL_acts_350 : decode cL_acts 350 = .ok (.invokevirtual 155, 3) := by decide +kernel
theorem dL_acts_353 : decode cL_acts 353 = .ok (.iload 6, 2) := by decide +kernel
theorem dL_acts_355 : decode cL_acts 355 = .ok (.if_icmp .eq 8, 3) := by decide +kernel
theorem dL_acts_358 : decode cL_acts 358 = .ok (.bipush (-99), 2) := by decide +kernel
theorem dL_acts_360 : decode cL_acts 360 = .ok (.goto 7, 3) := by decide +kernel
theorem dL_acts_363 : decode cL_acts 363 = .ok (.aload_n 0, 1) := by decide +kernel
theorem dL_acts_364 : decode cL_acts 364 = .ok (.invokestatic 158, 3) := by decide +kernel
theorem dL_acts_367 : decode cL_acts 367 = .ok (.ireturn, 1) := by decide +kernel
theorem dL_acts_368 : decode cL_acts 368 = .ok (.iload_n 3, 1) := by decide +kernel
theorem dL_acts_369 : decode cL_acts 369 = .ok (.bipush 19, 2) := by decide +kernel
theorem dL_acts_371 : decode cL_acts 371 = .ok (.if_icmp .ge 39, 3) := by decide +kernel
theorem dL_acts_374 : decode cL_acts 374 = .ok (.aload_n 0, 1) := by decide +kernel
theorem dL_acts_375 : decode cL_acts 375 = .ok (.invokevirtual 160, 3) := by decide +kernel
theorem dL_acts_378 : decode cL_acts 378 = .ok (.ifCond .eq 27, 3) := by decide +kernel
theorem dL_acts_381 : decode cL_acts 381 = .ok (.aload_n 0, 1) := by decide +kernel
theorem dL_acts_382 : decode cL_acts 382 = .ok (.iconst 1, 1) := by decide +kernel
theorem dL_acts_383 : decode cL_acts 383 = .ok (.iload_n 2, 1) := by decide +kernel
theorem dL_acts_384 : decode cL_acts 384 = .ok (.iload_n 2, 1) := by decide +kernel
theorem dL_acts_385 : decode cL_acts 385 = .ok (.iconst 4, 1) := by decide +kernel
theorem dL_acts_386 : decode cL_acts 386 = .ok (.irem, 1) := by decide +kernel
theorem dL_acts_387 : decode cL_acts 387 = .ok (.ifCond .ne 8, 3) := by decide +kernel
theorem dL_acts_390 : decode cL_acts 390 = .ok (.bipush 60, 2) := by decide +kernel
theorem dL_acts_392 : decode cL_acts 392 = .ok (.goto 5, 3) := by decide +kernel
theorem dL_acts_395 : decode cL_acts 395 = .ok (.bipush 8, 2) := by decide +kernel
theorem dL_acts_397 : decode cL_acts 397 = .ok (.irem, 1) := by decide +kernel
theorem dL_acts_398 : decode cL_acts 398 = .ok (.iadd, 1) := by decide +kernel
theorem dL_acts_399 : decode cL_acts 399 = .ok (.invokestatic 164, 3) := by decide +kernel
theorem dL_acts_402 : decode cL_acts 402 = .ok (.goto 7, 3) := by decide +kernel
theorem dL_acts_405 : decode cL_acts 405 = .ok (.aload_n 0, 1) := by decide +kernel
theorem dL_acts_406 : decode cL_acts 406 = .ok (.invokestatic 166, 3) := by decide +kernel
theorem dL_acts_409 : decode cL_acts 409 = .ok (.ireturn, 1) := by decide +kernel
theorem dL_acts_410 : decode cL_acts 410 = .ok (.iload_n 3, 1) := by decide +kernel
theorem dL_acts_411 : decode cL_acts 411 = .ok (.bipush 22, 2) := by decide +kernel
theorem dL_acts_413 : decode cL_acts 413 = .ok (.if_icmp .ge 48, 3) := by decide +kernel
theorem dL_acts_416 : decode cL_acts 416 = .ok (.aload_n 0, 1) := by decide +kernel
theorem dL_acts_417 : decode cL_acts 417 = .ok (.bipush 10, 2) := by decide +kernel
theorem dL_acts_419 : decode cL_acts 419 = .ok (.iload_n 2, 1) := by decide +kernel
theorem dL_acts_420 : decode cL_acts 420 = .ok (.bipush 8, 2) := by decide +kernel
theorem dL_acts_422 : decode cL_acts 422 = .ok (.idiv, 1) := by decide +kernel
theorem dL_acts_423 : decode cL_acts 423 = .ok (.bipush 31, 2) := by decide +kernel
theorem dL_acts_425 : decode cL_acts 425 = .ok (.irem, 1) := by decide +kernel
theorem dL_acts_426 : decode cL_acts 426 = .ok (.iadd, 1) := by decide +kernel
theorem dL_acts_427 : decode cL_acts 427 = .ok (.bipush 100, 2) := by decide +kernel
theorem dL_acts_429 : decode cL_acts 429 = .ok (.iload_n 2, 1) := by decide +kernel
theorem dL_acts_430 : decode cL_acts 430 = .ok (.bipush 64, 2) := by decide +kernel
theorem dL_acts_432 : decode cL_acts 432 = .ok (.idiv, 1) := by decide +kernel
theorem dL_acts_433 : decode cL_acts 433 = .ok (.iload_n 2, 1) := by decide +kernel
theorem dL_acts_434 : decode cL_acts 434 = .ok (.iconst 3, 1) := by decide +kernel
theorem dL_acts_435 : decode cL_acts 435 = .ok (.irem, 1) := by decide +kernel
theorem dL_acts_436 : decode cL_acts 436 = .ok (.ifCond .ne 8, 3) := by decide +kernel
theorem dL_acts_439 : decode cL_acts 439 = .ok (.bipush 100, 2) := by decide +kernel
theorem dL_acts_441 : decode cL_acts 441 = .ok (.goto 6, 3) := by decide +kernel
theorem dL_acts_444 : decode cL_acts 444 = .ok (.sipush 900, 3) := by decide +kernel
theorem dL_acts_447 : decode cL_acts 447 = .ok (.irem, 1) := by decide +kernel
theorem dL_acts_448 : decode cL_acts 448 = .ok (.iadd, 1) := by decide +kernel
theorem dL_acts_449 : decode cL_acts 449 = .ok (.iload_n 2, 1) := by decide +kernel
theorem dL_acts_450 : decode cL_acts 450 = .ok (.bipush 16, 2) := by decide +kernel
theorem dL_acts_452 : decode cL_acts 452 = .ok (.idiv, 1) := by decide +kernel
theorem dL_acts_453 : decode cL_acts 453 = .ok (.iconst 2, 1) := by decide +kernel
theorem dL_acts_454 : decode cL_acts 454 = .ok (.irem, 1) := by decide +kernel
theorem dL_acts_455 : decode cL_acts 455 = .ok (.invokestatic 168, 3) := by decide +kernel
theorem dL_acts_458 : decode cL_acts 458 = .ok (.goto 138, 3) := by decide +kernel
theorem dL_acts_461 : decode cL_acts 461 = .ok (.iload_n 3, 1) := by decide +kernel
theorem dL_acts_462 : decode cL_acts 462 = .ok (.bipush 24, 2) := by decide +kernel
theorem dL_acts_464 : decode cL_acts 464 = .ok (.if_icmp .ge 22, 3) := by decide +kernel
theorem dL_acts_467 : decode cL_acts 467 = .ok (.aload_n 0, 1) := by decide +kernel
theorem dL_acts_468 : decode cL_acts 468 = .ok (.iload 5, 2) := by decide +kernel
theorem dL_acts_470 : decode cL_acts 470 = .ok (.bipush 10, 2) := by decide +kernel
theorem dL_acts_472 : decode cL_acts 472 = .ok (.iload_n 2, 1) := by decide +kernel
theorem dL_acts_473 : decode cL_acts 473 = .ok (.bipush 64, 2) := by decide +kernel
theorem dL_acts_475 : decode cL_acts 475 = .ok (.idiv, 1) := by decide +kernel
theorem dL_acts_476 : decode cL_acts 476 = .ok (.bipush 31, 2) := by decide +kernel
theorem dL_acts_478 : decode cL_acts 478 = .ok (.irem, 1) := by decide +kernel
theorem dL_acts_479 : decode cL_acts 479 = .ok (.iadd, 1) := by decide +kernel
theorem dL_acts_480 : decode cL_acts 480 = .ok (.invokestatic 171, 3) := by decide +kernel
theorem dL_acts_483 : decode cL_acts 483 = .ok (.goto 113, 3) := by decide +kernel
theorem dL_acts_486 : decode cL_acts 486 = .ok (.iload_n 3, 1) := by decide +kernel
theorem dL_acts_487 : decode cL_acts 487 = .ok (.bipush 27, 2) := by decide +kernel
theorem dL_acts_489 : decode cL_acts 489 = .ok (.if_icmp .ge 12, 3) := by decide +kernel
theorem dL_acts_492 : decode cL_acts 492 = .ok (.aload_n 0, 1) := by decide +kernel
theorem dL_acts_493 : decode cL_acts 493 = .ok (.iload 5, 2) := by decide +kernel
theorem dL_acts_495 : decode cL_acts 495 = .ok (.invokestatic 174, 3) := by decide +kernel
theorem dL_acts_498 : decode cL_acts 498 = .ok (.goto 98, 3) := by decide +kernel
theorem dL_acts_501 : decode cL_acts 501 = .ok (.iload_n 3, 1) := by decide +kernel
theorem dL_acts_502 : decode cL_acts 502 = .ok (.bipush 27, 2) := by decide +kernel
theorem dL_acts_504 : decode cL_acts 504 = .ok (.if_icmp .ne 28, 3) := by decide +kernel
theorem dL_acts_507 : decode cL_acts 507 = .ok (.aload_n 0, 1) := by decide +kernel
theorem dL_acts_508 : decode cL_acts 508 = .ok (.iload 5, 2) := by decide +kernel
theorem dL_acts_510 : decode cL_acts 510 = .ok (.iload 4, 2) := by decide +kernel
theorem dL_acts_512 : decode cL_acts 512 = .ok (.ifCond .ne 7, 3) := by decide +kernel
theorem dL_acts_515 : decode cL_acts 515 = .ok (.iconst 0, 1) := by decide +kernel
theorem dL_acts_516 : decode cL_acts 516 = .ok (.goto 10, 3) := by decide +kernel
theorem dL_acts_519 : decode cL_acts 519 = .ok (.iload_n 2, 1) := by decide +kernel
theorem dL_acts_520 : decode cL_acts 520 = .ok (.bipush 64, 2) := by decide +kernel
theorem dL_acts_522 : decode cL_acts 522 = .ok (.idiv, 1) := by decide +kernel
theorem dL_acts_523 : decode cL_acts 523 = .ok (.iload 4, 2) := by decide +kernel
theorem dL_acts_525 : decode cL_acts 525 = .ok (.irem, 1) := by decide +kernel
theorem dL_acts_526 : decode cL_acts 526 = .ok (.invokestatic 176, 3) := by decide +kernel
theorem dL_acts_529 : decode cL_acts 529 = .ok (.goto 67, 3) := by decide +kernel
theorem dL_acts_532 : decode cL_acts 532 = .ok (.iload_n 3, 1) := by decide +kernel
theorem dL_acts_533 : decode cL_acts 533 = .ok (.bipush 28, 2) := by decide +kernel
theorem dL_acts_535 : decode cL_acts 535 = .ok (.if_icmp .ne 26, 3) := by decide +kernel
theorem dL_acts_538 : decode cL_acts 538 = .ok (.aload_n 0, 1) := by decide +kernel
theorem dL_acts_539 : decode cL_acts 539 = .ok (.iload_n 2, 1) := by decide +kernel
theorem dL_acts_540 : decode cL_acts 540 = .ok (.bipush 8, 2) := by decide +kernel
theorem dL_acts_542 : decode cL_acts 542 = .ok (.idiv, 1) := by decide +kernel
theorem dL_acts_543 : decode cL_acts 543 = .ok (.iconst 4, 1) := by decide +kernel
theorem dL_acts_544 : decode cL_acts 544 = .ok (.irem, 1) := by decide +kernel
theorem dL_acts_545 : decode cL_acts 545 = .ok (.bipush 8, 2) := by decide +kernel
theorem dL_acts_547 : decode cL_acts 547 = .ok (.iload_n 2, 1) := by decide +kernel
theorem dL_acts_548 : decode cL_acts 548 = .ok (.bipush 64, 2) := by decide +kernel
theorem dL_acts_550 : decode cL_acts 550 = .ok (.idiv, 1) := by decide +kernel
theorem dL_acts_551 : decode cL_acts 551 = .ok (.bipush 33, 2) := by decide +kernel
theorem dL_acts_553 : decode cL_acts 553 = .ok (.irem, 1) := by decide +kernel
theorem dL_acts_554 : decode cL_acts 554 = .ok (.iadd, 1) := by decide +kernel
theorem dL_acts_555 : decode cL_acts 555 = .ok (.invokestatic 178, 3) := by decide +kernel
theorem dL_acts_558 : decode cL_acts 558 = .ok (.goto 38, 3) := by decide +kernel
theorem dL_acts_561 : decode cL_acts 561 = .ok (.iload_n 3, 1) := by decide +kernel
theorem dL_acts_562 : decode cL_acts 562 = .ok (.bipush 29, 2) := by decide +kernel
theorem dL_acts_564 : decode cL_acts 564 = .ok (.if_icmp .ne 18, 3) := by decide +kernel
theorem dL_acts_567 : decode cL_acts 567 = .ok (.aload_n 0, 1) := by decide +kernel
theorem dL_acts_568 : decode cL_acts 568 = .ok (.iconst 1, 1) := by decide +kernel
theorem dL_acts_569 : decode cL_acts 569 = .ok (.iload_n 2, 1) := by decide +kernel
theorem dL_acts_570 : decode cL_acts 570 = .ok (.bipush 8, 2) := by decide +kernel
theorem dL_acts_572 : decode cL_acts 572 = .ok (.idiv, 1) := by decide +kernel
theorem dL_acts_573 : decode cL_acts 573 = .ok (.iconst 3, 1) := by decide +kernel
theorem dL_acts_574 : decode cL_acts 574 = .ok (.irem, 1) := by decide +kernel
theorem dL_acts_575 : decode cL_acts 575 = .ok (.iadd, 1) := by decide +kernel
theorem dL_acts_576 : decode cL_acts 576 = .ok (.invokestatic 180, 3) := by decide +kernel
theorem dL_acts_579 : decode cL_acts 579 = .ok (.goto 17, 3) := by decide +kernel
theorem dL_acts_582 : decode cL_acts 582 = .ok (.iload_n 2, 1) := by decide +kernel
theorem dL_acts_583 : decode cL_acts 583 = .ok (.iconst 4, 1) := by decide +kernel
theorem dL_acts_584 : decode cL_acts 584 = .ok (.irem, 1) := by decide +kernel
theorem dL_acts_585 : decode cL_acts 585 = .ok (.ifCond .ne 10, 3) := by decide +kernel
theorem dL_acts_588 : decode cL_acts 588 = .ok (.aload_n 0, 1) := by decide +kernel
theorem dL_acts_589 : decode cL_acts 589 = .ok (.invokestatic 166, 3) := by decide +kernel
theorem dL_acts_592 : decode cL_acts 592 = .ok (.goto 4, 3) := by decide +kernel
theorem dL_acts_595 : decode cL_acts 595 = .ok (.iconst 0, 1) := by decide +kernel
theorem dL_acts_596 : decode cL_acts 596 = .ok (.ireturn, 1) := by decide +kernel
theorem dL_hangs_0 : decode cL_hangs 0 = .ok (.aload_n 0, 1) := by decide +kernel
theorem dL_hangs_1 : decode cL_hangs 1 = .ok (.invokevirtual 139, 3) := by decide +kernel
theorem dL_hangs_4 : decode cL_hangs 4 = .ok (.istore_n 1, 1) := by decide +kernel
theorem dL_hangs_5 : decode cL_hangs 5 = .ok (.iconst 0, 1) := by decide +kernel
theorem dL_hangs_6 : decode cL_hangs 6 = .ok (.istore_n 2, 1) := by decide +kernel
theorem dL_hangs_7 : decode cL_hangs 7 = .ok (.iconst 0, 1) := by decide +kernel
theorem dL_hangs_8 : decode cL_hangs 8 = .ok (.istore_n 3, 1) := by decide +kernel
theorem dL_hangs_9 : decode cL_hangs 9 = .ok (.iconst 0, 1) := by decide +kernel
theorem dL_hangs_10 : decode cL_hangs 10 = .ok (.istore 4, 2) := by decide +kernel
theorem dL_hangs_12 : decode cL_hangs 12 = .ok (.iconst 0, 1) := by decide +kernel
theorem dL_hangs_13 : decode cL_hangs 13 = .ok (.istore 5, 2) := by decide +kernel
theorem dL_hangs_15 : decode cL_hangs 15 = .ok (.iload_n 1, 1) := by decide +kernel
theorem dL_hangs_16 : decode cL_hangs 16 = .ok (.ifCond .lt 119, 3) := by decide +kernel
theorem dL_hangs_19 : decode cL_hangs 19 = .ok (.iload_n 1, 1) := by decide +kernel
theorem dL_hangs_20 : decode cL_hangs 20 = .ok (.bipush 8, 2) := by decide +kernel
theorem dL_hangs_22 : decode cL_hangs 22 = .ok (.if_icmp .gt 113, 3) := by decide +kernel
theorem dL_hangs_25 : decode cL_hangs 25 = .ok (.aload_n 0, 1) := by decide +kernel
theorem dL_hangs_26 : decode cL_hangs 26 = .ok (.invokevirtual 182, 3) := by decide +kernel
theorem dL_hangs_29 : decode cL_hangs 29 = .ok (.ifCond .lt 106, 3) := by decide +kernel
theorem dL_hangs_32 : decode cL_hangs 32 = .ok (.aload_n 0, 1) := by decide +kernel
theorem dL_hangs_33 : decode cL_hangs 33 = .ok (.invokevirtual 185, 3) := by decide +kernel
theorem dL_hangs_36 : decode cL_hangs 36 = .ok (.ifCond .lt 99, 3) := by decide +kernel
theorem dL_hangs_39 : decode cL_hangs 39 = .ok (.aload_n 0, 1) := by decide +kernel
theorem dL_hangs_40 : decode cL_hangs 40 = .ok (.invokevirtual 185, 3) := by decide +kernel
theorem dL_hangs_43 : decode cL_hangs 43 = .ok (.iload_n 1, 1) := by decide +kernel
theorem dL_hangs_44 : decode cL_hangs 44 = .ok (.if_icmp .gt 91, 3) := by decide +kernel
theorem dL_hangs_47 : decode cL_hangs 47 = .ok (.aload_n 0, 1) := by decide +kernel
theorem dL_hangs_48 : decode cL_hangs 48 = .ok (.invokevirtual 188, 3) := by decide +kernel
theorem dL_hangs_51 : decode cL_hangs 51 = .ok (.ifCond .lt 84, 3) := by decide +kernel
theorem dL_hangs_54 : decode cL_hangs 54 = .ok (.aload_n 0, 1) := by decide +kernel
theorem dL_hangs_55 : decode cL_hangs 55 = .ok (.invokevirtual 191, 3) := by decide +kernel
theorem dL_hangs_58 : decode cL_hangs 58 = .ok (.ifCond .lt 77, 3) := by decide +kernel
theorem dL_hangs_61 : decode cL_hangs 61 = .ok (.aload_n 0, 1) := by decide +kernel
theorem dL_hangs_62 : decode cL_hangs 62 = .ok (.invokevirtual 194, 3) := by decide +kernel
theorem dL_hangs_65 : decode cL_hangs 65 = .ok (.ifCond .lt 70, 3) := by decide +kernel
theorem dL_hangs_68 : decode cL_hangs 68 = .ok (.aload_n 0, 1) := by decide +kernel
theorem dL_hangs_69 : decode cL_hangs 69 = .ok (.invokevirtual 197, 3) := by decide +kernel
theorem dL_hangs_72 : decode cL_hangs 72 = .ok (.ifCond .lt 63, 3) := by decide +kernel
theorem dL_hangs_75 : decode cL_hangs 75 = .ok (.aload_n 0, 1) := by decide +kernel
theorem dL_hangs_76 : decode cL_hangs 76 = .ok (.invokevirtual 200, 3) := by decide +kernel
theorem dL_hangs_79 : decode cL_hangs 79 = .ok (.ifCond .lt 56, 3) := by decide +kernel
theorem dL_hangs_82 : decode cL_hangs 82 = .ok (.aload_n 0, 1) := by decide +kernel
theorem dL_hangs_83 : decode cL_hangs 83 = .ok (.invokevirtual 200, 3) := by decide +kernel
theorem dL_hangs_86 : decode cL_hangs 86 = .ok (.aload_n 0, 1) := by decide +kernel
theorem dL_hangs_87 : decode cL_hangs 87 = .ok (.invokevirtual 197, 3) := by decide +kernel
theorem dL_hangs_90 : decode cL_hangs 90 = .ok (.if_icmp .gt 45, 3) := by decide +kernel
theorem dL_hangs_93 : decode cL_hangs 93 = .ok (.aload_n 0, 1) := by decide +kernel
theorem dL_hangs_94 : decode cL_hangs 94 = .ok (.invokevirtual 203, 3) := by decide +kernel
theorem dL_hangs_97 : decode cL_hangs 97 = .ok (.ifCond .lt 38, 3) := by decide +kernel
theorem dL_hangs_100 : decode cL_hangs 100 = .ok (.aload_n 0, 1) := by decide +kernel
theorem dL_hangs_101 : decode cL_hangs 101 = .ok (.invokevirtual 203, 3) := by decide +kernel
theorem dL_hangs_104 : decode cL_hangs 104 = .ok (.bipush 7, 2) := by decide +kernel
theorem dL_hangs_106 : decode cL_hangs 106 = .ok (.if_icmp .ge 29, 3) := by decide +kernel
theorem dL_hangs_109 : decode cL_hangs 109 = .ok (.aload_n 0, 1) := by decide +kernel
theorem dL_hangs_110 : decode cL_hangs 110 = .ok (.invokevirtual 160, 3) := by decide +kernel
theorem dL_hangs_113 : decode cL_hangs 113 = .ok (.ifCond .eq 18, 3) := by decide +kernel
theorem dL_hangs_116 : decode cL_hangs 116 = .ok (.aload_n 0, 1) := by decide +kernel
theorem dL_hangs_117 : decode cL_hangs 117 = .ok (.invokevirtual 185, 3) := by decide +kernel
theorem dL_hangs_120 : decode cL_hangs 120 = .ok (.iload_n 1, 1) := by decide +kernel
theorem dL_hangs_121 : decode cL_hangs 121 = .ok (.if_icmp .ge 14, 3) := by decide +kernel
theorem dL_hangs_124 : decode cL_hangs 124 = .ok (.aload_n 0, 1) := by decide +kernel
theorem dL_hangs_125 : decode cL_hangs 125 = .ok (.invokevirtual 197, 3) := by decide +kernel
theorem dL_hangs_128 : decode cL_hangs 128 = .ok (.ifCond .le 7, 3) := by decide +kernel
theorem dL_hangs_131 : decode cL_hangs 131 = .ok (.iconst 1, 1) := by decide +kernel
theorem dL_hangs_132 : decode cL_hangs 132 = .ok (.goto 4, 3) := by decide +kernel
theorem dL_hangs_135 : decode cL_hangs 135 = .ok (.iconst 0, 1) := by decide +kernel
theorem dL_hangs_136 : decode cL_hangs 136 = .ok (.istore 6, 2) := by decide +kernel
