theorem dX7_readText_25 : decode cX7_readText 25 = .ok (.getfield 36, 3) := by decide +kernel
theorem dX7_readText_28 : decode cX7_readText 28 = .ok (.iload_n 1, 1) := by decide +kernel
theorem dX7_readText_29 : decode cX7_readText 29 = .ok (.invokevirtual 330, 3) := by decide +kernel
theorem dX7_readText_32 : decode cX7_readText 32 = .ok (.invokevirtual 354, 3) := by decide +kernel
theorem dX7_readText_35 : decode cX7_readText 35 = .ok (.ifCond .ne 5, 3) := by decide +kernel
theorem dX7_readText_38 : decode cX7_readText 38 = .ok (.iload_n 1, 1) := by decide +kernel
theorem dX7_readText_39 : decode cX7_readText 39 = .ok (.ireturn, 1) := by decide +kernel
theorem dX7_readText_40 : decode cX7_readText 40 = .ok (.iinc 1 1, 3) := by decide +kernel
theorem dX7_readText_43 : decode cX7_readText 43 = .ok (.goto (-34), 3) := by decide +kernel
theorem dX7_readText_46 : decode cX7_readText 46 = .ok (.aload_n 0, 1) := by decide +kernel
theorem dX7_readText_47 : decode cX7_readText 47 = .ok (.getfield 36, 3) := by decide +kernel
theorem dX7_readText_50 : decode cX7_readText 50 = .ok (.getfield 159, 3) := by decide +kernel
theorem dX7_readText_53 : decode cX7_readText 53 = .ok (.ireturn, 1) := by decide +kernel
theorem dX7_followOnTrial_0 : decode cX7_followOnTrial 0 = .ok (.aload_n 0, 1) := by decide +kernel
theorem dX7_followOnTrial_1 : decode cX7_followOnTrial 1 = .ok (.getfield 16, 3) := by decide +kernel
theorem dX7_followOnTrial_4 : decode cX7_followOnTrial 4 = .ok (.aload_n 0, 1) := by decide +kernel
theorem dX7_followOnTrial_5 : decode cX7_followOnTrial 5 = .ok (.getfield 10, 3) := by decide +kernel
theorem dX7_followOnTrial_8 : decode cX7_followOnTrial 8 = .ok (.invokevirtual 175, 3) := by decide +kernel
theorem dX7_followOnTrial_11 : decode cX7_followOnTrial 11 = .ok (.aload_n 0, 1) := by decide +kernel
theorem dX7_followOnTrial_12 : decode cX7_followOnTrial 12 = .ok (.getfield 43, 3) := by decide +kernel
theorem dX7_followOnTrial_15 : decode cX7_followOnTrial 15 = .ok (.invokevirtual 351, 3) := by decide +kernel
theorem dX7_followOnTrial_18 : decode cX7_followOnTrial 18 = .ok (.iconst 0, 1) := by decide +kernel
theorem dX7_followOnTrial_19 : decode cX7_followOnTrial 19 = .ok (.istore_n 1, 1) := by decide +kernel
theorem dX7_followOnTrial_20 : decode cX7_followOnTrial 20 = .ok (.iconst 0, 1) := by decide +kernel
theorem dX7_followOnTrial_21 : decode cX7_followOnTrial 21 = .ok (.istore_n 2, 1) := by decide +kernel
theorem dX7_followOnTrial_22 : decode cX7_followOnTrial 22 = .ok (.iload_n 2, 1) := by decide +kernel
theorem dX7_followOnTrial_23 : decode cX7_followOnTrial 23 = .ok (.aload_n 0, 1) := by decide +kernel
theorem dX7_followOnTrial_24 : decode cX7_followOnTrial 24 = .ok (.getfield 36, 3) := by decide +kernel
theorem dX7_followOnTrial_27 : decode cX7_followOnTrial 27 = .ok (.getfield 159, 3) := by decide +kernel
theorem dX7_followOnTrial_30 : decode cX7_followOnTrial 30 = .ok (.if_icmp .ge 45, 3) := by decide +kernel
theorem dX7_followOnTrial_33 : decode cX7_followOnTrial 33 = .ok (.aload_n 0, 1) := by decide +kernel
theorem dX7_followOnTrial_34 : decode cX7_followOnTrial 34 = .ok (.getfield 36, 3) := by decide +kernel
theorem dX7_followOnTrial_37 : decode cX7_followOnTrial 37 = .ok (.iload_n 2, 1) := by decide +kernel
theorem dX7_followOnTrial_38 : decode cX7_followOnTrial 38 = .ok (.invokevirtual 330, 3) := by decide +kernel
theorem dX7_followOnTrial_41 : decode cX7_followOnTrial 41 = .ok (.istore_n 3, 1) := by decide +kernel
theorem dX7_followOnTrial_42 : decode cX7_followOnTrial 42 = .ok (.iload_n 3, 1) := by decide +kernel
theorem dX7_followOnTrial_43 : decode cX7_followOnTrial 43 = .ok (.bipush 59, 2) := by decide +kernel
theorem dX7_followOnTrial_45 : decode cX7_followOnTrial 45 = .ok (.if_icmp .ne 15, 3) := by decide +kernel
theorem dX7_followOnTrial_48 : decode cX7_followOnTrial 48 = .ok (.aload_n 0, 1) := by decide +kernel
theorem dX7_followOnTrial_49 : decode cX7_followOnTrial 49 = .ok (.invokevirtual 358, 3) := by decide +kernel
theorem dX7_followOnTrial_52 : decode cX7_followOnTrial 52 = .ok (.ifCond .ne 5, 3) := by decide +kernel
theorem dX7_followOnTrial_55 : decode cX7_followOnTrial 55 = .ok (.iconst (-1), 1) := by decide +kernel
theorem dX7_followOnTrial_56 : decode cX7_followOnTrial 56 = .ok (.ireturn, 1) := by decide +kernel
theorem dX7_followOnTrial_57 : decode cX7_followOnTrial 57 = .ok (.iinc 1 1, 3) := by decide +kernel
theorem dX7_followOnTrial_60 : decode cX7_followOnTrial 60 = .ok (.aload_n 0, 1) := by decide +kernel
theorem dX7_followOnTrial_61 : decode cX7_followOnTrial 61 = .ok (.getfield 43, 3) := by decide +kernel
theorem dX7_followOnTrial_64 : decode cX7_followOnTrial 64 = .ok (.iload_n 3, 1) := by decide +kernel
theorem dX7_followOnTrial_65 : decode cX7_followOnTrial 65 = .ok (.invokevirtual 354, 3) := by decide +kernel
theorem dX7_followOnTrial_68 : decode cX7_followOnTrial 68 = .ok (.pop, 1) := by decide +kernel
theorem dX7_followOnTrial_69 : decode cX7_followOnTrial 69 = .ok (.iinc 2 1, 3) := by decide +kernel
theorem dX7_followOnTrial_72 : decode cX7_followOnTrial 72 = .ok (.goto (-50), 3) := by decide +kernel
theorem dX7_followOnTrial_75 : decode cX7_followOnTrial 75 = .ok (.aload_n 0, 1) := by decide +kernel
theorem dX7_followOnTrial_76 : decode cX7_followOnTrial 76 = .ok (.invokevirtual 358, 3) := by decide +kernel
theorem dX7_followOnTrial_79 : decode cX7_followOnTrial 79 = .ok (.ifCond .eq 9, 3) := by decide +kernel
theorem dX7_followOnTrial_82 : decode cX7_followOnTrial 82 = .ok (.iload_n 1, 1) := by decide +kernel
theorem dX7_followOnTrial_83 : decode cX7_followOnTrial 83 = .ok (.iconst 1, 1) := by decide +kernel
theorem dX7_followOnTrial_84 : decode cX7_followOnTrial 84 = .ok (.iadd, 1) := by decide +kernel
theorem dX7_followOnTrial_85 : decode cX7_followOnTrial 85 = .ok (.goto 4, 3) := by decide +kernel
theorem dX7_followOnTrial_88 : decode cX7_followOnTrial 88 = .ok (.iconst (-1), 1) := by decide +kernel
theorem dX7_followOnTrial_89 : decode cX7_followOnTrial 89 = .ok (.ireturn, 1) := by decide +kernel
theorem dX7_followOneOnTrial_0 : decode cX7_followOneOnTrial 0 = .ok (.aload_n 0, 1) := by decide +kernel
theorem dX7_followOneOnTrial_1 : decode cX7_followOneOnTrial 1 = .ok (.getfield 16, 3) := by decide +kernel
theorem dX7_followOneOnTrial_4 : decode cX7_followOneOnTrial 4 = .ok (.aload_n 0, 1) := by decide +kernel
theorem dX7_followOneOnTrial_5 : decode cX7_followOneOnTrial 5 = .ok (.getfield 43, 3) := by decide +kernel
theorem dX7_followOneOnTrial_8 : decode cX7_followOneOnTrial 8 = .ok (.getfield 361, 3) := by decide +kernel
theorem dX7_followOneOnTrial_11 : decode cX7_followOneOnTrial 11 = .ok (.invokevirtual 316, 3) := by decide +kernel
theorem dX7_followOneOnTrial_14 : decode cX7_followOneOnTrial 14 = .ok (.astore_n 1, 1) := by decide +kernel
theorem dX7_followOneOnTrial_15 : decode cX7_followOneOnTrial 15 = .ok (.aload_n 0, 1) := by decide +kernel
theorem dX7_followOneOnTrial_16 : decode cX7_followOneOnTrial 16 = .ok (.getfield 43, 3) := by decide +kernel
theorem dX7_followOneOnTrial_19 : decode cX7_followOneOnTrial 19 = .ok (.getfield 364, 3) := by decide +kernel
theorem dX7_followOneOnTrial_22 : decode cX7_followOneOnTrial 22 = .ok (.lookupswitch 108 #[(99, 85), (110, 53), (112, 34)], 34) := by decide +kernel
theorem dX7_followOneOnTrial_56 : decode cX7_followOneOnTrial 56 = .ok (.aload_n 1, 1) := by decide +kernel
theorem dX7_followOneOnTrial_57 : decode cX7_followOneOnTrial 57 = .ok (.ifnonnull 5, 3) := by decide +kernel
theorem dX7_followOneOnTrial_60 : decode cX7_followOneOnTrial 60 = .ok (.iconst 0, 1) := by decide +kernel
theorem dX7_followOneOnTrial_61 : decode cX7_followOneOnTrial 61 = .ok (.ireturn, 1) := by decide +kernel
theorem dX7_followOneOnTrial_62 : decode cX7_followOneOnTrial 62 = .ok (.aload_n 1, 1) := by decide +kernel
theorem dX7_followOneOnTrial_63 : decode cX7_followOneOnTrial 63 = .ok (.aload_n 0, 1) := by decide +kernel
theorem dX7_followOneOnTrial_64 : decode cX7_followOneOnTrial 64 = .ok (.getfield 43, 3) := by decide +kernel
theorem dX7_followOneOnTrial_67 : decode cX7_followOneOnTrial 67 = .ok (.getfield 368, 3) := by decide +kernel
theorem dX7_followOneOnTrial_70 : decode cX7_followOneOnTrial 70 = .ok (.putfield 87, 3) := by decide +kernel
theorem dX7_followOneOnTrial_73 : decode cX7_followOneOnTrial 73 = .ok (.iconst 1, 1) := by decide +kernel
theorem dX7_followOneOnTrial_74 : decode cX7_followOneOnTrial 74 = .ok (.ireturn, 1) := by decide +kernel
theorem dX7_followOneOnTrial_75 : decode cX7_followOneOnTrial 75 = .ok (.aload_n 1, 1) := by decide +kernel
theorem dX7_followOneOnTrial_76 : decode cX7_followOneOnTrial 76 = .ok (.ifnull 11, 3) := by decide +kernel
theorem dX7_followOneOnTrial_79 : decode cX7_followOneOnTrial 79 = .ok (.aload_n 1, 1) := by decide +kernel
theorem dX7_followOneOnTrial_80 : decode cX7_followOneOnTrial 80 = .ok (.getfield 92, 3) := by decide +kernel
theorem dX7_followOneOnTrial_83 : decode cX7_followOneOnTrial 83 = .ok (.iconst 3, 1) := by decide +kernel
theorem dX7_followOneOnTrial_84 : decode cX7_followOneOnTrial 84 = .ok (.if_icmp .ne 5, 3) := by decide +kernel
theorem dX7_followOneOnTrial_87 : decode cX7_followOneOnTrial 87 = .ok (.iconst 0, 1) := by decide +kernel
theorem dX7_followOneOnTrial_88 : decode cX7_followOneOnTrial 88 = .ok (.ireturn, 1) := by decide +kernel
theorem dX7_followOneOnTrial_89 : decode cX7_followOneOnTrial 89 = .ok (.aload_n 1, 1) := by decide +kernel
theorem dX7_followOneOnTrial_90 : decode cX7_followOneOnTrial 90 = .ok (.aload_n 1, 1) := by decide +kernel
theorem dX7_followOneOnTrial_91 : decode cX7_followOneOnTrial 91 = .ok (.getfield 97, 3) := by decide +kernel
theorem dX7_followOneOnTrial_94 : decode cX7_followOneOnTrial 94 = .ok (.ifCond .ne 7, 3) := by decide +kernel
theorem dX7_followOneOnTrial_97 : decode cX7_followOneOnTrial 97 = .ok (.iconst 1, 1) := by decide +kernel
theorem dX7_followOneOnTrial_98 : decode cX7_followOneOnTrial 98 = .ok (.goto 4, 3) := by decide +kernel
theorem dX7_followOneOnTrial_101 : decode cX7_followOneOnTrial 101 = .ok (.iconst 0, 1) := by decide +kernel
theorem dX7_followOneOnTrial_102 : decode cX7_followOneOnTrial 102 = .ok (.putfield 97, 3) := by decide +kernel
theorem dX7_followOneOnTrial_105 : decode cX7_followOneOnTrial 105 = .ok (.iconst 1, 1) := by decide +kernel
theorem dX7_followOneOnTrial_106 : decode cX7_followOneOnTrial 106 = .ok (.ireturn, 1) := by decide +kernel
theorem dX7_followOneOnTrial_107 : decode cX7_followOneOnTrial 107 = .ok (.aload_n 0, 1) := by decide +kernel
theorem dX7_followOneOnTrial_108 : decode cX7_followOneOnTrial 108 = .ok (.getfield 16, 3) := by decide +kernel
theorem dX7_followOneOnTrial_111 : decode cX7_followOneOnTrial 111 = .ok (.aload_n 0, 1) := by decide +kernel
theorem dX7_followOneOnTrial_112 : decode cX7_followOneOnTrial 112 = .ok (.getfield 43, 3) := by decide +kernel
theorem dX7_followOneOnTrial_115 : decode cX7_followOneOnTrial 115 = .ok (.getfield 361, 3) := by decide +kernel
theorem dX7_followOneOnTrial_118 : decode cX7_followOneOnTrial 118 = .ok (.aload_n 0, 1) := by decide +kernel
theorem dX7_followOneOnTrial_119 : decode cX7_followOneOnTrial 119 = .ok (.getfield 43, 3) := by decide +kernel
theorem dX7_followOneOnTrial_122 : decode cX7_followOneOnTrial 122 = .ok (.getfield 368, 3) := by decide +kernel
theorem dX7_followOneOnTrial_125 : decode cX7_followOneOnTrial 125 = .ok (.invokevirtual 119, 3) := by decide +kernel
theorem dX7_followOneOnTrial_128 : decode cX7_followOneOnTrial 128 = .ok (.iconst 1, 1) := by decide +kernel
theorem dX7_followOneOnTrial_129 : decode cX7_followOneOnTrial 129 = .ok (.ireturn, 1) := by decide +kernel
theorem dX7_followOneOnTrial_130 : decode cX7_followOneOnTrial 130 = .ok (.aload_n 0, 1) := by decide +kernel
theorem dX7_followOneOnTrial_131 : decode cX7_followOneOnTrial 131 = .ok (.getfield 16, 3) := by decide +kernel
theorem dX7_followOneOnTrial_134 : decode cX7_followOneOnTrial 134 = .ok (.getfield 62, 3) := by decide +kernel
theorem dX7_followOneOnTrial_137 : decode cX7_followOneOnTrial 137 = .ok (.ifCond .ne 5, 3) := by decide +kernel
theorem dX7_followOneOnTrial_140 : decode cX7_followOneOnTrial 140 = .ok (.iconst 0, 1) := by decide +kernel
theorem dX7_followOneOnTrial_141 : decode cX7_followOneOnTrial 141 = .ok (.ireturn, 1) := by decide +kernel
theorem dX7_followOneOnTrial_142 : decode cX7_followOneOnTrial 142 = .ok (.aload_n 0, 1) := by decide +kernel
theorem dX7_followOneOnTrial_143 : decode cX7_followOneOnTrial 143 = .ok (.getfield 16, 3) := by decide +kernel
theorem dX7_followOneOnTrial_146 : decode cX7_followOneOnTrial 146 = .ok (.aload_n 0, 1) := by decide +kernel
theorem dX7_followOneOnTrial_147 : decode cX7_followOneOnTrial 147 = .ok (.getfield 43, 3) := by decide +kernel
theorem dX7_followOneOnTrial_150 : decode cX7_followOneOnTrial 150 = .ok (.getfield 368, 3) := by decide +kernel
theorem dX7_followOneOnTrial_153 : decode cX7_followOneOnTrial 153 = .ok (.invokevirtual 144, 3) := by decide +kernel
theorem dX7_followOneOnTrial_156 : decode cX7_followOneOnTrial 156 = .ok (.iconst 1, 1) := by decide +kernel
theorem dX7_followOneOnTrial_157 : decode cX7_followOneOnTrial 157 = .ok (.ireturn, 1) := by decide +kernel
theorem dX7_known_0 : decode cX7_known 0 = .ok (.aload_n 0, 1) := by decide +kernel
theorem dX7_known_1 : decode cX7_known 1 = .ok (.getfield 10, 3) := by decide +kernel
theorem dX7_known_4 : decode cX7_known 4 = .ok (.iload_n 1, 1) := by decide +kernel
theorem dX7_known_5 : decode cX7_known 5 = .ok (.invokevirtual 316, 3) := by decide +kernel
theorem dX7_known_8 : decode cX7_known 8 = .ok (.astore_n 2, 1) := by decide +kernel
theorem dX7_known_9 : decode cX7_known 9 = .ok (.aload_n 2, 1) := by decide +kernel
theorem dX7_known_10 : decode cX7_known 10 = .ok (.ifnonnull 14, 3) := by decide +kernel
theorem dX7_known_13 : decode cX7_known 13 = .ok (.new 231, 3) := by decide +kernel
theorem dX7_known_16 : decode cX7_known 16 = .ok (.dup, 1) := by decide +kernel
theorem dX7_known_17 : decode cX7_known 17 = .ok (.ldc_w 369, 3) := by decide +kernel
theorem dX7_known_20 : decode cX7_known 20 = .ok (.invokespecial 235, 3) := by decide +kernel
theorem dX7_known_23 : decode cX7_known 23 = .ok (.athrow, 1) := by decide +kernel
theorem dX7_known_24 : decode cX7_known 24 = .ok (.aload_n 2, 1) := by decide +kernel
theorem dX7_known_25 : decode cX7_known 25 = .ok (.areturn, 1) := by decide +kernel
theorem dX7_knownToFly_0 : decode cX7_knownToFly 0 = .ok (.aload_n 0, 1) := by decide +kernel
theorem dX7_knownToFly_1 : decode cX7_knownToFly 1 = .ok (.iload_n 1, 1) := by decide +kernel
theorem dX7_knownToFly_2 : decode cX7_knownToFly 2 = .ok (.invokevirtual 79, 3) := by decide +kernel
theorem dX7_knownToFly_5 : decode cX7_knownToFly 5 = .ok (.astore_n 2, 1) := by decide +kernel
theorem dX7_knownToFly_6 : decode cX7_knownToFly 6 = .ok (.aload_n 2, 1) := by decide +kernel
theorem dX7_knownToFly_7 : decode cX7_knownToFly 7 = .ok (.getfield 92, 3) := by decide +kernel
theorem dX7_knownToFly_10 : decode cX7_knownToFly 10 = .ok (.iconst 1, 1) := by decide +kernel
theorem dX7_knownToFly_11 : decode cX7_knownToFly 11 = .ok (.if_icmp .eq 14, 3) := by decide +kernel
theorem dX7_knownToFly_14 : decode cX7_knownToFly 14 = .ok (.new 66, 3) := by decide +kernel
theorem dX7_knownToFly_17 : decode cX7_knownToFly 17 = .ok (.dup, 1) := by decide +kernel
theorem dX7_knownToFly_18 : decode cX7_knownToFly 18 = .ok (.ldc_w 371, 3) := by decide +kernel
theorem dX7_knownToFly_21 : decode cX7_knownToFly 21 = .ok (.invokespecial 70, 3) := by decide +kernel
theorem dX7_knownToFly_24 : decode cX7_knownToFly 24 = .ok (.athrow, 1) := by decide +kernel
theorem dX7_knownToFly_25 : decode cX7_knownToFly 25 = .ok (.aload_n 2, 1) := by decide +kernel
theorem dX7_knownToFly_26 : decode cX7_knownToFly 26 = .ok (.areturn, 1) := by decide +kernel
theorem dX7_checkRacing_0 : decode cX7_checkRacing 0 = .ok (.aload_n 0, 1) := by decide +kernel
theorem dX7_checkRacing_1 : decode cX7_checkRacing 1 = .ok (.getfield 10, 3) := by decide +kernel
theorem dX7_checkRacing_4 : decode cX7_checkRacing 4 = .ok (.getfield 62, 3) := by decide +kernel
theorem dX7_checkRacing_7 : decode cX7_checkRacing 7 = .ok (.ifCond .ne 14, 3) := by decide +kernel
theorem dX7_checkRacing_10 : decode cX7_checkRacing 10 = .ok (.new 66, 3) := by decide +kernel
theorem dX7_checkRacing_13 : decode cX7_checkRacing 13 = .ok (.dup, 1) := by decide +kernel
theorem dX7_checkRacing_14 : decode cX7_checkRacing 14 = .ok (.ldc_w 373, 3) := by decide +kernel
theorem dX7_checkRacing_17 : decode cX7_checkRacing 17 = .ok (.invokespecial 70, 3) := by decide +kernel
theorem dX7_checkRacing_20 : decode cX7_checkRacing 20 = .ok (.athrow, 1) := by decide +kernel
theorem dX7_checkRacing_21 : decode cX7_checkRacing 21 = .ok (.return_, 1) := by decide +kernel
theorem dX7_isPace_0 : decode cX7_isPace 0 = .ok (.iload_n 0, 1) := by decide +kernel
theorem dX7_isPace_1 : decode cX7_isPace 1 = .ok (.bipush 10, 2) := by decide +kernel
theorem dX7_isPace_3 : decode cX7_isPace 3 = .ok (.if_icmp .lt 13, 3) := by decide +kernel
theorem dX7_isPace_6 : decode cX7_isPace 6 = .ok (.iload_n 0, 1) := by decide +kernel
theorem dX7_isPace_7 : decode cX7_isPace 7 = .ok (.bipush 40, 2) := by decide +kernel
theorem dX7_isPace_9 : decode cX7_isPace 9 = .ok (.if_icmp .gt 7, 3) := by decide +kernel
theorem dX7_isPace_12 : decode cX7_isPace 12 = .ok (.iconst 1, 1) := by decide +kernel
theorem dX7_isPace_13 : decode cX7_isPace 13 = .ok (.goto 4, 3) := by decide +kernel
theorem dX7_isPace_16 : decode cX7_isPace 16 = .ok (.iconst 0, 1) := by decide +kernel
theorem dX7_isPace_17 : decode cX7_isPace 17 = .ok (.ireturn, 1) := by decide +kernel
theorem dX7_checkPace_0 : decode cX7_checkPace 0 = .ok (.iload_n 0, 1) := by decide +kernel
theorem dX7_checkPace_1 : decode cX7_checkPace 1 = .ok (.invokestatic 47, 3) := by decide +kernel
theorem dX7_checkPace_4 : decode cX7_checkPace 4 = .ok (.ifCond .ne 14, 3) := by decide +kernel
theorem dX7_checkPace_7 : decode cX7_checkPace 7 = .ok (.new 51, 3) := by decide +kernel
theorem dX7_checkPace_10 : decode cX7_checkPace 10 = .ok (.dup, 1) := by decide +kernel
theorem dX7_checkPace_11 : decode cX7_checkPace 11 = .ok (.ldc_w 375, 3) := by decide +kernel
theorem dX7_checkPace_14 : decode cX7_checkPace 14 = .ok (.invokespecial 55, 3) := by decide +kernel
theorem dX7_checkPace_17 : decode cX7_checkPace 17 = .ok (.athrow, 1) := by decide +kernel
theorem dX7_checkPace_18 : decode cX7_checkPace 18 = .ok (.return_, 1) := by decide +kernel
theorem dX7_checkSeconds_0 : decode cX7_checkSeconds 0 = .ok (.iload_n 0, 1) := by decide +kernel
theorem dX7_checkSeconds_1 : decode cX7_checkSeconds 1 = .ok (.iconst 1, 1) := by decide +kernel
theorem dX7_checkSeconds_2 : decode cX7_checkSeconds 2 = .ok (.if_icmp .lt 10, 3) := by decide +kernel
theorem dX7_checkSeconds_5 : decode cX7_checkSeconds 5 = .ok (.iload_n 0, 1) := by decide +kernel
theorem dX7_checkSeconds_6 : decode cX7_checkSeconds 6 = .ok (.sipush 200, 3) := by decide +kernel
theorem dX7_checkSeconds_9 : decode cX7_checkSeconds 9 = .ok (.if_icmp .le 14, 3) := by decide +kernel
theorem dX7_checkSeconds_12 : decode cX7_checkSeconds 12 = .ok (.new 51, 3) := by decide +kernel
theorem dX7_checkSeconds_15 : decode cX7_checkSeconds 15 = .ok (.dup, 1) := by decide +kernel
theorem dX7_checkSeconds_16 : decode cX7_checkSeconds 16 = .ok (.ldc_w 377, 3) := by decide +kernel
theorem dX7_checkSeconds_19 : decode cX7_checkSeconds 19 = .ok (.invokespecial 55, 3) := by decide +kernel
theorem dX7_checkSeconds_22 : decode cX7_checkSeconds 22 = .ok (.athrow, 1) := by decide +kernel
theorem dX7_checkSeconds_23 : decode cX7_checkSeconds 23 = .ok (.return_, 1) := by decide +kernel
theorem dX7_checkCorner_0 : decode cX7_checkCorner 0 = .ok (.iload_n 0, 1) := by decide +kernel
theorem dX7_checkCorner_1 : decode cX7_checkCorner 1 = .ok (.ifCond .lt 8, 3) := by decide +kernel
theorem dX7_checkCorner_4 : decode cX7_checkCorner 4 = .ok (.iload_n 0, 1) := by decide +kernel
theorem dX7_checkCorner_5 : decode cX7_checkCorner 5 = .ok (.iconst 4, 1) := by decide +kernel
theorem dX7_checkCorner_6 : decode cX7_checkCorner 6 = .ok (.if_icmp .lt 14, 3) := by decide +kernel
theorem dX7_checkCorner_9 : decode cX7_checkCorner 9 = .ok (.new 231, 3) := by decide +kernel
theorem dX7_checkCorner_12 : decode cX7_checkCorner 12 = .ok (.dup, 1) := by decide +kernel
theorem dX7_checkCorner_13 : decode cX7_checkCorner 13 = .ok (.ldc_w 379, 3) := by decide +kernel
theorem dX7_checkCorner_16 : decode cX7_checkCorner 16 = .ok (.invokespecial 235, 3) := by decide +kernel
theorem dX7_checkCorner_19 : decode cX7_checkCorner 19 = .ok (.athrow, 1) := by decide +kernel
theorem dX7_checkCorner_20 : decode cX7_checkCorner 20 = .ok (.return_, 1) := by decide +kernel
theorem dX7_checkSlot_0 : decode cX7_checkSlot 0 = .ok (.iload_n 0, 1) := by decide +kernel
theorem dX7_checkSlot_1 : decode cX7_checkSlot 1 = .ok (.ifCond .lt 8, 3) := by decide +kernel
theorem dX7_checkSlot_4 : decode cX7_checkSlot 4 = .ok (.iload_n 0, 1) := by decide +kernel
theorem dX7_checkSlot_5 : decode cX7_checkSlot 5 = .ok (.iconst 2, 1) := by decide +kernel
theorem dX7_checkSlot_6 : decode cX7_checkSlot 6 = .ok (.if_icmp .lt 14, 3) := by decide +kernel
theorem dX7_checkSlot_9 : decode cX7_checkSlot 9 = .ok (.new 51, 3) := by decide +kernel
theorem dX7_checkSlot_12 : decode cX7_checkSlot 12 = .ok (.dup, 1) := by decide +kernel
theorem dX7_checkSlot_13 : decode cX7_checkSlot 13 = .ok (.ldc_w 381, 3) := by decide +kernel
theorem dX7_checkSlot_16 : decode cX7_checkSlot 16 = .ok (.invokespecial 55, 3) := by decide +kernel
theorem dX7_checkSlot_19 : decode cX7_checkSlot 19 = .ok (.athrow, 1) := by decide +kernel
theorem dX7_checkSlot_20 : decode cX7_checkSlot 20 = .ok (.return_, 1) := by decide +kernel
theorem dX8_init_0 : decode cX8_init 0 = .ok (.aload_n 0, 1) := by decide +kernel
theorem dX8_init_1 : decode cX8_init 1 = .ok (.invokespecial 1, 3) := by decide +kernel
theorem dX8_init_4 : decode cX8_init 4 = .ok (.aload_n 0, 1) := by decide +kernel
theorem dX8_init_5 : decode cX8_init 5 = .ok (.sipush 151, 3) := by decide +kernel
theorem dX8_init_8 : decode cX8_init 8 = .ok (.newarray .int, 2) := by decide +kernel
theorem dX8_init_10 : decode cX8_init 10 = .ok (.putfield 7, 3) := by decide +kernel
theorem dX8_init_13 : decode cX8_init 13 = .ok (.aload_n 0, 1) := by decide +kernel
theorem dX8_init_14 : decode cX8_init 14 = .ok (.sipush 151, 3) := by decide +kernel
theorem dX8_init_17 : decode cX8_init 17 = .ok (.newarray .int, 2) := by decide +kernel
theorem dX8_init_19 : decode cX8_init 19 = .ok (.putfield 13, 3) := by decide +kernel
theorem dX8_init_22 : decode cX8_init 22 = .ok (.aload_n 0, 1) := by decide +kernel
theorem dX8_init_23 : decode cX8_init 23 = .ok (.sipush 906, 3) := by decide +kernel
theorem dX8_init_26 : decode cX8_init 26 = .ok (.newarray .int, 2) := by decide +kernel
theorem dX8_init_28 : decode cX8_init 28 = .ok (.putfield 16, 3) := by decide +kernel
theorem dX8_init_31 : decode cX8_init 31 = .ok (.aload_n 0, 1) := by decide +kernel
theorem dX8_init_32 : decode cX8_init 32 = .ok (.sipush 302, 3) := by decide +kernel
theorem dX8_init_35 : decode cX8_init 35 = .ok (.newarray .int, 2) := by decide +kernel
theorem dX8_init_37 : decode cX8_init 37 = .ok (.putfield 19, 3) := by decide +kernel
theorem dX8_init_40 : decode cX8_init 40 = .ok (.aload_n 0, 1) := by decide +kernel
theorem dX8_init_41 : decode cX8_init 41 = .ok (.iconst 2, 1) := by decide +kernel
theorem dX8_init_42 : decode cX8_init 42 = .ok (.newarray .boolean, 2) := by decide +kernel
theorem dX8_init_44 : decode cX8_init 44 = .ok (.putfield 22, 3) := by decide +kernel
theorem dX8_init_47 : decode cX8_init 47 = .ok (.aload_n 0, 1) := by decide +kernel
theorem dX8_init_48 : decode cX8_init 48 = .ok (.bipush 60, 2) := by decide +kernel
theorem dX8_init_50 : decode cX8_init 50 = .ok (.newarray .int, 2) := by decide +kernel
theorem dX8_init_52 : decode cX8_init 52 = .ok (.putfield 26, 3) := by decide +kernel
theorem dX8_init_55 : decode cX8_init 55 = .ok (.aload_n 0, 1) := by decide +kernel
theorem dX8_init_56 : decode cX8_init 56 = .ok (.bipush 8, 2) := by decide +kernel
theorem dX8_init_58 : decode cX8_init 58 = .ok (.newarray .int, 2) := by decide +kernel
theorem dX8_init_60 : decode cX8_init 60 = .ok (.putfield 29, 3) := by decide +kernel
theorem dX8_init_63 : decode cX8_init 63 = .ok (.aload_n 0, 1) := by decide +kernel
theorem dX8_init_64 : decode cX8_init 64 = .ok (.getfield 7, 3) := by decide +kernel
theorem dX8_init_67 : decode cX8_init 67 = .ok (.sipush 133, 3) := by decide +kernel
theorem dX8_init_70 : decode cX8_init 70 = .ok (.iconst 2, 1) := by decide +kernel
theorem dX8_init_71 : decode cX8_init 71 = .ok (.iastore, 1) := by decide +kernel
theorem dX8_init_72 : decode cX8_init 72 = .ok (.iconst 0, 1) := by decide +kernel
theorem dX8_init_73 : decode cX8_init 73 = .ok (.istore_n 1, 1) := by decide +kernel
theorem dX8_init_74 : decode cX8_init 74 = .ok (.iload_n 1, 1) := by decide +kernel
theorem dX8_init_75 : decode cX8_init 75 = .ok (.iconst 4, 1) := by decide +kernel
theorem dX8_init_76 : decode cX8_init 76 = .ok (.if_icmp .ge 21, 3) := by decide +kernel
theorem dX8_init_79 : decode cX8_init 79 = .ok (.aload_n 0, 1) := by decide +kernel
theorem dX8_init_80 : decode cX8_init 80 = .ok (.getfield 7, 3) := by decide +kernel
theorem dX8_init_83 : decode cX8_init 83 = .ok (.sipush 129, 3) := by decide +kernel
theorem dX8_init_86 : decode cX8_init 86 = .ok (.iload_n 1, 1) := by decide +kernel
theorem dX8_init_87 : decode cX8_init 87 = .ok (.iadd, 1) := by decide +kernel
theorem dX8_init_88 : decode cX8_init 88 = .ok (.bipush 20, 2) := by decide +kernel
theorem dX8_init_90 : decode cX8_init 90 = .ok (.iastore, 1) := by decide +kernel
theorem dX8_init_91 : decode cX8_init 91 = .ok (.iinc 1 1, 3) := by decide +kernel
theorem dX8_init_94 : decode cX8_init 94 = .ok (.goto (-20), 3) := by decide +kernel
theorem dX8_init_97 : decode cX8_init 97 = .ok (.return_, 1) := by decide +kernel
theorem dX8_thrown_0 : decode cX8_thrown 0 = .ok (.aload_n 0, 1) := by decide +kernel
theorem dX8_thrown_1 : decode cX8_thrown 1 = .ok (.getfield 32, 3) := by decide +kernel
theorem dX8_thrown_4 : decode cX8_thrown 4 = .ok (.ireturn, 1) := by decide +kernel
theorem dX8_refused_0 : decode cX8_refused 0 = .ok (.aload_n 0, 1) := by decide +kernel
theorem dX8_refused_1 : decode cX8_refused 1 = .ok (.iload_n 1, 1) := by decide +kernel
theorem dX8_refused_2 : decode cX8_refused 2 = .ok (.putfield 32, 3) := by decide +kernel
theorem dX8_refused_5 : decode cX8_refused 5 = .ok (.iload_n 1, 1) := by decide +kernel
theorem dX8_refused_6 : decode cX8_refused 6 = .ok (.ifCond .le 7, 3) := by decide +kernel
theorem dX8_refused_9 : decode cX8_refused 9 = .ok (.iconst 1, 1) := by decide +kernel
theorem dX8_refused_10 : decode cX8_refused 10 = .ok (.goto 4, 3) := by decide +kernel
theorem dX8_refused_13 : decode cX8_refused 13 = .ok (.iconst 0, 1) := by decide +kernel
theorem dX8_refused_14 : decode cX8_refused 14 = .ok (.ireturn, 1) := by decide +kernel
theorem dX8_told_0 : decode cX8_told 0 = .ok (.aload_n 0, 1) := by decide +kernel
theorem dX8_told_1 : decode cX8_told 1 = .ok (.iconst 0, 1) := by decide +kernel
theorem dX8_told_2 : decode cX8_told 2 = .ok (.putfield 32, 3) := by decide +kernel
theorem dX8_told_5 : decode cX8_told 5 = .ok (.iload_n 1, 1) := by decide +kernel
theorem dX8_told_6 : decode cX8_told 6 = .ok (.ireturn, 1) := by decide +kernel
theorem dX8_in_0 : decode cX8_in 0 = .ok (.iload_n 0, 1) := by decide +kernel
theorem dX8_in_1 : decode cX8_in 1 = .ok (.iload_n 1, 1) := by decide +kernel
theorem dX8_in_2 : decode cX8_in 2 = .ok (.if_icmp .lt 12, 3) := by decide +kernel
theorem dX8_in_5 : decode cX8_in 5 = .ok (.iload_n 0, 1) := by decide +kernel
theorem dX8_in_6 : decode cX8_in 6 = .ok (.iload_n 2, 1) := by decide +kernel
theorem dX8_in_7 : decode cX8_in 7 = .ok (.if_icmp .gt 7, 3) := by decide +kernel
theorem dX8_in_10 : decode cX8_in 10 = .ok (.iconst 1, 1) := by decide +kernel
theorem dX8_in_11 : decode cX8_in 11 = .ok (.goto 4, 3) := by decide +kernel
theorem dX8_in_14 : decode cX8_in 14 = .ok (.iconst 0, 1) := by decide +kernel
theorem dX8_in_15 : decode cX8_in 15 = .ok (.ireturn, 1) := by decide +kernel
theorem dX8_isBird_0 : decode cX8_isBird 0 = .ok (.iload_n 1, 1) := by decide +kernel
theorem dX8_isBird_1 : decode cX8_isBird 1 = .ok (.iconst 0, 1) := by decide +kernel
theorem dX8_isBird_2 : decode cX8_isBird 2 = .ok (.aload_n 0, 1) := by decide +kernel
theorem dX8_isBird_3 : decode cX8_isBird 3 = .ok (.getfield 7, 3) := by decide +kernel
theorem dX8_isBird_6 : decode cX8_isBird 6 = .ok (.sipush 128, 3) := by decide +kernel
theorem dX8_isBird_9 : decode cX8_isBird 9 = .ok (.iaload, 1) := by decide +kernel
theorem dX8_isBird_10 : decode cX8_isBird 10 = .ok (.iconst 1, 1) := by decide +kernel
theorem dX8_isBird_11 : decode cX8_isBird 11 = .ok (.isub, 1) := by decide +kernel
theorem dX8_isBird_12 : decode cX8_isBird 12 = .ok (.invokestatic 36, 3) := by decide +kernel
theorem dX8_isBird_15 : decode cX8_isBird 15 = .ok (.ireturn, 1) := by decide +kernel
theorem dX8_of_0 : decode cX8_of 0 = .ok (.aload_n 0, 1) := by decide +kernel
theorem dX8_of_1 : decode cX8_of 1 = .ok (.getfield 7, 3) := by decide +kernel
theorem dX8_of_4 : decode cX8_of 4 = .ok (.bipush 16, 2) := by decide +kernel
theorem dX8_of_6 : decode cX8_of 6 = .ok (.iload_n 1, 1) := by decide +kernel
theorem dX8_of_7 : decode cX8_of 7 = .ok (.imul, 1) := by decide +kernel
theorem dX8_of_8 : decode cX8_of 8 = .ok (.iload_n 2, 1) := by decide +kernel
theorem dX8_of_9 : decode cX8_of 9 = .ok (.iadd, 1) := by decide +kernel
theorem dX8_of_10 : decode cX8_of 10 = .ok (.iaload, 1) := by decide +kernel
theorem dX8_of_11 : decode cX8_of 11 = .ok (.ireturn, 1) := by decide +kernel
theorem dX8_flies_0 : decode cX8_flies 0 = .ok (.aload_n 0, 1) := by decide +kernel
theorem dX8_flies_1 : decode cX8_flies 1 = .ok (.iload_n 1, 1) := by decide +kernel
theorem dX8_flies_2 : decode cX8_flies 2 = .ok (.bipush 6, 2) := by decide +kernel
theorem dX8_flies_4 : decode cX8_flies 4 = .ok (.invokevirtual 40, 3) := by decide +kernel
theorem dX8_flies_7 : decode cX8_flies 7 = .ok (.iconst 1, 1) := by decide +kernel
theorem dX8_flies_8 : decode cX8_flies 8 = .ok (.if_icmp .ne 7, 3) := by decide +kernel
theorem dX8_flies_11 : decode cX8_flies 11 = .ok (.iconst 1, 1) := by decide +kernel
theorem dX8_flies_12 : decode cX8_flies 12 = .ok (.goto 4, 3) := by decide +kernel
theorem dX8_flies_15 : decode cX8_flies 15 = .ok (.iconst 0, 1) := by decide +kernel
theorem dX8_flies_16 : decode cX8_flies 16 = .ok (.ireturn, 1) := by decide +kernel
theorem dX8_isOver_0 : decode cX8_isOver 0 = .ok (.aload_n 0, 1) := by decide +kernel
theorem dX8_isOver_1 : decode cX8_isOver 1 = .ok (.iload_n 1, 1) := by decide +kernel
theorem dX8_isOver_2 : decode cX8_isOver 2 = .ok (.bipush 6, 2) := by decide +kernel
theorem dX8_isOver_4 : decode cX8_isOver 4 = .ok (.invokevirtual 40, 3) := by decide +kernel
theorem dX8_isOver_7 : decode cX8_isOver 7 = .ok (.iconst 3, 1) := by decide +kernel
theorem dX8_isOver_8 : decode cX8_isOver 8 = .ok (.if_icmp .ne 7, 3) := by decide +kernel
theorem dX8_isOver_11 : decode cX8_isOver 11 = .ok (.iconst 1, 1) := by decide +kernel
theorem dX8_isOver_12 : decode cX8_isOver 12 = .ok (.goto 4, 3) := by decide +kernel
theorem dX8_isOver_15 : decode cX8_isOver 15 = .ok (.iconst 0, 1) := by decide +kernel
theorem dX8_isOver_16 : decode cX8_isOver 16 = .ok (.ireturn, 1) := by decide +kernel
theorem dX8_records_0 : decode cX8_records 0 = .ok (.aload_n 0, 1) := by decide +kernel
theorem dX8_records_1 : decode cX8_records 1 = .ok (.getfield 44, 3) := by decide +kernel
theorem dX8_records_4 : decode cX8_records 4 = .ok (.bipush 6, 2) := by decide +kernel
theorem dX8_records_6 : decode cX8_records 6 = .ok (.if_icmp .ne 44, 3) := by decide +kernel
theorem dX8_records_9 : decode cX8_records 9 = .ok (.iconst 0, 1) := by decide +kernel
theorem dX8_records_10 : decode cX8_records 10 = .ok (.istore_n 1, 1) := by decide +kernel
theorem dX8_records_11 : decode cX8_records 11 = .ok (.iload_n 1, 1) := by decide +kernel
theorem dX8_records_12 : decode cX8_records 12 = .ok (.sipush 755, 3) := by decide +kernel
theorem dX8_records_15 : decode cX8_records 15 = .ok (.if_icmp .ge 25, 3) := by decide +kernel
theorem dX8_records_18 : decode cX8_records 18 = .ok (.aload_n 0, 1) := by decide +kernel
theorem dX8_records_19 : decode cX8_records 19 = .ok (.getfield 16, 3) := by decide +kernel
theorem dX8_records_22 : decode cX8_records 22 = .ok (.iload_n 1, 1) := by decide +kernel
theorem dX8_records_23 : decode cX8_records 23 = .ok (.aload_n 0, 1) := by decide +kernel
theorem dX8_records_24 : decode cX8_records 24 = .ok (.getfield 16, 3) := by decide +kernel
theorem dX8_records_27 : decode cX8_records 27 = .ok (.sipush 151, 3) := by decide +kernel
theorem dX8_records_30 : decode cX8_records 30 = .ok (.iload_n 1, 1) := by decide +kernel
theorem dX8_records_31 : decode cX8_records 31 = .ok (.iadd, 1) := by decide +kernel
theorem dX8_records_32 : decode cX8_records 32 = .ok (.iaload, 1) := by decide +kernel
theorem dX8_records_33 : decode cX8_records 33 = .ok (.iastore, 1) := by decide +kernel
theorem dX8_records_34 : decode cX8_records 34 = .ok (.iinc 1 1, 3) := by decide +kernel
theorem dX8_records_37 : decode cX8_records 37 = .ok (.goto (-26), 3) := by decide +kernel
theorem dX8_records_40 : decode cX8_records 40 = .ok (.aload_n 0, 1) := by decide +kernel
theorem dX8_records_41 : decode cX8_records 41 = .ok (.dup, 1) := by decide +kernel
theorem dX8_records_42 : decode cX8_records 42 = .ok (.getfield 44, 3) := by decide +kernel
theorem dX8_records_45 : decode cX8_records 45 = .ok (.iconst 1, 1) := by decide +kernel
theorem dX8_records_46 : decode cX8_records 46 = .ok (.isub, 1) := by decide +kernel
theorem dX8_records_47 : decode cX8_records 47 = .ok (.putfield 44, 3) := by decide +kernel
theorem dX8_records_50 : decode cX8_records 50 = .ok (.iconst 0, 1) := by decide +kernel
theorem dX8_records_51 : decode cX8_records 51 = .ok (.istore_n 1, 1) := by decide +kernel
theorem dX8_records_52 : decode cX8_records 52 = .ok (.iload_n 1, 1) := by decide +kernel
theorem dX8_records_53 : decode cX8_records 53 = .ok (.sipush 151, 3) := by decide +kernel
theorem dX8_records_56 : decode cX8_records 56 = .ok (.if_icmp .ge 30, 3) := by decide +kernel
theorem dX8_records_59 : decode cX8_records 59 = .ok (.aload_n 0, 1) := by decide +kernel
theorem dX8_records_60 : decode cX8_records 60 = .ok (.getfield 16, 3) := by decide +kernel
theorem dX8_records_63 : decode cX8_records 63 = .ok (.sipush 151, 3) := by decide +kernel
theorem dX8_records_66 : decode cX8_records 66 = .ok (.aload_n 0, 1) := by decide +kernel
theorem dX8_records_67 : decode cX8_records 67 = .ok (.getfield 44, 3) := by decide +kernel
theorem dX8_records_70 : decode cX8_records 70 = .ok (.imul, 1) := by decide +kernel
theorem dX8_records_71 : decode cX8_records 71 = .ok (.iload_n 1, 1) := by decide +kernel
theorem dX8_records_72 : decode cX8_records 72 = .ok (.iadd, 1) := by decide +kernel
theorem dX8_records_73 : decode cX8_records 73 = .ok (.aload_n 0, 1) := by decide +kernel
theorem dX8_records_74 : decode cX8_records 74 = .ok (.getfield 7, 3) := by decide +kernel
theorem dX8_records_77 : decode cX8_records 77 = .ok (.iload_n 1, 1) := by decide +kernel
theorem dX8_records_78 : decode cX8_records 78 = .ok (.iaload, 1) := by decide +kernel
theorem dX8_records_79 : decode cX8_records 79 = .ok (.iastore, 1) := by decide +kernel
theorem dX8_records_80 : decode cX8_records 80 = .ok (.iinc 1 1, 3) := by decide +kernel
theorem dX8_records_83 : decode cX8_records 83 = .ok (.goto (-31), 3) := by decide +kernel
theorem dX8_records_86 : decode cX8_records 86 = .ok (.aload_n 0, 1) := by decide +kernel
theorem dX8_records_87 : decode cX8_records 87 = .ok (.dup, 1) := by decide +kernel
theorem dX8_records_88 : decode cX8_records 88 = .ok (.getfield 44, 3) := by decide +kernel
theorem dX8_records_91 : decode cX8_records 91 = .ok (.iconst 1, 1) := by decide +kernel
theorem dX8_records_92 : decode cX8_records 92 = .ok (.iadd, 1) := by decide +kernel
theorem dX8_records_93 : decode cX8_records 93 = .ok (.putfield 44, 3) := by decide +kernel
theorem dX8_records_96 : decode cX8_records 96 = .ok (.return_, 1) := by decide +kernel
theorem dX8_putAside_0 : decode cX8_putAside 0 = .ok (.iconst 0, 1) := by decide +kernel
theorem dX8_putAside_1 : decode cX8_putAside 1 = .ok (.istore_n 1, 1) := by decide +kernel
theorem dX8_putAside_2 : decode cX8_putAside 2 = .ok (.iload_n 1, 1) := by decide +kernel
theorem dX8_putAside_3 : decode cX8_putAside 3 = .ok (.sipush 151, 3) := by decide +kernel
theorem dX8_putAside_6 : decode cX8_putAside 6 = .ok (.if_icmp .ge 21, 3) := by decide +kernel
theorem dX8_putAside_9 : decode cX8_putAside 9 = .ok (.aload_n 0, 1) := by decide +kernel
theorem dX8_putAside_10 : decode cX8_putAside 10 = .ok (.getfield 13, 3) := by decide +kernel
theorem dX8_putAside_13 : decode cX8_putAside 13 = .ok (.iload_n 1, 1) := by decide +kernel
theorem dX8_putAside_14 : decode cX8_putAside 14 = .ok (.aload_n 0, 1) := by decide +kernel
theorem dX8_putAside_15 : decode cX8_putAside 15 = .ok (.getfield 7, 3) := by decide +kernel
theorem dX8_putAside_18 : decode cX8_putAside 18 = .ok (.iload_n 1, 1) := by decide +kernel
theorem dX8_putAside_19 : decode cX8_putAside 19 = .ok (.iaload, 1) := by decide +kernel
theorem dX8_putAside_20 : decode cX8_putAside 20 = .ok (.iastore, 1) := by decide +kernel
theorem dX8_putAside_21 : decode cX8_putAside 21 = .ok (.iinc 1 1, 3) := by decide +kernel
theorem dX8_putAside_24 : decode cX8_putAside 24 = .ok (.goto (-22), 3) := by decide +kernel
theorem dX8_putAside_27 : decode cX8_putAside 27 = .ok (.return_, 1) := by decide +kernel
theorem dX8_putBack_0 : decode cX8_putBack 0 = .ok (.iconst 0, 1) := by decide +kernel
theorem dX8_putBack_1 : decode cX8_putBack 1 = .ok (.istore_n 1, 1) := by decide +kernel
theorem dX8_putBack_2 : decode cX8_putBack 2 = .ok (.iload_n 1, 1) := by decide +kernel
theorem dX8_putBack_3 : decode cX8_putBack 3 = .ok (.sipush 151, 3) := by decide +kernel
theorem dX8_putBack_6 : decode cX8_putBack 6 = .ok (.if_icmp .ge 21, 3) := by decide +kernel
theorem dX8_putBack_9 : decode cX8_putBack 9 = .ok (.aload_n 0, 1) := by decide +kernel
theorem dX8_putBack_10 : decode cX8_putBack 10 = .ok (.getfield 7, 3) := by decide +kernel
theorem dX8_putBack_13 : decode cX8_putBack 13 = .ok (.iload_n 1, 1) := by decide +kernel
theorem dX8_putBack_14 : decode cX8_putBack 14 = .ok (.aload_n 0, 1) := by decide +kernel
theorem dX8_putBack_15 : decode cX8_putBack 15 = .ok (.getfield 13, 3) := by decide +kernel
theorem dX8_putBack_18 : decode cX8_putBack 18 = .ok (.iload_n 1, 1) := by decide +kernel
theorem dX8_putBack_19 : decode cX8_putBack 19 = .ok (.iaload, 1) := by decide +kernel
theorem dX8_putBack_20 : decode cX8_putBack 20 = .ok (.iastore, 1) := by decide +kernel
theorem dX8_putBack_21 : decode cX8_putBack 21 = .ok (.iinc 1 1, 3) := by decide +kernel
theorem dX8_putBack_24 : decode cX8_putBack 24 = .ok (.goto (-22), 3) := by decide +kernel
theorem dX8_putBack_27 : decode cX8_putBack 27 = .ok (.return_, 1) := by decide +kernel
theorem dX8_arrival_0 : decode cX8_arrival 0 = .ok (.bipush 8, 2) := by decide +kernel
theorem dX8_arrival_2 : decode cX8_arrival 2 = .ok (.istore_n 2, 1) := by decide +kernel
theorem dX8_arrival_3 : decode cX8_arrival 3 = .ok (.iconst 0, 1) := by decide +kernel
theorem dX8_arrival_4 : decode cX8_arrival 4 = .ok (.istore_n 3, 1) := by decide +kernel
theorem dX8_arrival_5 : decode cX8_arrival 5 = .ok (.iload_n 3, 1) := by decide +kernel
theorem dX8_arrival_6 : decode cX8_arrival 6 = .ok (.aload_n 0, 1) := by decide +kernel
theorem dX8_arrival_7 : decode cX8_arrival 7 = .ok (.getfield 7, 3) := by decide +kernel
theorem dX8_arrival_10 : decode cX8_arrival 10 = .ok (.sipush 135, 3) := by decide +kernel
theorem dX8_arrival_13 : decode cX8_arrival 13 = .ok (.iaload, 1) := by decide +kernel
theorem dX8_arrival_14 : decode cX8_arrival 14 = .ok (.if_icmp .ge 29, 3) := by decide +kernel
theorem dX8_arrival_17 : decode cX8_arrival 17 = .ok (.aload_n 0, 1) := by decide +kernel
theorem dX8_arrival_18 : decode cX8_arrival 18 = .ok (.getfield 7, 3) := by decide +kernel
theorem dX8_arrival_21 : decode cX8_arrival 21 = .ok (.sipush 136, 3) := by decide +kernel
theorem dX8_arrival_24 : decode cX8_arrival 24 = .ok (.iload_n 3, 1) := by decide +kernel
theorem dX8_arrival_25 : decode cX8_arrival 25 = .ok (.iadd, 1) := by decide +kernel
theorem dX8_arrival_26 : decode cX8_arrival 26 = .ok (.iaload, 1) := by decide +kernel
theorem dX8_arrival_27 : decode cX8_arrival 27 = .ok (.iload_n 1, 1) := by decide +kernel
theorem dX8_arrival_28 : decode cX8_arrival 28 = .ok (.if_icmp .ne 7, 3) := by decide +kernel
theorem dX8_arrival_31 : decode cX8_arrival 31 = .ok (.iload_n 3, 1) := by decide +kernel
theorem dX8_arrival_32 : decode cX8_arrival 32 = .ok (.goto 4, 3) := by decide +kernel
theorem dX8_arrival_35 : decode cX8_arrival 35 = .ok (.iload_n 2, 1) := by decide +kernel
theorem dX8_arrival_36 : decode cX8_arrival 36 = .ok (.istore_n 2, 1) := by decide +kernel
theorem dX8_arrival_37 : decode cX8_arrival 37 = .ok (.iinc 3 1, 3) := by decide +kernel
theorem dX8_arrival_40 : decode cX8_arrival 40 = .ok (.goto (-35), 3) := by decide +kernel
theorem dX8_arrival_43 : decode cX8_arrival 43 = .ok (.iload_n 2, 1) := by decide +kernel
theorem dX8_arrival_44 : decode cX8_arrival 44 = .ok (.ireturn, 1) := by decide +kernel
theorem dX8_isAhead_0 : decode cX8_isAhead 0 = .ok (.aload_n 0, 1) := by decide +kernel
theorem dX8_isAhead_1 : decode cX8_isAhead 1 = .ok (.iload_n 1, 1) := by decide +kernel
theorem dX8_isAhead_2 : decode cX8_isAhead 2 = .ok (.invokevirtual 47, 3) := by decide +kernel
theorem dX8_isAhead_5 : decode cX8_isAhead 5 = .ok (.ifCond .ne 11, 3) := by decide +kernel
theorem dX8_isAhead_8 : decode cX8_isAhead 8 = .ok (.aload_n 0, 1) := by decide +kernel
theorem dX8_isAhead_9 : decode cX8_isAhead 9 = .ok (.iload_n 2, 1) := by decide +kernel
theorem dX8_isAhead_10 : decode cX8_isAhead 10 = .ok (.invokevirtual 47, 3) := by decide +kernel
theorem dX8_isAhead_13 : decode cX8_isAhead 13 = .ok (.ifCond .eq 38, 3) := by decide +kernel
theorem dX8_isAhead_16 : decode cX8_isAhead 16 = .ok (.aload_n 0, 1) := by decide +kernel
theorem dX8_isAhead_17 : decode cX8_isAhead 17 = .ok (.iload_n 1, 1) := by decide +kernel
theorem dX8_isAhead_18 : decode cX8_isAhead 18 = .ok (.invokevirtual 47, 3) := by decide +kernel
theorem dX8_isAhead_21 : decode cX8_isAhead 21 = .ok (.ifCond .eq 28, 3) := by decide +kernel
theorem dX8_isAhead_24 : decode cX8_isAhead 24 = .ok (.aload_n 0, 1) := by decide +kernel
theorem dX8_isAhead_25 : decode cX8_isAhead 25 = .ok (.iload_n 2, 1) := by decide +kernel
theorem dX8_isAhead_26 : decode cX8_isAhead 26 = .ok (.invokevirtual 47, 3) := by decide +kernel
theorem dX8_isAhead_29 : decode cX8_isAhead 29 = .ok (.ifCond .eq 16, 3) := by decide +kernel
theorem dX8_isAhead_32 : decode cX8_isAhead 32 = .ok (.aload_n 0, 1) := by decide +kernel
theorem dX8_isAhead_33 : decode cX8_isAhead 33 = .ok (.iload_n 1, 1) := by decide +kernel
theorem dX8_isAhead_34 : decode cX8_isAhead 34 = .ok (.invokevirtual 51, 3) := by decide +kernel
theorem dX8_isAhead_37 : decode cX8_isAhead 37 = .ok (.aload_n 0, 1) := by decide +kernel
theorem dX8_isAhead_38 : decode cX8_isAhead 38 = .ok (.iload_n 2, 1) := by decide +kernel
theorem dX8_isAhead_39 : decode cX8_isAhead 39 = .ok (.invokevirtual 51, 3) := by decide +kernel
theorem dX8_isAhead_42 : decode cX8_isAhead 42 = .ok (.if_icmp .ge 7, 3) := by decide +kernel
theorem dX8_isAhead_45 : decode cX8_isAhead 45 = .ok (.iconst 1, 1) := by decide +kernel
theorem dX8_isAhead_46 : decode cX8_isAhead 46 = .ok (.goto 4, 3) := by decide +kernel
theorem dX8_isAhead_49 : decode cX8_isAhead 49 = .ok (.iconst 0, 1) := by decide +kernel
theorem dX8_isAhead_50 : decode cX8_isAhead 50 = .ok (.ireturn, 1) := by decide +kernel
theorem dX8_isAhead_51 : decode cX8_isAhead 51 = .ok (.aload_n 0, 1) := by decide +kernel
theorem dX8_isAhead_52 : decode cX8_isAhead 52 = .ok (.iload_n 1, 1) := by decide +kernel
theorem dX8_isAhead_53 : decode cX8_isAhead 53 = .ok (.bipush 7, 2) := by decide +kernel
theorem dX8_isAhead_55 : decode cX8_isAhead 55 = .ok (.invokevirtual 40, 3) := by decide +kernel
theorem dX8_isAhead_58 : decode cX8_isAhead 58 = .ok (.aload_n 0, 1) := by decide +kernel
theorem dX8_isAhead_59 : decode cX8_isAhead 59 = .ok (.iload_n 2, 1) := by decide +kernel
theorem dX8_isAhead_60 : decode cX8_isAhead 60 = .ok (.bipush 7, 2) := by decide +kernel
theorem dX8_isAhead_62 : decode cX8_isAhead 62 = .ok (.invokevirtual 40, 3) := by decide +kernel
theorem dX8_isAhead_65 : decode cX8_isAhead 65 = .ok (.if_icmp .eq 28, 3) := by decide +kernel
theorem dX8_isAhead_68 : decode cX8_isAhead 68 = .ok (.aload_n 0, 1) := by decide +kernel
theorem dX8_isAhead_69 : decode cX8_isAhead 69 = .ok (.iload_n 1, 1) := by decide +kernel
theorem dX8_isAhead_70 : decode cX8_isAhead 70 = .ok (.bipush 7, 2) := by decide +kernel
theorem dX8_isAhead_72 : decode cX8_isAhead 72 = .ok (.invokevirtual 40, 3) := by decide +kernel
theorem dX8_isAhead_75 : decode cX8_isAhead 75 = .ok (.aload_n 0, 1) := by decide +kernel
theorem dX8_isAhead_76 : decode cX8_isAhead 76 = .ok (.iload_n 2, 1) := by decide +kernel
theorem dX8_isAhead_77 : decode cX8_isAhead 77 = .ok (.bipush 7, 2) := by decide +kernel
theorem dX8_isAhead_79 : decode cX8_isAhead 79 = .ok (.invokevirtual 40, 3) := by decide +kernel
theorem dX8_isAhead_82 : decode cX8_isAhead 82 = .ok (.if_icmp .le 7, 3) := by decide +kernel
theorem dX8_isAhead_85 : decode cX8_isAhead 85 = .ok (.iconst 1, 1) := by decide +kernel
theorem dX8_isAhead_86 : decode cX8_isAhead 86 = .ok (.goto 17, 3) := by decide +kernel
theorem dX8_isAhead_89 : decode cX8_isAhead 89 = .ok (.iconst 0, 1) := by decide +kernel
theorem dX8_isAhead_90 : decode cX8_isAhead 90 = .ok (.goto 13, 3) := by decide +kernel
theorem dX8_isAhead_93 : decode cX8_isAhead 93 = .ok (.iload_n 1, 1) := by decide +kernel
theorem dX8_isAhead_94 : decode cX8_isAhead 94 = .ok (.iload_n 2, 1) := by decide +kernel
theorem dX8_isAhead_95 : decode cX8_isAhead 95 = .ok (.if_icmp .ge 7, 3) := by decide +kernel
theorem dX8_isAhead_98 : decode cX8_isAhead 98 = .ok (.iconst 1, 1) := by decide +kernel
theorem dX8_isAhead_99 : decode cX8_isAhead 99 = .ok (.goto 4, 3) := by decide +kernel
theorem dX8_isAhead_102 : decode cX8_isAhead 102 = .ok (.iconst 0, 1) := by decide +kernel
theorem dX8_isAhead_103 : decode cX8_isAhead 103 = .ok (.ireturn, 1) := by decide +kernel
theorem dX8_place_0 : decode cX8_place 0 = .ok (.iconst 0, 1) := by decide +kernel
theorem dX8_place_1 : decode cX8_place 1 = .ok (.istore_n 2, 1) := by decide +kernel
theorem dX8_place_2 : decode cX8_place 2 = .ok (.iconst 0, 1) := by decide +kernel
theorem dX8_place_3 : decode cX8_place 3 = .ok (.istore_n 3, 1) := by decide +kernel
theorem dX8_place_4 : decode cX8_place 4 = .ok (.iload_n 3, 1) := by decide +kernel
theorem dX8_place_5 : decode cX8_place 5 = .ok (.aload_n 0, 1) := by decide +kernel
theorem dX8_place_6 : decode cX8_place 6 = .ok (.getfield 7, 3) := by decide +kernel
theorem dX8_place_9 : decode cX8_place 9 = .ok (.sipush 128, 3) := by decide +kernel
theorem dX8_place_12 : decode cX8_place 12 = .ok (.iaload, 1) := by decide +kernel
theorem dX8_place_13 : decode cX8_place 13 = .ok (.if_icmp .ge 31, 3) := by decide +kernel
theorem dX8_place_16 : decode cX8_place 16 = .ok (.iload_n 2, 1) := by decide +kernel
theorem dX8_place_17 : decode cX8_place 17 = .ok (.iload_n 3, 1) := by decide +kernel
theorem dX8_place_18 : decode cX8_place 18 = .ok (.iload_n 1, 1) := by decide +kernel
theorem dX8_place_19 : decode cX8_place 19 = .ok (.if_icmp .eq 16, 3) := by decide +kernel
theorem dX8_place_22 : decode cX8_place 22 = .ok (.aload_n 0, 1) := by decide +kernel
theorem dX8_place_23 : decode cX8_place 23 = .ok (.iload_n 3, 1) := by decide +kernel
theorem dX8_place_24 : decode cX8_place 24 = .ok (.iload_n 1, 1) := by decide +kernel
theorem dX8_place_25 : decode cX8_place 25 = .ok (.invokevirtual 55, 3) := by decide +kernel
theorem dX8_place_28 : decode cX8_place 28 = .ok (.ifCond .eq 7, 3) := by decide +kernel
theorem dX8_place_31 : decode cX8_place 31 = .ok (.iconst 1, 1) := by decide +kernel
theorem dX8_place_32 : decode cX8_place 32 = .ok (.goto 4, 3) := by decide +kernel
theorem dX8_place_35 : decode cX8_place 35 = .ok (.iconst 0, 1) := by decide +kernel
theorem dX8_place_36 : decode cX8_place 36 = .ok (.iadd, 1) := by decide +kernel
theorem dX8_place_37 : decode cX8_place 37 = .ok (.istore_n 2, 1) := by decide +kernel
theorem dX8_place_38 : decode cX8_place 38 = .ok (.iinc 3 1, 3) := by decide +kernel
theorem dX8_place_41 : decode cX8_place 41 = .ok (.goto (-37), 3) := by decide +kernel
theorem dX8_place_44 : decode cX8_place 44 = .ok (.iload_n 2, 1) := by decide +kernel
theorem dX8_place_45 : decode cX8_place 45 = .ok (.ireturn, 1) := by decide +kernel
theorem dX8_birdAt_0 : decode cX8_birdAt 0 = .ok (.iconst (-1), 1) := by decide +kernel
theorem dX8_birdAt_1 : decode cX8_birdAt 1 = .ok (.istore_n 2, 1) := by decide +kernel
theorem dX8_birdAt_2 : decode cX8_birdAt 2 = .ok (.iconst 0, 1) := by decide +kernel
theorem dX8_birdAt_3 : decode cX8_birdAt 3 = .ok (.istore_n 3, 1) := by decide +kernel
theorem dX8_birdAt_4 : decode cX8_birdAt 4 = .ok (.iload_n 3, 1) := by decide +kernel
theorem dX8_birdAt_5 : decode cX8_birdAt 5 = .ok (.aload_n 0, 1) := by decide +kernel
theorem dX8_birdAt_6 : decode cX8_birdAt 6 = .ok (.getfield 7, 3) := by decide +kernel
theorem dX8_birdAt_9 : decode cX8_birdAt 9 = .ok (.sipush 128, 3) := by decide +kernel
theorem dX8_birdAt_12 : decode cX8_birdAt 12 = .ok (.iaload, 1) := by decide +kernel
theorem dX8_birdAt_13 : decode cX8_birdAt 13 = .ok (.if_icmp .ge 24, 3) := by decide +kernel
theorem dX8_birdAt_16 : decode cX8_birdAt 16 = .ok (.aload_n 0, 1) := by decide +kernel
theorem dX8_birdAt_17 : decode cX8_birdAt 17 = .ok (.iload_n 3, 1) := by decide +kernel
theorem dX8_birdAt_18 : decode cX8_birdAt 18 = .ok (.invokevirtual 59, 3) := by decide +kernel
theorem dX8_birdAt_21 : decode cX8_birdAt 21 = .ok (.iload_n 1, 1) := by decide +kernel
theorem dX8_birdAt_22 : decode cX8_birdAt 22 = .ok (.if_icmp .ne 7, 3) := by decide +kernel
theorem dX8_birdAt_25 : decode cX8_birdAt 25 = .ok (.iload_n 3, 1) := by decide +kernel
theorem dX8_birdAt_26 : decode cX8_birdAt 26 = .ok (.goto 4, 3) := by decide +kernel
theorem dX8_birdAt_29 : decode cX8_birdAt 29 = .ok (.iload_n 2, 1) := by decide +kernel
theorem dX8_birdAt_30 : decode cX8_birdAt 30 = .ok (.istore_n 2, 1) := by decide +kernel
theorem dX8_birdAt_31 : decode cX8_birdAt 31 = .ok (.iinc 3 1, 3) := by decide +kernel
theorem dX8_birdAt_34 : decode cX8_birdAt 34 = .ok (.goto (-30), 3) := by decide +kernel
theorem dX8_birdAt_37 : decode cX8_birdAt 37 = .ok (.iload_n 2, 1) := by decide +kernel
theorem dX8_birdAt_38 : decode cX8_birdAt 38 = .ok (.ireturn, 1) := by decide +kernel
theorem dX8_ahead_0 : decode cX8_ahead 0 = .ok (.aload_n 0, 1) := by decide +kernel
theorem dX8_ahead_1 : decode cX8_ahead 1 = .ok (.iload_n 1, 1) := by decide +kernel
theorem dX8_ahead_2 : decode cX8_ahead 2 = .ok (.bipush 7, 2) := by decide +kernel
theorem dX8_ahead_4 : decode cX8_ahead 4 = .ok (.invokevirtual 40, 3) := by decide +kernel
theorem dX8_ahead_7 : decode cX8_ahead 7 = .ok (.aload_n 0, 1) := by decide +kernel
theorem dX8_ahead_8 : decode cX8_ahead 8 = .ok (.iload_n 2, 1) := by decide +kernel
theorem dX8_ahead_9 : decode cX8_ahead 9 = .ok (.bipush 7, 2) := by decide +kernel
theorem dX8_ahead_11 : decode cX8_ahead 11 = .ok (.invokevirtual 40, 3) := by decide +kernel
theorem dX8_ahead_14 : decode cX8_ahead 14 = .ok (.isub, 1) := by decide +kernel
theorem dX8_ahead_15 : decode cX8_ahead 15 = .ok (.sipush 400, 3) := by decide +kernel
theorem dX8_ahead_18 : decode cX8_ahead 18 = .ok (.irem, 1) := by decide +kernel
theorem dX8_ahead_19 : decode cX8_ahead 19 = .ok (.istore_n 3, 1) := by decide +kernel
theorem dX8_ahead_20 : decode cX8_ahead 20 = .ok (.iload_n 3, 1) := by decide +kernel
theorem dX8_ahead_21 : decode cX8_ahead 21 = .ok (.ifCond .ge 11, 3) := by decide +kernel
theorem dX8_ahead_24 : decode cX8_ahead 24 = .ok (.iload_n 3, 1) := by decide +kernel
theorem dX8_ahead_25 : decode cX8_ahead 25 = .ok (.sipush 400, 3) := by decide +kernel
theorem dX8_ahead_28 : decode cX8_ahead 28 = .ok (.iadd, 1) := by decide +kernel
theorem dX8_ahead_29 : decode cX8_ahead 29 = .ok (.goto 4, 3) := by decide +kernel
theorem dX8_ahead_32 : decode cX8_ahead 32 = .ok (.iload_n 3, 1) := by decide +kernel
theorem dX8_ahead_33 : decode cX8_ahead 33 = .ok (.ireturn, 1) := by decide +kernel
theorem dX8_gap_0 : decode cX8_gap 0 = .ok (.iconst 0, 1) := by decide +kernel
theorem dX8_gap_1 : decode cX8_gap 1 = .ok (.istore_n 3, 1) := by decide +kernel
theorem dX8_gap_2 : decode cX8_gap 2 = .ok (.iconst 0, 1) := by decide +kernel
theorem dX8_gap_3 : decode cX8_gap 3 = .ok (.istore 4, 2) := by decide +kernel
theorem dX8_gap_5 : decode cX8_gap 5 = .ok (.iload 4, 2) := by decide +kernel
theorem dX8_gap_7 : decode cX8_gap 7 = .ok (.aload_n 0, 1) := by decide +kernel
theorem dX8_gap_8 : decode cX8_gap 8 = .ok (.getfield 7, 3) := by decide +kernel
theorem dX8_gap_11 : decode cX8_gap 11 = .ok (.sipush 128, 3) := by decide +kernel
theorem dX8_gap_14 : decode cX8_gap 14 = .ok (.iaload, 1) := by decide +kernel
theorem dX8_gap_15 : decode cX8_gap 15 = .ok (.if_icmp .ge 77, 3) := by decide +kernel
theorem dX8_gap_18 : decode cX8_gap 18 = .ok (.iload 4, 2) := by decide +kernel
theorem dX8_gap_20 : decode cX8_gap 20 = .ok (.iload_n 1, 1) := by decide +kernel
theorem dX8_gap_21 : decode cX8_gap 21 = .ok (.if_icmp .eq 65, 3) := by decide +kernel
theorem dX8_gap_24 : decode cX8_gap 24 = .ok (.aload_n 0, 1) := by decide +kernel
theorem dX8_gap_25 : decode cX8_gap 25 = .ok (.iload 4, 2) := by decide +kernel
theorem dX8_gap_27 : decode cX8_gap 27 = .ok (.invokevirtual 62, 3) := by decide +kernel
theorem dX8_gap_30 : decode cX8_gap 30 = .ok (.ifCond .eq 56, 3) := by decide +kernel
theorem dX8_gap_33 : decode cX8_gap 33 = .ok (.aload_n 0, 1) := by decide +kernel
theorem dX8_gap_34 : decode cX8_gap 34 = .ok (.iload 4, 2) := by decide +kernel
theorem dX8_gap_36 : decode cX8_gap 36 = .ok (.iconst 5, 1) := by decide +kernel
theorem dX8_gap_37 : decode cX8_gap 37 = .ok (.invokevirtual 40, 3) := by decide +kernel
theorem dX8_gap_40 : decode cX8_gap 40 = .ok (.iload_n 2, 1) := by decide +kernel
theorem dX8_gap_41 : decode cX8_gap 41 = .ok (.if_icmp .ne 45, 3) := by decide +kernel
theorem dX8_gap_44 : decode cX8_gap 44 = .ok (.aload_n 0, 1) := by decide +kernel
theorem dX8_gap_45 : decode cX8_gap 45 = .ok (.iload 4, 2) := by decide +kernel
theorem dX8_gap_47 : decode cX8_gap 47 = .ok (.iload_n 1, 1) := by decide +kernel
theorem dX8_gap_48 : decode cX8_gap 48 = .ok (.invokevirtual 65, 3) := by decide +kernel
theorem dX8_gap_51 : decode cX8_gap 51 = .ok (.ifCond .ne 9, 3) := by decide +kernel
theorem dX8_gap_54 : decode cX8_gap 54 = .ok (.sipush 400, 3) := by decide +kernel
theorem dX8_gap_57 : decode cX8_gap 57 = .ok (.goto 10, 3) := by decide +kernel
theorem dX8_gap_60 : decode cX8_gap 60 = .ok (.aload_n 0, 1) := by decide +kernel
theorem dX8_gap_61 : decode cX8_gap 61 = .ok (.iload 4, 2) := by decide +kernel
theorem dX8_gap_63 : decode cX8_gap 63 = .ok (.iload_n 1, 1) := by decide +kernel
theorem dX8_gap_64 : decode cX8_gap 64 = .ok (.invokevirtual 65, 3) := by decide +kernel
theorem dX8_gap_67 : decode cX8_gap 67 = .ok (.istore 5, 2) := by decide +kernel
theorem dX8_gap_69 : decode cX8_gap 69 = .ok (.iload_n 3, 1) := by decide +kernel
theorem dX8_gap_70 : decode cX8_gap 70 = .ok (.ifCond .eq 9, 3) := by decide +kernel
theorem dX8_gap_73 : decode cX8_gap 73 = .ok (.iload 5, 2) := by decide +kernel
theorem dX8_gap_75 : decode cX8_gap 75 = .ok (.iload_n 3, 1) := by decide +kernel
theorem dX8_gap_76 : decode cX8_gap 76 = .ok (.if_icmp .ge 8, 3) := by decide +kernel
theorem dX8_gap_79 : decode cX8_gap 79 = .ok (.iload 5, 2) := by decide +kernel
theorem dX8_gap_81 : decode cX8_gap 81 = .ok (.goto 4, 3) := by decide +kernel
theorem dX8_gap_84 : decode cX8_gap 84 = .ok (.iload_n 3, 1) := by decide +kernel
theorem dX8_gap_85 : decode cX8_gap 85 = .ok (.istore_n 3, 1) := by decide +kernel
theorem dX8_gap_86 : decode cX8_gap 86 = .ok (.iinc 4 1, 3) := by decide +kernel
theorem dX8_gap_89 : decode cX8_gap 89 = .ok (.goto (-84), 3) := by decide +kernel
theorem dX8_gap_92 : decode cX8_gap 92 = .ok (.iload_n 3, 1) := by decide +kernel
theorem dX8_gap_93 : decode cX8_gap 93 = .ok (.ireturn, 1) := by decide +kernel
theorem dX8_isDrafted_0 : decode cX8_isDrafted 0 = .ok (.aload_n 0, 1) := by decide +kernel
theorem dX8_isDrafted_1 : decode cX8_isDrafted 1 = .ok (.iload_n 1, 1) := by decide +kernel
theorem dX8_isDrafted_2 : decode cX8_isDrafted 2 = .ok (.aload_n 0, 1) := by decide +kernel
theorem dX8_isDrafted_3 : decode cX8_isDrafted 3 = .ok (.iload_n 1, 1) := by decide +kernel
theorem dX8_isDrafted_4 : decode cX8_isDrafted 4 = .ok (.iconst 5, 1) := by decide +kernel
theorem dX8_isDrafted_5 : decode cX8_isDrafted 5 = .ok (.invokevirtual 40, 3) := by decide +kernel
theorem dX8_isDrafted_8 : decode cX8_isDrafted 8 = .ok (.invokevirtual 68, 3) := by decide +kernel
theorem dX8_isDrafted_11 : decode cX8_isDrafted 11 = .ok (.iconst 1, 1) := by decide +kernel
theorem dX8_isDrafted_12 : decode cX8_isDrafted 12 = .ok (.bipush 8, 2) := by decide +kernel
theorem dX8_isDrafted_14 : decode cX8_isDrafted 14 = .ok (.invokestatic 36, 3) := by decide +kernel
theorem dX8_isDrafted_17 : decode cX8_isDrafted 17 = .ok (.ireturn, 1) := by decide +kernel
theorem dX8_isPartnerNext_0 : decode cX8_isPartnerNext 0 = .ok (.aload_n 0, 1) := by decide +kernel
theorem dX8_isPartnerNext_1 : decode cX8_isPartnerNext 1 = .ok (.iload_n 1, 1) := by decide +kernel
theorem dX8_isPartnerNext_2 : decode cX8_isPartnerNext 2 = .ok (.aload_n 0, 1) := by decide +kernel
theorem dX8_isPartnerNext_3 : decode cX8_isPartnerNext 3 = .ok (.iload_n 1, 1) := by decide +kernel
theorem dX8_isPartnerNext_4 : decode cX8_isPartnerNext 4 = .ok (.iconst 5, 1) := by decide +kernel
theorem dX8_isPartnerNext_5 : decode cX8_isPartnerNext 5 = .ok (.invokevirtual 40, 3) := by decide +kernel
theorem dX8_isPartnerNext_8 : decode cX8_isPartnerNext 8 = .ok (.invokevirtual 68, 3) := by decide +kernel
theorem dX8_isPartnerNext_11 : decode cX8_isPartnerNext 11 = .ok (.istore_n 2, 1) := by decide +kernel
theorem dX8_isPartnerNext_12 : decode cX8_isPartnerNext 12 = .ok (.iconst (-1), 1) := by decide +kernel
theorem dX8_isPartnerNext_13 : decode cX8_isPartnerNext 13 = .ok (.istore_n 3, 1) := by decide +kernel
theorem dX8_isPartnerNext_14 : decode cX8_isPartnerNext 14 = .ok (.aload_n 0, 1) := by decide +kernel
theorem dX8_isPartnerNext_15 : decode cX8_isPartnerNext 15 = .ok (.getfield 7, 3) := by decide +kernel
theorem dX8_isPartnerNext_18 : decode cX8_isPartnerNext 18 = .ok (.sipush 128, 3) := by decide +kernel
theorem dX8_isPartnerNext_21 : decode cX8_isPartnerNext 21 = .ok (.iaload, 1) := by decide +kernel
theorem dX8_isPartnerNext_22 : decode cX8_isPartnerNext 22 = .ok (.iconst 1, 1) := by decide +kernel
theorem dX8_isPartnerNext_23 : decode cX8_isPartnerNext 23 = .ok (.isub, 1) := by decide +kernel
theorem dX8_isPartnerNext_24 : decode cX8_isPartnerNext 24 = .ok (.istore 4, 2) := by decide +kernel
theorem dX8_isPartnerNext_26 : decode cX8_isPartnerNext 26 = .ok (.iload 4, 2) := by decide +kernel
theorem dX8_isPartnerNext_28 : decode cX8_isPartnerNext 28 = .ok (.ifCond .lt 58, 3) := by decide +kernel
theorem dX8_isPartnerNext_31 : decode cX8_isPartnerNext 31 = .ok (.iload 4, 2) := by decide +kernel
theorem dX8_isPartnerNext_33 : decode cX8_isPartnerNext 33 = .ok (.iload_n 1, 1) := by decide +kernel
theorem dX8_isPartnerNext_34 : decode cX8_isPartnerNext 34 = .ok (.if_icmp .eq 44, 3) := by decide +kernel
theorem dX8_isPartnerNext_37 : decode cX8_isPartnerNext 37 = .ok (.aload_n 0, 1) := by decide +kernel
theorem dX8_isPartnerNext_38 : decode cX8_isPartnerNext 38 = .ok (.iload 4, 2) := by decide +kernel
theorem dX8_isPartnerNext_40 : decode cX8_isPartnerNext 40 = .ok (.invokevirtual 62, 3) := by decide +kernel
theorem dX8_isPartnerNext_43 : decode cX8_isPartnerNext 43 = .ok (.ifCond .eq 35, 3) := by decide +kernel
theorem dX8_isPartnerNext_46 : decode cX8_isPartnerNext 46 = .ok (.aload_n 0, 1) := by decide +kernel
theorem dX8_isPartnerNext_47 : decode cX8_isPartnerNext 47 = .ok (.iload 4, 2) := by decide +kernel
theorem dX8_isPartnerNext_49 : decode cX8_isPartnerNext 49 = .ok (.iconst 5, 1) := by decide +kernel
theorem dX8_isPartnerNext_50 : decode cX8_isPartnerNext 50 = .ok (.invokevirtual 40, 3) := by decide +kernel
theorem dX8_isPartnerNext_53 : decode cX8_isPartnerNext 53 = .ok (.aload_n 0, 1) := by decide +kernel
theorem dX8_isPartnerNext_54 : decode cX8_isPartnerNext 54 = .ok (.iload_n 1, 1) := by decide +kernel
theorem dX8_isPartnerNext_55 : decode cX8_isPartnerNext 55 = .ok (.iconst 5, 1) := by decide +kernel
theorem dX8_isPartnerNext_56 : decode cX8_isPartnerNext 56 = .ok (.invokevirtual 40, 3) := by decide +kernel
theorem dX8_isPartnerNext_59 : decode cX8_isPartnerNext 59 = .ok (.if_icmp .ne 19, 3) := by decide +kernel
theorem dX8_isPartnerNext_62 : decode cX8_isPartnerNext 62 = .ok (.aload_n 0, 1) := by decide +kernel
theorem dX8_isPartnerNext_63 : decode cX8_isPartnerNext 63 = .ok (.iload 4, 2) := by decide +kernel
theorem dX8_isPartnerNext_65 : decode cX8_isPartnerNext 65 = .ok (.iload_n 1, 1) := by decide +kernel
theorem dX8_isPartnerNext_66 : decode cX8_isPartnerNext 66 = .ok (.invokevirtual 65, 3) := by decide +kernel
theorem dX8_isPartnerNext_69 : decode cX8_isPartnerNext 69 = .ok (.iload_n 2, 1) := by decide +kernel
theorem dX8_isPartnerNext_70 : decode cX8_isPartnerNext 70 = .ok (.if_icmp .ne 8, 3) := by decide +kernel
theorem dX8_isPartnerNext_73 : decode cX8_isPartnerNext 73 = .ok (.iload 4, 2) := by decide +kernel
theorem dX8_isPartnerNext_75 : decode cX8_isPartnerNext 75 = .ok (.goto 4, 3) := by decide +kernel
theorem dX8_isPartnerNext_78 : decode cX8_isPartnerNext 78 = .ok (.iload_n 3, 1) := by decide +kernel
theorem dX8_isPartnerNext_79 : decode cX8_isPartnerNext 79 = .ok (.istore_n 3, 1) := by decide +kernel
theorem dX8_isPartnerNext_80 : decode cX8_isPartnerNext 80 = .ok (.iinc 4 (-1), 3) := by decide +kernel
theorem dX8_isPartnerNext_83 : decode cX8_isPartnerNext 83 = .ok (.goto (-57), 3) := by decide +kernel
theorem dX8_isPartnerNext_86 : decode cX8_isPartnerNext 86 = .ok (.iload_n 3, 1) := by decide +kernel
theorem dX8_isPartnerNext_87 : decode cX8_isPartnerNext 87 = .ok (.ifCond .lt 20, 3) := by decide +kernel
theorem dX8_isPartnerNext_90 : decode cX8_isPartnerNext 90 = .ok (.iload_n 3, 1) := by decide +kernel
theorem dX8_isPartnerNext_91 : decode cX8_isPartnerNext 91 = .ok (.aload_n 0, 1) := by decide +kernel
theorem dX8_isPartnerNext_92 : decode cX8_isPartnerNext 92 = .ok (.iload_n 1, 1) := by decide +kernel
theorem dX8_isPartnerNext_93 : decode cX8_isPartnerNext 93 = .ok (.bipush 10, 2) := by decide +kernel
theorem dX8_isPartnerNext_95 : decode cX8_isPartnerNext 95 = .ok (.invokevirtual 40, 3) := by decide +kernel
theorem dX8_isPartnerNext_98 : decode cX8_isPartnerNext 98 = .ok (.iconst 1, 1) := by decide +kernel
theorem dX8_isPartnerNext_99 : decode cX8_isPartnerNext 99 = .ok (.isub, 1) := by decide +kernel
theorem dX8_isPartnerNext_100 : decode cX8_isPartnerNext 100 = .ok (.if_icmp .ne 7, 3) := by decide +kernel
theorem dX8_isPartnerNext_103 : decode cX8_isPartnerNext 103 = .ok (.iconst 1, 1) := by decide +kernel
theorem dX8_isPartnerNext_104 : decode cX8_isPartnerNext 104 = .ok (.goto 4, 3) := by decide +kernel
theorem dX8_isPartnerNext_107 : decode cX8_isPartnerNext 107 = .ok (.iconst 0, 1) := by decide +kernel
theorem dX8_isPartnerNext_108 : decode cX8_isPartnerNext 108 = .ok (.ireturn, 1) := by decide +kernel
theorem dX8_where_0 : decode cX8_where 0 = .ok (.aload_n 0, 1) := by decide +kernel
theorem dX8_where_1 : decode cX8_where 1 = .ok (.iload_n 1, 1) := by decide +kernel
theorem dX8_where_2 : decode cX8_where 2 = .ok (.bipush 7, 2) := by decide +kernel
theorem dX8_where_4 : decode cX8_where 4 = .ok (.invokevirtual 40, 3) := by decide +kernel
theorem dX8_where_7 : decode cX8_where 7 = .ok (.sipush 400, 3) := by decide +kernel
theorem dX8_where_10 : decode cX8_where 10 = .ok (.irem, 1) := by decide +kernel
theorem dX8_where_11 : decode cX8_where 11 = .ok (.istore_n 2, 1) := by decide +kernel
theorem dX8_where_12 : decode cX8_where 12 = .ok (.iload_n 2, 1) := by decide +kernel
theorem dX8_where_13 : decode cX8_where 13 = .ok (.bipush 100, 2) := by decide +kernel
theorem dX8_where_15 : decode cX8_where 15 = .ok (.irem, 1) := by decide +kernel
theorem dX8_where_16 : decode cX8_where 16 = .ok (.bipush 70, 2) := by decide +kernel
theorem dX8_where_18 : decode cX8_where 18 = .ok (.if_icmp .ge 10, 3) := by decide +kernel
theorem dX8_where_21 : decode cX8_where 21 = .ok (.iload_n 2, 1) := by decide +kernel
theorem dX8_where_22 : decode cX8_where 22 = .ok (.bipush 100, 2) := by decide +kernel
theorem dX8_where_24 : decode cX8_where 24 = .ok (.idiv, 1) := by decide +kernel
theorem dX8_where_25 : decode cX8_where 25 = .ok (.goto 9, 3) := by decide +kernel
theorem dX8_where_28 : decode cX8_where 28 = .ok (.iconst 4, 1) := by decide +kernel
theorem dX8_where_29 : decode cX8_where 29 = .ok (.iload_n 2, 1) := by decide +kernel
theorem dX8_where_30 : decode cX8_where 30 = .ok (.bipush 100, 2) := by decide +kernel
theorem dX8_where_32 : decode cX8_where 32 = .ok (.idiv, 1) := by decide +kernel
theorem dX8_where_33 : decode cX8_where 33 = .ok (.iadd, 1) := by decide +kernel
theorem dX8_where_34 : decode cX8_where 34 = .ok (.ireturn, 1) := by decide +kernel
theorem dX8_allowed_0 : decode cX8_allowed 0 = .ok (.aload_n 0, 1) := by decide +kernel
theorem dX8_allowed_1 : decode cX8_allowed 1 = .ok (.iload_n 1, 1) := by decide +kernel
theorem dX8_allowed_2 : decode cX8_allowed 2 = .ok (.invokevirtual 71, 3) := by decide +kernel
theorem dX8_allowed_5 : decode cX8_allowed 5 = .ok (.istore_n 2, 1) := by decide +kernel
theorem dX8_allowed_6 : decode cX8_allowed 6 = .ok (.iload_n 2, 1) := by decide +kernel
theorem dX8_allowed_7 : decode cX8_allowed 7 = .ok (.iconst 4, 1) := by decide +kernel
theorem dX8_allowed_8 : decode cX8_allowed 8 = .ok (.if_icmp .ge 12, 3) := by decide +kernel
theorem dX8_allowed_11 : decode cX8_allowed 11 = .ok (.aload_n 0, 1) := by decide +kernel
theorem dX8_allowed_12 : decode cX8_allowed 12 = .ok (.iload_n 1, 1) := by decide +kernel
theorem dX8_allowed_13 : decode cX8_allowed 13 = .ok (.iconst 0, 1) := by decide +kernel
theorem dX8_allowed_14 : decode cX8_allowed 14 = .ok (.invokevirtual 40, 3) := by decide +kernel
theorem dX8_allowed_17 : decode cX8_allowed 17 = .ok (.goto 24, 3) := by decide +kernel
theorem dX8_allowed_20 : decode cX8_allowed 20 = .ok (.aload_n 0, 1) := by decide +kernel
theorem dX8_allowed_21 : decode cX8_allowed 21 = .ok (.getfield 7, 3) := by decide +kernel
theorem dX8_allowed_24 : decode cX8_allowed 24 = .ok (.sipush 129, 3) := by decide +kernel
theorem dX8_allowed_27 : decode cX8_allowed 27 = .ok (.iload_n 2, 1) := by decide +kernel
theorem dX8_allowed_28 : decode cX8_allowed 28 = .ok (.iadd, 1) := by decide +kernel
theorem dX8_allowed_29 : decode cX8_allowed 29 = .ok (.iconst 4, 1) := by decide +kernel
theorem dX8_allowed_30 : decode cX8_allowed 30 = .ok (.isub, 1) := by decide +kernel
theorem dX8_allowed_31 : decode cX8_allowed 31 = .ok (.iaload, 1) := by decide +kernel
theorem dX8_allowed_32 : decode cX8_allowed 32 = .ok (.iconst 2, 1) := by decide +kernel
theorem dX8_allowed_33 : decode cX8_allowed 33 = .ok (.aload_n 0, 1) := by decide +kernel
theorem dX8_allowed_34 : decode cX8_allowed 34 = .ok (.iload_n 1, 1) := by decide +kernel
theorem dX8_allowed_35 : decode cX8_allowed 35 = .ok (.iconst 5, 1) := by decide +kernel
theorem dX8_allowed_36 : decode cX8_allowed 36 = .ok (.invokevirtual 40, 3) := by decide +kernel
theorem dX8_allowed_39 : decode cX8_allowed 39 = .ok (.imul, 1) := by decide +kernel
theorem dX8_allowed_40 : decode cX8_allowed 40 = .ok (.iadd, 1) := by decide +kernel
theorem dX8_allowed_41 : decode cX8_allowed 41 = .ok (.istore_n 3, 1) := by decide +kernel
theorem dX8_allowed_42 : decode cX8_allowed 42 = .ok (.aload_n 0, 1) := by decide +kernel
theorem dX8_allowed_43 : decode cX8_allowed 43 = .ok (.iload_n 1, 1) := by decide +kernel
theorem dX8_allowed_44 : decode cX8_allowed 44 = .ok (.iconst 0, 1) := by decide +kernel
theorem dX8_allowed_45 : decode cX8_allowed 45 = .ok (.invokevirtual 40, 3) := by decide +kernel
theorem dX8_allowed_48 : decode cX8_allowed 48 = .ok (.iload_n 3, 1) := by decide +kernel
theorem dX8_allowed_49 : decode cX8_allowed 49 = .ok (.if_icmp .ge 12, 3) := by decide +kernel
theorem dX8_allowed_52 : decode cX8_allowed 52 = .ok (.aload_n 0, 1) := by decide +kernel
theorem dX8_allowed_53 : decode cX8_allowed 53 = .ok (.iload_n 1, 1) := by decide +kernel
theorem dX8_allowed_54 : decode cX8_allowed 54 = .ok (.iconst 0, 1) := by decide +kernel
theorem dX8_allowed_55 : decode cX8_allowed 55 = .ok (.invokevirtual 40, 3) := by decide +kernel
theorem dX8_allowed_58 : decode cX8_allowed 58 = .ok (.goto 4, 3) := by decide +kernel
theorem dX8_allowed_61 : decode cX8_allowed 61 = .ok (.iload_n 3, 1) := by decide +kernel
theorem dX8_allowed_62 : decode cX8_allowed 62 = .ok (.aload_n 0, 1) := by decide +kernel
theorem dX8_allowed_63 : decode cX8_allowed 63 = .ok (.iload_n 1, 1) := by decide +kernel
theorem dX8_allowed_64 : decode cX8_allowed 64 = .ok (.iconst 4, 1) := by decide +kernel
theorem dX8_allowed_65 : decode cX8_allowed 65 = .ok (.invokevirtual 40, 3) := by decide +kernel
theorem dX8_allowed_68 : decode cX8_allowed 68 = .ok (.bipush 10, 2) := by decide +kernel
theorem dX8_allowed_70 : decode cX8_allowed 70 = .ok (.idiv, 1) := by decide +kernel
theorem dX8_allowed_71 : decode cX8_allowed 71 = .ok (.isub, 1) := by decide +kernel
theorem dX8_allowed_72 : decode cX8_allowed 72 = .ok (.istore 4, 2) := by decide +kernel
theorem dX8_allowed_74 : decode cX8_allowed 74 = .ok (.iload 4, 2) := by decide +kernel
theorem dX8_allowed_76 : decode cX8_allowed 76 = .ok (.iconst 4, 1) := by decide +kernel
theorem dX8_allowed_77 : decode cX8_allowed 77 = .ok (.if_icmp .ge 7, 3) := by decide +kernel
theorem dX8_allowed_80 : decode cX8_allowed 80 = .ok (.iconst 4, 1) := by decide +kernel
theorem dX8_allowed_81 : decode cX8_allowed 81 = .ok (.goto 5, 3) := by decide +kernel
theorem dX8_allowed_84 : decode cX8_allowed 84 = .ok (.iload 4, 2) := by decide +kernel
theorem dX8_allowed_86 : decode cX8_allowed 86 = .ok (.ireturn, 1) := by decide +kernel
theorem dX8_isFree_0 : decode cX8_isFree 0 = .ok (.iconst 0, 1) := by decide +kernel
theorem dX8_isFree_1 : decode cX8_isFree 1 = .ok (.istore_n 3, 1) := by decide +kernel
theorem dX8_isFree_2 : decode cX8_isFree 2 = .ok (.iload_n 3, 1) := by decide +kernel
theorem dX8_isFree_3 : decode cX8_isFree 3 = .ok (.aload_n 0, 1) := by decide +kernel
theorem dX8_isFree_4 : decode cX8_isFree 4 = .ok (.getfield 7, 3) := by decide +kernel
theorem dX8_isFree_7 : decode cX8_isFree 7 = .ok (.sipush 128, 3) := by decide +kernel
theorem dX8_isFree_10 : decode cX8_isFree 10 = .ok (.iaload, 1) := by decide +kernel
theorem dX8_isFree_11 : decode cX8_isFree 11 = .ok (.if_icmp .ge 56, 3) := by decide +kernel
theorem dX8_isFree_14 : decode cX8_isFree 14 = .ok (.aload_n 0, 1) := by decide +kernel
theorem dX8_isFree_15 : decode cX8_isFree 15 = .ok (.iload_n 3, 1) := by decide +kernel
theorem dX8_isFree_16 : decode cX8_isFree 16 = .ok (.iload_n 1, 1) := by decide +kernel
theorem dX8_isFree_17 : decode cX8_isFree 17 = .ok (.invokevirtual 65, 3) := by decide +kernel
theorem dX8_isFree_20 : decode cX8_isFree 20 = .ok (.istore 4, 2) := by decide +kernel
theorem dX8_isFree_22 : decode cX8_isFree 22 = .ok (.iload_n 3, 1) := by decide +kernel
theorem dX8_isFree_23 : decode cX8_isFree 23 = .ok (.iload_n 1, 1) := by decide +kernel
theorem dX8_isFree_24 : decode cX8_isFree 24 = .ok (.if_icmp .eq 37, 3) := by decide +kernel
theorem dX8_isFree_27 : decode cX8_isFree 27 = .ok (.aload_n 0, 1) := by decide +kernel
theorem dX8_isFree_28 : decode cX8_isFree 28 = .ok (.iload_n 3, 1) := by decide +kernel
theorem dX8_isFree_29 : decode cX8_isFree 29 = .ok (.invokevirtual 62, 3) := by decide +kernel
theorem dX8_isFree_32 : decode cX8_isFree 32 = .ok (.ifCond .eq 29, 3) := by decide +kernel
theorem dX8_isFree_35 : decode cX8_isFree 35 = .ok (.aload_n 0, 1) := by decide +kernel
theorem dX8_isFree_36 : decode cX8_isFree 36 = .ok (.iload_n 3, 1) := by decide +kernel
theorem dX8_isFree_37 : decode cX8_isFree 37 = .ok (.iconst 5, 1) := by decide +kernel
theorem dX8_isFree_38 : decode cX8_isFree 38 = .ok (.invokevirtual 40, 3) := by decide +kernel
theorem dX8_isFree_41 : decode cX8_isFree 41 = .ok (.iload_n 2, 1) := by decide +kernel
theorem dX8_isFree_42 : decode cX8_isFree 42 = .ok (.if_icmp .ne 19, 3) := by decide +kernel
theorem dX8_isFree_45 : decode cX8_isFree 45 = .ok (.iload 4, 2) := by decide +kernel
theorem dX8_isFree_47 : decode cX8_isFree 47 = .ok (.iconst 3, 1) := by decide +kernel
theorem dX8_isFree_48 : decode cX8_isFree 48 = .ok (.if_icmp .le 11, 3) := by decide +kernel
theorem dX8_isFree_51 : decode cX8_isFree 51 = .ok (.iload 4, 2) := by decide +kernel
theorem dX8_isFree_53 : decode cX8_isFree 53 = .ok (.sipush 397, 3) := by decide +kernel
theorem dX8_isFree_56 : decode cX8_isFree 56 = .ok (.if_icmp .lt 5, 3) := by decide +kernel
theorem dX8_isFree_59 : decode cX8_isFree 59 = .ok (.iconst 0, 1) := by decide +kernel
theorem dX8_isFree_60 : decode cX8_isFree 60 = .ok (.ireturn, 1) := by decide +kernel
theorem dX8_isFree_61 : decode cX8_isFree 61 = .ok (.iinc 3 1, 3) := by decide +kernel
theorem dX8_isFree_64 : decode cX8_isFree 64 = .ok (.goto (-62), 3) := by decide +kernel
theorem dX8_isFree_67 : decode cX8_isFree 67 = .ok (.iconst 1, 1) := by decide +kernel
theorem dX8_isFree_68 : decode cX8_isFree 68 = .ok (.ireturn, 1) := by decide +kernel
theorem dX8_atMost_0 : decode cX8_atMost 0 = .ok (.iload_n 2, 1) := by decide +kernel
theorem dX8_atMost_1 : decode cX8_atMost 1 = .ok (.ifCond .eq 8, 3) := by decide +kernel
theorem dX8_atMost_4 : decode cX8_atMost 4 = .ok (.iload_n 1, 1) := by decide +kernel
theorem dX8_atMost_5 : decode cX8_atMost 5 = .ok (.iload_n 2, 1) := by decide +kernel
theorem dX8_atMost_6 : decode cX8_atMost 6 = .ok (.if_icmp .ge 7, 3) := by decide +kernel
theorem dX8_atMost_9 : decode cX8_atMost 9 = .ok (.iload_n 1, 1) := by decide +kernel
theorem dX8_atMost_10 : decode cX8_atMost 10 = .ok (.goto 6, 3) := by decide +kernel
theorem dX8_atMost_13 : decode cX8_atMost 13 = .ok (.iload_n 2, 1) := by decide +kernel
theorem dX8_atMost_14 : decode cX8_atMost 14 = .ok (.iconst 1, 1) := by decide +kernel
theorem dX8_atMost_15 : decode cX8_atMost 15 = .ok (.isub, 1) := by decide +kernel
theorem dX8_atMost_16 : decode cX8_atMost 16 = .ok (.ireturn, 1) := by decide +kernel
theorem dX8_fly_0 : decode cX8_fly 0 = .ok (.bipush 16, 2) := by decide +kernel
theorem dX8_fly_2 : decode cX8_fly 2 = .ok (.iload_n 1, 1) := by decide +kernel
theorem dX8_fly_3 : decode cX8_fly 3 = .ok (.imul, 1) := by decide +kernel
theorem dX8_fly_4 : decode cX8_fly 4 = .ok (.istore_n 2, 1) := by decide +kernel
theorem dX8_fly_5 : decode cX8_fly 5 = .ok (.aload_n 0, 1) := by decide +kernel
theorem dX8_fly_6 : decode cX8_fly 6 = .ok (.getfield 7, 3) := by decide +kernel
theorem dX8_fly_9 : decode cX8_fly 9 = .ok (.iload_n 2, 1) := by decide +kernel
theorem dX8_fly_10 : decode cX8_fly 10 = .ok (.bipush 7, 2) := by decide +kernel
theorem dX8_fly_12 : decode cX8_fly 12 = .ok (.iadd, 1) := by decide +kernel
theorem dX8_fly_13 : decode cX8_fly 13 = .ok (.iaload, 1) := by decide +kernel
theorem dX8_fly_14 : decode cX8_fly 14 = .ok (.istore_n 3, 1) := by decide +kernel
theorem dX8_fly_15 : decode cX8_fly 15 = .ok (.aload_n 0, 1) := by decide +kernel
theorem dX8_fly_16 : decode cX8_fly 16 = .ok (.iload_n 1, 1) := by decide +kernel
theorem dX8_fly_17 : decode cX8_fly 17 = .ok (.aload_n 0, 1) := by decide +kernel
theorem dX8_fly_18 : decode cX8_fly 18 = .ok (.getfield 7, 3) := by decide +kernel
theorem dX8_fly_21 : decode cX8_fly 21 = .ok (.iload_n 2, 1) := by decide +kernel
theorem dX8_fly_22 : decode cX8_fly 22 = .ok (.iconst 5, 1) := by decide +kernel
theorem dX8_fly_23 : decode cX8_fly 23 = .ok (.iadd, 1) := by decide +kernel
theorem dX8_fly_24 : decode cX8_fly 24 = .ok (.iaload, 1) := by decide +kernel
theorem dX8_fly_25 : decode cX8_fly 25 = .ok (.invokevirtual 68, 3) := by decide +kernel
theorem dX8_fly_28 : decode cX8_fly 28 = .ok (.istore 4, 2) := by decide +kernel
theorem dX8_fly_30 : decode cX8_fly 30 = .ok (.aload_n 0, 1) := by decide +kernel
theorem dX8_fly_31 : decode cX8_fly 31 = .ok (.iload_n 1, 1) := by decide +kernel
theorem dX8_fly_32 : decode cX8_fly 32 = .ok (.invokevirtual 74, 3) := by decide +kernel
theorem dX8_fly_35 : decode cX8_fly 35 = .ok (.istore 5, 2) := by decide +kernel
theorem dX8_fly_37 : decode cX8_fly 37 = .ok (.aload_n 0, 1) := by decide +kernel
theorem dX8_fly_38 : decode cX8_fly 38 = .ok (.iload_n 1, 1) := by decide +kernel
theorem dX8_fly_39 : decode cX8_fly 39 = .ok (.invokevirtual 77, 3) := by decide +kernel
theorem dX8_fly_42 : decode cX8_fly 42 = .ok (.iload 5, 2) := by decide +kernel
theorem dX8_fly_44 : decode cX8_fly 44 = .ok (.ifCond .eq 19, 3) := by decide +kernel
theorem dX8_fly_47 : decode cX8_fly 47 = .ok (.aload_n 0, 1) := by decide +kernel
theorem dX8_fly_48 : decode cX8_fly 48 = .ok (.iload_n 1, 1) := by decide +kernel
theorem dX8_fly_49 : decode cX8_fly 49 = .ok (.invokevirtual 80, 3) := by decide +kernel
theorem dX8_fly_52 : decode cX8_fly 52 = .ok (.ifCond .eq 7, 3) := by decide +kernel
theorem dX8_fly_55 : decode cX8_fly 55 = .ok (.iconst 2, 1) := by decide +kernel
theorem dX8_fly_56 : decode cX8_fly 56 = .ok (.goto 8, 3) := by decide +kernel
theorem dX8_fly_59 : decode cX8_fly 59 = .ok (.iconst 1, 1) := by decide +kernel
theorem dX8_fly_60 : decode cX8_fly 60 = .ok (.goto 4, 3) := by decide +kernel
theorem dX8_fly_63 : decode cX8_fly 63 = .ok (.iconst 0, 1) := by decide +kernel
theorem dX8_fly_64 : decode cX8_fly 64 = .ok (.iadd, 1) := by decide +kernel
theorem dX8_fly_65 : decode cX8_fly 65 = .ok (.istore 6, 2) := by decide +kernel
theorem dX8_fly_67 : decode cX8_fly 67 = .ok (.aload_n 0, 1) := by decide +kernel
theorem dX8_fly_68 : decode cX8_fly 68 = .ok (.getfield 7, 3) := by decide +kernel
theorem dX8_fly_71 : decode cX8_fly 71 = .ok (.sipush 145, 3) := by decide +kernel
theorem dX8_fly_74 : decode cX8_fly 74 = .ok (.dup2, 1) := by decide +kernel
theorem dX8_fly_75 : decode cX8_fly 75 = .ok (.iaload, 1) := by decide +kernel
theorem dX8_fly_76 : decode cX8_fly 76 = .ok (.iload 5, 2) := by decide +kernel
theorem dX8_fly_78 : decode cX8_fly 78 = .ok (.ifCond .eq 7, 3) := by decide +kernel
theorem dX8_fly_81 : decode cX8_fly 81 = .ok (.iconst 1, 1) := by decide +kernel
theorem dX8_fly_82 : decode cX8_fly 82 = .ok (.goto 4, 3) := by decide +kernel
theorem dX8_fly_85 : decode cX8_fly 85 = .ok (.iconst 0, 1) := by decide +kernel
theorem dX8_fly_86 : decode cX8_fly 86 = .ok (.iadd, 1) := by decide +kernel
theorem dX8_fly_87 : decode cX8_fly 87 = .ok (.iastore, 1) := by decide +kernel
theorem dX8_fly_88 : decode cX8_fly 88 = .ok (.iload 4, 2) := by decide +kernel
theorem dX8_fly_90 : decode cX8_fly 90 = .ok (.ifCond .le 84, 3) := by decide +kernel
theorem dX8_fly_93 : decode cX8_fly 93 = .ok (.iload 4, 2) := by decide +kernel
theorem dX8_fly_95 : decode cX8_fly 95 = .ok (.iload 6, 2) := by decide +kernel
theorem dX8_fly_97 : decode cX8_fly 97 = .ok (.isub, 1) := by decide +kernel
theorem dX8_fly_98 : decode cX8_fly 98 = .ok (.iconst 1, 1) := by decide +kernel
theorem dX8_fly_99 : decode cX8_fly 99 = .ok (.if_icmp .gt 75, 3) := by decide +kernel
theorem dX8_fly_102 : decode cX8_fly 102 = .ok (.iconst 1, 1) := by decide +kernel
theorem dX8_fly_103 : decode cX8_fly 103 = .ok (.aload_n 0, 1) := by decide +kernel
theorem dX8_fly_104 : decode cX8_fly 104 = .ok (.getfield 7, 3) := by decide +kernel
theorem dX8_fly_107 : decode cX8_fly 107 = .ok (.iload_n 2, 1) := by decide +kernel
theorem dX8_fly_108 : decode cX8_fly 108 = .ok (.iconst 5, 1) := by decide +kernel
theorem dX8_fly_109 : decode cX8_fly 109 = .ok (.iadd, 1) := by decide +kernel
theorem dX8_fly_110 : decode cX8_fly 110 = .ok (.iaload, 1) := by decide +kernel
theorem dX8_fly_111 : decode cX8_fly 111 = .ok (.isub, 1) := by decide +kernel
theorem dX8_fly_112 : decode cX8_fly 112 = .ok (.istore 7, 2) := by decide +kernel
theorem dX8_fly_114 : decode cX8_fly 114 = .ok (.aload_n 0, 1) := by decide +kernel
theorem dX8_fly_115 : decode cX8_fly 115 = .ok (.iload_n 1, 1) := by decide +kernel
theorem dX8_fly_116 : decode cX8_fly 116 = .ok (.invokevirtual 71, 3) := by decide +kernel
theorem dX8_fly_119 : decode cX8_fly 119 = .ok (.iconst 4, 1) := by decide +kernel
theorem dX8_fly_120 : decode cX8_fly 120 = .ok (.if_icmp .ge 44, 3) := by decide +kernel
theorem dX8_fly_123 : decode cX8_fly 123 = .ok (.aload_n 0, 1) := by decide +kernel
theorem dX8_fly_124 : decode cX8_fly 124 = .ok (.iload_n 1, 1) := by decide +kernel
theorem dX8_fly_125 : decode cX8_fly 125 = .ok (.iload 7, 2) := by decide +kernel
theorem dX8_fly_127 : decode cX8_fly 127 = .ok (.invokevirtual 83, 3) := by decide +kernel
theorem dX8_fly_130 : decode cX8_fly 130 = .ok (.ifCond .eq 34, 3) := by decide +kernel
theorem dX8_fly_133 : decode cX8_fly 133 = .ok (.aload_n 0, 1) := by decide +kernel
theorem dX8_fly_134 : decode cX8_fly 134 = .ok (.getfield 7, 3) := by decide +kernel
theorem dX8_fly_137 : decode cX8_fly 137 = .ok (.iload_n 2, 1) := by decide +kernel
theorem dX8_fly_138 : decode cX8_fly 138 = .ok (.iconst 5, 1) := by decide +kernel
theorem dX8_fly_139 : decode cX8_fly 139 = .ok (.iadd, 1) := by decide +kernel
theorem dX8_fly_140 : decode cX8_fly 140 = .ok (.iload 7, 2) := by decide +kernel
theorem dX8_fly_142 : decode cX8_fly 142 = .ok (.iastore, 1) := by decide +kernel
theorem dX8_fly_143 : decode cX8_fly 143 = .ok (.aload_n 0, 1) := by decide +kernel
theorem dX8_fly_144 : decode cX8_fly 144 = .ok (.getfield 7, 3) := by decide +kernel
theorem dX8_fly_147 : decode cX8_fly 147 = .ok (.sipush 146, 3) := by decide +kernel
theorem dX8_fly_150 : decode cX8_fly 150 = .ok (.dup2, 1) := by decide +kernel
theorem dX8_fly_151 : decode cX8_fly 151 = .ok (.iaload, 1) := by decide +kernel
theorem dX8_fly_152 : decode cX8_fly 152 = .ok (.iconst 1, 1) := by decide +kernel
theorem dX8_fly_153 : decode cX8_fly 153 = .ok (.iadd, 1) := by decide +kernel
theorem dX8_fly_154 : decode cX8_fly 154 = .ok (.iastore, 1) := by decide +kernel
theorem dX8_fly_155 : decode cX8_fly 155 = .ok (.aload_n 0, 1) := by decide +kernel
theorem dX8_fly_156 : decode cX8_fly 156 = .ok (.iload_n 1, 1) := by decide +kernel
theorem dX8_fly_157 : decode cX8_fly 157 = .ok (.iload 7, 2) := by decide +kernel
theorem dX8_fly_159 : decode cX8_fly 159 = .ok (.invokevirtual 68, 3) := by decide +kernel
theorem dX8_fly_162 : decode cX8_fly 162 = .ok (.istore 4, 2) := by decide +kernel
theorem dX8_fly_164 : decode cX8_fly 164 = .ok (.aload_n 0, 1) := by decide +kernel
theorem dX8_fly_165 : decode cX8_fly 165 = .ok (.iload 6, 2) := by decide +kernel
theorem dX8_fly_167 : decode cX8_fly 167 = .ok (.iload 4, 2) := by decide +kernel
theorem dX8_fly_169 : decode cX8_fly 169 = .ok (.invokevirtual 86, 3) := by decide +kernel
theorem dX8_fly_172 : decode cX8_fly 172 = .ok (.istore 6, 2) := by decide +kernel
theorem dX8_fly_174 : decode cX8_fly 174 = .ok (.iload 6, 2) := by decide +kernel
theorem dX8_fly_176 : decode cX8_fly 176 = .ok (.iload 6, 2) := by decide +kernel
theorem dX8_fly_178 : decode cX8_fly 178 = .ok (.imul, 1) := by decide +kernel
theorem dX8_fly_179 : decode cX8_fly 179 = .ok (.bipush 40, 2) := by decide +kernel
theorem dX8_fly_181 : decode cX8_fly 181 = .ok (.idiv, 1) := by decide +kernel
theorem dX8_fly_182 : decode cX8_fly 182 = .ok (.iconst 1, 1) := by decide +kernel
theorem dX8_fly_183 : decode cX8_fly 183 = .ok (.iadd, 1) := by decide +kernel
theorem dX8_fly_184 : decode cX8_fly 184 = .ok (.istore 7, 2) := by decide +kernel
theorem dX8_fly_186 : decode cX8_fly 186 = .ok (.iload 5, 2) := by decide +kernel
theorem dX8_fly_188 : decode cX8_fly 188 = .ok (.ifCond .eq 12, 3) := by decide +kernel
theorem dX8_fly_191 : decode cX8_fly 191 = .ok (.iload 7, 2) := by decide +kernel
theorem dX8_fly_193 : decode cX8_fly 193 = .ok (.iconst 3, 1) := by decide +kernel
theorem dX8_fly_194 : decode cX8_fly 194 = .ok (.imul, 1) := by decide +kernel
theorem dX8_fly_195 : decode cX8_fly 195 = .ok (.iconst 5, 1) := by decide +kernel
theorem dX8_fly_196 : decode cX8_fly 196 = .ok (.idiv, 1) := by decide +kernel
theorem dX8_fly_197 : decode cX8_fly 197 = .ok (.goto 5, 3) := by decide +kernel
theorem dX8_fly_200 : decode cX8_fly 200 = .ok (.iload 7, 2) := by decide +kernel
theorem dX8_fly_202 : decode cX8_fly 202 = .ok (.istore 7, 2) := by decide +kernel
theorem dX8_fly_204 : decode cX8_fly 204 = .ok (.aload_n 0, 1) := by decide +kernel
theorem dX8_fly_205 : decode cX8_fly 205 = .ok (.getfield 7, 3) := by decide +kernel
theorem dX8_fly_208 : decode cX8_fly 208 = .ok (.iload_n 2, 1) := by decide +kernel
theorem dX8_fly_209 : decode cX8_fly 209 = .ok (.iconst 3, 1) := by decide +kernel
theorem dX8_fly_210 : decode cX8_fly 210 = .ok (.iadd, 1) := by decide +kernel
theorem dX8_fly_211 : decode cX8_fly 211 = .ok (.iaload, 1) := by decide +kernel
theorem dX8_fly_212 : decode cX8_fly 212 = .ok (.iload 7, 2) := by decide +kernel
theorem dX8_fly_214 : decode cX8_fly 214 = .ok (.if_icmp .ge 20, 3) := by decide +kernel
theorem dX8_fly_217 : decode cX8_fly 217 = .ok (.iload 6, 2) := by decide +kernel
theorem dX8_fly_219 : decode cX8_fly 219 = .ok (.iconst 4, 1) := by decide +kernel
theorem dX8_fly_220 : decode cX8_fly 220 = .ok (.if_icmp .le 7, 3) := by decide +kernel
theorem dX8_fly_223 : decode cX8_fly 223 = .ok (.iconst 4, 1) := by decide +kernel
theorem dX8_fly_224 : decode cX8_fly 224 = .ok (.goto 5, 3) := by decide +kernel
theorem dX8_fly_227 : decode cX8_fly 227 = .ok (.iload 6, 2) := by decide +kernel
theorem dX8_fly_229 : decode cX8_fly 229 = .ok (.istore 6, 2) := by decide +kernel
theorem dX8_fly_231 : decode cX8_fly 231 = .ok (.goto 16, 3) := by decide +kernel
theorem dX8_fly_234 : decode cX8_fly 234 = .ok (.aload_n 0, 1) := by decide +kernel
theorem dX8_fly_235 : decode cX8_fly 235 = .ok (.getfield 7, 3) := by decide +kernel
theorem dX8_fly_238 : decode cX8_fly 238 = .ok (.iload_n 2, 1) := by decide +kernel
theorem dX8_fly_239 : decode cX8_fly 239 = .ok (.iconst 3, 1) := by decide +kernel
theorem dX8_fly_240 : decode cX8_fly 240 = .ok (.iadd, 1) := by decide +kernel
theorem dX8_fly_241 : decode cX8_fly 241 = .ok (.dup2, 1) := by decide +kernel
theorem dX8_fly_242 : decode cX8_fly 242 = .ok (.iaload, 1) := by decide +kernel
theorem dX8_fly_243 : decode cX8_fly 243 = .ok (.iload 7, 2) := by decide +kernel
theorem dX8_fly_245 : decode cX8_fly 245 = .ok (.isub, 1) := by decide +kernel
theorem dX8_fly_246 : decode cX8_fly 246 = .ok (.iastore, 1) := by decide +kernel
theorem dX8_fly_247 : decode cX8_fly 247 = .ok (.aload_n 0, 1) := by decide +kernel
theorem dX8_fly_248 : decode cX8_fly 248 = .ok (.getfield 7, 3) := by decide +kernel
theorem dX8_fly_251 : decode cX8_fly 251 = .ok (.iload_n 2, 1) := by decide +kernel
theorem dX8_fly_252 : decode cX8_fly 252 = .ok (.iconst 4, 1) := by decide +kernel
theorem dX8_fly_253 : decode cX8_fly 253 = .ok (.iadd, 1) := by decide +kernel
theorem dX8_fly_254 : decode cX8_fly 254 = .ok (.dup2, 1) := by decide +kernel
theorem dX8_fly_255 : decode cX8_fly 255 = .ok (.iaload, 1) := by decide +kernel
theorem dX8_fly_256 : decode cX8_fly 256 = .ok (.iload 6, 2) := by decide +kernel
theorem dX8_fly_258 : decode cX8_fly 258 = .ok (.bipush 15, 2) := by decide +kernel
theorem dX8_fly_260 : decode cX8_fly 260 = .ok (.if_icmp .lt 20, 3) := by decide +kernel
theorem dX8_fly_263 : decode cX8_fly 263 = .ok (.aload_n 0, 1) := by decide +kernel
theorem dX8_fly_264 : decode cX8_fly 264 = .ok (.getfield 7, 3) := by decide +kernel
theorem dX8_fly_267 : decode cX8_fly 267 = .ok (.iload_n 2, 1) := by decide +kernel
theorem dX8_fly_268 : decode cX8_fly 268 = .ok (.iconst 4, 1) := by decide +kernel
theorem dX8_fly_269 : decode cX8_fly 269 = .ok (.iadd, 1) := by decide +kernel
theorem dX8_fly_270 : decode cX8_fly 270 = .ok (.iaload, 1) := by decide +kernel
theorem dX8_fly_271 : decode cX8_fly 271 = .ok (.bipush 100, 2) := by decide +kernel
theorem dX8_fly_273 : decode cX8_fly 273 = .ok (.if_icmp .ge 7, 3) := by decide +kernel
theorem dX8_fly_276 : decode cX8_fly 276 = .ok (.iconst 1, 1) := by decide +kernel
theorem dX8_fly_277 : decode cX8_fly 277 = .ok (.goto 4, 3) := by decide +kernel
theorem dX8_fly_280 : decode cX8_fly 280 = .ok (.iconst 0, 1) := by decide +kernel
theorem dX8_fly_281 : decode cX8_fly 281 = .ok (.iadd, 1) := by decide +kernel
theorem dX8_fly_282 : decode cX8_fly 282 = .ok (.iastore, 1) := by decide +kernel
theorem dX8_fly_283 : decode cX8_fly 283 = .ok (.iload_n 3, 1) := by decide +kernel
theorem dX8_fly_284 : decode cX8_fly 284 = .ok (.sipush 400, 3) := by decide +kernel
theorem dX8_fly_287 : decode cX8_fly 287 = .ok (.idiv, 1) := by decide +kernel
theorem dX8_fly_288 : decode cX8_fly 288 = .ok (.iconst 1, 1) := by decide +kernel
theorem dX8_fly_289 : decode cX8_fly 289 = .ok (.iadd, 1) := by decide +kernel
theorem dX8_fly_290 : decode cX8_fly 290 = .ok (.istore 8, 2) := by decide +kernel
theorem dX8_fly_292 : decode cX8_fly 292 = .ok (.iload_n 3, 1) := by decide +kernel
theorem dX8_fly_293 : decode cX8_fly 293 = .ok (.iload 6, 2) := by decide +kernel
theorem dX8_fly_295 : decode cX8_fly 295 = .ok (.iadd, 1) := by decide +kernel
theorem dX8_fly_296 : decode cX8_fly 296 = .ok (.istore 9, 2) := by decide +kernel
theorem dX8_fly_298 : decode cX8_fly 298 = .ok (.iload 9, 2) := by decide +kernel
