theorem dX8_all_6 : decode cX8_all 6 = .ok (.getfield 7, 3) := by decide +kernel
theorem dX8_all_9 : decode cX8_all 9 = .ok (.sipush 128, 3) := by decide +kernel
theorem dX8_all_12 : decode cX8_all 12 = .ok (.iaload, 1) := by decide +kernel
theorem dX8_all_13 : decode cX8_all 13 = .ok (.if_icmp .ge 19, 3) := by decide +kernel
theorem dX8_all_16 : decode cX8_all 16 = .ok (.iload_n 1, 1) := by decide +kernel
theorem dX8_all_17 : decode cX8_all 17 = .ok (.aload_n 0, 1) := by decide +kernel
theorem dX8_all_18 : decode cX8_all 18 = .ok (.iload_n 2, 1) := by decide +kernel
theorem dX8_all_19 : decode cX8_all 19 = .ok (.bipush 7, 2) := by decide +kernel
theorem dX8_all_21 : decode cX8_all 21 = .ok (.invokevirtual 40, 3) := by decide +kernel
theorem dX8_all_24 : decode cX8_all 24 = .ok (.iadd, 1) := by decide +kernel
theorem dX8_all_25 : decode cX8_all 25 = .ok (.istore_n 1, 1) := by decide +kernel
theorem dX8_all_26 : decode cX8_all 26 = .ok (.iinc 2 1, 3) := by decide +kernel
theorem dX8_all_29 : decode cX8_all 29 = .ok (.goto (-25), 3) := by decide +kernel
theorem dX8_all_32 : decode cX8_all 32 = .ok (.iload_n 1, 1) := by decide +kernel
theorem dX8_all_33 : decode cX8_all 33 = .ok (.ireturn, 1) := by decide +kernel
theorem dX8_flownByBirds_0 : decode cX8_flownByBirds 0 = .ok (.aload_n 0, 1) := by decide +kernel
theorem dX8_flownByBirds_1 : decode cX8_flownByBirds 1 = .ok (.aload_n 0, 1) := by decide +kernel
theorem dX8_flownByBirds_2 : decode cX8_flownByBirds 2 = .ok (.invokevirtual 202, 3) := by decide +kernel
theorem dX8_flownByBirds_5 : decode cX8_flownByBirds 5 = .ok (.invokevirtual 172, 3) := by decide +kernel
theorem dX8_flownByBirds_8 : decode cX8_flownByBirds 8 = .ok (.ireturn, 1) := by decide +kernel
theorem dX8_flownByAccount_0 : decode cX8_flownByAccount 0 = .ok (.aload_n 0, 1) := by decide +kernel
theorem dX8_flownByAccount_1 : decode cX8_flownByAccount 1 = .ok (.aload_n 0, 1) := by decide +kernel
theorem dX8_flownByAccount_2 : decode cX8_flownByAccount 2 = .ok (.getfield 7, 3) := by decide +kernel
theorem dX8_flownByAccount_5 : decode cX8_flownByAccount 5 = .ok (.sipush 144, 3) := by decide +kernel
theorem dX8_flownByAccount_8 : decode cX8_flownByAccount 8 = .ok (.iaload, 1) := by decide +kernel
theorem dX8_flownByAccount_9 : decode cX8_flownByAccount 9 = .ok (.invokevirtual 172, 3) := by decide +kernel
theorem dX8_flownByAccount_12 : decode cX8_flownByAccount 12 = .ok (.ireturn, 1) := by decide +kernel
theorem dX8_drafts_0 : decode cX8_drafts 0 = .ok (.aload_n 0, 1) := by decide +kernel
theorem dX8_drafts_1 : decode cX8_drafts 1 = .ok (.aload_n 0, 1) := by decide +kernel
theorem dX8_drafts_2 : decode cX8_drafts 2 = .ok (.getfield 7, 3) := by decide +kernel
theorem dX8_drafts_5 : decode cX8_drafts 5 = .ok (.sipush 145, 3) := by decide +kernel
theorem dX8_drafts_8 : decode cX8_drafts 8 = .ok (.iaload, 1) := by decide +kernel
theorem dX8_drafts_9 : decode cX8_drafts 9 = .ok (.invokevirtual 172, 3) := by decide +kernel
theorem dX8_drafts_12 : decode cX8_drafts 12 = .ok (.ireturn, 1) := by decide +kernel
theorem dX8_changes_0 : decode cX8_changes 0 = .ok (.aload_n 0, 1) := by decide +kernel
theorem dX8_changes_1 : decode cX8_changes 1 = .ok (.aload_n 0, 1) := by decide +kernel
theorem dX8_changes_2 : decode cX8_changes 2 = .ok (.getfield 7, 3) := by decide +kernel
theorem dX8_changes_5 : decode cX8_changes 5 = .ok (.sipush 146, 3) := by decide +kernel
theorem dX8_changes_8 : decode cX8_changes 8 = .ok (.iaload, 1) := by decide +kernel
theorem dX8_changes_9 : decode cX8_changes 9 = .ok (.invokevirtual 172, 3) := by decide +kernel
theorem dX8_changes_12 : decode cX8_changes 12 = .ok (.ireturn, 1) := by decide +kernel
theorem dX8_rests_0 : decode cX8_rests 0 = .ok (.aload_n 0, 1) := by decide +kernel
theorem dX8_rests_1 : decode cX8_rests 1 = .ok (.aload_n 0, 1) := by decide +kernel
theorem dX8_rests_2 : decode cX8_rests 2 = .ok (.getfield 7, 3) := by decide +kernel
theorem dX8_rests_5 : decode cX8_rests 5 = .ok (.sipush 147, 3) := by decide +kernel
theorem dX8_rests_8 : decode cX8_rests 8 = .ok (.iaload, 1) := by decide +kernel
theorem dX8_rests_9 : decode cX8_rests 9 = .ok (.invokevirtual 172, 3) := by decide +kernel
theorem dX8_rests_12 : decode cX8_rests 12 = .ok (.ireturn, 1) := by decide +kernel
theorem dX8_races_0 : decode cX8_races 0 = .ok (.aload_n 0, 1) := by decide +kernel
theorem dX8_races_1 : decode cX8_races 1 = .ok (.aload_n 0, 1) := by decide +kernel
theorem dX8_races_2 : decode cX8_races 2 = .ok (.getfield 7, 3) := by decide +kernel
theorem dX8_races_5 : decode cX8_races 5 = .ok (.sipush 148, 3) := by decide +kernel
theorem dX8_races_8 : decode cX8_races 8 = .ok (.iaload, 1) := by decide +kernel
theorem dX8_races_9 : decode cX8_races 9 = .ok (.invokevirtual 172, 3) := by decide +kernel
theorem dX8_races_12 : decode cX8_races 12 = .ok (.ireturn, 1) := by decide +kernel
theorem dX8_winsInPairs_0 : decode cX8_winsInPairs 0 = .ok (.aload_n 0, 1) := by decide +kernel
theorem dX8_winsInPairs_1 : decode cX8_winsInPairs 1 = .ok (.aload_n 0, 1) := by decide +kernel
theorem dX8_winsInPairs_2 : decode cX8_winsInPairs 2 = .ok (.getfield 7, 3) := by decide +kernel
theorem dX8_winsInPairs_5 : decode cX8_winsInPairs 5 = .ok (.sipush 149, 3) := by decide +kernel
theorem dX8_winsInPairs_8 : decode cX8_winsInPairs 8 = .ok (.iaload, 1) := by decide +kernel
theorem dX8_winsInPairs_9 : decode cX8_winsInPairs 9 = .ok (.invokevirtual 172, 3) := by decide +kernel
theorem dX8_winsInPairs_12 : decode cX8_winsInPairs 12 = .ok (.ireturn, 1) := by decide +kernel
theorem dX8_mean_0 : decode cX8_mean 0 = .ok (.aload_n 0, 1) := by decide +kernel
theorem dX8_mean_1 : decode cX8_mean 1 = .ok (.getfield 7, 3) := by decide +kernel
theorem dX8_mean_4 : decode cX8_mean 4 = .ok (.sipush 128, 3) := by decide +kernel
theorem dX8_mean_7 : decode cX8_mean 7 = .ok (.iaload, 1) := by decide +kernel
theorem dX8_mean_8 : decode cX8_mean 8 = .ok (.ifCond .ne 7, 3) := by decide +kernel
theorem dX8_mean_11 : decode cX8_mean 11 = .ok (.dconst 0, 1) := by decide +kernel
theorem dX8_mean_12 : decode cX8_mean 12 = .ok (.goto 18, 3) := by decide +kernel
theorem dX8_mean_15 : decode cX8_mean 15 = .ok (.aload_n 0, 1) := by decide +kernel
theorem dX8_mean_16 : decode cX8_mean 16 = .ok (.invokevirtual 202, 3) := by decide +kernel
theorem dX8_mean_19 : decode cX8_mean 19 = .ok (.i2d, 1) := by decide +kernel
theorem dX8_mean_20 : decode cX8_mean 20 = .ok (.aload_n 0, 1) := by decide +kernel
theorem dX8_mean_21 : decode cX8_mean 21 = .ok (.getfield 7, 3) := by decide +kernel
theorem dX8_mean_24 : decode cX8_mean 24 = .ok (.sipush 128, 3) := by decide +kernel
theorem dX8_mean_27 : decode cX8_mean 27 = .ok (.iaload, 1) := by decide +kernel
theorem dX8_mean_28 : decode cX8_mean 28 = .ok (.i2d, 1) := by decide +kernel
theorem dX8_mean_29 : decode cX8_mean 29 = .ok (.ddiv, 1) := by decide +kernel
theorem dX8_mean_30 : decode cX8_mean 30 = .ok (.dreturn, 1) := by decide +kernel
theorem dX8_meanFlown_0 : decode cX8_meanFlown 0 = .ok (.aload_n 0, 1) := by decide +kernel
theorem dX8_meanFlown_1 : decode cX8_meanFlown 1 = .ok (.iconst 0, 1) := by decide +kernel
theorem dX8_meanFlown_2 : decode cX8_meanFlown 2 = .ok (.putfield 32, 3) := by decide +kernel
theorem dX8_meanFlown_5 : decode cX8_meanFlown 5 = .ok (.aload_n 0, 1) := by decide +kernel
theorem dX8_meanFlown_6 : decode cX8_meanFlown 6 = .ok (.invokevirtual 205, 3) := by decide +kernel
theorem dX8_meanFlown_9 : decode cX8_meanFlown 9 = .ok (.dreturn, 1) := by decide +kernel
theorem dX8_mixes_0 : decode cX8_mixes 0 = .ok (.aload_n 0, 1) := by decide +kernel
theorem dX8_mixes_1 : decode cX8_mixes 1 = .ok (.ldc2_w 209, 3) := by decide +kernel
theorem dX8_mixes_4 : decode cX8_mixes 4 = .ok (.aload_n 0, 1) := by decide +kernel
theorem dX8_mixes_5 : decode cX8_mixes 5 = .ok (.getfield 211, 3) := by decide +kernel
theorem dX8_mixes_8 : decode cX8_mixes 8 = .ok (.lmul, 1) := by decide +kernel
theorem dX8_mixes_9 : decode cX8_mixes 9 = .ok (.lload_n 1, 1) := by decide +kernel
theorem dX8_mixes_10 : decode cX8_mixes 10 = .ok (.ladd, 1) := by decide +kernel
theorem dX8_mixes_11 : decode cX8_mixes 11 = .ok (.putfield 211, 3) := by decide +kernel
theorem dX8_mixes_14 : decode cX8_mixes 14 = .ok (.return_, 1) := by decide +kernel
theorem dX8_mixBird_0 : decode cX8_mixBird 0 = .ok (.aload_n 0, 1) := by decide +kernel
theorem dX8_mixBird_1 : decode cX8_mixBird 1 = .ok (.aload_n 0, 1) := by decide +kernel
theorem dX8_mixBird_2 : decode cX8_mixBird 2 = .ok (.iload_n 1, 1) := by decide +kernel
theorem dX8_mixBird_3 : decode cX8_mixBird 3 = .ok (.bipush 7, 2) := by decide +kernel
theorem dX8_mixBird_5 : decode cX8_mixBird 5 = .ok (.invokevirtual 40, 3) := by decide +kernel
theorem dX8_mixBird_8 : decode cX8_mixBird 8 = .ok (.i2l, 1) := by decide +kernel
theorem dX8_mixBird_9 : decode cX8_mixBird 9 = .ok (.invokevirtual 215, 3) := by decide +kernel
theorem dX8_mixBird_12 : decode cX8_mixBird 12 = .ok (.aload_n 0, 1) := by decide +kernel
theorem dX8_mixBird_13 : decode cX8_mixBird 13 = .ok (.aload_n 0, 1) := by decide +kernel
theorem dX8_mixBird_14 : decode cX8_mixBird 14 = .ok (.iload_n 1, 1) := by decide +kernel
theorem dX8_mixBird_15 : decode cX8_mixBird 15 = .ok (.bipush 7, 2) := by decide +kernel
theorem dX8_mixBird_17 : decode cX8_mixBird 17 = .ok (.invokevirtual 40, 3) := by decide +kernel
theorem dX8_mixBird_20 : decode cX8_mixBird 20 = .ok (.sipush 400, 3) := by decide +kernel
theorem dX8_mixBird_23 : decode cX8_mixBird 23 = .ok (.idiv, 1) := by decide +kernel
theorem dX8_mixBird_24 : decode cX8_mixBird 24 = .ok (.i2l, 1) := by decide +kernel
theorem dX8_mixBird_25 : decode cX8_mixBird 25 = .ok (.invokevirtual 215, 3) := by decide +kernel
theorem dX8_mixBird_28 : decode cX8_mixBird 28 = .ok (.aload_n 0, 1) := by decide +kernel
theorem dX8_mixBird_29 : decode cX8_mixBird 29 = .ok (.aload_n 0, 1) := by decide +kernel
theorem dX8_mixBird_30 : decode cX8_mixBird 30 = .ok (.iload_n 1, 1) := by decide +kernel
theorem dX8_mixBird_31 : decode cX8_mixBird 31 = .ok (.bipush 8, 2) := by decide +kernel
theorem dX8_mixBird_33 : decode cX8_mixBird 33 = .ok (.invokevirtual 40, 3) := by decide +kernel
theorem dX8_mixBird_36 : decode cX8_mixBird 36 = .ok (.i2l, 1) := by decide +kernel
theorem dX8_mixBird_37 : decode cX8_mixBird 37 = .ok (.invokevirtual 215, 3) := by decide +kernel
theorem dX8_mixBird_40 : decode cX8_mixBird 40 = .ok (.aload_n 0, 1) := by decide +kernel
theorem dX8_mixBird_41 : decode cX8_mixBird 41 = .ok (.aload_n 0, 1) := by decide +kernel
theorem dX8_mixBird_42 : decode cX8_mixBird 42 = .ok (.iload_n 1, 1) := by decide +kernel
theorem dX8_mixBird_43 : decode cX8_mixBird 43 = .ok (.iconst 3, 1) := by decide +kernel
theorem dX8_mixBird_44 : decode cX8_mixBird 44 = .ok (.invokevirtual 40, 3) := by decide +kernel
theorem dX8_mixBird_47 : decode cX8_mixBird 47 = .ok (.i2l, 1) := by decide +kernel
theorem dX8_mixBird_48 : decode cX8_mixBird 48 = .ok (.invokevirtual 215, 3) := by decide +kernel
theorem dX8_mixBird_51 : decode cX8_mixBird 51 = .ok (.aload_n 0, 1) := by decide +kernel
theorem dX8_mixBird_52 : decode cX8_mixBird 52 = .ok (.aload_n 0, 1) := by decide +kernel
theorem dX8_mixBird_53 : decode cX8_mixBird 53 = .ok (.iload_n 1, 1) := by decide +kernel
theorem dX8_mixBird_54 : decode cX8_mixBird 54 = .ok (.iconst 4, 1) := by decide +kernel
theorem dX8_mixBird_55 : decode cX8_mixBird 55 = .ok (.invokevirtual 40, 3) := by decide +kernel
theorem dX8_mixBird_58 : decode cX8_mixBird 58 = .ok (.i2l, 1) := by decide +kernel
theorem dX8_mixBird_59 : decode cX8_mixBird 59 = .ok (.invokevirtual 215, 3) := by decide +kernel
theorem dX8_mixBird_62 : decode cX8_mixBird 62 = .ok (.aload_n 0, 1) := by decide +kernel
theorem dX8_mixBird_63 : decode cX8_mixBird 63 = .ok (.aload_n 0, 1) := by decide +kernel
theorem dX8_mixBird_64 : decode cX8_mixBird 64 = .ok (.iload_n 1, 1) := by decide +kernel
theorem dX8_mixBird_65 : decode cX8_mixBird 65 = .ok (.iconst 5, 1) := by decide +kernel
theorem dX8_mixBird_66 : decode cX8_mixBird 66 = .ok (.invokevirtual 40, 3) := by decide +kernel
theorem dX8_mixBird_69 : decode cX8_mixBird 69 = .ok (.i2l, 1) := by decide +kernel
theorem dX8_mixBird_70 : decode cX8_mixBird 70 = .ok (.invokevirtual 215, 3) := by decide +kernel
theorem dX8_mixBird_73 : decode cX8_mixBird 73 = .ok (.aload_n 0, 1) := by decide +kernel
theorem dX8_mixBird_74 : decode cX8_mixBird 74 = .ok (.aload_n 0, 1) := by decide +kernel
theorem dX8_mixBird_75 : decode cX8_mixBird 75 = .ok (.iload_n 1, 1) := by decide +kernel
theorem dX8_mixBird_76 : decode cX8_mixBird 76 = .ok (.bipush 6, 2) := by decide +kernel
theorem dX8_mixBird_78 : decode cX8_mixBird 78 = .ok (.invokevirtual 40, 3) := by decide +kernel
theorem dX8_mixBird_81 : decode cX8_mixBird 81 = .ok (.i2l, 1) := by decide +kernel
theorem dX8_mixBird_82 : decode cX8_mixBird 82 = .ok (.invokevirtual 215, 3) := by decide +kernel
theorem dX8_mixBird_85 : decode cX8_mixBird 85 = .ok (.aload_n 0, 1) := by decide +kernel
theorem dX8_mixBird_86 : decode cX8_mixBird 86 = .ok (.aload_n 0, 1) := by decide +kernel
theorem dX8_mixBird_87 : decode cX8_mixBird 87 = .ok (.iload_n 1, 1) := by decide +kernel
theorem dX8_mixBird_88 : decode cX8_mixBird 88 = .ok (.iconst 0, 1) := by decide +kernel
theorem dX8_mixBird_89 : decode cX8_mixBird 89 = .ok (.invokevirtual 40, 3) := by decide +kernel
theorem dX8_mixBird_92 : decode cX8_mixBird 92 = .ok (.i2l, 1) := by decide +kernel
theorem dX8_mixBird_93 : decode cX8_mixBird 93 = .ok (.invokevirtual 215, 3) := by decide +kernel
theorem dX8_mixBird_96 : decode cX8_mixBird 96 = .ok (.aload_n 0, 1) := by decide +kernel
theorem dX8_mixBird_97 : decode cX8_mixBird 97 = .ok (.aload_n 0, 1) := by decide +kernel
theorem dX8_mixBird_98 : decode cX8_mixBird 98 = .ok (.iload_n 1, 1) := by decide +kernel
theorem dX8_mixBird_99 : decode cX8_mixBird 99 = .ok (.bipush 10, 2) := by decide +kernel
theorem dX8_mixBird_101 : decode cX8_mixBird 101 = .ok (.invokevirtual 40, 3) := by decide +kernel
theorem dX8_mixBird_104 : decode cX8_mixBird 104 = .ok (.i2l, 1) := by decide +kernel
theorem dX8_mixBird_105 : decode cX8_mixBird 105 = .ok (.invokevirtual 215, 3) := by decide +kernel
theorem dX8_mixBird_108 : decode cX8_mixBird 108 = .ok (.aload_n 0, 1) := by decide +kernel
theorem dX8_mixBird_109 : decode cX8_mixBird 109 = .ok (.aload_n 0, 1) := by decide +kernel
theorem dX8_mixBird_110 : decode cX8_mixBird 110 = .ok (.iload_n 1, 1) := by decide +kernel
theorem dX8_mixBird_111 : decode cX8_mixBird 111 = .ok (.bipush 9, 2) := by decide +kernel
theorem dX8_mixBird_113 : decode cX8_mixBird 113 = .ok (.invokevirtual 40, 3) := by decide +kernel
theorem dX8_mixBird_116 : decode cX8_mixBird 116 = .ok (.i2l, 1) := by decide +kernel
theorem dX8_mixBird_117 : decode cX8_mixBird 117 = .ok (.invokevirtual 215, 3) := by decide +kernel
theorem dX8_mixBird_120 : decode cX8_mixBird 120 = .ok (.aload_n 0, 1) := by decide +kernel
theorem dX8_mixBird_121 : decode cX8_mixBird 121 = .ok (.aload_n 0, 1) := by decide +kernel
theorem dX8_mixBird_122 : decode cX8_mixBird 122 = .ok (.iload_n 1, 1) := by decide +kernel
theorem dX8_mixBird_123 : decode cX8_mixBird 123 = .ok (.invokevirtual 59, 3) := by decide +kernel
theorem dX8_mixBird_126 : decode cX8_mixBird 126 = .ok (.i2l, 1) := by decide +kernel
theorem dX8_mixBird_127 : decode cX8_mixBird 127 = .ok (.invokevirtual 215, 3) := by decide +kernel
theorem dX8_mixBird_130 : decode cX8_mixBird 130 = .ok (.aload_n 0, 1) := by decide +kernel
theorem dX8_mixBird_131 : decode cX8_mixBird 131 = .ok (.aload_n 0, 1) := by decide +kernel
theorem dX8_mixBird_132 : decode cX8_mixBird 132 = .ok (.iload_n 1, 1) := by decide +kernel
theorem dX8_mixBird_133 : decode cX8_mixBird 133 = .ok (.aload_n 0, 1) := by decide +kernel
theorem dX8_mixBird_134 : decode cX8_mixBird 134 = .ok (.iload_n 1, 1) := by decide +kernel
theorem dX8_mixBird_135 : decode cX8_mixBird 135 = .ok (.iconst 5, 1) := by decide +kernel
theorem dX8_mixBird_136 : decode cX8_mixBird 136 = .ok (.invokevirtual 40, 3) := by decide +kernel
theorem dX8_mixBird_139 : decode cX8_mixBird 139 = .ok (.invokevirtual 68, 3) := by decide +kernel
theorem dX8_mixBird_142 : decode cX8_mixBird 142 = .ok (.i2l, 1) := by decide +kernel
theorem dX8_mixBird_143 : decode cX8_mixBird 143 = .ok (.invokevirtual 215, 3) := by decide +kernel
theorem dX8_mixBird_146 : decode cX8_mixBird 146 = .ok (.aload_n 0, 1) := by decide +kernel
theorem dX8_mixBird_147 : decode cX8_mixBird 147 = .ok (.aload_n 0, 1) := by decide +kernel
theorem dX8_mixBird_148 : decode cX8_mixBird 148 = .ok (.iload_n 1, 1) := by decide +kernel
theorem dX8_mixBird_149 : decode cX8_mixBird 149 = .ok (.invokevirtual 62, 3) := by decide +kernel
theorem dX8_mixBird_152 : decode cX8_mixBird 152 = .ok (.ifCond .eq 15, 3) := by decide +kernel
theorem dX8_mixBird_155 : decode cX8_mixBird 155 = .ok (.aload_n 0, 1) := by decide +kernel
theorem dX8_mixBird_156 : decode cX8_mixBird 156 = .ok (.iload_n 1, 1) := by decide +kernel
theorem dX8_mixBird_157 : decode cX8_mixBird 157 = .ok (.invokevirtual 74, 3) := by decide +kernel
theorem dX8_mixBird_160 : decode cX8_mixBird 160 = .ok (.ifCond .eq 7, 3) := by decide +kernel
theorem dX8_mixBird_163 : decode cX8_mixBird 163 = .ok (.lconst 1, 1) := by decide +kernel
theorem dX8_mixBird_164 : decode cX8_mixBird 164 = .ok (.goto 4, 3) := by decide +kernel
theorem dX8_mixBird_167 : decode cX8_mixBird 167 = .ok (.lconst 0, 1) := by decide +kernel
theorem dX8_mixBird_168 : decode cX8_mixBird 168 = .ok (.invokevirtual 215, 3) := by decide +kernel
theorem dX8_mixBird_171 : decode cX8_mixBird 171 = .ok (.aload_n 0, 1) := by decide +kernel
theorem dX8_mixBird_172 : decode cX8_mixBird 172 = .ok (.aload_n 0, 1) := by decide +kernel
theorem dX8_mixBird_173 : decode cX8_mixBird 173 = .ok (.iload_n 1, 1) := by decide +kernel
theorem dX8_mixBird_174 : decode cX8_mixBird 174 = .ok (.invokevirtual 71, 3) := by decide +kernel
theorem dX8_mixBird_177 : decode cX8_mixBird 177 = .ok (.i2l, 1) := by decide +kernel
theorem dX8_mixBird_178 : decode cX8_mixBird 178 = .ok (.invokevirtual 215, 3) := by decide +kernel
theorem dX8_mixBird_181 : decode cX8_mixBird 181 = .ok (.aload_n 0, 1) := by decide +kernel
theorem dX8_mixBird_182 : decode cX8_mixBird 182 = .ok (.aload_n 0, 1) := by decide +kernel
theorem dX8_mixBird_183 : decode cX8_mixBird 183 = .ok (.iload_n 1, 1) := by decide +kernel
theorem dX8_mixBird_184 : decode cX8_mixBird 184 = .ok (.invokevirtual 62, 3) := by decide +kernel
theorem dX8_mixBird_187 : decode cX8_mixBird 187 = .ok (.ifCond .eq 12, 3) := by decide +kernel
theorem dX8_mixBird_190 : decode cX8_mixBird 190 = .ok (.aload_n 0, 1) := by decide +kernel
theorem dX8_mixBird_191 : decode cX8_mixBird 191 = .ok (.iload_n 1, 1) := by decide +kernel
theorem dX8_mixBird_192 : decode cX8_mixBird 192 = .ok (.invokevirtual 77, 3) := by decide +kernel
theorem dX8_mixBird_195 : decode cX8_mixBird 195 = .ok (.i2l, 1) := by decide +kernel
theorem dX8_mixBird_196 : decode cX8_mixBird 196 = .ok (.goto 4, 3) := by decide +kernel
theorem dX8_mixBird_199 : decode cX8_mixBird 199 = .ok (.lconst 0, 1) := by decide +kernel
theorem dX8_mixBird_200 : decode cX8_mixBird 200 = .ok (.invokevirtual 215, 3) := by decide +kernel
theorem dX8_mixBird_203 : decode cX8_mixBird 203 = .ok (.aload_n 0, 1) := by decide +kernel
theorem dX8_mixBird_204 : decode cX8_mixBird 204 = .ok (.aload_n 0, 1) := by decide +kernel
theorem dX8_mixBird_205 : decode cX8_mixBird 205 = .ok (.iload_n 1, 1) := by decide +kernel
theorem dX8_mixBird_206 : decode cX8_mixBird 206 = .ok (.invokevirtual 47, 3) := by decide +kernel
theorem dX8_mixBird_209 : decode cX8_mixBird 209 = .ok (.ifCond .eq 14, 3) := by decide +kernel
theorem dX8_mixBird_212 : decode cX8_mixBird 212 = .ok (.aload_n 0, 1) := by decide +kernel
theorem dX8_mixBird_213 : decode cX8_mixBird 213 = .ok (.iload_n 1, 1) := by decide +kernel
theorem dX8_mixBird_214 : decode cX8_mixBird 214 = .ok (.bipush 11, 2) := by decide +kernel
theorem dX8_mixBird_216 : decode cX8_mixBird 216 = .ok (.invokevirtual 40, 3) := by decide +kernel
theorem dX8_mixBird_219 : decode cX8_mixBird 219 = .ok (.i2l, 1) := by decide +kernel
theorem dX8_mixBird_220 : decode cX8_mixBird 220 = .ok (.goto 4, 3) := by decide +kernel
theorem dX8_mixBird_223 : decode cX8_mixBird 223 = .ok (.lconst 0, 1) := by decide +kernel
theorem dX8_mixBird_224 : decode cX8_mixBird 224 = .ok (.invokevirtual 215, 3) := by decide +kernel
theorem dX8_mixBird_227 : decode cX8_mixBird 227 = .ok (.aload_n 0, 1) := by decide +kernel
theorem dX8_mixBird_228 : decode cX8_mixBird 228 = .ok (.aload_n 0, 1) := by decide +kernel
theorem dX8_mixBird_229 : decode cX8_mixBird 229 = .ok (.getfield 7, 3) := by decide +kernel
theorem dX8_mixBird_232 : decode cX8_mixBird 232 = .ok (.sipush 150, 3) := by decide +kernel
theorem dX8_mixBird_235 : decode cX8_mixBird 235 = .ok (.iaload, 1) := by decide +kernel
theorem dX8_mixBird_236 : decode cX8_mixBird 236 = .ok (.iconst 1, 1) := by decide +kernel
theorem dX8_mixBird_237 : decode cX8_mixBird 237 = .ok (.if_icmp .ne 14, 3) := by decide +kernel
theorem dX8_mixBird_240 : decode cX8_mixBird 240 = .ok (.aload_n 0, 1) := by decide +kernel
theorem dX8_mixBird_241 : decode cX8_mixBird 241 = .ok (.iload_n 1, 1) := by decide +kernel
theorem dX8_mixBird_242 : decode cX8_mixBird 242 = .ok (.bipush 30, 2) := by decide +kernel
theorem dX8_mixBird_244 : decode cX8_mixBird 244 = .ok (.invokevirtual 184, 3) := by decide +kernel
theorem dX8_mixBird_247 : decode cX8_mixBird 247 = .ok (.i2l, 1) := by decide +kernel
theorem dX8_mixBird_248 : decode cX8_mixBird 248 = .ok (.goto 4, 3) := by decide +kernel
theorem dX8_mixBird_251 : decode cX8_mixBird 251 = .ok (.lconst 0, 1) := by decide +kernel
theorem dX8_mixBird_252 : decode cX8_mixBird 252 = .ok (.invokevirtual 215, 3) := by decide +kernel
theorem dX8_mixBird_255 : decode cX8_mixBird 255 = .ok (.return_, 1) := by decide +kernel
theorem dX8_digest_0 : decode cX8_digest 0 = .ok (.aload_n 0, 1) := by decide +kernel
theorem dX8_digest_1 : decode cX8_digest 1 = .ok (.iconst 0, 1) := by decide +kernel
theorem dX8_digest_2 : decode cX8_digest 2 = .ok (.putfield 32, 3) := by decide +kernel
theorem dX8_digest_5 : decode cX8_digest 5 = .ok (.aload_n 0, 1) := by decide +kernel
theorem dX8_digest_6 : decode cX8_digest 6 = .ok (.ldc2_w 219, 3) := by decide +kernel
theorem dX8_digest_9 : decode cX8_digest 9 = .ok (.putfield 211, 3) := by decide +kernel
theorem dX8_digest_12 : decode cX8_digest 12 = .ok (.aload_n 0, 1) := by decide +kernel
theorem dX8_digest_13 : decode cX8_digest 13 = .ok (.aload_n 0, 1) := by decide +kernel
theorem dX8_digest_14 : decode cX8_digest 14 = .ok (.getfield 7, 3) := by decide +kernel
theorem dX8_digest_17 : decode cX8_digest 17 = .ok (.sipush 128, 3) := by decide +kernel
theorem dX8_digest_20 : decode cX8_digest 20 = .ok (.iaload, 1) := by decide +kernel
theorem dX8_digest_21 : decode cX8_digest 21 = .ok (.i2l, 1) := by decide +kernel
theorem dX8_digest_22 : decode cX8_digest 22 = .ok (.invokevirtual 215, 3) := by decide +kernel
theorem dX8_digest_25 : decode cX8_digest 25 = .ok (.iconst 0, 1) := by decide +kernel
theorem dX8_digest_26 : decode cX8_digest 26 = .ok (.istore_n 1, 1) := by decide +kernel
theorem dX8_digest_27 : decode cX8_digest 27 = .ok (.iload_n 1, 1) := by decide +kernel
theorem dX8_digest_28 : decode cX8_digest 28 = .ok (.aload_n 0, 1) := by decide +kernel
theorem dX8_digest_29 : decode cX8_digest 29 = .ok (.getfield 7, 3) := by decide +kernel
theorem dX8_digest_32 : decode cX8_digest 32 = .ok (.sipush 128, 3) := by decide +kernel
theorem dX8_digest_35 : decode cX8_digest 35 = .ok (.iaload, 1) := by decide +kernel
theorem dX8_digest_36 : decode cX8_digest 36 = .ok (.if_icmp .ge 14, 3) := by decide +kernel
theorem dX8_digest_39 : decode cX8_digest 39 = .ok (.aload_n 0, 1) := by decide +kernel
theorem dX8_digest_40 : decode cX8_digest 40 = .ok (.iload_n 1, 1) := by decide +kernel
theorem dX8_digest_41 : decode cX8_digest 41 = .ok (.invokevirtual 221, 3) := by decide +kernel
theorem dX8_digest_44 : decode cX8_digest 44 = .ok (.iinc 1 1, 3) := by decide +kernel
theorem dX8_digest_47 : decode cX8_digest 47 = .ok (.goto (-20), 3) := by decide +kernel
theorem dX8_digest_50 : decode cX8_digest 50 = .ok (.iconst 0, 1) := by decide +kernel
theorem dX8_digest_51 : decode cX8_digest 51 = .ok (.istore_n 1, 1) := by decide +kernel
theorem dX8_digest_52 : decode cX8_digest 52 = .ok (.iload_n 1, 1) := by decide +kernel
theorem dX8_digest_53 : decode cX8_digest 53 = .ok (.aload_n 0, 1) := by decide +kernel
theorem dX8_digest_54 : decode cX8_digest 54 = .ok (.getfield 7, 3) := by decide +kernel
theorem dX8_digest_57 : decode cX8_digest 57 = .ok (.sipush 128, 3) := by decide +kernel
theorem dX8_digest_60 : decode cX8_digest 60 = .ok (.iaload, 1) := by decide +kernel
theorem dX8_digest_61 : decode cX8_digest 61 = .ok (.if_icmp .ge 19, 3) := by decide +kernel
theorem dX8_digest_64 : decode cX8_digest 64 = .ok (.aload_n 0, 1) := by decide +kernel
theorem dX8_digest_65 : decode cX8_digest 65 = .ok (.aload_n 0, 1) := by decide +kernel
theorem dX8_digest_66 : decode cX8_digest 66 = .ok (.iload_n 1, 1) := by decide +kernel
theorem dX8_digest_67 : decode cX8_digest 67 = .ok (.invokevirtual 178, 3) := by decide +kernel
theorem dX8_digest_70 : decode cX8_digest 70 = .ok (.i2l, 1) := by decide +kernel
theorem dX8_digest_71 : decode cX8_digest 71 = .ok (.invokevirtual 215, 3) := by decide +kernel
theorem dX8_digest_74 : decode cX8_digest 74 = .ok (.iinc 1 1, 3) := by decide +kernel
theorem dX8_digest_77 : decode cX8_digest 77 = .ok (.goto (-25), 3) := by decide +kernel
theorem dX8_digest_80 : decode cX8_digest 80 = .ok (.iconst 0, 1) := by decide +kernel
theorem dX8_digest_81 : decode cX8_digest 81 = .ok (.istore_n 1, 1) := by decide +kernel
theorem dX8_digest_82 : decode cX8_digest 82 = .ok (.iload_n 1, 1) := by decide +kernel
theorem dX8_digest_83 : decode cX8_digest 83 = .ok (.iconst 4, 1) := by decide +kernel
theorem dX8_digest_84 : decode cX8_digest 84 = .ok (.if_icmp .ge 24, 3) := by decide +kernel
theorem dX8_digest_87 : decode cX8_digest 87 = .ok (.aload_n 0, 1) := by decide +kernel
theorem dX8_digest_88 : decode cX8_digest 88 = .ok (.aload_n 0, 1) := by decide +kernel
theorem dX8_digest_89 : decode cX8_digest 89 = .ok (.getfield 7, 3) := by decide +kernel
theorem dX8_digest_92 : decode cX8_digest 92 = .ok (.sipush 129, 3) := by decide +kernel
theorem dX8_digest_95 : decode cX8_digest 95 = .ok (.iload_n 1, 1) := by decide +kernel
theorem dX8_digest_96 : decode cX8_digest 96 = .ok (.iadd, 1) := by decide +kernel
theorem dX8_digest_97 : decode cX8_digest 97 = .ok (.iaload, 1) := by decide +kernel
theorem dX8_digest_98 : decode cX8_digest 98 = .ok (.i2l, 1) := by decide +kernel
theorem dX8_digest_99 : decode cX8_digest 99 = .ok (.invokevirtual 215, 3) := by decide +kernel
theorem dX8_digest_102 : decode cX8_digest 102 = .ok (.iinc 1 1, 3) := by decide +kernel
theorem dX8_digest_105 : decode cX8_digest 105 = .ok (.goto (-23), 3) := by decide +kernel
theorem dX8_digest_108 : decode cX8_digest 108 = .ok (.aload_n 0, 1) := by decide +kernel
theorem dX8_digest_109 : decode cX8_digest 109 = .ok (.aload_n 0, 1) := by decide +kernel
theorem dX8_digest_110 : decode cX8_digest 110 = .ok (.invokevirtual 193, 3) := by decide +kernel
theorem dX8_digest_113 : decode cX8_digest 113 = .ok (.i2l, 1) := by decide +kernel
theorem dX8_digest_114 : decode cX8_digest 114 = .ok (.invokevirtual 215, 3) := by decide +kernel
theorem dX8_digest_117 : decode cX8_digest 117 = .ok (.aload_n 0, 1) := by decide +kernel
theorem dX8_digest_118 : decode cX8_digest 118 = .ok (.aload_n 0, 1) := by decide +kernel
theorem dX8_digest_119 : decode cX8_digest 119 = .ok (.invokevirtual 190, 3) := by decide +kernel
theorem dX8_digest_122 : decode cX8_digest 122 = .ok (.i2l, 1) := by decide +kernel
theorem dX8_digest_123 : decode cX8_digest 123 = .ok (.invokevirtual 215, 3) := by decide +kernel
theorem dX8_digest_126 : decode cX8_digest 126 = .ok (.aload_n 0, 1) := by decide +kernel
theorem dX8_digest_127 : decode cX8_digest 127 = .ok (.aload_n 0, 1) := by decide +kernel
theorem dX8_digest_128 : decode cX8_digest 128 = .ok (.getfield 7, 3) := by decide +kernel
theorem dX8_digest_131 : decode cX8_digest 131 = .ok (.sipush 128, 3) := by decide +kernel
theorem dX8_digest_134 : decode cX8_digest 134 = .ok (.iaload, 1) := by decide +kernel
theorem dX8_digest_135 : decode cX8_digest 135 = .ok (.ifCond .le 24, 3) := by decide +kernel
theorem dX8_digest_138 : decode cX8_digest 138 = .ok (.aload_n 0, 1) := by decide +kernel
theorem dX8_digest_139 : decode cX8_digest 139 = .ok (.getfield 7, 3) := by decide +kernel
theorem dX8_digest_142 : decode cX8_digest 142 = .ok (.sipush 150, 3) := by decide +kernel
theorem dX8_digest_145 : decode cX8_digest 145 = .ok (.iaload, 1) := by decide +kernel
theorem dX8_digest_146 : decode cX8_digest 146 = .ok (.iconst 1, 1) := by decide +kernel
theorem dX8_digest_147 : decode cX8_digest 147 = .ok (.if_icmp .ne 12, 3) := by decide +kernel
theorem dX8_digest_150 : decode cX8_digest 150 = .ok (.aload_n 0, 1) := by decide +kernel
theorem dX8_digest_151 : decode cX8_digest 151 = .ok (.iconst 0, 1) := by decide +kernel
theorem dX8_digest_152 : decode cX8_digest 152 = .ok (.invokevirtual 199, 3) := by decide +kernel
theorem dX8_digest_155 : decode cX8_digest 155 = .ok (.i2l, 1) := by decide +kernel
theorem dX8_digest_156 : decode cX8_digest 156 = .ok (.goto 4, 3) := by decide +kernel
theorem dX8_digest_159 : decode cX8_digest 159 = .ok (.lconst 0, 1) := by decide +kernel
theorem dX8_digest_160 : decode cX8_digest 160 = .ok (.invokevirtual 215, 3) := by decide +kernel
theorem dX8_digest_163 : decode cX8_digest 163 = .ok (.aload_n 0, 1) := by decide +kernel
theorem dX8_digest_164 : decode cX8_digest 164 = .ok (.aload_n 0, 1) := by decide +kernel
theorem dX8_digest_165 : decode cX8_digest 165 = .ok (.getfield 7, 3) := by decide +kernel
theorem dX8_digest_168 : decode cX8_digest 168 = .ok (.sipush 150, 3) := by decide +kernel
theorem dX8_digest_171 : decode cX8_digest 171 = .ok (.iaload, 1) := by decide +kernel
theorem dX8_digest_172 : decode cX8_digest 172 = .ok (.i2l, 1) := by decide +kernel
theorem dX8_digest_173 : decode cX8_digest 173 = .ok (.invokevirtual 215, 3) := by decide +kernel
theorem dX8_digest_176 : decode cX8_digest 176 = .ok (.aload_n 0, 1) := by decide +kernel
theorem dX8_digest_177 : decode cX8_digest 177 = .ok (.aload_n 0, 1) := by decide +kernel
theorem dX8_digest_178 : decode cX8_digest 178 = .ok (.getfield 7, 3) := by decide +kernel
theorem dX8_digest_181 : decode cX8_digest 181 = .ok (.sipush 134, 3) := by decide +kernel
theorem dX8_digest_184 : decode cX8_digest 184 = .ok (.iaload, 1) := by decide +kernel
theorem dX8_digest_185 : decode cX8_digest 185 = .ok (.i2l, 1) := by decide +kernel
theorem dX8_digest_186 : decode cX8_digest 186 = .ok (.invokevirtual 215, 3) := by decide +kernel
theorem dX8_digest_189 : decode cX8_digest 189 = .ok (.aload_n 0, 1) := by decide +kernel
theorem dX8_digest_190 : decode cX8_digest 190 = .ok (.aload_n 0, 1) := by decide +kernel
theorem dX8_digest_191 : decode cX8_digest 191 = .ok (.getfield 7, 3) := by decide +kernel
theorem dX8_digest_194 : decode cX8_digest 194 = .ok (.sipush 135, 3) := by decide +kernel
theorem dX8_digest_197 : decode cX8_digest 197 = .ok (.iaload, 1) := by decide +kernel
theorem dX8_digest_198 : decode cX8_digest 198 = .ok (.i2l, 1) := by decide +kernel
theorem dX8_digest_199 : decode cX8_digest 199 = .ok (.invokevirtual 215, 3) := by decide +kernel
theorem dX8_digest_202 : decode cX8_digest 202 = .ok (.iconst 0, 1) := by decide +kernel
theorem dX8_digest_203 : decode cX8_digest 203 = .ok (.istore_n 1, 1) := by decide +kernel
theorem dX8_digest_204 : decode cX8_digest 204 = .ok (.iload_n 1, 1) := by decide +kernel
theorem dX8_digest_205 : decode cX8_digest 205 = .ok (.aload_n 0, 1) := by decide +kernel
theorem dX8_digest_206 : decode cX8_digest 206 = .ok (.getfield 7, 3) := by decide +kernel
theorem dX8_digest_209 : decode cX8_digest 209 = .ok (.sipush 135, 3) := by decide +kernel
theorem dX8_digest_212 : decode cX8_digest 212 = .ok (.iaload, 1) := by decide +kernel
theorem dX8_digest_213 : decode cX8_digest 213 = .ok (.if_icmp .ge 24, 3) := by decide +kernel
theorem dX8_digest_216 : decode cX8_digest 216 = .ok (.aload_n 0, 1) := by decide +kernel
theorem dX8_digest_217 : decode cX8_digest 217 = .ok (.aload_n 0, 1) := by decide +kernel
theorem dX8_digest_218 : decode cX8_digest 218 = .ok (.getfield 7, 3) := by decide +kernel
theorem dX8_digest_221 : decode cX8_digest 221 = .ok (.sipush 136, 3) := by decide +kernel
theorem dX8_digest_224 : decode cX8_digest 224 = .ok (.iload_n 1, 1) := by decide +kernel
theorem dX8_digest_225 : decode cX8_digest 225 = .ok (.iadd, 1) := by decide +kernel
theorem dX8_digest_226 : decode cX8_digest 226 = .ok (.iaload, 1) := by decide +kernel
theorem dX8_digest_227 : decode cX8_digest 227 = .ok (.i2l, 1) := by decide +kernel
theorem dX8_digest_228 : decode cX8_digest 228 = .ok (.invokevirtual 215, 3) := by decide +kernel
theorem dX8_digest_231 : decode cX8_digest 231 = .ok (.iinc 1 1, 3) := by decide +kernel
theorem dX8_digest_234 : decode cX8_digest 234 = .ok (.goto (-30), 3) := by decide +kernel
theorem dX8_digest_237 : decode cX8_digest 237 = .ok (.aload_n 0, 1) := by decide +kernel
theorem dX8_digest_238 : decode cX8_digest 238 = .ok (.aload_n 0, 1) := by decide +kernel
theorem dX8_digest_239 : decode cX8_digest 239 = .ok (.invokevirtual 202, 3) := by decide +kernel
theorem dX8_digest_242 : decode cX8_digest 242 = .ok (.i2l, 1) := by decide +kernel
theorem dX8_digest_243 : decode cX8_digest 243 = .ok (.invokevirtual 215, 3) := by decide +kernel
theorem dX8_digest_246 : decode cX8_digest 246 = .ok (.sipush 144, 3) := by decide +kernel
theorem dX8_digest_249 : decode cX8_digest 249 = .ok (.istore_n 1, 1) := by decide +kernel
theorem dX8_digest_250 : decode cX8_digest 250 = .ok (.iload_n 1, 1) := by decide +kernel
theorem dX8_digest_251 : decode cX8_digest 251 = .ok (.sipush 149, 3) := by decide +kernel
theorem dX8_digest_254 : decode cX8_digest 254 = .ok (.if_icmp .gt 20, 3) := by decide +kernel
theorem dX8_digest_257 : decode cX8_digest 257 = .ok (.aload_n 0, 1) := by decide +kernel
theorem dX8_digest_258 : decode cX8_digest 258 = .ok (.aload_n 0, 1) := by decide +kernel
theorem dX8_digest_259 : decode cX8_digest 259 = .ok (.getfield 7, 3) := by decide +kernel
theorem dX8_digest_262 : decode cX8_digest 262 = .ok (.iload_n 1, 1) := by decide +kernel
theorem dX8_digest_263 : decode cX8_digest 263 = .ok (.iaload, 1) := by decide +kernel
theorem dX8_digest_264 : decode cX8_digest 264 = .ok (.i2l, 1) := by decide +kernel
theorem dX8_digest_265 : decode cX8_digest 265 = .ok (.invokevirtual 215, 3) := by decide +kernel
theorem dX8_digest_268 : decode cX8_digest 268 = .ok (.iinc 1 1, 3) := by decide +kernel
theorem dX8_digest_271 : decode cX8_digest 271 = .ok (.goto (-21), 3) := by decide +kernel
theorem dX8_digest_274 : decode cX8_digest 274 = .ok (.aload_n 0, 1) := by decide +kernel
theorem dX8_digest_275 : decode cX8_digest 275 = .ok (.aload_n 0, 1) := by decide +kernel
theorem dX8_digest_276 : decode cX8_digest 276 = .ok (.getfield 44, 3) := by decide +kernel
theorem dX8_digest_279 : decode cX8_digest 279 = .ok (.i2l, 1) := by decide +kernel
theorem dX8_digest_280 : decode cX8_digest 280 = .ok (.invokevirtual 215, 3) := by decide +kernel
theorem dX8_digest_283 : decode cX8_digest 283 = .ok (.aload_n 0, 1) := by decide +kernel
theorem dX8_digest_284 : decode cX8_digest 284 = .ok (.aload_n 0, 1) := by decide +kernel
theorem dX8_digest_285 : decode cX8_digest 285 = .ok (.invokevirtual 205, 3) := by decide +kernel
theorem dX8_digest_288 : decode cX8_digest 288 = .ok (.invokestatic 224, 3) := by decide +kernel
theorem dX8_digest_291 : decode cX8_digest 291 = .ok (.invokevirtual 215, 3) := by decide +kernel
theorem dX8_digest_294 : decode cX8_digest 294 = .ok (.aload_n 0, 1) := by decide +kernel
theorem dX8_digest_295 : decode cX8_digest 295 = .ok (.aload_n 0, 1) := by decide +kernel
theorem dX8_digest_296 : decode cX8_digest 296 = .ok (.getfield 22, 3) := by decide +kernel
theorem dX8_digest_299 : decode cX8_digest 299 = .ok (.iconst 0, 1) := by decide +kernel
theorem dX8_digest_300 : decode cX8_digest 300 = .ok (.baload, 1) := by decide +kernel
theorem dX8_digest_301 : decode cX8_digest 301 = .ok (.ifCond .eq 7, 3) := by decide +kernel
theorem dX8_digest_304 : decode cX8_digest 304 = .ok (.lconst 1, 1) := by decide +kernel
theorem dX8_digest_305 : decode cX8_digest 305 = .ok (.goto 4, 3) := by decide +kernel
theorem dX8_digest_308 : decode cX8_digest 308 = .ok (.lconst 0, 1) := by decide +kernel
theorem dX8_digest_309 : decode cX8_digest 309 = .ok (.invokevirtual 215, 3) := by decide +kernel
theorem dX8_digest_312 : decode cX8_digest 312 = .ok (.aload_n 0, 1) := by decide +kernel
theorem dX8_digest_313 : decode cX8_digest 313 = .ok (.aload_n 0, 1) := by decide +kernel
theorem dX8_digest_314 : decode cX8_digest 314 = .ok (.getfield 22, 3) := by decide +kernel
theorem dX8_digest_317 : decode cX8_digest 317 = .ok (.iconst 1, 1) := by decide +kernel
theorem dX8_digest_318 : decode cX8_digest 318 = .ok (.baload, 1) := by decide +kernel
theorem dX8_digest_319 : decode cX8_digest 319 = .ok (.ifCond .eq 7, 3) := by decide +kernel
theorem dX8_digest_322 : decode cX8_digest 322 = .ok (.lconst 1, 1) := by decide +kernel
theorem dX8_digest_323 : decode cX8_digest 323 = .ok (.goto 4, 3) := by decide +kernel
theorem dX8_digest_326 : decode cX8_digest 326 = .ok (.lconst 0, 1) := by decide +kernel
theorem dX8_digest_327 : decode cX8_digest 327 = .ok (.invokevirtual 215, 3) := by decide +kernel
theorem dX8_digest_330 : decode cX8_digest 330 = .ok (.aload_n 0, 1) := by decide +kernel
theorem dX8_digest_331 : decode cX8_digest 331 = .ok (.aload_n 0, 1) := by decide +kernel
theorem dX8_digest_332 : decode cX8_digest 332 = .ok (.getfield 121, 3) := by decide +kernel
theorem dX8_digest_335 : decode cX8_digest 335 = .ok (.i2l, 1) := by decide +kernel
theorem dX8_digest_336 : decode cX8_digest 336 = .ok (.invokevirtual 215, 3) := by decide +kernel
theorem dX8_digest_339 : decode cX8_digest 339 = .ok (.iconst 0, 1) := by decide +kernel
theorem dX8_digest_340 : decode cX8_digest 340 = .ok (.istore_n 1, 1) := by decide +kernel
theorem dX8_digest_341 : decode cX8_digest 341 = .ok (.iload_n 1, 1) := by decide +kernel
theorem dX8_digest_342 : decode cX8_digest 342 = .ok (.aload_n 0, 1) := by decide +kernel
theorem dX8_digest_343 : decode cX8_digest 343 = .ok (.getfield 121, 3) := by decide +kernel
theorem dX8_digest_346 : decode cX8_digest 346 = .ok (.if_icmp .ge 20, 3) := by decide +kernel
theorem dX8_digest_349 : decode cX8_digest 349 = .ok (.aload_n 0, 1) := by decide +kernel
theorem dX8_digest_350 : decode cX8_digest 350 = .ok (.aload_n 0, 1) := by decide +kernel
theorem dX8_digest_351 : decode cX8_digest 351 = .ok (.getfield 26, 3) := by decide +kernel
theorem dX8_digest_354 : decode cX8_digest 354 = .ok (.iload_n 1, 1) := by decide +kernel
theorem dX8_digest_355 : decode cX8_digest 355 = .ok (.iaload, 1) := by decide +kernel
theorem dX8_digest_356 : decode cX8_digest 356 = .ok (.i2l, 1) := by decide +kernel
theorem dX8_digest_357 : decode cX8_digest 357 = .ok (.invokevirtual 215, 3) := by decide +kernel
theorem dX8_digest_360 : decode cX8_digest 360 = .ok (.iinc 1 1, 3) := by decide +kernel
theorem dX8_digest_363 : decode cX8_digest 363 = .ok (.goto (-22), 3) := by decide +kernel
theorem dX8_digest_366 : decode cX8_digest 366 = .ok (.aload_n 0, 1) := by decide +kernel
theorem dX8_digest_367 : decode cX8_digest 367 = .ok (.getfield 211, 3) := by decide +kernel
theorem dX8_digest_370 : decode cX8_digest 370 = .ok (.lreturn, 1) := by decide +kernel
theorem dJxe99ae_isNaN_b9ae7_0 : decode cJxe99ae_isNaN_b9ae7 0 = .ok (.dload_n 0, 1) := by decide +kernel
theorem dJxe99ae_isNaN_b9ae7_1 : decode cJxe99ae_isNaN_b9ae7 1 = .ok (.dload_n 0, 1) := by decide +kernel
theorem dJxe99ae_isNaN_b9ae7_2 : decode cJxe99ae_isNaN_b9ae7 2 = .ok (.dcmp .l, 1) := by decide +kernel
theorem dJxe99ae_isNaN_b9ae7_3 : decode cJxe99ae_isNaN_b9ae7 3 = .ok (.ifCond .eq 7, 3) := by decide +kernel
theorem dJxe99ae_isNaN_b9ae7_6 : decode cJxe99ae_isNaN_b9ae7 6 = .ok (.iconst 1, 1) := by decide +kernel
theorem dJxe99ae_isNaN_b9ae7_7 : decode cJxe99ae_isNaN_b9ae7 7 = .ok (.goto 4, 3) := by decide +kernel
theorem dJxe99ae_isNaN_b9ae7_10 : decode cJxe99ae_isNaN_b9ae7 10 = .ok (.iconst 0, 1) := by decide +kernel
theorem dJxe99ae_isNaN_b9ae7_11 : decode cJxe99ae_isNaN_b9ae7 11 = .ok (.ireturn, 1) := by decide +kernel
theorem dJxe99ae_doubleToLongBits_ccdee_0 : decode cJxe99ae_doubleToLongBits_ccdee 0 = .ok (.dload_n 0, 1) := by decide +kernel
theorem dJxe99ae_doubleToLongBits_ccdee_1 : decode cJxe99ae_doubleToLongBits_ccdee 1 = .ok (.invokestatic 122, 3) := by decide +kernel
theorem dJxe99ae_doubleToLongBits_ccdee_4 : decode cJxe99ae_doubleToLongBits_ccdee 4 = .ok (.ifCond .ne 8, 3) := by decide +kernel
theorem dJxe99ae_doubleToLongBits_ccdee_7 : decode cJxe99ae_doubleToLongBits_ccdee 7 = .ok (.dload_n 0, 1) := by decide +kernel
theorem dJxe99ae_doubleToLongBits_ccdee_8 : decode cJxe99ae_doubleToLongBits_ccdee 8 = .ok (.invokestatic 134, 3) := by decide +kernel
theorem dJxe99ae_doubleToLongBits_ccdee_11 : decode cJxe99ae_doubleToLongBits_ccdee 11 = .ok (.lreturn, 1) := by decide +kernel
theorem dJxe99ae_doubleToLongBits_ccdee_12 : decode cJxe99ae_doubleToLongBits_ccdee 12 = .ok (.ldc2_w 137, 3) := by decide +kernel
theorem dJxe99ae_doubleToLongBits_ccdee_15 : decode cJxe99ae_doubleToLongBits_ccdee 15 = .ok (.lreturn, 1) := by decide +kernel
theorem dL_enter_0 : decode cL_enter 0 = .ok (.aload 4, 2) := by decide +kernel
theorem dL_enter_2 : decode cL_enter 2 = .ok (.iconst 0, 1) := by decide +kernel
theorem dL_enter_3 : decode cL_enter 3 = .ok (.aload_n 0, 1) := by decide +kernel
theorem dL_enter_4 : decode cL_enter 4 = .ok (.iload_n 1, 1) := by decide +kernel
theorem dL_enter_5 : decode cL_enter 5 = .ok (.iload_n 2, 1) := by decide +kernel
theorem dL_enter_6 : decode cL_enter 6 = .ok (.iload_n 3, 1) := by decide +kernel
theorem dL_enter_7 : decode cL_enter 7 = .ok (.invokevirtual 7, 3) := by decide +kernel
theorem dL_enter_10 : decode cL_enter 10 = .ok (.i2l, 1) := by decide +kernel
theorem dL_enter_11 : decode cL_enter 11 = .ok (.lastore, 1) := by decide +kernel
theorem dL_enter_12 : decode cL_enter 12 = .ok (.goto 11, 3) := by decide +kernel
theorem dL_enter_15 : decode cL_enter 15 = .ok (.astore 5, 2) := by decide +kernel
theorem dL_enter_17 : decode cL_enter 17 = .ok (.iconst 1, 1) := by decide +kernel
theorem dL_enter_18 : decode cL_enter 18 = .ok (.ireturn, 1) := by decide +kernel
theorem dL_enter_19 : decode cL_enter 19 = .ok (.astore 5, 2) := by decide +kernel
theorem dL_enter_21 : decode cL_enter 21 = .ok (.iconst 2, 1) := by decide +kernel
theorem dL_enter_22 : decode cL_enter 22 = .ok (.ireturn, 1) := by decide +kernel
theorem dL_enter_23 : decode cL_enter 23 = .ok (.iconst 0, 1) := by decide +kernel
theorem dL_enter_24 : decode cL_enter 24 = .ok (.ireturn, 1) := by decide +kernel
theorem dL_setPace_0 : decode cL_setPace 0 = .ok (.aload_n 3, 1) := by decide +kernel
theorem dL_setPace_1 : decode cL_setPace 1 = .ok (.iconst 0, 1) := by decide +kernel
theorem dL_setPace_2 : decode cL_setPace 2 = .ok (.aload_n 0, 1) := by decide +kernel
theorem dL_setPace_3 : decode cL_setPace 3 = .ok (.iload_n 1, 1) := by decide +kernel
theorem dL_setPace_4 : decode cL_setPace 4 = .ok (.iload_n 2, 1) := by decide +kernel
theorem dL_setPace_5 : decode cL_setPace 5 = .ok (.invokevirtual 17, 3) := by decide +kernel
theorem dL_setPace_8 : decode cL_setPace 8 = .ok (.i2l, 1) := by decide +kernel
theorem dL_setPace_9 : decode cL_setPace 9 = .ok (.lastore, 1) := by decide +kernel
theorem dL_setPace_10 : decode cL_setPace 10 = .ok (.goto 11, 3) := by decide +kernel
theorem dL_setPace_13 : decode cL_setPace 13 = .ok (.astore 4, 2) := by decide +kernel
theorem dL_setPace_15 : decode cL_setPace 15 = .ok (.iconst 1, 1) := by decide +kernel
theorem dL_setPace_16 : decode cL_setPace 16 = .ok (.ireturn, 1) := by decide +kernel
theorem dL_setPace_17 : decode cL_setPace 17 = .ok (.astore 4, 2) := by decide +kernel
theorem dL_setPace_19 : decode cL_setPace 19 = .ok (.iconst 2, 1) := by decide +kernel
theorem dL_setPace_20 : decode cL_setPace 20 = .ok (.ireturn, 1) := by decide +kernel
theorem dL_setPace_21 : decode cL_setPace 21 = .ok (.iconst 0, 1) := by decide +kernel
theorem dL_setPace_22 : decode cL_setPace 22 = .ok (.ireturn, 1) := by decide +kernel
theorem dL_callIn_0 : decode cL_callIn 0 = .ok (.aload_n 2, 1) := by decide +kernel
theorem dL_callIn_1 : decode cL_callIn 1 = .ok (.iconst 0, 1) := by decide +kernel
theorem dL_callIn_2 : decode cL_callIn 2 = .ok (.aload_n 0, 1) := by decide +kernel
theorem dL_callIn_3 : decode cL_callIn 3 = .ok (.iload_n 1, 1) := by decide +kernel
theorem dL_callIn_4 : decode cL_callIn 4 = .ok (.invokevirtual 23, 3) := by decide +kernel
theorem dL_callIn_7 : decode cL_callIn 7 = .ok (.ifCond .eq 7, 3) := by decide +kernel
theorem dL_callIn_10 : decode cL_callIn 10 = .ok (.lconst 1, 1) := by decide +kernel
theorem dL_callIn_11 : decode cL_callIn 11 = .ok (.goto 4, 3) := by decide +kernel
theorem dL_callIn_14 : decode cL_callIn 14 = .ok (.lconst 0, 1) := by decide +kernel
theorem dL_callIn_15 : decode cL_callIn 15 = .ok (.lastore, 1) := by decide +kernel
theorem dL_callIn_16 : decode cL_callIn 16 = .ok (.goto 9, 3) := by decide +kernel
theorem dL_callIn_19 : decode cL_callIn 19 = .ok (.astore_n 3, 1) := by decide +kernel
theorem dL_callIn_20 : decode cL_callIn 20 = .ok (.iconst 1, 1) := by decide +kernel
theorem dL_callIn_21 : decode cL_callIn 21 = .ok (.ireturn, 1) := by decide +kernel
theorem dL_callIn_22 : decode cL_callIn 22 = .ok (.astore_n 3, 1) := by decide +kernel
theorem dL_callIn_23 : decode cL_callIn 23 = .ok (.iconst 2, 1) := by decide +kernel
theorem dL_callIn_24 : decode cL_callIn 24 = .ok (.ireturn, 1) := by decide +kernel
theorem dL_callIn_25 : decode cL_callIn 25 = .ok (.iconst 0, 1) := by decide +kernel
theorem dL_callIn_26 : decode cL_callIn 26 = .ok (.ireturn, 1) := by decide +kernel
theorem dL_pair_0 : decode cL_pair 0 = .ok (.aload_n 3, 1) := by decide +kernel
theorem dL_pair_1 : decode cL_pair 1 = .ok (.iconst 0, 1) := by decide +kernel
theorem dL_pair_2 : decode cL_pair 2 = .ok (.aload_n 0, 1) := by decide +kernel
theorem dL_pair_3 : decode cL_pair 3 = .ok (.iload_n 1, 1) := by decide +kernel
theorem dL_pair_4 : decode cL_pair 4 = .ok (.iload_n 2, 1) := by decide +kernel
theorem dL_pair_5 : decode cL_pair 5 = .ok (.invokevirtual 27, 3) := by decide +kernel
theorem dL_pair_8 : decode cL_pair 8 = .ok (.i2l, 1) := by decide +kernel
theorem dL_pair_9 : decode cL_pair 9 = .ok (.lastore, 1) := by decide +kernel
theorem dL_pair_10 : decode cL_pair 10 = .ok (.goto 11, 3) := by decide +kernel
theorem dL_pair_13 : decode cL_pair 13 = .ok (.astore 4, 2) := by decide +kernel
theorem dL_pair_15 : decode cL_pair 15 = .ok (.iconst 1, 1) := by decide +kernel
theorem dL_pair_16 : decode cL_pair 16 = .ok (.ireturn, 1) := by decide +kernel
theorem dL_pair_17 : decode cL_pair 17 = .ok (.astore 4, 2) := by decide +kernel
theorem dL_pair_19 : decode cL_pair 19 = .ok (.iconst 2, 1) := by decide +kernel
theorem dL_pair_20 : decode cL_pair 20 = .ok (.ireturn, 1) := by decide +kernel
theorem dL_pair_21 : decode cL_pair 21 = .ok (.iconst 0, 1) := by decide +kernel
theorem dL_pair_22 : decode cL_pair 22 = .ok (.ireturn, 1) := by decide +kernel
theorem dL_setLimit_0 : decode cL_setLimit 0 = .ok (.aload_n 3, 1) := by decide +kernel
theorem dL_setLimit_1 : decode cL_setLimit 1 = .ok (.iconst 0, 1) := by decide +kernel
theorem dL_setLimit_2 : decode cL_setLimit 2 = .ok (.aload_n 0, 1) := by decide +kernel
theorem dL_setLimit_3 : decode cL_setLimit 3 = .ok (.iload_n 1, 1) := by decide +kernel
theorem dL_setLimit_4 : decode cL_setLimit 4 = .ok (.iload_n 2, 1) := by decide +kernel
theorem dL_setLimit_5 : decode cL_setLimit 5 = .ok (.invokevirtual 30, 3) := by decide +kernel
theorem dL_setLimit_8 : decode cL_setLimit 8 = .ok (.i2l, 1) := by decide +kernel
theorem dL_setLimit_9 : decode cL_setLimit 9 = .ok (.lastore, 1) := by decide +kernel
theorem dL_setLimit_10 : decode cL_setLimit 10 = .ok (.goto 11, 3) := by decide +kernel
theorem dL_setLimit_13 : decode cL_setLimit 13 = .ok (.astore 4, 2) := by decide +kernel
theorem dL_setLimit_15 : decode cL_setLimit 15 = .ok (.iconst 1, 1) := by decide +kernel
theorem dL_setLimit_16 : decode cL_setLimit 16 = .ok (.ireturn, 1) := by decide +kernel
theorem dL_setLimit_17 : decode cL_setLimit 17 = .ok (.astore 4, 2) := by decide +kernel
theorem dL_setLimit_19 : decode cL_setLimit 19 = .ok (.iconst 2, 1) := by decide +kernel
theorem dL_setLimit_20 : decode cL_setLimit 20 = .ok (.ireturn, 1) := by decide +kernel
theorem dL_setLimit_21 : decode cL_setLimit 21 = .ok (.iconst 0, 1) := by decide +kernel
theorem dL_setLimit_22 : decode cL_setLimit 22 = .ok (.ireturn, 1) := by decide +kernel
theorem dL_setLaps_0 : decode cL_setLaps 0 = .ok (.aload_n 2, 1) := by decide +kernel
theorem dL_setLaps_1 : decode cL_setLaps 1 = .ok (.iconst 0, 1) := by decide +kernel
theorem dL_setLaps_2 : decode cL_setLaps 2 = .ok (.aload_n 0, 1) := by decide +kernel
theorem dL_setLaps_3 : decode cL_setLaps 3 = .ok (.iload_n 1, 1) := by decide +kernel
theorem dL_setLaps_4 : decode cL_setLaps 4 = .ok (.invokevirtual 33, 3) := by decide +kernel
theorem dL_setLaps_7 : decode cL_setLaps 7 = .ok (.i2l, 1) := by decide +kernel
theorem dL_setLaps_8 : decode cL_setLaps 8 = .ok (.lastore, 1) := by decide +kernel
theorem dL_setLaps_9 : decode cL_setLaps 9 = .ok (.goto 9, 3) := by decide +kernel
theorem dL_setLaps_12 : decode cL_setLaps 12 = .ok (.astore_n 3, 1) := by decide +kernel
theorem dL_setLaps_13 : decode cL_setLaps 13 = .ok (.iconst 1, 1) := by decide +kernel
theorem dL_setLaps_14 : decode cL_setLaps 14 = .ok (.ireturn, 1) := by decide +kernel
theorem dL_setLaps_15 : decode cL_setLaps 15 = .ok (.astore_n 3, 1) := by decide +kernel
theorem dL_setLaps_16 : decode cL_setLaps 16 = .ok (.iconst 2, 1) := by decide +kernel
theorem dL_setLaps_17 : decode cL_setLaps 17 = .ok (.ireturn, 1) := by decide +kernel
theorem dL_setLaps_18 : decode cL_setLaps 18 = .ok (.iconst 0, 1) := by decide +kernel
theorem dL_setLaps_19 : decode cL_setLaps 19 = .ok (.ireturn, 1) := by decide +kernel
theorem dL_begin_0 : decode cL_begin 0 = .ok (.aload_n 1, 1) := by decide +kernel
theorem dL_begin_1 : decode cL_begin 1 = .ok (.iconst 0, 1) := by decide +kernel
theorem dL_begin_2 : decode cL_begin 2 = .ok (.aload_n 0, 1) := by decide +kernel
theorem dL_begin_3 : decode cL_begin 3 = .ok (.invokevirtual 37, 3) := by decide +kernel
theorem dL_begin_6 : decode cL_begin 6 = .ok (.i2l, 1) := by decide +kernel
theorem dL_begin_7 : decode cL_begin 7 = .ok (.lastore, 1) := by decide +kernel
theorem dL_begin_8 : decode cL_begin 8 = .ok (.goto 6, 3) := by decide +kernel
theorem dL_begin_11 : decode cL_begin 11 = .ok (.astore_n 2, 1) := by decide +kernel
theorem dL_begin_12 : decode cL_begin 12 = .ok (.iconst 1, 1) := by decide +kernel
theorem dL_begin_13 : decode cL_begin 13 = .ok (.ireturn, 1) := by decide +kernel
theorem dL_begin_14 : decode cL_begin 14 = .ok (.iconst 0, 1) := by decide +kernel
theorem dL_begin_15 : decode cL_begin 15 = .ok (.ireturn, 1) := by decide +kernel
theorem dL_pass_0 : decode cL_pass 0 = .ok (.aload_n 2, 1) := by decide +kernel
theorem dL_pass_1 : decode cL_pass 1 = .ok (.iconst 0, 1) := by decide +kernel
theorem dL_pass_2 : decode cL_pass 2 = .ok (.aload_n 0, 1) := by decide +kernel
theorem dL_pass_3 : decode cL_pass 3 = .ok (.iload_n 1, 1) := by decide +kernel
theorem dL_pass_4 : decode cL_pass 4 = .ok (.invokevirtual 41, 3) := by decide +kernel
theorem dL_pass_7 : decode cL_pass 7 = .ok (.i2l, 1) := by decide +kernel
theorem dL_pass_8 : decode cL_pass 8 = .ok (.lastore, 1) := by decide +kernel
theorem dL_pass_9 : decode cL_pass 9 = .ok (.goto 9, 3) := by decide +kernel
theorem dL_pass_12 : decode cL_pass 12 = .ok (.astore_n 3, 1) := by decide +kernel
theorem dL_pass_13 : decode cL_pass 13 = .ok (.iconst 1, 1) := by decide +kernel
theorem dL_pass_14 : decode cL_pass 14 = .ok (.ireturn, 1) := by decide +kernel
theorem dL_pass_15 : decode cL_pass 15 = .ok (.astore_n 3, 1) := by decide +kernel
theorem dL_pass_16 : decode cL_pass 16 = .ok (.iconst 2, 1) := by decide +kernel
theorem dL_pass_17 : decode cL_pass 17 = .ok (.ireturn, 1) := by decide +kernel
theorem dL_pass_18 : decode cL_pass 18 = .ok (.iconst 0, 1) := by decide +kernel
theorem dL_pass_19 : decode cL_pass 19 = .ok (.ireturn, 1) := by decide +kernel
theorem dL_append_0 : decode cL_append 0 = .ok (.aload_n 2, 1) := by decide +kernel
theorem dL_append_1 : decode cL_append 1 = .ok (.iconst 0, 1) := by decide +kernel
theorem dL_append_2 : decode cL_append 2 = .ok (.aload_n 0, 1) := by decide +kernel
theorem dL_append_3 : decode cL_append 3 = .ok (.iload_n 1, 1) := by decide +kernel
theorem dL_append_4 : decode cL_append 4 = .ok (.invokevirtual 44, 3) := by decide +kernel
theorem dL_append_7 : decode cL_append 7 = .ok (.i2l, 1) := by decide +kernel
theorem dL_append_8 : decode cL_append 8 = .ok (.lastore, 1) := by decide +kernel
theorem dL_append_9 : decode cL_append 9 = .ok (.goto 9, 3) := by decide +kernel
theorem dL_append_12 : decode cL_append 12 = .ok (.astore_n 3, 1) := by decide +kernel
theorem dL_append_13 : decode cL_append 13 = .ok (.iconst 1, 1) := by decide +kernel
theorem dL_append_14 : decode cL_append 14 = .ok (.ireturn, 1) := by decide +kernel
theorem dL_append_15 : decode cL_append 15 = .ok (.astore_n 3, 1) := by decide +kernel
theorem dL_append_16 : decode cL_append 16 = .ok (.iconst 2, 1) := by decide +kernel
theorem dL_append_17 : decode cL_append 17 = .ok (.ireturn, 1) := by decide +kernel
theorem dL_append_18 : decode cL_append 18 = .ok (.iconst 0, 1) := by decide +kernel
theorem dL_append_19 : decode cL_append 19 = .ok (.ireturn, 1) := by decide +kernel
theorem dL_follow_0 : decode cL_follow 0 = .ok (.aload_n 1, 1) := by decide +kernel
theorem dL_follow_1 : decode cL_follow 1 = .ok (.iconst 0, 1) := by decide +kernel
theorem dL_follow_2 : decode cL_follow 2 = .ok (.aload_n 0, 1) := by decide +kernel
theorem dL_follow_3 : decode cL_follow 3 = .ok (.invokevirtual 47, 3) := by decide +kernel
theorem dL_follow_6 : decode cL_follow 6 = .ok (.i2l, 1) := by decide +kernel
theorem dL_follow_7 : decode cL_follow 7 = .ok (.lastore, 1) := by decide +kernel
theorem dL_follow_8 : decode cL_follow 8 = .ok (.goto 9, 3) := by decide +kernel
theorem dL_follow_11 : decode cL_follow 11 = .ok (.astore_n 2, 1) := by decide +kernel
theorem dL_follow_12 : decode cL_follow 12 = .ok (.iconst 1, 1) := by decide +kernel
theorem dL_follow_13 : decode cL_follow 13 = .ok (.ireturn, 1) := by decide +kernel
theorem dL_follow_14 : decode cL_follow 14 = .ok (.astore_n 2, 1) := by decide +kernel
theorem dL_follow_15 : decode cL_follow 15 = .ok (.iconst 2, 1) := by decide +kernel
theorem dL_follow_16 : decode cL_follow 16 = .ok (.ireturn, 1) := by decide +kernel
theorem dL_follow_17 : decode cL_follow 17 = .ok (.iconst 0, 1) := by decide +kernel
theorem dL_follow_18 : decode cL_follow 18 = .ok (.ireturn, 1) := by decide +kernel
theorem dL_keep_0 : decode cL_keep 0 = .ok (.aload_n 0, 1) := by decide +kernel
theorem dL_keep_1 : decode cL_keep 1 = .ok (.iload_n 1, 1) := by decide +kernel
theorem dL_keep_2 : decode cL_keep 2 = .ok (.invokevirtual 50, 3) := by decide +kernel
theorem dL_keep_5 : decode cL_keep 5 = .ok (.goto 6, 3) := by decide +kernel
theorem dL_keep_8 : decode cL_keep 8 = .ok (.astore_n 2, 1) := by decide +kernel
theorem dL_keep_9 : decode cL_keep 9 = .ok (.iconst 1, 1) := by decide +kernel
theorem dL_keep_10 : decode cL_keep 10 = .ok (.ireturn, 1) := by decide +kernel
theorem dL_keep_11 : decode cL_keep 11 = .ok (.iconst 0, 1) := by decide +kernel
theorem dL_keep_12 : decode cL_keep 12 = .ok (.ireturn, 1) := by decide +kernel
theorem dL_goBack_0 : decode cL_goBack 0 = .ok (.aload_n 0, 1) := by decide +kernel
theorem dL_goBack_1 : decode cL_goBack 1 = .ok (.iload_n 1, 1) := by decide +kernel
theorem dL_goBack_2 : decode cL_goBack 2 = .ok (.invokevirtual 54, 3) := by decide +kernel
theorem dL_goBack_5 : decode cL_goBack 5 = .ok (.goto 9, 3) := by decide +kernel
theorem dL_goBack_8 : decode cL_goBack 8 = .ok (.astore_n 2, 1) := by decide +kernel
theorem dL_goBack_9 : decode cL_goBack 9 = .ok (.iconst 1, 1) := by decide +kernel
theorem dL_goBack_10 : decode cL_goBack 10 = .ok (.ireturn, 1) := by decide +kernel
theorem dL_goBack_11 : decode cL_goBack 11 = .ok (.astore_n 2, 1) := by decide +kernel
theorem dL_goBack_12 : decode cL_goBack 12 = .ok (.iconst 2, 1) := by decide +kernel
theorem dL_goBack_13 : decode cL_goBack 13 = .ok (.ireturn, 1) := by decide +kernel
theorem dL_goBack_14 : decode cL_goBack 14 = .ok (.iconst 0, 1) := by decide +kernel
theorem dL_goBack_15 : decode cL_goBack 15 = .ok (.ireturn, 1) := by decide +kernel
theorem dL_undo_0 : decode cL_undo 0 = .ok (.aload_n 0, 1) := by decide +kernel
theorem dL_undo_1 : decode cL_undo 1 = .ok (.invokevirtual 57, 3) := by decide +kernel
theorem dL_undo_4 : decode cL_undo 4 = .ok (.goto 6, 3) := by decide +kernel
theorem dL_undo_7 : decode cL_undo 7 = .ok (.astore_n 1, 1) := by decide +kernel
theorem dL_undo_8 : decode cL_undo 8 = .ok (.iconst 1, 1) := by decide +kernel
theorem dL_undo_9 : decode cL_undo 9 = .ok (.ireturn, 1) := by decide +kernel
theorem dL_undo_10 : decode cL_undo 10 = .ok (.iconst 0, 1) := by decide +kernel
theorem dL_undo_11 : decode cL_undo 11 = .ok (.ireturn, 1) := by decide +kernel
theorem dL_flown_0 : decode cL_flown 0 = .ok (.aload_n 2, 1) := by decide +kernel
theorem dL_flown_1 : decode cL_flown 1 = .ok (.iconst 0, 1) := by decide +kernel
theorem dL_flown_2 : decode cL_flown 2 = .ok (.aload_n 0, 1) := by decide +kernel
theorem dL_flown_3 : decode cL_flown 3 = .ok (.iload_n 1, 1) := by decide +kernel
theorem dL_flown_4 : decode cL_flown 4 = .ok (.invokevirtual 60, 3) := by decide +kernel
theorem dL_flown_7 : decode cL_flown 7 = .ok (.i2l, 1) := by decide +kernel
theorem dL_flown_8 : decode cL_flown 8 = .ok (.lastore, 1) := by decide +kernel
theorem dL_flown_9 : decode cL_flown 9 = .ok (.goto 6, 3) := by decide +kernel
theorem dL_flown_12 : decode cL_flown 12 = .ok (.astore_n 3, 1) := by decide +kernel
theorem dL_flown_13 : decode cL_flown 13 = .ok (.iconst 1, 1) := by decide +kernel
theorem dL_flown_14 : decode cL_flown 14 = .ok (.ireturn, 1) := by decide +kernel
theorem dL_flown_15 : decode cL_flown 15 = .ok (.iconst 0, 1) := by decide +kernel
theorem dL_flown_16 : decode cL_flown 16 = .ok (.ireturn, 1) := by decide +kernel
theorem dL_lapsOf_0 : decode cL_lapsOf 0 = .ok (.aload_n 2, 1) := by decide +kernel
theorem dL_lapsOf_1 : decode cL_lapsOf 1 = .ok (.iconst 0, 1) := by decide +kernel
theorem dL_lapsOf_2 : decode cL_lapsOf 2 = .ok (.aload_n 0, 1) := by decide +kernel
theorem dL_lapsOf_3 : decode cL_lapsOf 3 = .ok (.iload_n 1, 1) := by decide +kernel
theorem dL_lapsOf_4 : decode cL_lapsOf 4 = .ok (.invokevirtual 63, 3) := by decide +kernel
theorem dL_lapsOf_7 : decode cL_lapsOf 7 = .ok (.i2l, 1) := by decide +kernel
theorem dL_lapsOf_8 : decode cL_lapsOf 8 = .ok (.lastore, 1) := by decide +kernel
theorem dL_lapsOf_9 : decode cL_lapsOf 9 = .ok (.goto 6, 3) := by decide +kernel
theorem dL_lapsOf_12 : decode cL_lapsOf 12 = .ok (.astore_n 3, 1) := by decide +kernel
theorem dL_lapsOf_13 : decode cL_lapsOf 13 = .ok (.iconst 1, 1) := by decide +kernel
theorem dL_lapsOf_14 : decode cL_lapsOf 14 = .ok (.ireturn, 1) := by decide +kernel
theorem dL_lapsOf_15 : decode cL_lapsOf 15 = .ok (.iconst 0, 1) := by decide +kernel
theorem dL_lapsOf_16 : decode cL_lapsOf 16 = .ok (.ireturn, 1) := by decide +kernel
theorem dL_speedOf_0 : decode cL_speedOf 0 = .ok (.aload_n 2, 1) := by decide +kernel
theorem dL_speedOf_1 : decode cL_speedOf 1 = .ok (.iconst 0, 1) := by decide +kernel
theorem dL_speedOf_2 : decode cL_speedOf 2 = .ok (.aload_n 0, 1) := by decide +kernel
theorem dL_speedOf_3 : decode cL_speedOf 3 = .ok (.iload_n 1, 1) := by decide +kernel
theorem dL_speedOf_4 : decode cL_speedOf 4 = .ok (.invokevirtual 66, 3) := by decide +kernel
theorem dL_speedOf_7 : decode cL_speedOf 7 = .ok (.i2l, 1) := by decide +kernel
theorem dL_speedOf_8 : decode cL_speedOf 8 = .ok (.lastore, 1) := by decide +kernel
theorem dL_speedOf_9 : decode cL_speedOf 9 = .ok (.goto 6, 3) := by decide +kernel
theorem dL_speedOf_12 : decode cL_speedOf 12 = .ok (.astore_n 3, 1) := by decide +kernel
theorem dL_speedOf_13 : decode cL_speedOf 13 = .ok (.iconst 1, 1) := by decide +kernel
theorem dL_speedOf_14 : decode cL_speedOf 14 = .ok (.ireturn, 1) := by decide +kernel
theorem dL_speedOf_15 : decode cL_speedOf 15 = .ok (.iconst 0, 1) := by decide +kernel
theorem dL_speedOf_16 : decode cL_speedOf 16 = .ok (.ireturn, 1) := by decide +kernel
theorem dL_strengthOf_0 : decode cL_strengthOf 0 = .ok (.aload_n 2, 1) := by decide +kernel
theorem dL_strengthOf_1 : decode cL_strengthOf 1 = .ok (.iconst 0, 1) := by decide +kernel
theorem dL_strengthOf_2 : decode cL_strengthOf 2 = .ok (.aload_n 0, 1) := by decide +kernel
theorem dL_strengthOf_3 : decode cL_strengthOf 3 = .ok (.iload_n 1, 1) := by decide +kernel
theorem dL_strengthOf_4 : decode cL_strengthOf 4 = .ok (.invokevirtual 69, 3) := by decide +kernel
theorem dL_strengthOf_7 : decode cL_strengthOf 7 = .ok (.i2l, 1) := by decide +kernel
theorem dL_strengthOf_8 : decode cL_strengthOf 8 = .ok (.lastore, 1) := by decide +kernel
theorem dL_strengthOf_9 : decode cL_strengthOf 9 = .ok (.goto 6, 3) := by decide +kernel
theorem dL_strengthOf_12 : decode cL_strengthOf 12 = .ok (.astore_n 3, 1) := by decide +kernel
theorem dL_strengthOf_13 : decode cL_strengthOf 13 = .ok (.iconst 1, 1) := by decide +kernel
theorem dL_strengthOf_14 : decode cL_strengthOf 14 = .ok (.ireturn, 1) := by decide +kernel
theorem dL_strengthOf_15 : decode cL_strengthOf 15 = .ok (.iconst 0, 1) := by decide +kernel
theorem dL_strengthOf_16 : decode cL_strengthOf 16 = .ok (.ireturn, 1) := by decide +kernel
theorem dL_wearOf_0 : decode cL_wearOf 0 = .ok (.aload_n 2, 1) := by decide +kernel
theorem dL_wearOf_1 : decode cL_wearOf 1 = .ok (.iconst 0, 1) := by decide +kernel
theorem dL_wearOf_2 : decode cL_wearOf 2 = .ok (.aload_n 0, 1) := by decide +kernel
theorem dL_wearOf_3 : decode cL_wearOf 3 = .ok (.iload_n 1, 1) := by decide +kernel
theorem dL_wearOf_4 : decode cL_wearOf 4 = .ok (.invokevirtual 72, 3) := by decide +kernel
theorem dL_wearOf_7 : decode cL_wearOf 7 = .ok (.i2l, 1) := by decide +kernel
theorem dL_wearOf_8 : decode cL_wearOf 8 = .ok (.lastore, 1) := by decide +kernel
theorem dL_wearOf_9 : decode cL_wearOf 9 = .ok (.goto 6, 3) := by decide +kernel
theorem dL_wearOf_12 : decode cL_wearOf 12 = .ok (.astore_n 3, 1) := by decide +kernel
theorem dL_wearOf_13 : decode cL_wearOf 13 = .ok (.iconst 1, 1) := by decide +kernel
theorem dL_wearOf_14 : decode cL_wearOf 14 = .ok (.ireturn, 1) := by decide +kernel
theorem dL_wearOf_15 : decode cL_wearOf 15 = .ok (.iconst 0, 1) := by decide +kernel
theorem dL_wearOf_16 : decode cL_wearOf 16 = .ok (.ireturn, 1) := by decide +kernel
theorem dL_laneOf_0 : decode cL_laneOf 0 = .ok (.aload_n 2, 1) := by decide +kernel
theorem dL_laneOf_1 : decode cL_laneOf 1 = .ok (.iconst 0, 1) := by decide +kernel
theorem dL_laneOf_2 : decode cL_laneOf 2 = .ok (.aload_n 0, 1) := by decide +kernel
theorem dL_laneOf_3 : decode cL_laneOf 3 = .ok (.iload_n 1, 1) := by decide +kernel
theorem dL_laneOf_4 : decode cL_laneOf 4 = .ok (.invokevirtual 75, 3) := by decide +kernel
theorem dL_laneOf_7 : decode cL_laneOf 7 = .ok (.i2l, 1) := by decide +kernel
theorem dL_laneOf_8 : decode cL_laneOf 8 = .ok (.lastore, 1) := by decide +kernel
theorem dL_laneOf_9 : decode cL_laneOf 9 = .ok (.goto 6, 3) := by decide +kernel
theorem dL_laneOf_12 : decode cL_laneOf 12 = .ok (.astore_n 3, 1) := by decide +kernel
theorem dL_laneOf_13 : decode cL_laneOf 13 = .ok (.iconst 1, 1) := by decide +kernel
theorem dL_laneOf_14 : decode cL_laneOf 14 = .ok (.ireturn, 1) := by decide +kernel
theorem dL_laneOf_15 : decode cL_laneOf 15 = .ok (.iconst 0, 1) := by decide +kernel
theorem dL_laneOf_16 : decode cL_laneOf 16 = .ok (.ireturn, 1) := by decide +kernel
theorem dL_stateOf_0 : decode cL_stateOf 0 = .ok (.aload_n 2, 1) := by decide +kernel
theorem dL_stateOf_1 : decode cL_stateOf 1 = .ok (.iconst 0, 1) := by decide +kernel
theorem dL_stateOf_2 : decode cL_stateOf 2 = .ok (.aload_n 0, 1) := by decide +kernel
theorem dL_stateOf_3 : decode cL_stateOf 3 = .ok (.iload_n 1, 1) := by decide +kernel
theorem dL_stateOf_4 : decode cL_stateOf 4 = .ok (.invokevirtual 78, 3) := by decide +kernel
theorem dL_stateOf_7 : decode cL_stateOf 7 = .ok (.i2l, 1) := by decide +kernel
theorem dL_stateOf_8 : decode cL_stateOf 8 = .ok (.lastore, 1) := by decide +kernel
theorem dL_stateOf_9 : decode cL_stateOf 9 = .ok (.goto 6, 3) := by decide +kernel
theorem dL_stateOf_12 : decode cL_stateOf 12 = .ok (.astore_n 3, 1) := by decide +kernel
theorem dL_stateOf_13 : decode cL_stateOf 13 = .ok (.iconst 1, 1) := by decide +kernel
theorem dL_stateOf_14 : decode cL_stateOf 14 = .ok (.ireturn, 1) := by decide +kernel
theorem dL_stateOf_15 : decode cL_stateOf 15 = .ok (.iconst 0, 1) := by decide +kernel
theorem dL_stateOf_16 : decode cL_stateOf 16 = .ok (.ireturn, 1) := by decide +kernel
theorem dL_paceOf_0 : decode cL_paceOf 0 = .ok (.aload_n 2, 1) := by decide +kernel
theorem dL_paceOf_1 : decode cL_paceOf 1 = .ok (.iconst 0, 1) := by decide +kernel
theorem dL_paceOf_2 : decode cL_paceOf 2 = .ok (.aload_n 0, 1) := by decide +kernel
theorem dL_paceOf_3 : decode cL_paceOf 3 = .ok (.iload_n 1, 1) := by decide +kernel
theorem dL_paceOf_4 : decode cL_paceOf 4 = .ok (.invokevirtual 81, 3) := by decide +kernel
theorem dL_paceOf_7 : decode cL_paceOf 7 = .ok (.i2l, 1) := by decide +kernel
theorem dL_paceOf_8 : decode cL_paceOf 8 = .ok (.lastore, 1) := by decide +kernel
theorem dL_paceOf_9 : decode cL_paceOf 9 = .ok (.goto 6, 3) := by decide +kernel
theorem dL_paceOf_12 : decode cL_paceOf 12 = .ok (.astore_n 3, 1) := by decide +kernel
theorem dL_paceOf_13 : decode cL_paceOf 13 = .ok (.iconst 1, 1) := by decide +kernel
theorem dL_paceOf_14 : decode cL_paceOf 14 = .ok (.ireturn, 1) := by decide +kernel
theorem dL_paceOf_15 : decode cL_paceOf 15 = .ok (.iconst 0, 1) := by decide +kernel
theorem dL_paceOf_16 : decode cL_paceOf 16 = .ok (.ireturn, 1) := by decide +kernel
theorem dL_partnerOf_0 : decode cL_partnerOf 0 = .ok (.aload_n 2, 1) := by decide +kernel
theorem dL_partnerOf_1 : decode cL_partnerOf 1 = .ok (.iconst 0, 1) := by decide +kernel
theorem dL_partnerOf_2 : decode cL_partnerOf 2 = .ok (.aload_n 0, 1) := by decide +kernel
theorem dL_partnerOf_3 : decode cL_partnerOf 3 = .ok (.iload_n 1, 1) := by decide +kernel
theorem dL_partnerOf_4 : decode cL_partnerOf 4 = .ok (.invokevirtual 84, 3) := by decide +kernel
theorem dL_partnerOf_7 : decode cL_partnerOf 7 = .ok (.i2l, 1) := by decide +kernel
theorem dL_partnerOf_8 : decode cL_partnerOf 8 = .ok (.lastore, 1) := by decide +kernel
theorem dL_partnerOf_9 : decode cL_partnerOf 9 = .ok (.goto 9, 3) := by decide +kernel
theorem dL_partnerOf_12 : decode cL_partnerOf 12 = .ok (.astore_n 3, 1) := by decide +kernel
theorem dL_partnerOf_13 : decode cL_partnerOf 13 = .ok (.iconst 1, 1) := by decide +kernel
theorem dL_partnerOf_14 : decode cL_partnerOf 14 = .ok (.ireturn, 1) := by decide +kernel
theorem dL_partnerOf_15 : decode cL_partnerOf 15 = .ok (.astore_n 3, 1) := by decide +kernel
theorem dL_partnerOf_16 : decode cL_partnerOf 16 = .ok (.iconst 2, 1) := by decide +kernel
theorem dL_partnerOf_17 : decode cL_partnerOf 17 = .ok (.ireturn, 1) := by decide +kernel
theorem dL_partnerOf_18 : decode cL_partnerOf 18 = .ok (.iconst 0, 1) := by decide +kernel
theorem dL_partnerOf_19 : decode cL_partnerOf 19 = .ok (.ireturn, 1) := by decide +kernel
theorem dL_isCalledIn_0 : decode cL_isCalledIn 0 = .ok (.aload_n 2, 1) := by decide +kernel
theorem dL_isCalledIn_1 : decode cL_isCalledIn 1 = .ok (.iconst 0, 1) := by decide +kernel
theorem dL_isCalledIn_2 : decode cL_isCalledIn 2 = .ok (.aload_n 0, 1) := by decide +kernel
theorem dL_isCalledIn_3 : decode cL_isCalledIn 3 = .ok (.iload_n 1, 1) := by decide +kernel
theorem dL_isCalledIn_4 : decode cL_isCalledIn 4 = .ok (.invokevirtual 87, 3) := by decide +kernel
theorem dL_isCalledIn_7 : decode cL_isCalledIn 7 = .ok (.ifCond .eq 7, 3) := by decide +kernel
theorem dL_isCalledIn_10 : decode cL_isCalledIn 10 = .ok (.lconst 1, 1) := by decide +kernel
theorem dL_isCalledIn_11 : decode cL_isCalledIn 11 = .ok (.goto 4, 3) := by decide +kernel
theorem dL_isCalledIn_14 : decode cL_isCalledIn 14 = .ok (.lconst 0, 1) := by decide +kernel
theorem dL_isCalledIn_15 : decode cL_isCalledIn 15 = .ok (.lastore, 1) := by decide +kernel
theorem dL_isCalledIn_16 : decode cL_isCalledIn 16 = .ok (.goto 6, 3) := by decide +kernel
theorem dL_isCalledIn_19 : decode cL_isCalledIn 19 = .ok (.astore_n 3, 1) := by decide +kernel
theorem dL_isCalledIn_20 : decode cL_isCalledIn 20 = .ok (.iconst 1, 1) := by decide +kernel
theorem dL_isCalledIn_21 : decode cL_isCalledIn 21 = .ok (.ireturn, 1) := by decide +kernel
theorem dL_isCalledIn_22 : decode cL_isCalledIn 22 = .ok (.iconst 0, 1) := by decide +kernel
theorem dL_isCalledIn_23 : decode cL_isCalledIn 23 = .ok (.ireturn, 1) := by decide +kernel
theorem dL_limitOf_0 : decode cL_limitOf 0 = .ok (.aload_n 2, 1) := by decide +kernel
theorem dL_limitOf_1 : decode cL_limitOf 1 = .ok (.iconst 0, 1) := by decide +kernel
theorem dL_limitOf_2 : decode cL_limitOf 2 = .ok (.aload_n 0, 1) := by decide +kernel
theorem dL_limitOf_3 : decode cL_limitOf 3 = .ok (.iload_n 1, 1) := by decide +kernel
theorem dL_limitOf_4 : decode cL_limitOf 4 = .ok (.invokevirtual 90, 3) := by decide +kernel
theorem dL_limitOf_7 : decode cL_limitOf 7 = .ok (.i2l, 1) := by decide +kernel
theorem dL_limitOf_8 : decode cL_limitOf 8 = .ok (.lastore, 1) := by decide +kernel
theorem dL_limitOf_9 : decode cL_limitOf 9 = .ok (.goto 6, 3) := by decide +kernel
theorem dL_limitOf_12 : decode cL_limitOf 12 = .ok (.astore_n 3, 1) := by decide +kernel
theorem dL_limitOf_13 : decode cL_limitOf 13 = .ok (.iconst 1, 1) := by decide +kernel
theorem dL_limitOf_14 : decode cL_limitOf 14 = .ok (.ireturn, 1) := by decide +kernel
theorem dL_limitOf_15 : decode cL_limitOf 15 = .ok (.iconst 0, 1) := by decide +kernel
theorem dL_limitOf_16 : decode cL_limitOf 16 = .ok (.ireturn, 1) := by decide +kernel
theorem dL_placeByCounting_0 : decode cL_placeByCounting 0 = .ok (.aload_n 2, 1) := by decide +kernel
theorem dL_placeByCounting_1 : decode cL_placeByCounting 1 = .ok (.iconst 0, 1) := by decide +kernel
theorem dL_placeByCounting_2 : decode cL_placeByCounting 2 = .ok (.aload_n 0, 1) := by decide +kernel
theorem dL_placeByCounting_3 : decode cL_placeByCounting 3 = .ok (.iload_n 1, 1) := by decide +kernel
theorem dL_placeByCounting_4 : decode cL_placeByCounting 4 = .ok (.invokevirtual 93, 3) := by decide +kernel
theorem dL_placeByCounting_7 : decode cL_placeByCounting 7 = .ok (.i2l, 1) := by decide +kernel
theorem dL_placeByCounting_8 : decode cL_placeByCounting 8 = .ok (.lastore, 1) := by decide +kernel
theorem dL_placeByCounting_9 : decode cL_placeByCounting 9 = .ok (.goto 6, 3) := by decide +kernel
theorem dL_placeByCounting_12 : decode cL_placeByCounting 12 = .ok (.astore_n 3, 1) := by decide +kernel
theorem dL_placeByCounting_13 : decode cL_placeByCounting 13 = .ok (.iconst 1, 1) := by decide +kernel
theorem dL_placeByCounting_14 : decode cL_placeByCounting 14 = .ok (.ireturn, 1) := by decide +kernel
theorem dL_placeByCounting_15 : decode cL_placeByCounting 15 = .ok (.iconst 0, 1) := by decide +kernel
theorem dL_placeByCounting_16 : decode cL_placeByCounting 16 = .ok (.ireturn, 1) := by decide +kernel
theorem dL_birdByOrder_0 : decode cL_birdByOrder 0 = .ok (.aload_n 2, 1) := by decide +kernel
theorem dL_birdByOrder_1 : decode cL_birdByOrder 1 = .ok (.iconst 0, 1) := by decide +kernel
theorem dL_birdByOrder_2 : decode cL_birdByOrder 2 = .ok (.aload_n 0, 1) := by decide +kernel
theorem dL_birdByOrder_3 : decode cL_birdByOrder 3 = .ok (.iload_n 1, 1) := by decide +kernel
theorem dL_birdByOrder_4 : decode cL_birdByOrder 4 = .ok (.invokevirtual 96, 3) := by decide +kernel
theorem dL_birdByOrder_7 : decode cL_birdByOrder 7 = .ok (.i2l, 1) := by decide +kernel
theorem dL_birdByOrder_8 : decode cL_birdByOrder 8 = .ok (.lastore, 1) := by decide +kernel
theorem dL_birdByOrder_9 : decode cL_birdByOrder 9 = .ok (.goto 6, 3) := by decide +kernel
theorem dL_birdByOrder_12 : decode cL_birdByOrder 12 = .ok (.astore_n 3, 1) := by decide +kernel
theorem dL_birdByOrder_13 : decode cL_birdByOrder 13 = .ok (.iconst 1, 1) := by decide +kernel
theorem dL_birdByOrder_14 : decode cL_birdByOrder 14 = .ok (.ireturn, 1) := by decide +kernel
theorem dL_birdByOrder_15 : decode cL_birdByOrder 15 = .ok (.iconst 0, 1) := by decide +kernel
theorem dL_birdByOrder_16 : decode cL_birdByOrder 16 = .ok (.ireturn, 1) := by decide +kernel
theorem dL_gapAhead_0 : decode cL_gapAhead 0 = .ok (.aload_n 2, 1) := by decide +kernel
theorem dL_gapAhead_1 : decode cL_gapAhead 1 = .ok (.iconst 0, 1) := by decide +kernel
theorem dL_gapAhead_2 : decode cL_gapAhead 2 = .ok (.aload_n 0, 1) := by decide +kernel
theorem dL_gapAhead_3 : decode cL_gapAhead 3 = .ok (.iload_n 1, 1) := by decide +kernel
theorem dL_gapAhead_4 : decode cL_gapAhead 4 = .ok (.invokevirtual 99, 3) := by decide +kernel
theorem dL_gapAhead_7 : decode cL_gapAhead 7 = .ok (.i2l, 1) := by decide +kernel
theorem dL_gapAhead_8 : decode cL_gapAhead 8 = .ok (.lastore, 1) := by decide +kernel
theorem dL_gapAhead_9 : decode cL_gapAhead 9 = .ok (.goto 6, 3) := by decide +kernel
theorem dL_gapAhead_12 : decode cL_gapAhead 12 = .ok (.astore_n 3, 1) := by decide +kernel
theorem dL_gapAhead_13 : decode cL_gapAhead 13 = .ok (.iconst 1, 1) := by decide +kernel
theorem dL_gapAhead_14 : decode cL_gapAhead 14 = .ok (.ireturn, 1) := by decide +kernel
theorem dL_gapAhead_15 : decode cL_gapAhead 15 = .ok (.iconst 0, 1) := by decide +kernel
theorem dL_gapAhead_16 : decode cL_gapAhead 16 = .ok (.ireturn, 1) := by decide +kernel
theorem dL_isDrafting_0 : decode cL_isDrafting 0 = .ok (.aload_n 2, 1) := by decide +kernel
theorem dL_isDrafting_1 : decode cL_isDrafting 1 = .ok (.iconst 0, 1) := by decide +kernel
theorem dL_isDrafting_2 : decode cL_isDrafting 2 = .ok (.aload_n 0, 1) := by decide +kernel
theorem dL_isDrafting_3 : decode cL_isDrafting 3 = .ok (.iload_n 1, 1) := by decide +kernel
theorem dL_isDrafting_4 : decode cL_isDrafting 4 = .ok (.invokevirtual 102, 3) := by decide +kernel
theorem dL_isDrafting_7 : decode cL_isDrafting 7 = .ok (.ifCond .eq 7, 3) := by decide +kernel
theorem dL_isDrafting_10 : decode cL_isDrafting 10 = .ok (.lconst 1, 1) := by decide +kernel
theorem dL_isDrafting_11 : decode cL_isDrafting 11 = .ok (.goto 4, 3) := by decide +kernel
theorem dL_isDrafting_14 : decode cL_isDrafting 14 = .ok (.lconst 0, 1) := by decide +kernel
theorem dL_isDrafting_15 : decode cL_isDrafting 15 = .ok (.lastore, 1) := by decide +kernel
theorem dL_isDrafting_16 : decode cL_isDrafting 16 = .ok (.goto 9, 3) := by decide +kernel
theorem dL_isDrafting_19 : decode cL_isDrafting 19 = .ok (.astore_n 3, 1) := by decide +kernel
theorem dL_isDrafting_20 : decode cL_isDrafting 20 = .ok (.iconst 1, 1) := by decide +kernel
theorem dL_isDrafting_21 : decode cL_isDrafting 21 = .ok (.ireturn, 1) := by decide +kernel
theorem dL_isDrafting_22 : decode cL_isDrafting 22 = .ok (.astore_n 3, 1) := by decide +kernel
theorem dL_isDrafting_23 : decode cL_isDrafting 23 = .ok (.iconst 2, 1) := by decide +kernel
theorem dL_isDrafting_24 : decode cL_isDrafting 24 = .ok (.ireturn, 1) := by decide +kernel
theorem dL_isDrafting_25 : decode cL_isDrafting 25 = .ok (.iconst 0, 1) := by decide +kernel
theorem dL_isDrafting_26 : decode cL_isDrafting 26 = .ok (.ireturn, 1) := by decide +kernel
theorem dL_whereIs_0 : decode cL_whereIs 0 = .ok (.aload_n 2, 1) := by decide +kernel
theorem dL_whereIs_1 : decode cL_whereIs 1 = .ok (.iconst 0, 1) := by decide +kernel
theorem dL_whereIs_2 : decode cL_whereIs 2 = .ok (.aload_n 0, 1) := by decide +kernel
theorem dL_whereIs_3 : decode cL_whereIs 3 = .ok (.iload_n 1, 1) := by decide +kernel
theorem dL_whereIs_4 : decode cL_whereIs 4 = .ok (.invokevirtual 105, 3) := by decide +kernel
theorem dL_whereIs_7 : decode cL_whereIs 7 = .ok (.i2l, 1) := by decide +kernel
theorem dL_whereIs_8 : decode cL_whereIs 8 = .ok (.lastore, 1) := by decide +kernel
theorem dL_whereIs_9 : decode cL_whereIs 9 = .ok (.goto 6, 3) := by decide +kernel
theorem dL_whereIs_12 : decode cL_whereIs 12 = .ok (.astore_n 3, 1) := by decide +kernel
theorem dL_whereIs_13 : decode cL_whereIs 13 = .ok (.iconst 1, 1) := by decide +kernel
theorem dL_whereIs_14 : decode cL_whereIs 14 = .ok (.ireturn, 1) := by decide +kernel
theorem dL_whereIs_15 : decode cL_whereIs 15 = .ok (.iconst 0, 1) := by decide +kernel
theorem dL_whereIs_16 : decode cL_whereIs 16 = .ok (.ireturn, 1) := by decide +kernel
theorem dL_allowance_0 : decode cL_allowance 0 = .ok (.aload_n 2, 1) := by decide +kernel
theorem dL_allowance_1 : decode cL_allowance 1 = .ok (.iconst 0, 1) := by decide +kernel
theorem dL_allowance_2 : decode cL_allowance 2 = .ok (.aload_n 0, 1) := by decide +kernel
theorem dL_allowance_3 : decode cL_allowance 3 = .ok (.iload_n 1, 1) := by decide +kernel
theorem dL_allowance_4 : decode cL_allowance 4 = .ok (.invokevirtual 108, 3) := by decide +kernel
theorem dL_allowance_7 : decode cL_allowance 7 = .ok (.i2l, 1) := by decide +kernel
theorem dL_allowance_8 : decode cL_allowance 8 = .ok (.lastore, 1) := by decide +kernel
theorem dL_allowance_9 : decode cL_allowance 9 = .ok (.goto 9, 3) := by decide +kernel
theorem dL_allowance_12 : decode cL_allowance 12 = .ok (.astore_n 3, 1) := by decide +kernel
theorem dL_allowance_13 : decode cL_allowance 13 = .ok (.iconst 1, 1) := by decide +kernel
theorem dL_allowance_14 : decode cL_allowance 14 = .ok (.ireturn, 1) := by decide +kernel
theorem dL_allowance_15 : decode cL_allowance 15 = .ok (.astore_n 3, 1) := by decide +kernel
theorem dL_allowance_16 : decode cL_allowance 16 = .ok (.iconst 2, 1) := by decide +kernel
theorem dL_allowance_17 : decode cL_allowance 17 = .ok (.ireturn, 1) := by decide +kernel
theorem dL_allowance_18 : decode cL_allowance 18 = .ok (.iconst 0, 1) := by decide +kernel
theorem dL_allowance_19 : decode cL_allowance 19 = .ok (.ireturn, 1) := by decide +kernel
theorem dL_wouldFly_0 : decode cL_wouldFly 0 = .ok (.aload_n 3, 1) := by decide +kernel
theorem dL_wouldFly_1 : decode cL_wouldFly 1 = .ok (.iconst 0, 1) := by decide +kernel
theorem dL_wouldFly_2 : decode cL_wouldFly 2 = .ok (.aload_n 0, 1) := by decide +kernel
theorem dL_wouldFly_3 : decode cL_wouldFly 3 = .ok (.iload_n 1, 1) := by decide +kernel
theorem dL_wouldFly_4 : decode cL_wouldFly 4 = .ok (.iload_n 2, 1) := by decide +kernel
theorem dL_wouldFly_5 : decode cL_wouldFly 5 = .ok (.invokevirtual 111, 3) := by decide +kernel
theorem dL_wouldFly_8 : decode cL_wouldFly 8 = .ok (.i2l, 1) := by decide +kernel
theorem dL_wouldFly_9 : decode cL_wouldFly 9 = .ok (.lastore, 1) := by decide +kernel
theorem dL_wouldFly_10 : decode cL_wouldFly 10 = .ok (.goto 15, 3) := by decide +kernel
theorem dL_wouldFly_13 : decode cL_wouldFly 13 = .ok (.astore 4, 2) := by decide +kernel
theorem dL_wouldFly_15 : decode cL_wouldFly 15 = .ok (.iconst 1, 1) := by decide +kernel
theorem dL_wouldFly_16 : decode cL_wouldFly 16 = .ok (.ireturn, 1) := by decide +kernel
theorem dL_wouldFly_17 : decode cL_wouldFly 17 = .ok (.astore 4, 2) := by decide +kernel
theorem dL_wouldFly_19 : decode cL_wouldFly 19 = .ok (.iconst 2, 1) := by decide +kernel
theorem dL_wouldFly_20 : decode cL_wouldFly 20 = .ok (.ireturn, 1) := by decide +kernel
theorem dL_wouldFly_21 : decode cL_wouldFly 21 = .ok (.astore 4, 2) := by decide +kernel
theorem dL_wouldFly_23 : decode cL_wouldFly 23 = .ok (.iconst 3, 1) := by decide +kernel
theorem dL_wouldFly_24 : decode cL_wouldFly 24 = .ok (.ireturn, 1) := by decide +kernel
theorem dL_wouldFly_25 : decode cL_wouldFly 25 = .ok (.iconst 0, 1) := by decide +kernel
theorem dL_wouldFly_26 : decode cL_wouldFly 26 = .ok (.ireturn, 1) := by decide +kernel
theorem dL_wouldWin_0 : decode cL_wouldWin 0 = .ok (.aload_n 1, 1) := by decide +kernel
theorem dL_wouldWin_1 : decode cL_wouldWin 1 = .ok (.iconst 0, 1) := by decide +kernel
theorem dL_wouldWin_2 : decode cL_wouldWin 2 = .ok (.aload_n 0, 1) := by decide +kernel
theorem dL_wouldWin_3 : decode cL_wouldWin 3 = .ok (.invokevirtual 114, 3) := by decide +kernel
theorem dL_wouldWin_6 : decode cL_wouldWin 6 = .ok (.i2l, 1) := by decide +kernel
theorem dL_wouldWin_7 : decode cL_wouldWin 7 = .ok (.lastore, 1) := by decide +kernel
theorem dL_wouldWin_8 : decode cL_wouldWin 8 = .ok (.goto 6, 3) := by decide +kernel
theorem dL_wouldWin_11 : decode cL_wouldWin 11 = .ok (.astore_n 2, 1) := by decide +kernel
theorem dL_wouldWin_12 : decode cL_wouldWin 12 = .ok (.iconst 1, 1) := by decide +kernel
theorem dL_wouldWin_13 : decode cL_wouldWin 13 = .ok (.ireturn, 1) := by decide +kernel
theorem dL_wouldWin_14 : decode cL_wouldWin 14 = .ok (.iconst 0, 1) := by decide +kernel
theorem dL_wouldWin_15 : decode cL_wouldWin 15 = .ok (.ireturn, 1) := by decide +kernel
theorem dL_secondsToNext_0 : decode cL_secondsToNext 0 = .ok (.aload_n 1, 1) := by decide +kernel
theorem dL_secondsToNext_1 : decode cL_secondsToNext 1 = .ok (.iconst 0, 1) := by decide +kernel
theorem dL_secondsToNext_2 : decode cL_secondsToNext 2 = .ok (.aload_n 0, 1) := by decide +kernel
theorem dL_secondsToNext_3 : decode cL_secondsToNext 3 = .ok (.invokevirtual 117, 3) := by decide +kernel
theorem dL_secondsToNext_6 : decode cL_secondsToNext 6 = .ok (.i2l, 1) := by decide +kernel
theorem dL_secondsToNext_7 : decode cL_secondsToNext 7 = .ok (.lastore, 1) := by decide +kernel
theorem dL_secondsToNext_8 : decode cL_secondsToNext 8 = .ok (.goto 6, 3) := by decide +kernel
theorem dL_secondsToNext_11 : decode cL_secondsToNext 11 = .ok (.astore_n 2, 1) := by decide +kernel
theorem dL_secondsToNext_12 : decode cL_secondsToNext 12 = .ok (.iconst 1, 1) := by decide +kernel
theorem dL_secondsToNext_13 : decode cL_secondsToNext 13 = .ok (.ireturn, 1) := by decide +kernel
theorem dL_secondsToNext_14 : decode cL_secondsToNext 14 = .ok (.iconst 0, 1) := by decide +kernel
theorem dL_secondsToNext_15 : decode cL_secondsToNext 15 = .ok (.ireturn, 1) := by decide +kernel
theorem dL_flownWithPace_0 : decode cL_flownWithPace 0 = .ok (.aload_n 3, 1) := by decide +kernel
theorem dL_flownWithPace_1 : decode cL_flownWithPace 1 = .ok (.iconst 0, 1) := by decide +kernel
theorem dL_flownWithPace_2 : decode cL_flownWithPace 2 = .ok (.aload_n 0, 1) := by decide +kernel
theorem dL_flownWithPace_3 : decode cL_flownWithPace 3 = .ok (.iload_n 1, 1) := by decide +kernel
theorem dL_flownWithPace_4 : decode cL_flownWithPace 4 = .ok (.iload_n 2, 1) := by decide +kernel
theorem dL_flownWithPace_5 : decode cL_flownWithPace 5 = .ok (.invokevirtual 120, 3) := by decide +kernel
theorem dL_flownWithPace_8 : decode cL_flownWithPace 8 = .ok (.i2l, 1) := by decide +kernel
theorem dL_flownWithPace_9 : decode cL_flownWithPace 9 = .ok (.lastore, 1) := by decide +kernel
theorem dL_flownWithPace_10 : decode cL_flownWithPace 10 = .ok (.goto 15, 3) := by decide +kernel
theorem dL_flownWithPace_13 : decode cL_flownWithPace 13 = .ok (.astore 4, 2) := by decide +kernel
theorem dL_flownWithPace_15 : decode cL_flownWithPace 15 = .ok (.iconst 1, 1) := by decide +kernel
theorem dL_flownWithPace_16 : decode cL_flownWithPace 16 = .ok (.ireturn, 1) := by decide +kernel
theorem dL_flownWithPace_17 : decode cL_flownWithPace 17 = .ok (.astore 4, 2) := by decide +kernel
theorem dL_flownWithPace_19 : decode cL_flownWithPace 19 = .ok (.iconst 2, 1) := by decide +kernel
theorem dL_flownWithPace_20 : decode cL_flownWithPace 20 = .ok (.ireturn, 1) := by decide +kernel
theorem dL_flownWithPace_21 : decode cL_flownWithPace 21 = .ok (.astore 4, 2) := by decide +kernel
theorem dL_flownWithPace_23 : decode cL_flownWithPace 23 = .ok (.iconst 3, 1) := by decide +kernel
theorem dL_flownWithPace_24 : decode cL_flownWithPace 24 = .ok (.ireturn, 1) := by decide +kernel
theorem dL_flownWithPace_25 : decode cL_flownWithPace 25 = .ok (.iconst 0, 1) := by decide +kernel
theorem dL_flownWithPace_26 : decode cL_flownWithPace 26 = .ok (.ireturn, 1) := by decide +kernel
theorem dL_bestPace_0 : decode cL_bestPace 0 = .ok (.aload_n 2, 1) := by decide +kernel
theorem dL_bestPace_1 : decode cL_bestPace 1 = .ok (.iconst 0, 1) := by decide +kernel
theorem dL_bestPace_2 : decode cL_bestPace 2 = .ok (.aload_n 0, 1) := by decide +kernel
theorem dL_bestPace_3 : decode cL_bestPace 3 = .ok (.iload_n 1, 1) := by decide +kernel
theorem dL_bestPace_4 : decode cL_bestPace 4 = .ok (.invokevirtual 123, 3) := by decide +kernel
theorem dL_bestPace_7 : decode cL_bestPace 7 = .ok (.i2l, 1) := by decide +kernel
theorem dL_bestPace_8 : decode cL_bestPace 8 = .ok (.lastore, 1) := by decide +kernel
theorem dL_bestPace_9 : decode cL_bestPace 9 = .ok (.goto 9, 3) := by decide +kernel
theorem dL_bestPace_12 : decode cL_bestPace 12 = .ok (.astore_n 3, 1) := by decide +kernel
theorem dL_bestPace_13 : decode cL_bestPace 13 = .ok (.iconst 1, 1) := by decide +kernel
theorem dL_bestPace_14 : decode cL_bestPace 14 = .ok (.ireturn, 1) := by decide +kernel
theorem dL_bestPace_15 : decode cL_bestPace 15 = .ok (.astore_n 3, 1) := by decide +kernel
theorem dL_bestPace_16 : decode cL_bestPace 16 = .ok (.iconst 2, 1) := by decide +kernel
theorem dL_bestPace_17 : decode cL_bestPace 17 = .ok (.ireturn, 1) := by decide +kernel
theorem dL_bestPace_18 : decode cL_bestPace 18 = .ok (.iconst 0, 1) := by decide +kernel
theorem dL_bestPace_19 : decode cL_bestPace 19 = .ok (.ireturn, 1) := by decide +kernel
theorem dL_arrivedAt_0 : decode cL_arrivedAt 0 = .ok (.aload_n 2, 1) := by decide +kernel
theorem dL_arrivedAt_1 : decode cL_arrivedAt 1 = .ok (.iconst 0, 1) := by decide +kernel
theorem dL_arrivedAt_2 : decode cL_arrivedAt 2 = .ok (.aload_n 0, 1) := by decide +kernel
theorem dL_arrivedAt_3 : decode cL_arrivedAt 3 = .ok (.iload_n 1, 1) := by decide +kernel
theorem dL_arrivedAt_4 : decode cL_arrivedAt 4 = .ok (.invokevirtual 126, 3) := by decide +kernel
theorem dL_arrivedAt_7 : decode cL_arrivedAt 7 = .ok (.i2l, 1) := by decide +kernel
theorem dL_arrivedAt_8 : decode cL_arrivedAt 8 = .ok (.lastore, 1) := by decide +kernel
theorem dL_arrivedAt_9 : decode cL_arrivedAt 9 = .ok (.goto 6, 3) := by decide +kernel
theorem dL_arrivedAt_12 : decode cL_arrivedAt 12 = .ok (.astore_n 3, 1) := by decide +kernel
theorem dL_arrivedAt_13 : decode cL_arrivedAt 13 = .ok (.iconst 1, 1) := by decide +kernel
theorem dL_arrivedAt_14 : decode cL_arrivedAt 14 = .ok (.ireturn, 1) := by decide +kernel
theorem dL_arrivedAt_15 : decode cL_arrivedAt 15 = .ok (.iconst 0, 1) := by decide +kernel
theorem dL_arrivedAt_16 : decode cL_arrivedAt 16 = .ok (.ireturn, 1) := by decide +kernel
theorem dL_timeOf_0 : decode cL_timeOf 0 = .ok (.aload_n 2, 1) := by decide +kernel
theorem dL_timeOf_1 : decode cL_timeOf 1 = .ok (.iconst 0, 1) := by decide +kernel
theorem dL_timeOf_2 : decode cL_timeOf 2 = .ok (.aload_n 0, 1) := by decide +kernel
theorem dL_timeOf_3 : decode cL_timeOf 3 = .ok (.iload_n 1, 1) := by decide +kernel
theorem dL_timeOf_4 : decode cL_timeOf 4 = .ok (.invokevirtual 129, 3) := by decide +kernel
theorem dL_timeOf_7 : decode cL_timeOf 7 = .ok (.i2l, 1) := by decide +kernel
theorem dL_timeOf_8 : decode cL_timeOf 8 = .ok (.lastore, 1) := by decide +kernel
theorem dL_timeOf_9 : decode cL_timeOf 9 = .ok (.goto 9, 3) := by decide +kernel
theorem dL_timeOf_12 : decode cL_timeOf 12 = .ok (.astore_n 3, 1) := by decide +kernel
theorem dL_timeOf_13 : decode cL_timeOf 13 = .ok (.iconst 1, 1) := by decide +kernel
theorem dL_timeOf_14 : decode cL_timeOf 14 = .ok (.ireturn, 1) := by decide +kernel
theorem dL_timeOf_15 : decode cL_timeOf 15 = .ok (.astore_n 3, 1) := by decide +kernel
theorem dL_timeOf_16 : decode cL_timeOf 16 = .ok (.iconst 2, 1) := by decide +kernel
theorem dL_timeOf_17 : decode cL_timeOf 17 = .ok (.ireturn, 1) := by decide +kernel
theorem dL_timeOf_18 : decode cL_timeOf 18 = .ok (.iconst 0, 1) := by decide +kernel
theorem dL_timeOf_19 : decode cL_timeOf 19 = .ok (.ireturn, 1) := by decide +kernel
