theorem dX8_number_57 : decode cX8_number 57 = .ok (.iconst 0, 1) := by decide +kernel
theorem dX8_number_58 : decode cX8_number 58 = .ok (.ireturn, 1) := by decide +kernel
theorem dX8_number_59 : decode cX8_number 59 = .ok (.iload 4, 2) := by decide +kernel
theorem dX8_number_61 : decode cX8_number 61 = .ok (.ifCond .eq 59, 3) := by decide +kernel
theorem dX8_number_64 : decode cX8_number 64 = .ok (.aload_n 0, 1) := by decide +kernel
theorem dX8_number_65 : decode cX8_number 65 = .ok (.invokevirtual 131, 3) := by decide +kernel
theorem dX8_number_68 : decode cX8_number 68 = .ok (.bipush 48, 2) := by decide +kernel
theorem dX8_number_70 : decode cX8_number 70 = .ok (.bipush 57, 2) := by decide +kernel
theorem dX8_number_72 : decode cX8_number 72 = .ok (.invokestatic 36, 3) := by decide +kernel
theorem dX8_number_75 : decode cX8_number 75 = .ok (.ifCond .eq 45, 3) := by decide +kernel
theorem dX8_number_78 : decode cX8_number 78 = .ok (.bipush 10, 2) := by decide +kernel
theorem dX8_number_80 : decode cX8_number 80 = .ok (.iload_n 3, 1) := by decide +kernel
theorem dX8_number_81 : decode cX8_number 81 = .ok (.imul, 1) := by decide +kernel
theorem dX8_number_82 : decode cX8_number 82 = .ok (.aload_n 0, 1) := by decide +kernel
theorem dX8_number_83 : decode cX8_number 83 = .ok (.invokevirtual 131, 3) := by decide +kernel
theorem dX8_number_86 : decode cX8_number 86 = .ok (.iadd, 1) := by decide +kernel
theorem dX8_number_87 : decode cX8_number 87 = .ok (.bipush 48, 2) := by decide +kernel
theorem dX8_number_89 : decode cX8_number 89 = .ok (.isub, 1) := by decide +kernel
theorem dX8_number_90 : decode cX8_number 90 = .ok (.iload_n 2, 1) := by decide +kernel
theorem dX8_number_91 : decode cX8_number 91 = .ok (.if_icmp .gt 29, 3) := by decide +kernel
theorem dX8_number_94 : decode cX8_number 94 = .ok (.bipush 10, 2) := by decide +kernel
theorem dX8_number_96 : decode cX8_number 96 = .ok (.iload_n 3, 1) := by decide +kernel
theorem dX8_number_97 : decode cX8_number 97 = .ok (.imul, 1) := by decide +kernel
theorem dX8_number_98 : decode cX8_number 98 = .ok (.aload_n 0, 1) := by decide +kernel
theorem dX8_number_99 : decode cX8_number 99 = .ok (.invokevirtual 131, 3) := by decide +kernel
theorem dX8_number_102 : decode cX8_number 102 = .ok (.iadd, 1) := by decide +kernel
theorem dX8_number_103 : decode cX8_number 103 = .ok (.bipush 48, 2) := by decide +kernel
theorem dX8_number_105 : decode cX8_number 105 = .ok (.isub, 1) := by decide +kernel
theorem dX8_number_106 : decode cX8_number 106 = .ok (.istore_n 3, 1) := by decide +kernel
theorem dX8_number_107 : decode cX8_number 107 = .ok (.aload_n 0, 1) := by decide +kernel
theorem dX8_number_108 : decode cX8_number 108 = .ok (.dup, 1) := by decide +kernel
theorem dX8_number_109 : decode cX8_number 109 = .ok (.getfield 124, 3) := by decide +kernel
theorem dX8_number_112 : decode cX8_number 112 = .ok (.iconst 1, 1) := by decide +kernel
theorem dX8_number_113 : decode cX8_number 113 = .ok (.iadd, 1) := by decide +kernel
theorem dX8_number_114 : decode cX8_number 114 = .ok (.putfield 124, 3) := by decide +kernel
theorem dX8_number_117 : decode cX8_number 117 = .ok (.goto (-58), 3) := by decide +kernel
theorem dX8_number_120 : decode cX8_number 120 = .ok (.aload_n 0, 1) := by decide +kernel
theorem dX8_number_121 : decode cX8_number 121 = .ok (.aload_n 0, 1) := by decide +kernel
theorem dX8_number_122 : decode cX8_number 122 = .ok (.getfield 127, 3) := by decide +kernel
theorem dX8_number_125 : decode cX8_number 125 = .ok (.ifCond .ne 8, 3) := by decide +kernel
theorem dX8_number_128 : decode cX8_number 128 = .ok (.iload_n 3, 1) := by decide +kernel
theorem dX8_number_129 : decode cX8_number 129 = .ok (.iload_n 1, 1) := by decide +kernel
theorem dX8_number_130 : decode cX8_number 130 = .ok (.if_icmp .ge 7, 3) := by decide +kernel
theorem dX8_number_133 : decode cX8_number 133 = .ok (.iconst 1, 1) := by decide +kernel
theorem dX8_number_134 : decode cX8_number 134 = .ok (.goto 4, 3) := by decide +kernel
theorem dX8_number_137 : decode cX8_number 137 = .ok (.iconst 0, 1) := by decide +kernel
theorem dX8_number_138 : decode cX8_number 138 = .ok (.putfield 127, 3) := by decide +kernel
theorem dX8_number_141 : decode cX8_number 141 = .ok (.iload_n 3, 1) := by decide +kernel
theorem dX8_number_142 : decode cX8_number 142 = .ok (.ireturn, 1) := by decide +kernel
theorem dX8_part_0 : decode cX8_part 0 = .ok (.aload_n 0, 1) := by decide +kernel
theorem dX8_part_1 : decode cX8_part 1 = .ok (.aload_n 0, 1) := by decide +kernel
theorem dX8_part_2 : decode cX8_part 2 = .ok (.invokevirtual 131, 3) := by decide +kernel
theorem dX8_part_5 : decode cX8_part 5 = .ok (.putfield 141, 3) := by decide +kernel
theorem dX8_part_8 : decode cX8_part 8 = .ok (.aload_n 0, 1) := by decide +kernel
theorem dX8_part_9 : decode cX8_part 9 = .ok (.aload_n 0, 1) := by decide +kernel
theorem dX8_part_10 : decode cX8_part 10 = .ok (.getfield 141, 3) := by decide +kernel
theorem dX8_part_13 : decode cX8_part 13 = .ok (.bipush 112, 2) := by decide +kernel
theorem dX8_part_15 : decode cX8_part 15 = .ok (.if_icmp .eq 30, 3) := by decide +kernel
theorem dX8_part_18 : decode cX8_part 18 = .ok (.aload_n 0, 1) := by decide +kernel
theorem dX8_part_19 : decode cX8_part 19 = .ok (.getfield 141, 3) := by decide +kernel
theorem dX8_part_22 : decode cX8_part 22 = .ok (.bipush 110, 2) := by decide +kernel
theorem dX8_part_24 : decode cX8_part 24 = .ok (.if_icmp .eq 21, 3) := by decide +kernel
theorem dX8_part_27 : decode cX8_part 27 = .ok (.aload_n 0, 1) := by decide +kernel
theorem dX8_part_28 : decode cX8_part 28 = .ok (.getfield 141, 3) := by decide +kernel
theorem dX8_part_31 : decode cX8_part 31 = .ok (.bipush 99, 2) := by decide +kernel
theorem dX8_part_33 : decode cX8_part 33 = .ok (.if_icmp .eq 12, 3) := by decide +kernel
theorem dX8_part_36 : decode cX8_part 36 = .ok (.aload_n 0, 1) := by decide +kernel
theorem dX8_part_37 : decode cX8_part 37 = .ok (.getfield 141, 3) := by decide +kernel
theorem dX8_part_40 : decode cX8_part 40 = .ok (.bipush 116, 2) := by decide +kernel
theorem dX8_part_42 : decode cX8_part 42 = .ok (.if_icmp .ne 7, 3) := by decide +kernel
theorem dX8_part_45 : decode cX8_part 45 = .ok (.iconst 1, 1) := by decide +kernel
theorem dX8_part_46 : decode cX8_part 46 = .ok (.goto 4, 3) := by decide +kernel
theorem dX8_part_49 : decode cX8_part 49 = .ok (.iconst 0, 1) := by decide +kernel
theorem dX8_part_50 : decode cX8_part 50 = .ok (.invokevirtual 134, 3) := by decide +kernel
theorem dX8_part_53 : decode cX8_part 53 = .ok (.aload_n 0, 1) := by decide +kernel
theorem dX8_part_54 : decode cX8_part 54 = .ok (.getfield 141, 3) := by decide +kernel
theorem dX8_part_57 : decode cX8_part 57 = .ok (.bipush 116, 2) := by decide +kernel
theorem dX8_part_59 : decode cX8_part 59 = .ok (.if_icmp .ne 18, 3) := by decide +kernel
theorem dX8_part_62 : decode cX8_part 62 = .ok (.aload_n 0, 1) := by decide +kernel
theorem dX8_part_63 : decode cX8_part 63 = .ok (.aload_n 0, 1) := by decide +kernel
theorem dX8_part_64 : decode cX8_part 64 = .ok (.iconst 1, 1) := by decide +kernel
theorem dX8_part_65 : decode cX8_part 65 = .ok (.sipush 200, 3) := by decide +kernel
theorem dX8_part_68 : decode cX8_part 68 = .ok (.invokevirtual 144, 3) := by decide +kernel
theorem dX8_part_71 : decode cX8_part 71 = .ok (.putfield 147, 3) := by decide +kernel
theorem dX8_part_74 : decode cX8_part 74 = .ok (.goto 91, 3) := by decide +kernel
theorem dX8_part_77 : decode cX8_part 77 = .ok (.aload_n 0, 1) := by decide +kernel
theorem dX8_part_78 : decode cX8_part 78 = .ok (.aload_n 0, 1) := by decide +kernel
theorem dX8_part_79 : decode cX8_part 79 = .ok (.iconst 0, 1) := by decide +kernel
theorem dX8_part_80 : decode cX8_part 80 = .ok (.aload_n 0, 1) := by decide +kernel
theorem dX8_part_81 : decode cX8_part 81 = .ok (.getfield 141, 3) := by decide +kernel
theorem dX8_part_84 : decode cX8_part 84 = .ok (.bipush 99, 2) := by decide +kernel
theorem dX8_part_86 : decode cX8_part 86 = .ok (.if_icmp .ne 7, 3) := by decide +kernel
theorem dX8_part_89 : decode cX8_part 89 = .ok (.iconst 3, 1) := by decide +kernel
theorem dX8_part_90 : decode cX8_part 90 = .ok (.goto 5, 3) := by decide +kernel
theorem dX8_part_93 : decode cX8_part 93 = .ok (.bipush 7, 2) := by decide +kernel
theorem dX8_part_95 : decode cX8_part 95 = .ok (.invokevirtual 138, 3) := by decide +kernel
theorem dX8_part_98 : decode cX8_part 98 = .ok (.putfield 150, 3) := by decide +kernel
theorem dX8_part_101 : decode cX8_part 101 = .ok (.aload_n 0, 1) := by decide +kernel
theorem dX8_part_102 : decode cX8_part 102 = .ok (.getfield 141, 3) := by decide +kernel
theorem dX8_part_105 : decode cX8_part 105 = .ok (.bipush 110, 2) := by decide +kernel
theorem dX8_part_107 : decode cX8_part 107 = .ok (.if_icmp .eq 58, 3) := by decide +kernel
theorem dX8_part_110 : decode cX8_part 110 = .ok (.aload_n 0, 1) := by decide +kernel
theorem dX8_part_111 : decode cX8_part 111 = .ok (.aload_n 0, 1) := by decide +kernel
theorem dX8_part_112 : decode cX8_part 112 = .ok (.invokevirtual 131, 3) := by decide +kernel
theorem dX8_part_115 : decode cX8_part 115 = .ok (.bipush 61, 2) := by decide +kernel
theorem dX8_part_117 : decode cX8_part 117 = .ok (.if_icmp .ne 7, 3) := by decide +kernel
theorem dX8_part_120 : decode cX8_part 120 = .ok (.iconst 1, 1) := by decide +kernel
theorem dX8_part_121 : decode cX8_part 121 = .ok (.goto 4, 3) := by decide +kernel
theorem dX8_part_124 : decode cX8_part 124 = .ok (.iconst 0, 1) := by decide +kernel
theorem dX8_part_125 : decode cX8_part 125 = .ok (.invokevirtual 134, 3) := by decide +kernel
theorem dX8_part_128 : decode cX8_part 128 = .ok (.aload_n 0, 1) := by decide +kernel
theorem dX8_part_129 : decode cX8_part 129 = .ok (.aload_n 0, 1) := by decide +kernel
theorem dX8_part_130 : decode cX8_part 130 = .ok (.getfield 127, 3) := by decide +kernel
theorem dX8_part_133 : decode cX8_part 133 = .ok (.ifCond .eq 7, 3) := by decide +kernel
theorem dX8_part_136 : decode cX8_part 136 = .ok (.iconst 0, 1) := by decide +kernel
theorem dX8_part_137 : decode cX8_part 137 = .ok (.goto 25, 3) := by decide +kernel
theorem dX8_part_140 : decode cX8_part 140 = .ok (.aload_n 0, 1) := by decide +kernel
theorem dX8_part_141 : decode cX8_part 141 = .ok (.aload_n 0, 1) := by decide +kernel
theorem dX8_part_142 : decode cX8_part 142 = .ok (.getfield 141, 3) := by decide +kernel
theorem dX8_part_145 : decode cX8_part 145 = .ok (.bipush 112, 2) := by decide +kernel
theorem dX8_part_147 : decode cX8_part 147 = .ok (.if_icmp .ne 8, 3) := by decide +kernel
theorem dX8_part_150 : decode cX8_part 150 = .ok (.bipush 10, 2) := by decide +kernel
theorem dX8_part_152 : decode cX8_part 152 = .ok (.goto 5, 3) := by decide +kernel
theorem dX8_part_155 : decode cX8_part 155 = .ok (.bipush 8, 2) := by decide +kernel
theorem dX8_part_157 : decode cX8_part 157 = .ok (.bipush 40, 2) := by decide +kernel
theorem dX8_part_159 : decode cX8_part 159 = .ok (.invokevirtual 144, 3) := by decide +kernel
theorem dX8_part_162 : decode cX8_part 162 = .ok (.putfield 147, 3) := by decide +kernel
theorem dX8_part_165 : decode cX8_part 165 = .ok (.return_, 1) := by decide +kernel
theorem dX8_isText_0 : decode cX8_isText 0 = .ok (.aload_n 0, 1) := by decide +kernel
theorem dX8_isText_1 : decode cX8_isText 1 = .ok (.iconst 0, 1) := by decide +kernel
theorem dX8_isText_2 : decode cX8_isText 2 = .ok (.putfield 124, 3) := by decide +kernel
theorem dX8_isText_5 : decode cX8_isText 5 = .ok (.aload_n 0, 1) := by decide +kernel
theorem dX8_isText_6 : decode cX8_isText 6 = .ok (.iconst 0, 1) := by decide +kernel
theorem dX8_isText_7 : decode cX8_isText 7 = .ok (.putfield 127, 3) := by decide +kernel
theorem dX8_isText_10 : decode cX8_isText 10 = .ok (.aload_n 0, 1) := by decide +kernel
theorem dX8_isText_11 : decode cX8_isText 11 = .ok (.invokevirtual 153, 3) := by decide +kernel
theorem dX8_isText_14 : decode cX8_isText 14 = .ok (.aload_n 0, 1) := by decide +kernel
theorem dX8_isText_15 : decode cX8_isText 15 = .ok (.getfield 127, 3) := by decide +kernel
theorem dX8_isText_18 : decode cX8_isText 18 = .ok (.ifCond .ne 39, 3) := by decide +kernel
theorem dX8_isText_21 : decode cX8_isText 21 = .ok (.aload_n 0, 1) := by decide +kernel
theorem dX8_isText_22 : decode cX8_isText 22 = .ok (.getfield 124, 3) := by decide +kernel
theorem dX8_isText_25 : decode cX8_isText 25 = .ok (.aload_n 0, 1) := by decide +kernel
theorem dX8_isText_26 : decode cX8_isText 26 = .ok (.getfield 121, 3) := by decide +kernel
theorem dX8_isText_29 : decode cX8_isText 29 = .ok (.if_icmp .ge 28, 3) := by decide +kernel
theorem dX8_isText_32 : decode cX8_isText 32 = .ok (.aload_n 0, 1) := by decide +kernel
theorem dX8_isText_33 : decode cX8_isText 33 = .ok (.aload_n 0, 1) := by decide +kernel
theorem dX8_isText_34 : decode cX8_isText 34 = .ok (.invokevirtual 131, 3) := by decide +kernel
theorem dX8_isText_37 : decode cX8_isText 37 = .ok (.bipush 59, 2) := by decide +kernel
theorem dX8_isText_39 : decode cX8_isText 39 = .ok (.if_icmp .ne 7, 3) := by decide +kernel
theorem dX8_isText_42 : decode cX8_isText 42 = .ok (.iconst 1, 1) := by decide +kernel
theorem dX8_isText_43 : decode cX8_isText 43 = .ok (.goto 4, 3) := by decide +kernel
theorem dX8_isText_46 : decode cX8_isText 46 = .ok (.iconst 0, 1) := by decide +kernel
theorem dX8_isText_47 : decode cX8_isText 47 = .ok (.invokevirtual 134, 3) := by decide +kernel
theorem dX8_isText_50 : decode cX8_isText 50 = .ok (.aload_n 0, 1) := by decide +kernel
theorem dX8_isText_51 : decode cX8_isText 51 = .ok (.invokevirtual 153, 3) := by decide +kernel
theorem dX8_isText_54 : decode cX8_isText 54 = .ok (.goto (-40), 3) := by decide +kernel
theorem dX8_isText_57 : decode cX8_isText 57 = .ok (.aload_n 0, 1) := by decide +kernel
theorem dX8_isText_58 : decode cX8_isText 58 = .ok (.getfield 127, 3) := by decide +kernel
theorem dX8_isText_61 : decode cX8_isText 61 = .ok (.ifCond .ne 7, 3) := by decide +kernel
theorem dX8_isText_64 : decode cX8_isText 64 = .ok (.iconst 1, 1) := by decide +kernel
theorem dX8_isText_65 : decode cX8_isText 65 = .ok (.goto 4, 3) := by decide +kernel
theorem dX8_isText_68 : decode cX8_isText 68 = .ok (.iconst 0, 1) := by decide +kernel
theorem dX8_isText_69 : decode cX8_isText 69 = .ok (.ireturn, 1) := by decide +kernel
theorem dX8_firstError_0 : decode cX8_firstError 0 = .ok (.aload_n 0, 1) := by decide +kernel
theorem dX8_firstError_1 : decode cX8_firstError 1 = .ok (.iconst 0, 1) := by decide +kernel
theorem dX8_firstError_2 : decode cX8_firstError 2 = .ok (.putfield 32, 3) := by decide +kernel
theorem dX8_firstError_5 : decode cX8_firstError 5 = .ok (.aload_n 0, 1) := by decide +kernel
theorem dX8_firstError_6 : decode cX8_firstError 6 = .ok (.invokevirtual 156, 3) := by decide +kernel
theorem dX8_firstError_9 : decode cX8_firstError 9 = .ok (.ifCond .eq 10, 3) := by decide +kernel
theorem dX8_firstError_12 : decode cX8_firstError 12 = .ok (.aload_n 0, 1) := by decide +kernel
theorem dX8_firstError_13 : decode cX8_firstError 13 = .ok (.getfield 121, 3) := by decide +kernel
theorem dX8_firstError_16 : decode cX8_firstError 16 = .ok (.goto 7, 3) := by decide +kernel
theorem dX8_firstError_19 : decode cX8_firstError 19 = .ok (.aload_n 0, 1) := by decide +kernel
theorem dX8_firstError_20 : decode cX8_firstError 20 = .ok (.getfield 124, 3) := by decide +kernel
theorem dX8_firstError_23 : decode cX8_firstError 23 = .ok (.ireturn, 1) := by decide +kernel
theorem dX8_can_0 : decode cX8_can 0 = .ok (.aload_n 0, 1) := by decide +kernel
theorem dX8_can_1 : decode cX8_can 1 = .ok (.getfield 141, 3) := by decide +kernel
theorem dX8_can_4 : decode cX8_can 4 = .ok (.bipush 99, 2) := by decide +kernel
theorem dX8_can_6 : decode cX8_can 6 = .ok (.if_icmp .ne 5, 3) := by decide +kernel
theorem dX8_can_9 : decode cX8_can 9 = .ok (.iconst 1, 1) := by decide +kernel
theorem dX8_can_10 : decode cX8_can 10 = .ok (.ireturn, 1) := by decide +kernel
theorem dX8_can_11 : decode cX8_can 11 = .ok (.aload_n 0, 1) := by decide +kernel
theorem dX8_can_12 : decode cX8_can 12 = .ok (.getfield 141, 3) := by decide +kernel
theorem dX8_can_15 : decode cX8_can 15 = .ok (.bipush 116, 2) := by decide +kernel
theorem dX8_can_17 : decode cX8_can 17 = .ok (.if_icmp .ne 23, 3) := by decide +kernel
theorem dX8_can_20 : decode cX8_can 20 = .ok (.aload_n 0, 1) := by decide +kernel
theorem dX8_can_21 : decode cX8_can 21 = .ok (.getfield 7, 3) := by decide +kernel
theorem dX8_can_24 : decode cX8_can 24 = .ok (.sipush 150, 3) := by decide +kernel
theorem dX8_can_27 : decode cX8_can 27 = .ok (.iaload, 1) := by decide +kernel
theorem dX8_can_28 : decode cX8_can 28 = .ok (.iconst 1, 1) := by decide +kernel
theorem dX8_can_29 : decode cX8_can 29 = .ok (.if_icmp .ne 7, 3) := by decide +kernel
theorem dX8_can_32 : decode cX8_can 32 = .ok (.iconst 1, 1) := by decide +kernel
theorem dX8_can_33 : decode cX8_can 33 = .ok (.goto 43, 3) := by decide +kernel
theorem dX8_can_36 : decode cX8_can 36 = .ok (.iconst 0, 1) := by decide +kernel
theorem dX8_can_37 : decode cX8_can 37 = .ok (.goto 39, 3) := by decide +kernel
theorem dX8_can_40 : decode cX8_can 40 = .ok (.aload_n 0, 1) := by decide +kernel
theorem dX8_can_41 : decode cX8_can 41 = .ok (.aload_n 0, 1) := by decide +kernel
theorem dX8_can_42 : decode cX8_can 42 = .ok (.getfield 150, 3) := by decide +kernel
theorem dX8_can_45 : decode cX8_can 45 = .ok (.invokevirtual 102, 3) := by decide +kernel
theorem dX8_can_48 : decode cX8_can 48 = .ok (.ifCond .eq 27, 3) := by decide +kernel
theorem dX8_can_51 : decode cX8_can 51 = .ok (.aload_n 0, 1) := by decide +kernel
theorem dX8_can_52 : decode cX8_can 52 = .ok (.getfield 141, 3) := by decide +kernel
theorem dX8_can_55 : decode cX8_can 55 = .ok (.bipush 112, 2) := by decide +kernel
theorem dX8_can_57 : decode cX8_can 57 = .ok (.if_icmp .eq 14, 3) := by decide +kernel
theorem dX8_can_60 : decode cX8_can 60 = .ok (.aload_n 0, 1) := by decide +kernel
theorem dX8_can_61 : decode cX8_can 61 = .ok (.aload_n 0, 1) := by decide +kernel
theorem dX8_can_62 : decode cX8_can 62 = .ok (.getfield 150, 3) := by decide +kernel
theorem dX8_can_65 : decode cX8_can 65 = .ok (.invokevirtual 47, 3) := by decide +kernel
theorem dX8_can_68 : decode cX8_can 68 = .ok (.ifCond .ne 7, 3) := by decide +kernel
theorem dX8_can_71 : decode cX8_can 71 = .ok (.iconst 1, 1) := by decide +kernel
theorem dX8_can_72 : decode cX8_can 72 = .ok (.goto 4, 3) := by decide +kernel
theorem dX8_can_75 : decode cX8_can 75 = .ok (.iconst 0, 1) := by decide +kernel
theorem dX8_can_76 : decode cX8_can 76 = .ok (.ireturn, 1) := by decide +kernel
theorem dX8_followsAll_0 : decode cX8_followsAll 0 = .ok (.iconst 0, 1) := by decide +kernel
theorem dX8_followsAll_1 : decode cX8_followsAll 1 = .ok (.istore_n 1, 1) := by decide +kernel
theorem dX8_followsAll_2 : decode cX8_followsAll 2 = .ok (.aload_n 0, 1) := by decide +kernel
theorem dX8_followsAll_3 : decode cX8_followsAll 3 = .ok (.iconst 0, 1) := by decide +kernel
theorem dX8_followsAll_4 : decode cX8_followsAll 4 = .ok (.putfield 124, 3) := by decide +kernel
theorem dX8_followsAll_7 : decode cX8_followsAll 7 = .ok (.aload_n 0, 1) := by decide +kernel
theorem dX8_followsAll_8 : decode cX8_followsAll 8 = .ok (.iconst 0, 1) := by decide +kernel
theorem dX8_followsAll_9 : decode cX8_followsAll 9 = .ok (.putfield 127, 3) := by decide +kernel
theorem dX8_followsAll_12 : decode cX8_followsAll 12 = .ok (.aload_n 0, 1) := by decide +kernel
theorem dX8_followsAll_13 : decode cX8_followsAll 13 = .ok (.getfield 124, 3) := by decide +kernel
theorem dX8_followsAll_16 : decode cX8_followsAll 16 = .ok (.aload_n 0, 1) := by decide +kernel
theorem dX8_followsAll_17 : decode cX8_followsAll 17 = .ok (.getfield 121, 3) := by decide +kernel
theorem dX8_followsAll_20 : decode cX8_followsAll 20 = .ok (.if_icmp .ge 113, 3) := by decide +kernel
theorem dX8_followsAll_23 : decode cX8_followsAll 23 = .ok (.aload_n 0, 1) := by decide +kernel
theorem dX8_followsAll_24 : decode cX8_followsAll 24 = .ok (.invokevirtual 153, 3) := by decide +kernel
theorem dX8_followsAll_27 : decode cX8_followsAll 27 = .ok (.aload_n 0, 1) := by decide +kernel
theorem dX8_followsAll_28 : decode cX8_followsAll 28 = .ok (.dup, 1) := by decide +kernel
theorem dX8_followsAll_29 : decode cX8_followsAll 29 = .ok (.getfield 124, 3) := by decide +kernel
theorem dX8_followsAll_32 : decode cX8_followsAll 32 = .ok (.iconst 1, 1) := by decide +kernel
theorem dX8_followsAll_33 : decode cX8_followsAll 33 = .ok (.iadd, 1) := by decide +kernel
theorem dX8_followsAll_34 : decode cX8_followsAll 34 = .ok (.putfield 124, 3) := by decide +kernel
theorem dX8_followsAll_37 : decode cX8_followsAll 37 = .ok (.aload_n 0, 1) := by decide +kernel
theorem dX8_followsAll_38 : decode cX8_followsAll 38 = .ok (.invokevirtual 160, 3) := by decide +kernel
theorem dX8_followsAll_41 : decode cX8_followsAll 41 = .ok (.ifCond .ne 5, 3) := by decide +kernel
theorem dX8_followsAll_44 : decode cX8_followsAll 44 = .ok (.iconst (-1), 1) := by decide +kernel
theorem dX8_followsAll_45 : decode cX8_followsAll 45 = .ok (.ireturn, 1) := by decide +kernel
theorem dX8_followsAll_46 : decode cX8_followsAll 46 = .ok (.aload_n 0, 1) := by decide +kernel
theorem dX8_followsAll_47 : decode cX8_followsAll 47 = .ok (.getfield 141, 3) := by decide +kernel
theorem dX8_followsAll_50 : decode cX8_followsAll 50 = .ok (.bipush 112, 2) := by decide +kernel
theorem dX8_followsAll_52 : decode cX8_followsAll 52 = .ok (.if_icmp .ne 18, 3) := by decide +kernel
theorem dX8_followsAll_55 : decode cX8_followsAll 55 = .ok (.aload_n 0, 1) := by decide +kernel
theorem dX8_followsAll_56 : decode cX8_followsAll 56 = .ok (.aload_n 0, 1) := by decide +kernel
theorem dX8_followsAll_57 : decode cX8_followsAll 57 = .ok (.getfield 150, 3) := by decide +kernel
theorem dX8_followsAll_60 : decode cX8_followsAll 60 = .ok (.aload_n 0, 1) := by decide +kernel
theorem dX8_followsAll_61 : decode cX8_followsAll 61 = .ok (.getfield 147, 3) := by decide +kernel
theorem dX8_followsAll_64 : decode cX8_followsAll 64 = .ok (.invokevirtual 105, 3) := by decide +kernel
theorem dX8_followsAll_67 : decode cX8_followsAll 67 = .ok (.goto 59, 3) := by decide +kernel
theorem dX8_followsAll_70 : decode cX8_followsAll 70 = .ok (.aload_n 0, 1) := by decide +kernel
theorem dX8_followsAll_71 : decode cX8_followsAll 71 = .ok (.getfield 141, 3) := by decide +kernel
theorem dX8_followsAll_74 : decode cX8_followsAll 74 = .ok (.bipush 110, 2) := by decide +kernel
theorem dX8_followsAll_76 : decode cX8_followsAll 76 = .ok (.if_icmp .ne 14, 3) := by decide +kernel
theorem dX8_followsAll_79 : decode cX8_followsAll 79 = .ok (.aload_n 0, 1) := by decide +kernel
theorem dX8_followsAll_80 : decode cX8_followsAll 80 = .ok (.aload_n 0, 1) := by decide +kernel
theorem dX8_followsAll_81 : decode cX8_followsAll 81 = .ok (.getfield 150, 3) := by decide +kernel
theorem dX8_followsAll_84 : decode cX8_followsAll 84 = .ok (.invokevirtual 108, 3) := by decide +kernel
theorem dX8_followsAll_87 : decode cX8_followsAll 87 = .ok (.goto 39, 3) := by decide +kernel
theorem dX8_followsAll_90 : decode cX8_followsAll 90 = .ok (.aload_n 0, 1) := by decide +kernel
theorem dX8_followsAll_91 : decode cX8_followsAll 91 = .ok (.getfield 141, 3) := by decide +kernel
theorem dX8_followsAll_94 : decode cX8_followsAll 94 = .ok (.bipush 99, 2) := by decide +kernel
theorem dX8_followsAll_96 : decode cX8_followsAll 96 = .ok (.if_icmp .ne 22, 3) := by decide +kernel
theorem dX8_followsAll_99 : decode cX8_followsAll 99 = .ok (.aload_n 0, 1) := by decide +kernel
theorem dX8_followsAll_100 : decode cX8_followsAll 100 = .ok (.sipush 129, 3) := by decide +kernel
theorem dX8_followsAll_103 : decode cX8_followsAll 103 = .ok (.aload_n 0, 1) := by decide +kernel
theorem dX8_followsAll_104 : decode cX8_followsAll 104 = .ok (.getfield 150, 3) := by decide +kernel
theorem dX8_followsAll_107 : decode cX8_followsAll 107 = .ok (.iadd, 1) := by decide +kernel
theorem dX8_followsAll_108 : decode cX8_followsAll 108 = .ok (.aload_n 0, 1) := by decide +kernel
theorem dX8_followsAll_109 : decode cX8_followsAll 109 = .ok (.getfield 147, 3) := by decide +kernel
theorem dX8_followsAll_112 : decode cX8_followsAll 112 = .ok (.invokevirtual 115, 3) := by decide +kernel
theorem dX8_followsAll_115 : decode cX8_followsAll 115 = .ok (.goto 11, 3) := by decide +kernel
theorem dX8_followsAll_118 : decode cX8_followsAll 118 = .ok (.aload_n 0, 1) := by decide +kernel
theorem dX8_followsAll_119 : decode cX8_followsAll 119 = .ok (.aload_n 0, 1) := by decide +kernel
theorem dX8_followsAll_120 : decode cX8_followsAll 120 = .ok (.getfield 147, 3) := by decide +kernel
theorem dX8_followsAll_123 : decode cX8_followsAll 123 = .ok (.invokevirtual 118, 3) := by decide +kernel
theorem dX8_followsAll_126 : decode cX8_followsAll 126 = .ok (.istore_n 2, 1) := by decide +kernel
theorem dX8_followsAll_127 : decode cX8_followsAll 127 = .ok (.iinc 1 1, 3) := by decide +kernel
theorem dX8_followsAll_130 : decode cX8_followsAll 130 = .ok (.goto (-118), 3) := by decide +kernel
theorem dX8_followsAll_133 : decode cX8_followsAll 133 = .ok (.iload_n 1, 1) := by decide +kernel
theorem dX8_followsAll_134 : decode cX8_followsAll 134 = .ok (.ireturn, 1) := by decide +kernel
theorem dX8_follow_0 : decode cX8_follow 0 = .ok (.aload_n 0, 1) := by decide +kernel
theorem dX8_follow_1 : decode cX8_follow 1 = .ok (.aload_n 0, 1) := by decide +kernel
theorem dX8_follow_2 : decode cX8_follow 2 = .ok (.invokevirtual 156, 3) := by decide +kernel
theorem dX8_follow_5 : decode cX8_follow 5 = .ok (.ifCond .eq 7, 3) := by decide +kernel
theorem dX8_follow_8 : decode cX8_follow 8 = .ok (.iconst 0, 1) := by decide +kernel
theorem dX8_follow_9 : decode cX8_follow 9 = .ok (.goto 4, 3) := by decide +kernel
theorem dX8_follow_12 : decode cX8_follow 12 = .ok (.iconst 1, 1) := by decide +kernel
theorem dX8_follow_13 : decode cX8_follow 13 = .ok (.invokevirtual 96, 3) := by decide +kernel
theorem dX8_follow_16 : decode cX8_follow 16 = .ok (.ifCond .eq 5, 3) := by decide +kernel
theorem dX8_follow_19 : decode cX8_follow 19 = .ok (.iconst 0, 1) := by decide +kernel
theorem dX8_follow_20 : decode cX8_follow 20 = .ok (.ireturn, 1) := by decide +kernel
theorem dX8_follow_21 : decode cX8_follow 21 = .ok (.aload_n 0, 1) := by decide +kernel
theorem dX8_follow_22 : decode cX8_follow 22 = .ok (.invokevirtual 163, 3) := by decide +kernel
theorem dX8_follow_25 : decode cX8_follow 25 = .ok (.aload_n 0, 1) := by decide +kernel
theorem dX8_follow_26 : decode cX8_follow 26 = .ok (.invokevirtual 166, 3) := by decide +kernel
theorem dX8_follow_29 : decode cX8_follow 29 = .ok (.ifCond .lt 7, 3) := by decide +kernel
theorem dX8_follow_32 : decode cX8_follow 32 = .ok (.iconst 1, 1) := by decide +kernel
theorem dX8_follow_33 : decode cX8_follow 33 = .ok (.goto 4, 3) := by decide +kernel
theorem dX8_follow_36 : decode cX8_follow 36 = .ok (.iconst 0, 1) := by decide +kernel
theorem dX8_follow_37 : decode cX8_follow 37 = .ok (.istore_n 1, 1) := by decide +kernel
theorem dX8_follow_38 : decode cX8_follow 38 = .ok (.aload_n 0, 1) := by decide +kernel
theorem dX8_follow_39 : decode cX8_follow 39 = .ok (.invokevirtual 169, 3) := by decide +kernel
theorem dX8_follow_42 : decode cX8_follow 42 = .ok (.aload_n 0, 1) := by decide +kernel
theorem dX8_follow_43 : decode cX8_follow 43 = .ok (.iload_n 1, 1) := by decide +kernel
theorem dX8_follow_44 : decode cX8_follow 44 = .ok (.ifCond .eq 7, 3) := by decide +kernel
theorem dX8_follow_47 : decode cX8_follow 47 = .ok (.iconst 0, 1) := by decide +kernel
theorem dX8_follow_48 : decode cX8_follow 48 = .ok (.goto 4, 3) := by decide +kernel
theorem dX8_follow_51 : decode cX8_follow 51 = .ok (.iconst 2, 1) := by decide +kernel
theorem dX8_follow_52 : decode cX8_follow 52 = .ok (.invokevirtual 96, 3) := by decide +kernel
theorem dX8_follow_55 : decode cX8_follow 55 = .ok (.ifCond .eq 5, 3) := by decide +kernel
theorem dX8_follow_58 : decode cX8_follow 58 = .ok (.iconst 0, 1) := by decide +kernel
theorem dX8_follow_59 : decode cX8_follow 59 = .ok (.ireturn, 1) := by decide +kernel
theorem dX8_follow_60 : decode cX8_follow 60 = .ok (.aload_n 0, 1) := by decide +kernel
theorem dX8_follow_61 : decode cX8_follow 61 = .ok (.invokevirtual 99, 3) := by decide +kernel
theorem dX8_follow_64 : decode cX8_follow 64 = .ok (.aload_n 0, 1) := by decide +kernel
theorem dX8_follow_65 : decode cX8_follow 65 = .ok (.invokevirtual 166, 3) := by decide +kernel
theorem dX8_follow_68 : decode cX8_follow 68 = .ok (.istore_n 2, 1) := by decide +kernel
theorem dX8_follow_69 : decode cX8_follow 69 = .ok (.aload_n 0, 1) := by decide +kernel
theorem dX8_follow_70 : decode cX8_follow 70 = .ok (.iconst 0, 1) := by decide +kernel
theorem dX8_follow_71 : decode cX8_follow 71 = .ok (.putfield 121, 3) := by decide +kernel
theorem dX8_follow_74 : decode cX8_follow 74 = .ok (.iload_n 2, 1) := by decide +kernel
theorem dX8_follow_75 : decode cX8_follow 75 = .ok (.ireturn, 1) := by decide +kernel
theorem dX8_keep_0 : decode cX8_keep 0 = .ok (.aload_n 0, 1) := by decide +kernel
theorem dX8_keep_1 : decode cX8_keep 1 = .ok (.iload_n 1, 1) := by decide +kernel
theorem dX8_keep_2 : decode cX8_keep 2 = .ok (.iconst 0, 1) := by decide +kernel
theorem dX8_keep_3 : decode cX8_keep 3 = .ok (.iconst 1, 1) := by decide +kernel
theorem dX8_keep_4 : decode cX8_keep 4 = .ok (.invokestatic 36, 3) := by decide +kernel
theorem dX8_keep_7 : decode cX8_keep 7 = .ok (.ifCond .eq 7, 3) := by decide +kernel
theorem dX8_keep_10 : decode cX8_keep 10 = .ok (.iconst 0, 1) := by decide +kernel
theorem dX8_keep_11 : decode cX8_keep 11 = .ok (.goto 4, 3) := by decide +kernel
theorem dX8_keep_14 : decode cX8_keep 14 = .ok (.iconst 1, 1) := by decide +kernel
theorem dX8_keep_15 : decode cX8_keep 15 = .ok (.invokevirtual 96, 3) := by decide +kernel
theorem dX8_keep_18 : decode cX8_keep 18 = .ok (.ifCond .ne 43, 3) := by decide +kernel
theorem dX8_keep_21 : decode cX8_keep 21 = .ok (.iconst 0, 1) := by decide +kernel
theorem dX8_keep_22 : decode cX8_keep 22 = .ok (.istore_n 2, 1) := by decide +kernel
theorem dX8_keep_23 : decode cX8_keep 23 = .ok (.iload_n 2, 1) := by decide +kernel
theorem dX8_keep_24 : decode cX8_keep 24 = .ok (.sipush 151, 3) := by decide +kernel
theorem dX8_keep_27 : decode cX8_keep 27 = .ok (.if_icmp .ge 27, 3) := by decide +kernel
theorem dX8_keep_30 : decode cX8_keep 30 = .ok (.aload_n 0, 1) := by decide +kernel
theorem dX8_keep_31 : decode cX8_keep 31 = .ok (.getfield 19, 3) := by decide +kernel
theorem dX8_keep_34 : decode cX8_keep 34 = .ok (.sipush 151, 3) := by decide +kernel
theorem dX8_keep_37 : decode cX8_keep 37 = .ok (.iload_n 1, 1) := by decide +kernel
theorem dX8_keep_38 : decode cX8_keep 38 = .ok (.imul, 1) := by decide +kernel
theorem dX8_keep_39 : decode cX8_keep 39 = .ok (.iload_n 2, 1) := by decide +kernel
theorem dX8_keep_40 : decode cX8_keep 40 = .ok (.iadd, 1) := by decide +kernel
theorem dX8_keep_41 : decode cX8_keep 41 = .ok (.aload_n 0, 1) := by decide +kernel
theorem dX8_keep_42 : decode cX8_keep 42 = .ok (.getfield 7, 3) := by decide +kernel
theorem dX8_keep_45 : decode cX8_keep 45 = .ok (.iload_n 2, 1) := by decide +kernel
theorem dX8_keep_46 : decode cX8_keep 46 = .ok (.iaload, 1) := by decide +kernel
theorem dX8_keep_47 : decode cX8_keep 47 = .ok (.iastore, 1) := by decide +kernel
theorem dX8_keep_48 : decode cX8_keep 48 = .ok (.iinc 2 1, 3) := by decide +kernel
theorem dX8_keep_51 : decode cX8_keep 51 = .ok (.goto (-28), 3) := by decide +kernel
theorem dX8_keep_54 : decode cX8_keep 54 = .ok (.aload_n 0, 1) := by decide +kernel
theorem dX8_keep_55 : decode cX8_keep 55 = .ok (.getfield 22, 3) := by decide +kernel
theorem dX8_keep_58 : decode cX8_keep 58 = .ok (.iload_n 1, 1) := by decide +kernel
theorem dX8_keep_59 : decode cX8_keep 59 = .ok (.iconst 1, 1) := by decide +kernel
theorem dX8_keep_60 : decode cX8_keep 60 = .ok (.bastore, 1) := by decide +kernel
theorem dX8_keep_61 : decode cX8_keep 61 = .ok (.return_, 1) := by decide +kernel
theorem dX8_goBack_0 : decode cX8_goBack 0 = .ok (.aload_n 0, 1) := by decide +kernel
theorem dX8_goBack_1 : decode cX8_goBack 1 = .ok (.iload_n 1, 1) := by decide +kernel
theorem dX8_goBack_2 : decode cX8_goBack 2 = .ok (.iconst 0, 1) := by decide +kernel
theorem dX8_goBack_3 : decode cX8_goBack 3 = .ok (.iconst 1, 1) := by decide +kernel
theorem dX8_goBack_4 : decode cX8_goBack 4 = .ok (.invokestatic 36, 3) := by decide +kernel
theorem dX8_goBack_7 : decode cX8_goBack 7 = .ok (.ifCond .ne 7, 3) := by decide +kernel
theorem dX8_goBack_10 : decode cX8_goBack 10 = .ok (.iconst 1, 1) := by decide +kernel
theorem dX8_goBack_11 : decode cX8_goBack 11 = .ok (.goto 17, 3) := by decide +kernel
theorem dX8_goBack_14 : decode cX8_goBack 14 = .ok (.aload_n 0, 1) := by decide +kernel
theorem dX8_goBack_15 : decode cX8_goBack 15 = .ok (.getfield 22, 3) := by decide +kernel
theorem dX8_goBack_18 : decode cX8_goBack 18 = .ok (.iload_n 1, 1) := by decide +kernel
theorem dX8_goBack_19 : decode cX8_goBack 19 = .ok (.baload, 1) := by decide +kernel
theorem dX8_goBack_20 : decode cX8_goBack 20 = .ok (.ifCond .eq 7, 3) := by decide +kernel
theorem dX8_goBack_23 : decode cX8_goBack 23 = .ok (.iconst 0, 1) := by decide +kernel
theorem dX8_goBack_24 : decode cX8_goBack 24 = .ok (.goto 4, 3) := by decide +kernel
theorem dX8_goBack_27 : decode cX8_goBack 27 = .ok (.iconst 2, 1) := by decide +kernel
theorem dX8_goBack_28 : decode cX8_goBack 28 = .ok (.invokevirtual 96, 3) := by decide +kernel
theorem dX8_goBack_31 : decode cX8_goBack 31 = .ok (.ifCond .ne 40, 3) := by decide +kernel
theorem dX8_goBack_34 : decode cX8_goBack 34 = .ok (.aload_n 0, 1) := by decide +kernel
theorem dX8_goBack_35 : decode cX8_goBack 35 = .ok (.invokevirtual 99, 3) := by decide +kernel
theorem dX8_goBack_38 : decode cX8_goBack 38 = .ok (.iconst 0, 1) := by decide +kernel
theorem dX8_goBack_39 : decode cX8_goBack 39 = .ok (.istore_n 2, 1) := by decide +kernel
theorem dX8_goBack_40 : decode cX8_goBack 40 = .ok (.iload_n 2, 1) := by decide +kernel
theorem dX8_goBack_41 : decode cX8_goBack 41 = .ok (.sipush 151, 3) := by decide +kernel
theorem dX8_goBack_44 : decode cX8_goBack 44 = .ok (.if_icmp .ge 27, 3) := by decide +kernel
theorem dX8_goBack_47 : decode cX8_goBack 47 = .ok (.aload_n 0, 1) := by decide +kernel
theorem dX8_goBack_48 : decode cX8_goBack 48 = .ok (.getfield 7, 3) := by decide +kernel
theorem dX8_goBack_51 : decode cX8_goBack 51 = .ok (.iload_n 2, 1) := by decide +kernel
theorem dX8_goBack_52 : decode cX8_goBack 52 = .ok (.aload_n 0, 1) := by decide +kernel
theorem dX8_goBack_53 : decode cX8_goBack 53 = .ok (.getfield 19, 3) := by decide +kernel
theorem dX8_goBack_56 : decode cX8_goBack 56 = .ok (.sipush 151, 3) := by decide +kernel
theorem dX8_goBack_59 : decode cX8_goBack 59 = .ok (.iload_n 1, 1) := by decide +kernel
theorem dX8_goBack_60 : decode cX8_goBack 60 = .ok (.imul, 1) := by decide +kernel
theorem dX8_goBack_61 : decode cX8_goBack 61 = .ok (.iload_n 2, 1) := by decide +kernel
theorem dX8_goBack_62 : decode cX8_goBack 62 = .ok (.iadd, 1) := by decide +kernel
theorem dX8_goBack_63 : decode cX8_goBack 63 = .ok (.iaload, 1) := by decide +kernel
theorem dX8_goBack_64 : decode cX8_goBack 64 = .ok (.iastore, 1) := by decide +kernel
theorem dX8_goBack_65 : decode cX8_goBack 65 = .ok (.iinc 2 1, 3) := by decide +kernel
theorem dX8_goBack_68 : decode cX8_goBack 68 = .ok (.goto (-28), 3) := by decide +kernel
theorem dX8_goBack_71 : decode cX8_goBack 71 = .ok (.return_, 1) := by decide +kernel
theorem dX8_undo_0 : decode cX8_undo 0 = .ok (.aload_n 0, 1) := by decide +kernel
theorem dX8_undo_1 : decode cX8_undo 1 = .ok (.aload_n 0, 1) := by decide +kernel
theorem dX8_undo_2 : decode cX8_undo 2 = .ok (.getfield 44, 3) := by decide +kernel
theorem dX8_undo_5 : decode cX8_undo 5 = .ok (.ifCond .ne 7, 3) := by decide +kernel
theorem dX8_undo_8 : decode cX8_undo 8 = .ok (.iconst 1, 1) := by decide +kernel
theorem dX8_undo_9 : decode cX8_undo 9 = .ok (.goto 4, 3) := by decide +kernel
theorem dX8_undo_12 : decode cX8_undo 12 = .ok (.iconst 0, 1) := by decide +kernel
theorem dX8_undo_13 : decode cX8_undo 13 = .ok (.invokevirtual 96, 3) := by decide +kernel
theorem dX8_undo_16 : decode cX8_undo 16 = .ok (.ifCond .ne 49, 3) := by decide +kernel
theorem dX8_undo_19 : decode cX8_undo 19 = .ok (.aload_n 0, 1) := by decide +kernel
theorem dX8_undo_20 : decode cX8_undo 20 = .ok (.dup, 1) := by decide +kernel
theorem dX8_undo_21 : decode cX8_undo 21 = .ok (.getfield 44, 3) := by decide +kernel
theorem dX8_undo_24 : decode cX8_undo 24 = .ok (.iconst 1, 1) := by decide +kernel
theorem dX8_undo_25 : decode cX8_undo 25 = .ok (.isub, 1) := by decide +kernel
theorem dX8_undo_26 : decode cX8_undo 26 = .ok (.putfield 44, 3) := by decide +kernel
theorem dX8_undo_29 : decode cX8_undo 29 = .ok (.iconst 0, 1) := by decide +kernel
theorem dX8_undo_30 : decode cX8_undo 30 = .ok (.istore_n 1, 1) := by decide +kernel
theorem dX8_undo_31 : decode cX8_undo 31 = .ok (.iload_n 1, 1) := by decide +kernel
theorem dX8_undo_32 : decode cX8_undo 32 = .ok (.sipush 151, 3) := by decide +kernel
theorem dX8_undo_35 : decode cX8_undo 35 = .ok (.if_icmp .ge 30, 3) := by decide +kernel
theorem dX8_undo_38 : decode cX8_undo 38 = .ok (.aload_n 0, 1) := by decide +kernel
theorem dX8_undo_39 : decode cX8_undo 39 = .ok (.getfield 7, 3) := by decide +kernel
theorem dX8_undo_42 : decode cX8_undo 42 = .ok (.iload_n 1, 1) := by decide +kernel
theorem dX8_undo_43 : decode cX8_undo 43 = .ok (.aload_n 0, 1) := by decide +kernel
theorem dX8_undo_44 : decode cX8_undo 44 = .ok (.getfield 16, 3) := by decide +kernel
theorem dX8_undo_47 : decode cX8_undo 47 = .ok (.sipush 151, 3) := by decide +kernel
theorem dX8_undo_50 : decode cX8_undo 50 = .ok (.aload_n 0, 1) := by decide +kernel
theorem dX8_undo_51 : decode cX8_undo 51 = .ok (.getfield 44, 3) := by decide +kernel
theorem dX8_undo_54 : decode cX8_undo 54 = .ok (.imul, 1) := by decide +kernel
theorem dX8_undo_55 : decode cX8_undo 55 = .ok (.iload_n 1, 1) := by decide +kernel
theorem dX8_undo_56 : decode cX8_undo 56 = .ok (.iadd, 1) := by decide +kernel
theorem dX8_undo_57 : decode cX8_undo 57 = .ok (.iaload, 1) := by decide +kernel
theorem dX8_undo_58 : decode cX8_undo 58 = .ok (.iastore, 1) := by decide +kernel
theorem dX8_undo_59 : decode cX8_undo 59 = .ok (.iinc 1 1, 3) := by decide +kernel
theorem dX8_undo_62 : decode cX8_undo 62 = .ok (.goto (-31), 3) := by decide +kernel
theorem dX8_undo_65 : decode cX8_undo 65 = .ok (.return_, 1) := by decide +kernel
theorem dX8_savedStates_0 : decode cX8_savedStates 0 = .ok (.aload_n 0, 1) := by decide +kernel
theorem dX8_savedStates_1 : decode cX8_savedStates 1 = .ok (.aload_n 0, 1) := by decide +kernel
theorem dX8_savedStates_2 : decode cX8_savedStates 2 = .ok (.getfield 44, 3) := by decide +kernel
theorem dX8_savedStates_5 : decode cX8_savedStates 5 = .ok (.invokevirtual 172, 3) := by decide +kernel
theorem dX8_savedStates_8 : decode cX8_savedStates 8 = .ok (.ireturn, 1) := by decide +kernel
theorem dX8_sparrows_0 : decode cX8_sparrows 0 = .ok (.aload_n 0, 1) := by decide +kernel
theorem dX8_sparrows_1 : decode cX8_sparrows 1 = .ok (.aload_n 0, 1) := by decide +kernel
theorem dX8_sparrows_2 : decode cX8_sparrows 2 = .ok (.getfield 7, 3) := by decide +kernel
theorem dX8_sparrows_5 : decode cX8_sparrows 5 = .ok (.sipush 128, 3) := by decide +kernel
theorem dX8_sparrows_8 : decode cX8_sparrows 8 = .ok (.iaload, 1) := by decide +kernel
theorem dX8_sparrows_9 : decode cX8_sparrows 9 = .ok (.invokevirtual 172, 3) := by decide +kernel
theorem dX8_sparrows_12 : decode cX8_sparrows 12 = .ok (.ireturn, 1) := by decide +kernel
theorem dX8_ofBird_0 : decode cX8_ofBird 0 = .ok (.aload_n 0, 1) := by decide +kernel
theorem dX8_ofBird_1 : decode cX8_ofBird 1 = .ok (.aload_n 0, 1) := by decide +kernel
theorem dX8_ofBird_2 : decode cX8_ofBird 2 = .ok (.iload_n 1, 1) := by decide +kernel
theorem dX8_ofBird_3 : decode cX8_ofBird 3 = .ok (.invokevirtual 102, 3) := by decide +kernel
theorem dX8_ofBird_6 : decode cX8_ofBird 6 = .ok (.ifCond .eq 7, 3) := by decide +kernel
theorem dX8_ofBird_9 : decode cX8_ofBird 9 = .ok (.iconst 0, 1) := by decide +kernel
theorem dX8_ofBird_10 : decode cX8_ofBird 10 = .ok (.goto 4, 3) := by decide +kernel
theorem dX8_ofBird_13 : decode cX8_ofBird 13 = .ok (.iconst 1, 1) := by decide +kernel
theorem dX8_ofBird_14 : decode cX8_ofBird 14 = .ok (.invokevirtual 96, 3) := by decide +kernel
theorem dX8_ofBird_17 : decode cX8_ofBird 17 = .ok (.ifCond .eq 7, 3) := by decide +kernel
theorem dX8_ofBird_20 : decode cX8_ofBird 20 = .ok (.iconst 0, 1) := by decide +kernel
theorem dX8_ofBird_21 : decode cX8_ofBird 21 = .ok (.goto 9, 3) := by decide +kernel
theorem dX8_ofBird_24 : decode cX8_ofBird 24 = .ok (.aload_n 0, 1) := by decide +kernel
theorem dX8_ofBird_25 : decode cX8_ofBird 25 = .ok (.iload_n 1, 1) := by decide +kernel
theorem dX8_ofBird_26 : decode cX8_ofBird 26 = .ok (.iload_n 2, 1) := by decide +kernel
theorem dX8_ofBird_27 : decode cX8_ofBird 27 = .ok (.invokevirtual 40, 3) := by decide +kernel
theorem dX8_ofBird_30 : decode cX8_ofBird 30 = .ok (.ireturn, 1) := by decide +kernel
theorem dX8_flown_0 : decode cX8_flown 0 = .ok (.aload_n 0, 1) := by decide +kernel
theorem dX8_flown_1 : decode cX8_flown 1 = .ok (.iload_n 1, 1) := by decide +kernel
theorem dX8_flown_2 : decode cX8_flown 2 = .ok (.bipush 7, 2) := by decide +kernel
theorem dX8_flown_4 : decode cX8_flown 4 = .ok (.invokevirtual 175, 3) := by decide +kernel
theorem dX8_flown_7 : decode cX8_flown 7 = .ok (.ireturn, 1) := by decide +kernel
theorem dX8_lapsOf_0 : decode cX8_lapsOf 0 = .ok (.aload_n 0, 1) := by decide +kernel
theorem dX8_lapsOf_1 : decode cX8_lapsOf 1 = .ok (.iload_n 1, 1) := by decide +kernel
theorem dX8_lapsOf_2 : decode cX8_lapsOf 2 = .ok (.bipush 7, 2) := by decide +kernel
theorem dX8_lapsOf_4 : decode cX8_lapsOf 4 = .ok (.invokevirtual 175, 3) := by decide +kernel
theorem dX8_lapsOf_7 : decode cX8_lapsOf 7 = .ok (.sipush 400, 3) := by decide +kernel
theorem dX8_lapsOf_10 : decode cX8_lapsOf 10 = .ok (.idiv, 1) := by decide +kernel
theorem dX8_lapsOf_11 : decode cX8_lapsOf 11 = .ok (.ireturn, 1) := by decide +kernel
theorem dX8_speedOf_0 : decode cX8_speedOf 0 = .ok (.aload_n 0, 1) := by decide +kernel
theorem dX8_speedOf_1 : decode cX8_speedOf 1 = .ok (.iload_n 1, 1) := by decide +kernel
theorem dX8_speedOf_2 : decode cX8_speedOf 2 = .ok (.bipush 8, 2) := by decide +kernel
theorem dX8_speedOf_4 : decode cX8_speedOf 4 = .ok (.invokevirtual 175, 3) := by decide +kernel
theorem dX8_speedOf_7 : decode cX8_speedOf 7 = .ok (.ireturn, 1) := by decide +kernel
theorem dX8_strengthOf_0 : decode cX8_strengthOf 0 = .ok (.aload_n 0, 1) := by decide +kernel
theorem dX8_strengthOf_1 : decode cX8_strengthOf 1 = .ok (.iload_n 1, 1) := by decide +kernel
theorem dX8_strengthOf_2 : decode cX8_strengthOf 2 = .ok (.iconst 3, 1) := by decide +kernel
theorem dX8_strengthOf_3 : decode cX8_strengthOf 3 = .ok (.invokevirtual 175, 3) := by decide +kernel
theorem dX8_strengthOf_6 : decode cX8_strengthOf 6 = .ok (.ireturn, 1) := by decide +kernel
theorem dX8_wearOf_0 : decode cX8_wearOf 0 = .ok (.aload_n 0, 1) := by decide +kernel
theorem dX8_wearOf_1 : decode cX8_wearOf 1 = .ok (.iload_n 1, 1) := by decide +kernel
theorem dX8_wearOf_2 : decode cX8_wearOf 2 = .ok (.iconst 4, 1) := by decide +kernel
theorem dX8_wearOf_3 : decode cX8_wearOf 3 = .ok (.invokevirtual 175, 3) := by decide +kernel
theorem dX8_wearOf_6 : decode cX8_wearOf 6 = .ok (.ireturn, 1) := by decide +kernel
theorem dX8_laneOf_0 : decode cX8_laneOf 0 = .ok (.aload_n 0, 1) := by decide +kernel
theorem dX8_laneOf_1 : decode cX8_laneOf 1 = .ok (.iload_n 1, 1) := by decide +kernel
theorem dX8_laneOf_2 : decode cX8_laneOf 2 = .ok (.iconst 5, 1) := by decide +kernel
theorem dX8_laneOf_3 : decode cX8_laneOf 3 = .ok (.invokevirtual 175, 3) := by decide +kernel
theorem dX8_laneOf_6 : decode cX8_laneOf 6 = .ok (.ireturn, 1) := by decide +kernel
theorem dX8_stateOf_0 : decode cX8_stateOf 0 = .ok (.aload_n 0, 1) := by decide +kernel
theorem dX8_stateOf_1 : decode cX8_stateOf 1 = .ok (.iload_n 1, 1) := by decide +kernel
theorem dX8_stateOf_2 : decode cX8_stateOf 2 = .ok (.bipush 6, 2) := by decide +kernel
theorem dX8_stateOf_4 : decode cX8_stateOf 4 = .ok (.invokevirtual 175, 3) := by decide +kernel
theorem dX8_stateOf_7 : decode cX8_stateOf 7 = .ok (.ireturn, 1) := by decide +kernel
theorem dX8_paceOf_0 : decode cX8_paceOf 0 = .ok (.aload_n 0, 1) := by decide +kernel
theorem dX8_paceOf_1 : decode cX8_paceOf 1 = .ok (.iload_n 1, 1) := by decide +kernel
theorem dX8_paceOf_2 : decode cX8_paceOf 2 = .ok (.iconst 0, 1) := by decide +kernel
theorem dX8_paceOf_3 : decode cX8_paceOf 3 = .ok (.invokevirtual 175, 3) := by decide +kernel
theorem dX8_paceOf_6 : decode cX8_paceOf 6 = .ok (.ireturn, 1) := by decide +kernel
theorem dX8_partnerOf_0 : decode cX8_partnerOf 0 = .ok (.aload_n 0, 1) := by decide +kernel
theorem dX8_partnerOf_1 : decode cX8_partnerOf 1 = .ok (.aload_n 0, 1) := by decide +kernel
theorem dX8_partnerOf_2 : decode cX8_partnerOf 2 = .ok (.iload_n 1, 1) := by decide +kernel
theorem dX8_partnerOf_3 : decode cX8_partnerOf 3 = .ok (.invokevirtual 102, 3) := by decide +kernel
theorem dX8_partnerOf_6 : decode cX8_partnerOf 6 = .ok (.ifCond .ne 7, 3) := by decide +kernel
theorem dX8_partnerOf_9 : decode cX8_partnerOf 9 = .ok (.iconst 1, 1) := by decide +kernel
theorem dX8_partnerOf_10 : decode cX8_partnerOf 10 = .ok (.goto 18, 3) := by decide +kernel
theorem dX8_partnerOf_13 : decode cX8_partnerOf 13 = .ok (.aload_n 0, 1) := by decide +kernel
theorem dX8_partnerOf_14 : decode cX8_partnerOf 14 = .ok (.iload_n 1, 1) := by decide +kernel
theorem dX8_partnerOf_15 : decode cX8_partnerOf 15 = .ok (.bipush 10, 2) := by decide +kernel
theorem dX8_partnerOf_17 : decode cX8_partnerOf 17 = .ok (.invokevirtual 40, 3) := by decide +kernel
theorem dX8_partnerOf_20 : decode cX8_partnerOf 20 = .ok (.ifCond .ne 7, 3) := by decide +kernel
theorem dX8_partnerOf_23 : decode cX8_partnerOf 23 = .ok (.iconst 2, 1) := by decide +kernel
theorem dX8_partnerOf_24 : decode cX8_partnerOf 24 = .ok (.goto 4, 3) := by decide +kernel
theorem dX8_partnerOf_27 : decode cX8_partnerOf 27 = .ok (.iconst 0, 1) := by decide +kernel
theorem dX8_partnerOf_28 : decode cX8_partnerOf 28 = .ok (.invokevirtual 96, 3) := by decide +kernel
theorem dX8_partnerOf_31 : decode cX8_partnerOf 31 = .ok (.ifCond .eq 7, 3) := by decide +kernel
theorem dX8_partnerOf_34 : decode cX8_partnerOf 34 = .ok (.iconst 0, 1) := by decide +kernel
theorem dX8_partnerOf_35 : decode cX8_partnerOf 35 = .ok (.goto 12, 3) := by decide +kernel
theorem dX8_partnerOf_38 : decode cX8_partnerOf 38 = .ok (.aload_n 0, 1) := by decide +kernel
theorem dX8_partnerOf_39 : decode cX8_partnerOf 39 = .ok (.iload_n 1, 1) := by decide +kernel
theorem dX8_partnerOf_40 : decode cX8_partnerOf 40 = .ok (.bipush 10, 2) := by decide +kernel
theorem dX8_partnerOf_42 : decode cX8_partnerOf 42 = .ok (.invokevirtual 40, 3) := by decide +kernel
theorem dX8_partnerOf_45 : decode cX8_partnerOf 45 = .ok (.iconst 1, 1) := by decide +kernel
theorem dX8_partnerOf_46 : decode cX8_partnerOf 46 = .ok (.isub, 1) := by decide +kernel
theorem dX8_partnerOf_47 : decode cX8_partnerOf 47 = .ok (.ireturn, 1) := by decide +kernel
theorem dX8_isCalledIn_0 : decode cX8_isCalledIn 0 = .ok (.aload_n 0, 1) := by decide +kernel
theorem dX8_isCalledIn_1 : decode cX8_isCalledIn 1 = .ok (.iload_n 1, 1) := by decide +kernel
theorem dX8_isCalledIn_2 : decode cX8_isCalledIn 2 = .ok (.bipush 9, 2) := by decide +kernel
theorem dX8_isCalledIn_4 : decode cX8_isCalledIn 4 = .ok (.invokevirtual 175, 3) := by decide +kernel
theorem dX8_isCalledIn_7 : decode cX8_isCalledIn 7 = .ok (.iconst 1, 1) := by decide +kernel
theorem dX8_isCalledIn_8 : decode cX8_isCalledIn 8 = .ok (.if_icmp .ne 7, 3) := by decide +kernel
theorem dX8_isCalledIn_11 : decode cX8_isCalledIn 11 = .ok (.iconst 1, 1) := by decide +kernel
theorem dX8_isCalledIn_12 : decode cX8_isCalledIn 12 = .ok (.goto 4, 3) := by decide +kernel
theorem dX8_isCalledIn_15 : decode cX8_isCalledIn 15 = .ok (.iconst 0, 1) := by decide +kernel
theorem dX8_isCalledIn_16 : decode cX8_isCalledIn 16 = .ok (.ireturn, 1) := by decide +kernel
theorem dX8_limitOf_0 : decode cX8_limitOf 0 = .ok (.aload_n 0, 1) := by decide +kernel
theorem dX8_limitOf_1 : decode cX8_limitOf 1 = .ok (.iload_n 1, 1) := by decide +kernel
theorem dX8_limitOf_2 : decode cX8_limitOf 2 = .ok (.iconst 0, 1) := by decide +kernel
theorem dX8_limitOf_3 : decode cX8_limitOf 3 = .ok (.iconst 3, 1) := by decide +kernel
theorem dX8_limitOf_4 : decode cX8_limitOf 4 = .ok (.invokestatic 36, 3) := by decide +kernel
theorem dX8_limitOf_7 : decode cX8_limitOf 7 = .ok (.ifCond .eq 7, 3) := by decide +kernel
theorem dX8_limitOf_10 : decode cX8_limitOf 10 = .ok (.iconst 0, 1) := by decide +kernel
theorem dX8_limitOf_11 : decode cX8_limitOf 11 = .ok (.goto 4, 3) := by decide +kernel
theorem dX8_limitOf_14 : decode cX8_limitOf 14 = .ok (.iconst 1, 1) := by decide +kernel
theorem dX8_limitOf_15 : decode cX8_limitOf 15 = .ok (.invokevirtual 96, 3) := by decide +kernel
theorem dX8_limitOf_18 : decode cX8_limitOf 18 = .ok (.ifCond .eq 7, 3) := by decide +kernel
theorem dX8_limitOf_21 : decode cX8_limitOf 21 = .ok (.iconst 0, 1) := by decide +kernel
theorem dX8_limitOf_22 : decode cX8_limitOf 22 = .ok (.goto 13, 3) := by decide +kernel
theorem dX8_limitOf_25 : decode cX8_limitOf 25 = .ok (.aload_n 0, 1) := by decide +kernel
theorem dX8_limitOf_26 : decode cX8_limitOf 26 = .ok (.getfield 7, 3) := by decide +kernel
theorem dX8_limitOf_29 : decode cX8_limitOf 29 = .ok (.sipush 129, 3) := by decide +kernel
theorem dX8_limitOf_32 : decode cX8_limitOf 32 = .ok (.iload_n 1, 1) := by decide +kernel
theorem dX8_limitOf_33 : decode cX8_limitOf 33 = .ok (.iadd, 1) := by decide +kernel
theorem dX8_limitOf_34 : decode cX8_limitOf 34 = .ok (.iaload, 1) := by decide +kernel
theorem dX8_limitOf_35 : decode cX8_limitOf 35 = .ok (.ireturn, 1) := by decide +kernel
theorem dX8_placeByCounting_0 : decode cX8_placeByCounting 0 = .ok (.aload_n 0, 1) := by decide +kernel
theorem dX8_placeByCounting_1 : decode cX8_placeByCounting 1 = .ok (.aload_n 0, 1) := by decide +kernel
theorem dX8_placeByCounting_2 : decode cX8_placeByCounting 2 = .ok (.iload_n 1, 1) := by decide +kernel
theorem dX8_placeByCounting_3 : decode cX8_placeByCounting 3 = .ok (.invokevirtual 102, 3) := by decide +kernel
theorem dX8_placeByCounting_6 : decode cX8_placeByCounting 6 = .ok (.ifCond .eq 7, 3) := by decide +kernel
theorem dX8_placeByCounting_9 : decode cX8_placeByCounting 9 = .ok (.iconst 0, 1) := by decide +kernel
theorem dX8_placeByCounting_10 : decode cX8_placeByCounting 10 = .ok (.goto 4, 3) := by decide +kernel
theorem dX8_placeByCounting_13 : decode cX8_placeByCounting 13 = .ok (.iconst 1, 1) := by decide +kernel
theorem dX8_placeByCounting_14 : decode cX8_placeByCounting 14 = .ok (.invokevirtual 96, 3) := by decide +kernel
theorem dX8_placeByCounting_17 : decode cX8_placeByCounting 17 = .ok (.ifCond .eq 7, 3) := by decide +kernel
theorem dX8_placeByCounting_20 : decode cX8_placeByCounting 20 = .ok (.iconst 0, 1) := by decide +kernel
theorem dX8_placeByCounting_21 : decode cX8_placeByCounting 21 = .ok (.goto 8, 3) := by decide +kernel
theorem dX8_placeByCounting_24 : decode cX8_placeByCounting 24 = .ok (.aload_n 0, 1) := by decide +kernel
theorem dX8_placeByCounting_25 : decode cX8_placeByCounting 25 = .ok (.iload_n 1, 1) := by decide +kernel
theorem dX8_placeByCounting_26 : decode cX8_placeByCounting 26 = .ok (.invokevirtual 59, 3) := by decide +kernel
theorem dX8_placeByCounting_29 : decode cX8_placeByCounting 29 = .ok (.ireturn, 1) := by decide +kernel
theorem dX8_birdByOrder_0 : decode cX8_birdByOrder 0 = .ok (.aload_n 0, 1) := by decide +kernel
theorem dX8_birdByOrder_1 : decode cX8_birdByOrder 1 = .ok (.aload_n 0, 1) := by decide +kernel
theorem dX8_birdByOrder_2 : decode cX8_birdByOrder 2 = .ok (.iload_n 1, 1) := by decide +kernel
theorem dX8_birdByOrder_3 : decode cX8_birdByOrder 3 = .ok (.invokevirtual 102, 3) := by decide +kernel
theorem dX8_birdByOrder_6 : decode cX8_birdByOrder 6 = .ok (.ifCond .eq 7, 3) := by decide +kernel
theorem dX8_birdByOrder_9 : decode cX8_birdByOrder 9 = .ok (.iconst 0, 1) := by decide +kernel
theorem dX8_birdByOrder_10 : decode cX8_birdByOrder 10 = .ok (.goto 4, 3) := by decide +kernel
theorem dX8_birdByOrder_13 : decode cX8_birdByOrder 13 = .ok (.iconst 1, 1) := by decide +kernel
theorem dX8_birdByOrder_14 : decode cX8_birdByOrder 14 = .ok (.invokevirtual 96, 3) := by decide +kernel
theorem dX8_birdByOrder_17 : decode cX8_birdByOrder 17 = .ok (.ifCond .eq 7, 3) := by decide +kernel
theorem dX8_birdByOrder_20 : decode cX8_birdByOrder 20 = .ok (.iconst 0, 1) := by decide +kernel
theorem dX8_birdByOrder_21 : decode cX8_birdByOrder 21 = .ok (.goto 8, 3) := by decide +kernel
theorem dX8_birdByOrder_24 : decode cX8_birdByOrder 24 = .ok (.aload_n 0, 1) := by decide +kernel
theorem dX8_birdByOrder_25 : decode cX8_birdByOrder 25 = .ok (.iload_n 1, 1) := by decide +kernel
theorem dX8_birdByOrder_26 : decode cX8_birdByOrder 26 = .ok (.invokevirtual 178, 3) := by decide +kernel
theorem dX8_birdByOrder_29 : decode cX8_birdByOrder 29 = .ok (.ireturn, 1) := by decide +kernel
theorem dX8_gapAhead_0 : decode cX8_gapAhead 0 = .ok (.aload_n 0, 1) := by decide +kernel
theorem dX8_gapAhead_1 : decode cX8_gapAhead 1 = .ok (.aload_n 0, 1) := by decide +kernel
theorem dX8_gapAhead_2 : decode cX8_gapAhead 2 = .ok (.iload_n 1, 1) := by decide +kernel
theorem dX8_gapAhead_3 : decode cX8_gapAhead 3 = .ok (.invokevirtual 102, 3) := by decide +kernel
theorem dX8_gapAhead_6 : decode cX8_gapAhead 6 = .ok (.ifCond .eq 7, 3) := by decide +kernel
theorem dX8_gapAhead_9 : decode cX8_gapAhead 9 = .ok (.iconst 0, 1) := by decide +kernel
theorem dX8_gapAhead_10 : decode cX8_gapAhead 10 = .ok (.goto 4, 3) := by decide +kernel
theorem dX8_gapAhead_13 : decode cX8_gapAhead 13 = .ok (.iconst 1, 1) := by decide +kernel
theorem dX8_gapAhead_14 : decode cX8_gapAhead 14 = .ok (.invokevirtual 96, 3) := by decide +kernel
theorem dX8_gapAhead_17 : decode cX8_gapAhead 17 = .ok (.ifCond .eq 7, 3) := by decide +kernel
theorem dX8_gapAhead_20 : decode cX8_gapAhead 20 = .ok (.iconst 0, 1) := by decide +kernel
theorem dX8_gapAhead_21 : decode cX8_gapAhead 21 = .ok (.goto 14, 3) := by decide +kernel
theorem dX8_gapAhead_24 : decode cX8_gapAhead 24 = .ok (.aload_n 0, 1) := by decide +kernel
theorem dX8_gapAhead_25 : decode cX8_gapAhead 25 = .ok (.iload_n 1, 1) := by decide +kernel
theorem dX8_gapAhead_26 : decode cX8_gapAhead 26 = .ok (.aload_n 0, 1) := by decide +kernel
theorem dX8_gapAhead_27 : decode cX8_gapAhead 27 = .ok (.iload_n 1, 1) := by decide +kernel
theorem dX8_gapAhead_28 : decode cX8_gapAhead 28 = .ok (.iconst 5, 1) := by decide +kernel
theorem dX8_gapAhead_29 : decode cX8_gapAhead 29 = .ok (.invokevirtual 40, 3) := by decide +kernel
theorem dX8_gapAhead_32 : decode cX8_gapAhead 32 = .ok (.invokevirtual 68, 3) := by decide +kernel
theorem dX8_gapAhead_35 : decode cX8_gapAhead 35 = .ok (.ireturn, 1) := by decide +kernel
theorem dX8_isIdle_0 : decode cX8_isIdle 0 = .ok (.aload_n 0, 1) := by decide +kernel
theorem dX8_isIdle_1 : decode cX8_isIdle 1 = .ok (.aload_n 0, 1) := by decide +kernel
theorem dX8_isIdle_2 : decode cX8_isIdle 2 = .ok (.iload_n 1, 1) := by decide +kernel
theorem dX8_isIdle_3 : decode cX8_isIdle 3 = .ok (.invokevirtual 102, 3) := by decide +kernel
theorem dX8_isIdle_6 : decode cX8_isIdle 6 = .ok (.ifCond .ne 7, 3) := by decide +kernel
theorem dX8_isIdle_9 : decode cX8_isIdle 9 = .ok (.iconst 1, 1) := by decide +kernel
theorem dX8_isIdle_10 : decode cX8_isIdle 10 = .ok (.goto 16, 3) := by decide +kernel
theorem dX8_isIdle_13 : decode cX8_isIdle 13 = .ok (.aload_n 0, 1) := by decide +kernel
theorem dX8_isIdle_14 : decode cX8_isIdle 14 = .ok (.iload_n 1, 1) := by decide +kernel
theorem dX8_isIdle_15 : decode cX8_isIdle 15 = .ok (.invokevirtual 62, 3) := by decide +kernel
theorem dX8_isIdle_18 : decode cX8_isIdle 18 = .ok (.ifCond .eq 7, 3) := by decide +kernel
theorem dX8_isIdle_21 : decode cX8_isIdle 21 = .ok (.iconst 0, 1) := by decide +kernel
theorem dX8_isIdle_22 : decode cX8_isIdle 22 = .ok (.goto 4, 3) := by decide +kernel
theorem dX8_isIdle_25 : decode cX8_isIdle 25 = .ok (.iconst 2, 1) := by decide +kernel
theorem dX8_isIdle_26 : decode cX8_isIdle 26 = .ok (.invokevirtual 96, 3) := by decide +kernel
theorem dX8_isIdle_29 : decode cX8_isIdle 29 = .ok (.ireturn, 1) := by decide +kernel
theorem dX8_isDrafting_0 : decode cX8_isDrafting 0 = .ok (.aload_n 0, 1) := by decide +kernel
theorem dX8_isDrafting_1 : decode cX8_isDrafting 1 = .ok (.iload_n 1, 1) := by decide +kernel
theorem dX8_isDrafting_2 : decode cX8_isDrafting 2 = .ok (.invokevirtual 181, 3) := by decide +kernel
theorem dX8_isDrafting_5 : decode cX8_isDrafting 5 = .ok (.ifCond .ne 15, 3) := by decide +kernel
theorem dX8_isDrafting_8 : decode cX8_isDrafting 8 = .ok (.aload_n 0, 1) := by decide +kernel
theorem dX8_isDrafting_9 : decode cX8_isDrafting 9 = .ok (.iload_n 1, 1) := by decide +kernel
theorem dX8_isDrafting_10 : decode cX8_isDrafting 10 = .ok (.invokevirtual 74, 3) := by decide +kernel
theorem dX8_isDrafting_13 : decode cX8_isDrafting 13 = .ok (.ifCond .eq 7, 3) := by decide +kernel
theorem dX8_isDrafting_16 : decode cX8_isDrafting 16 = .ok (.iconst 1, 1) := by decide +kernel
theorem dX8_isDrafting_17 : decode cX8_isDrafting 17 = .ok (.goto 4, 3) := by decide +kernel
theorem dX8_isDrafting_20 : decode cX8_isDrafting 20 = .ok (.iconst 0, 1) := by decide +kernel
theorem dX8_isDrafting_21 : decode cX8_isDrafting 21 = .ok (.ireturn, 1) := by decide +kernel
theorem dX8_whereIs_0 : decode cX8_whereIs 0 = .ok (.aload_n 0, 1) := by decide +kernel
theorem dX8_whereIs_1 : decode cX8_whereIs 1 = .ok (.aload_n 0, 1) := by decide +kernel
theorem dX8_whereIs_2 : decode cX8_whereIs 2 = .ok (.iload_n 1, 1) := by decide +kernel
theorem dX8_whereIs_3 : decode cX8_whereIs 3 = .ok (.invokevirtual 102, 3) := by decide +kernel
theorem dX8_whereIs_6 : decode cX8_whereIs 6 = .ok (.ifCond .eq 7, 3) := by decide +kernel
theorem dX8_whereIs_9 : decode cX8_whereIs 9 = .ok (.iconst 0, 1) := by decide +kernel
theorem dX8_whereIs_10 : decode cX8_whereIs 10 = .ok (.goto 4, 3) := by decide +kernel
theorem dX8_whereIs_13 : decode cX8_whereIs 13 = .ok (.iconst 1, 1) := by decide +kernel
theorem dX8_whereIs_14 : decode cX8_whereIs 14 = .ok (.invokevirtual 96, 3) := by decide +kernel
theorem dX8_whereIs_17 : decode cX8_whereIs 17 = .ok (.ifCond .eq 7, 3) := by decide +kernel
theorem dX8_whereIs_20 : decode cX8_whereIs 20 = .ok (.iconst 0, 1) := by decide +kernel
theorem dX8_whereIs_21 : decode cX8_whereIs 21 = .ok (.goto 8, 3) := by decide +kernel
theorem dX8_whereIs_24 : decode cX8_whereIs 24 = .ok (.aload_n 0, 1) := by decide +kernel
theorem dX8_whereIs_25 : decode cX8_whereIs 25 = .ok (.iload_n 1, 1) := by decide +kernel
theorem dX8_whereIs_26 : decode cX8_whereIs 26 = .ok (.invokevirtual 71, 3) := by decide +kernel
theorem dX8_whereIs_29 : decode cX8_whereIs 29 = .ok (.ireturn, 1) := by decide +kernel
theorem dX8_allowance_0 : decode cX8_allowance 0 = .ok (.aload_n 0, 1) := by decide +kernel
theorem dX8_allowance_1 : decode cX8_allowance 1 = .ok (.iload_n 1, 1) := by decide +kernel
theorem dX8_allowance_2 : decode cX8_allowance 2 = .ok (.invokevirtual 181, 3) := by decide +kernel
theorem dX8_allowance_5 : decode cX8_allowance 5 = .ok (.ifCond .eq 7, 3) := by decide +kernel
theorem dX8_allowance_8 : decode cX8_allowance 8 = .ok (.iconst 0, 1) := by decide +kernel
theorem dX8_allowance_9 : decode cX8_allowance 9 = .ok (.goto 8, 3) := by decide +kernel
theorem dX8_allowance_12 : decode cX8_allowance 12 = .ok (.aload_n 0, 1) := by decide +kernel
theorem dX8_allowance_13 : decode cX8_allowance 13 = .ok (.iload_n 1, 1) := by decide +kernel
theorem dX8_allowance_14 : decode cX8_allowance 14 = .ok (.invokevirtual 77, 3) := by decide +kernel
theorem dX8_allowance_17 : decode cX8_allowance 17 = .ok (.ireturn, 1) := by decide +kernel
theorem dX8_flownIn_0 : decode cX8_flownIn 0 = .ok (.aload_n 0, 1) := by decide +kernel
theorem dX8_flownIn_1 : decode cX8_flownIn 1 = .ok (.invokevirtual 163, 3) := by decide +kernel
theorem dX8_flownIn_4 : decode cX8_flownIn 4 = .ok (.aload_n 0, 1) := by decide +kernel
theorem dX8_flownIn_5 : decode cX8_flownIn 5 = .ok (.iload_n 2, 1) := by decide +kernel
theorem dX8_flownIn_6 : decode cX8_flownIn 6 = .ok (.invokevirtual 118, 3) := by decide +kernel
theorem dX8_flownIn_9 : decode cX8_flownIn 9 = .ok (.istore_n 3, 1) := by decide +kernel
theorem dX8_flownIn_10 : decode cX8_flownIn 10 = .ok (.aload_n 0, 1) := by decide +kernel
theorem dX8_flownIn_11 : decode cX8_flownIn 11 = .ok (.iload_n 1, 1) := by decide +kernel
theorem dX8_flownIn_12 : decode cX8_flownIn 12 = .ok (.bipush 7, 2) := by decide +kernel
theorem dX8_flownIn_14 : decode cX8_flownIn 14 = .ok (.invokevirtual 40, 3) := by decide +kernel
theorem dX8_flownIn_17 : decode cX8_flownIn 17 = .ok (.istore 4, 2) := by decide +kernel
theorem dX8_flownIn_19 : decode cX8_flownIn 19 = .ok (.aload_n 0, 1) := by decide +kernel
theorem dX8_flownIn_20 : decode cX8_flownIn 20 = .ok (.invokevirtual 169, 3) := by decide +kernel
theorem dX8_flownIn_23 : decode cX8_flownIn 23 = .ok (.iload 4, 2) := by decide +kernel
theorem dX8_flownIn_25 : decode cX8_flownIn 25 = .ok (.ireturn, 1) := by decide +kernel
theorem dX8_wouldFly_0 : decode cX8_wouldFly 0 = .ok (.aload_n 0, 1) := by decide +kernel
theorem dX8_wouldFly_1 : decode cX8_wouldFly 1 = .ok (.aload_n 0, 1) := by decide +kernel
theorem dX8_wouldFly_2 : decode cX8_wouldFly 2 = .ok (.iload_n 1, 1) := by decide +kernel
theorem dX8_wouldFly_3 : decode cX8_wouldFly 3 = .ok (.invokevirtual 102, 3) := by decide +kernel
theorem dX8_wouldFly_6 : decode cX8_wouldFly 6 = .ok (.ifCond .ne 7, 3) := by decide +kernel
theorem dX8_wouldFly_9 : decode cX8_wouldFly 9 = .ok (.iconst 1, 1) := by decide +kernel
theorem dX8_wouldFly_10 : decode cX8_wouldFly 10 = .ok (.goto 35, 3) := by decide +kernel
theorem dX8_wouldFly_13 : decode cX8_wouldFly 13 = .ok (.iload_n 2, 1) := by decide +kernel
theorem dX8_wouldFly_14 : decode cX8_wouldFly 14 = .ok (.iconst 1, 1) := by decide +kernel
theorem dX8_wouldFly_15 : decode cX8_wouldFly 15 = .ok (.sipush 200, 3) := by decide +kernel
theorem dX8_wouldFly_18 : decode cX8_wouldFly 18 = .ok (.invokestatic 36, 3) := by decide +kernel
theorem dX8_wouldFly_21 : decode cX8_wouldFly 21 = .ok (.ifCond .ne 7, 3) := by decide +kernel
theorem dX8_wouldFly_24 : decode cX8_wouldFly 24 = .ok (.iconst 2, 1) := by decide +kernel
theorem dX8_wouldFly_25 : decode cX8_wouldFly 25 = .ok (.goto 20, 3) := by decide +kernel
theorem dX8_wouldFly_28 : decode cX8_wouldFly 28 = .ok (.aload_n 0, 1) := by decide +kernel
theorem dX8_wouldFly_29 : decode cX8_wouldFly 29 = .ok (.getfield 7, 3) := by decide +kernel
theorem dX8_wouldFly_32 : decode cX8_wouldFly 32 = .ok (.sipush 150, 3) := by decide +kernel
theorem dX8_wouldFly_35 : decode cX8_wouldFly 35 = .ok (.iaload, 1) := by decide +kernel
theorem dX8_wouldFly_36 : decode cX8_wouldFly 36 = .ok (.iconst 1, 1) := by decide +kernel
theorem dX8_wouldFly_37 : decode cX8_wouldFly 37 = .ok (.if_icmp .ne 7, 3) := by decide +kernel
theorem dX8_wouldFly_40 : decode cX8_wouldFly 40 = .ok (.iconst 0, 1) := by decide +kernel
theorem dX8_wouldFly_41 : decode cX8_wouldFly 41 = .ok (.goto 4, 3) := by decide +kernel
theorem dX8_wouldFly_44 : decode cX8_wouldFly 44 = .ok (.iconst 3, 1) := by decide +kernel
theorem dX8_wouldFly_45 : decode cX8_wouldFly 45 = .ok (.invokevirtual 96, 3) := by decide +kernel
theorem dX8_wouldFly_48 : decode cX8_wouldFly 48 = .ok (.ifCond .eq 7, 3) := by decide +kernel
theorem dX8_wouldFly_51 : decode cX8_wouldFly 51 = .ok (.iconst 0, 1) := by decide +kernel
theorem dX8_wouldFly_52 : decode cX8_wouldFly 52 = .ok (.goto 9, 3) := by decide +kernel
theorem dX8_wouldFly_55 : decode cX8_wouldFly 55 = .ok (.aload_n 0, 1) := by decide +kernel
theorem dX8_wouldFly_56 : decode cX8_wouldFly 56 = .ok (.iload_n 1, 1) := by decide +kernel
theorem dX8_wouldFly_57 : decode cX8_wouldFly 57 = .ok (.iload_n 2, 1) := by decide +kernel
theorem dX8_wouldFly_58 : decode cX8_wouldFly 58 = .ok (.invokevirtual 184, 3) := by decide +kernel
theorem dX8_wouldFly_61 : decode cX8_wouldFly 61 = .ok (.ireturn, 1) := by decide +kernel
theorem dX8_nextIn_0 : decode cX8_nextIn 0 = .ok (.aload_n 0, 1) := by decide +kernel
theorem dX8_nextIn_1 : decode cX8_nextIn 1 = .ok (.getfield 7, 3) := by decide +kernel
theorem dX8_nextIn_4 : decode cX8_nextIn 4 = .ok (.sipush 150, 3) := by decide +kernel
theorem dX8_nextIn_7 : decode cX8_nextIn 7 = .ok (.iaload, 1) := by decide +kernel
theorem dX8_nextIn_8 : decode cX8_nextIn 8 = .ok (.ifCond .ne 5, 3) := by decide +kernel
theorem dX8_nextIn_11 : decode cX8_nextIn 11 = .ok (.iconst 0, 1) := by decide +kernel
theorem dX8_nextIn_12 : decode cX8_nextIn 12 = .ok (.ireturn, 1) := by decide +kernel
theorem dX8_nextIn_13 : decode cX8_nextIn 13 = .ok (.aload_n 0, 1) := by decide +kernel
theorem dX8_nextIn_14 : decode cX8_nextIn 14 = .ok (.invokevirtual 163, 3) := by decide +kernel
theorem dX8_nextIn_17 : decode cX8_nextIn 17 = .ok (.iconst 0, 1) := by decide +kernel
theorem dX8_nextIn_18 : decode cX8_nextIn 18 = .ok (.istore_n 1, 1) := by decide +kernel
theorem dX8_nextIn_19 : decode cX8_nextIn 19 = .ok (.iconst 0, 1) := by decide +kernel
theorem dX8_nextIn_20 : decode cX8_nextIn 20 = .ok (.istore_n 2, 1) := by decide +kernel
theorem dX8_nextIn_21 : decode cX8_nextIn 21 = .ok (.iload_n 1, 1) := by decide +kernel
theorem dX8_nextIn_22 : decode cX8_nextIn 22 = .ok (.sipush 2000, 3) := by decide +kernel
theorem dX8_nextIn_25 : decode cX8_nextIn 25 = .ok (.if_icmp .ge 26, 3) := by decide +kernel
theorem dX8_nextIn_28 : decode cX8_nextIn 28 = .ok (.iload_n 2, 1) := by decide +kernel
theorem dX8_nextIn_29 : decode cX8_nextIn 29 = .ok (.ifCond .ne 22, 3) := by decide +kernel
theorem dX8_nextIn_32 : decode cX8_nextIn 32 = .ok (.aload_n 0, 1) := by decide +kernel
theorem dX8_nextIn_33 : decode cX8_nextIn 33 = .ok (.invokevirtual 92, 3) := by decide +kernel
theorem dX8_nextIn_36 : decode cX8_nextIn 36 = .ok (.ifCond .le 7, 3) := by decide +kernel
theorem dX8_nextIn_39 : decode cX8_nextIn 39 = .ok (.iconst 1, 1) := by decide +kernel
theorem dX8_nextIn_40 : decode cX8_nextIn 40 = .ok (.goto 4, 3) := by decide +kernel
theorem dX8_nextIn_43 : decode cX8_nextIn 43 = .ok (.iconst 0, 1) := by decide +kernel
theorem dX8_nextIn_44 : decode cX8_nextIn 44 = .ok (.istore_n 2, 1) := by decide +kernel
theorem dX8_nextIn_45 : decode cX8_nextIn 45 = .ok (.iinc 1 1, 3) := by decide +kernel
theorem dX8_nextIn_48 : decode cX8_nextIn 48 = .ok (.goto (-27), 3) := by decide +kernel
theorem dX8_nextIn_51 : decode cX8_nextIn 51 = .ok (.aload_n 0, 1) := by decide +kernel
theorem dX8_nextIn_52 : decode cX8_nextIn 52 = .ok (.aload_n 0, 1) := by decide +kernel
theorem dX8_nextIn_53 : decode cX8_nextIn 53 = .ok (.getfield 7, 3) := by decide +kernel
theorem dX8_nextIn_56 : decode cX8_nextIn 56 = .ok (.sipush 136, 3) := by decide +kernel
theorem dX8_nextIn_59 : decode cX8_nextIn 59 = .ok (.iaload, 1) := by decide +kernel
theorem dX8_nextIn_60 : decode cX8_nextIn 60 = .ok (.putfield 187, 3) := by decide +kernel
theorem dX8_nextIn_63 : decode cX8_nextIn 63 = .ok (.aload_n 0, 1) := by decide +kernel
theorem dX8_nextIn_64 : decode cX8_nextIn 64 = .ok (.invokevirtual 169, 3) := by decide +kernel
theorem dX8_nextIn_67 : decode cX8_nextIn 67 = .ok (.iload_n 2, 1) := by decide +kernel
theorem dX8_nextIn_68 : decode cX8_nextIn 68 = .ok (.ifCond .eq 7, 3) := by decide +kernel
theorem dX8_nextIn_71 : decode cX8_nextIn 71 = .ok (.iload_n 1, 1) := by decide +kernel
theorem dX8_nextIn_72 : decode cX8_nextIn 72 = .ok (.goto 4, 3) := by decide +kernel
theorem dX8_nextIn_75 : decode cX8_nextIn 75 = .ok (.iconst 0, 1) := by decide +kernel
theorem dX8_nextIn_76 : decode cX8_nextIn 76 = .ok (.ireturn, 1) := by decide +kernel
theorem dX8_first_0 : decode cX8_first 0 = .ok (.aload_n 0, 1) := by decide +kernel
theorem dX8_first_1 : decode cX8_first 1 = .ok (.getfield 7, 3) := by decide +kernel
theorem dX8_first_4 : decode cX8_first 4 = .ok (.sipush 135, 3) := by decide +kernel
theorem dX8_first_7 : decode cX8_first 7 = .ok (.iaload, 1) := by decide +kernel
theorem dX8_first_8 : decode cX8_first 8 = .ok (.ifCond .gt 10, 3) := by decide +kernel
theorem dX8_first_11 : decode cX8_first 11 = .ok (.aload_n 0, 1) := by decide +kernel
theorem dX8_first_12 : decode cX8_first 12 = .ok (.invokevirtual 190, 3) := by decide +kernel
theorem dX8_first_15 : decode cX8_first 15 = .ok (.ifCond .ne 7, 3) := by decide +kernel
theorem dX8_first_18 : decode cX8_first 18 = .ok (.iconst 0, 1) := by decide +kernel
theorem dX8_first_19 : decode cX8_first 19 = .ok (.goto 9, 3) := by decide +kernel
theorem dX8_first_22 : decode cX8_first 22 = .ok (.aload_n 0, 1) := by decide +kernel
theorem dX8_first_23 : decode cX8_first 23 = .ok (.getfield 187, 3) := by decide +kernel
theorem dX8_first_26 : decode cX8_first 26 = .ok (.iconst 1, 1) := by decide +kernel
theorem dX8_first_27 : decode cX8_first 27 = .ok (.iadd, 1) := by decide +kernel
theorem dX8_first_28 : decode cX8_first 28 = .ok (.ireturn, 1) := by decide +kernel
theorem dX8_wouldWin_0 : decode cX8_wouldWin 0 = .ok (.aload_n 0, 1) := by decide +kernel
theorem dX8_wouldWin_1 : decode cX8_wouldWin 1 = .ok (.invokevirtual 193, 3) := by decide +kernel
theorem dX8_wouldWin_4 : decode cX8_wouldWin 4 = .ok (.istore_n 1, 1) := by decide +kernel
theorem dX8_wouldWin_5 : decode cX8_wouldWin 5 = .ok (.aload_n 0, 1) := by decide +kernel
theorem dX8_wouldWin_6 : decode cX8_wouldWin 6 = .ok (.iload_n 1, 1) := by decide +kernel
theorem dX8_wouldWin_7 : decode cX8_wouldWin 7 = .ok (.ifCond .ne 7, 3) := by decide +kernel
theorem dX8_wouldWin_10 : decode cX8_wouldWin 10 = .ok (.iconst 1, 1) := by decide +kernel
theorem dX8_wouldWin_11 : decode cX8_wouldWin 11 = .ok (.goto 4, 3) := by decide +kernel
theorem dX8_wouldWin_14 : decode cX8_wouldWin 14 = .ok (.iconst 0, 1) := by decide +kernel
theorem dX8_wouldWin_15 : decode cX8_wouldWin 15 = .ok (.invokevirtual 96, 3) := by decide +kernel
theorem dX8_wouldWin_18 : decode cX8_wouldWin 18 = .ok (.ifCond .eq 7, 3) := by decide +kernel
theorem dX8_wouldWin_21 : decode cX8_wouldWin 21 = .ok (.iconst 0, 1) := by decide +kernel
theorem dX8_wouldWin_22 : decode cX8_wouldWin 22 = .ok (.goto 6, 3) := by decide +kernel
theorem dX8_wouldWin_25 : decode cX8_wouldWin 25 = .ok (.iload_n 1, 1) := by decide +kernel
theorem dX8_wouldWin_26 : decode cX8_wouldWin 26 = .ok (.iconst 1, 1) := by decide +kernel
theorem dX8_wouldWin_27 : decode cX8_wouldWin 27 = .ok (.isub, 1) := by decide +kernel
theorem dX8_wouldWin_28 : decode cX8_wouldWin 28 = .ok (.ireturn, 1) := by decide +kernel
theorem dX8_secondsToNext_0 : decode cX8_secondsToNext 0 = .ok (.aload_n 0, 1) := by decide +kernel
theorem dX8_secondsToNext_1 : decode cX8_secondsToNext 1 = .ok (.invokevirtual 190, 3) := by decide +kernel
theorem dX8_secondsToNext_4 : decode cX8_secondsToNext 4 = .ok (.istore_n 1, 1) := by decide +kernel
theorem dX8_secondsToNext_5 : decode cX8_secondsToNext 5 = .ok (.aload_n 0, 1) := by decide +kernel
theorem dX8_secondsToNext_6 : decode cX8_secondsToNext 6 = .ok (.iload_n 1, 1) := by decide +kernel
theorem dX8_secondsToNext_7 : decode cX8_secondsToNext 7 = .ok (.ifCond .ne 7, 3) := by decide +kernel
theorem dX8_secondsToNext_10 : decode cX8_secondsToNext 10 = .ok (.iconst 1, 1) := by decide +kernel
theorem dX8_secondsToNext_11 : decode cX8_secondsToNext 11 = .ok (.goto 4, 3) := by decide +kernel
theorem dX8_secondsToNext_14 : decode cX8_secondsToNext 14 = .ok (.iconst 0, 1) := by decide +kernel
theorem dX8_secondsToNext_15 : decode cX8_secondsToNext 15 = .ok (.invokevirtual 96, 3) := by decide +kernel
theorem dX8_secondsToNext_18 : decode cX8_secondsToNext 18 = .ok (.ifCond .eq 7, 3) := by decide +kernel
theorem dX8_secondsToNext_21 : decode cX8_secondsToNext 21 = .ok (.iconst 0, 1) := by decide +kernel
theorem dX8_secondsToNext_22 : decode cX8_secondsToNext 22 = .ok (.goto 4, 3) := by decide +kernel
theorem dX8_secondsToNext_25 : decode cX8_secondsToNext 25 = .ok (.iload_n 1, 1) := by decide +kernel
theorem dX8_secondsToNext_26 : decode cX8_secondsToNext 26 = .ok (.ireturn, 1) := by decide +kernel
theorem dX8_flownAt_0 : decode cX8_flownAt 0 = .ok (.aload_n 0, 1) := by decide +kernel
theorem dX8_flownAt_1 : decode cX8_flownAt 1 = .ok (.iload_n 1, 1) := by decide +kernel
theorem dX8_flownAt_2 : decode cX8_flownAt 2 = .ok (.iconst 0, 1) := by decide +kernel
theorem dX8_flownAt_3 : decode cX8_flownAt 3 = .ok (.invokevirtual 40, 3) := by decide +kernel
theorem dX8_flownAt_6 : decode cX8_flownAt 6 = .ok (.istore_n 3, 1) := by decide +kernel
theorem dX8_flownAt_7 : decode cX8_flownAt 7 = .ok (.aload_n 0, 1) := by decide +kernel
theorem dX8_flownAt_8 : decode cX8_flownAt 8 = .ok (.getfield 7, 3) := by decide +kernel
theorem dX8_flownAt_11 : decode cX8_flownAt 11 = .ok (.bipush 16, 2) := by decide +kernel
theorem dX8_flownAt_13 : decode cX8_flownAt 13 = .ok (.iload_n 1, 1) := by decide +kernel
theorem dX8_flownAt_14 : decode cX8_flownAt 14 = .ok (.imul, 1) := by decide +kernel
theorem dX8_flownAt_15 : decode cX8_flownAt 15 = .ok (.iload_n 2, 1) := by decide +kernel
theorem dX8_flownAt_16 : decode cX8_flownAt 16 = .ok (.iastore, 1) := by decide +kernel
theorem dX8_flownAt_17 : decode cX8_flownAt 17 = .ok (.aload_n 0, 1) := by decide +kernel
theorem dX8_flownAt_18 : decode cX8_flownAt 18 = .ok (.iload_n 1, 1) := by decide +kernel
theorem dX8_flownAt_19 : decode cX8_flownAt 19 = .ok (.bipush 50, 2) := by decide +kernel
theorem dX8_flownAt_21 : decode cX8_flownAt 21 = .ok (.invokevirtual 184, 3) := by decide +kernel
theorem dX8_flownAt_24 : decode cX8_flownAt 24 = .ok (.istore 4, 2) := by decide +kernel
theorem dX8_flownAt_26 : decode cX8_flownAt 26 = .ok (.aload_n 0, 1) := by decide +kernel
theorem dX8_flownAt_27 : decode cX8_flownAt 27 = .ok (.getfield 7, 3) := by decide +kernel
theorem dX8_flownAt_30 : decode cX8_flownAt 30 = .ok (.bipush 16, 2) := by decide +kernel
theorem dX8_flownAt_32 : decode cX8_flownAt 32 = .ok (.iload_n 1, 1) := by decide +kernel
theorem dX8_flownAt_33 : decode cX8_flownAt 33 = .ok (.imul, 1) := by decide +kernel
theorem dX8_flownAt_34 : decode cX8_flownAt 34 = .ok (.iload_n 3, 1) := by decide +kernel
theorem dX8_flownAt_35 : decode cX8_flownAt 35 = .ok (.iastore, 1) := by decide +kernel
theorem dX8_flownAt_36 : decode cX8_flownAt 36 = .ok (.iload 4, 2) := by decide +kernel
theorem dX8_flownAt_38 : decode cX8_flownAt 38 = .ok (.ireturn, 1) := by decide +kernel
theorem dX8_flownWithPace_0 : decode cX8_flownWithPace 0 = .ok (.aload_n 0, 1) := by decide +kernel
theorem dX8_flownWithPace_1 : decode cX8_flownWithPace 1 = .ok (.aload_n 0, 1) := by decide +kernel
theorem dX8_flownWithPace_2 : decode cX8_flownWithPace 2 = .ok (.iload_n 1, 1) := by decide +kernel
theorem dX8_flownWithPace_3 : decode cX8_flownWithPace 3 = .ok (.invokevirtual 102, 3) := by decide +kernel
theorem dX8_flownWithPace_6 : decode cX8_flownWithPace 6 = .ok (.ifCond .ne 7, 3) := by decide +kernel
theorem dX8_flownWithPace_9 : decode cX8_flownWithPace 9 = .ok (.iconst 1, 1) := by decide +kernel
theorem dX8_flownWithPace_10 : decode cX8_flownWithPace 10 = .ok (.goto 35, 3) := by decide +kernel
theorem dX8_flownWithPace_13 : decode cX8_flownWithPace 13 = .ok (.iload_n 2, 1) := by decide +kernel
theorem dX8_flownWithPace_14 : decode cX8_flownWithPace 14 = .ok (.bipush 10, 2) := by decide +kernel
theorem dX8_flownWithPace_16 : decode cX8_flownWithPace 16 = .ok (.bipush 40, 2) := by decide +kernel
theorem dX8_flownWithPace_18 : decode cX8_flownWithPace 18 = .ok (.invokestatic 36, 3) := by decide +kernel
theorem dX8_flownWithPace_21 : decode cX8_flownWithPace 21 = .ok (.ifCond .ne 7, 3) := by decide +kernel
theorem dX8_flownWithPace_24 : decode cX8_flownWithPace 24 = .ok (.iconst 2, 1) := by decide +kernel
theorem dX8_flownWithPace_25 : decode cX8_flownWithPace 25 = .ok (.goto 20, 3) := by decide +kernel
theorem dX8_flownWithPace_28 : decode cX8_flownWithPace 28 = .ok (.aload_n 0, 1) := by decide +kernel
theorem dX8_flownWithPace_29 : decode cX8_flownWithPace 29 = .ok (.getfield 7, 3) := by decide +kernel
theorem dX8_flownWithPace_32 : decode cX8_flownWithPace 32 = .ok (.sipush 150, 3) := by decide +kernel
theorem dX8_flownWithPace_35 : decode cX8_flownWithPace 35 = .ok (.iaload, 1) := by decide +kernel
theorem dX8_flownWithPace_36 : decode cX8_flownWithPace 36 = .ok (.iconst 1, 1) := by decide +kernel
theorem dX8_flownWithPace_37 : decode cX8_flownWithPace 37 = .ok (.if_icmp .ne 7, 3) := by decide +kernel
theorem dX8_flownWithPace_40 : decode cX8_flownWithPace 40 = .ok (.iconst 0, 1) := by decide +kernel
theorem dX8_flownWithPace_41 : decode cX8_flownWithPace 41 = .ok (.goto 4, 3) := by decide +kernel
theorem dX8_flownWithPace_44 : decode cX8_flownWithPace 44 = .ok (.iconst 3, 1) := by decide +kernel
theorem dX8_flownWithPace_45 : decode cX8_flownWithPace 45 = .ok (.invokevirtual 96, 3) := by decide +kernel
theorem dX8_flownWithPace_48 : decode cX8_flownWithPace 48 = .ok (.ifCond .eq 7, 3) := by decide +kernel
theorem dX8_flownWithPace_51 : decode cX8_flownWithPace 51 = .ok (.iconst 0, 1) := by decide +kernel
theorem dX8_flownWithPace_52 : decode cX8_flownWithPace 52 = .ok (.goto 9, 3) := by decide +kernel
theorem dX8_flownWithPace_55 : decode cX8_flownWithPace 55 = .ok (.aload_n 0, 1) := by decide +kernel
theorem dX8_flownWithPace_56 : decode cX8_flownWithPace 56 = .ok (.iload_n 1, 1) := by decide +kernel
theorem dX8_flownWithPace_57 : decode cX8_flownWithPace 57 = .ok (.iload_n 2, 1) := by decide +kernel
theorem dX8_flownWithPace_58 : decode cX8_flownWithPace 58 = .ok (.invokevirtual 196, 3) := by decide +kernel
theorem dX8_flownWithPace_61 : decode cX8_flownWithPace 61 = .ok (.ireturn, 1) := by decide +kernel
theorem dX8_best_0 : decode cX8_best 0 = .ok (.bipush 10, 2) := by decide +kernel
theorem dX8_best_2 : decode cX8_best 2 = .ok (.istore_n 2, 1) := by decide +kernel
theorem dX8_best_3 : decode cX8_best 3 = .ok (.aload_n 0, 1) := by decide +kernel
theorem dX8_best_4 : decode cX8_best 4 = .ok (.iload_n 1, 1) := by decide +kernel
theorem dX8_best_5 : decode cX8_best 5 = .ok (.bipush 10, 2) := by decide +kernel
theorem dX8_best_7 : decode cX8_best 7 = .ok (.invokevirtual 196, 3) := by decide +kernel
theorem dX8_best_10 : decode cX8_best 10 = .ok (.istore_n 3, 1) := by decide +kernel
theorem dX8_best_11 : decode cX8_best 11 = .ok (.bipush 11, 2) := by decide +kernel
theorem dX8_best_13 : decode cX8_best 13 = .ok (.istore 4, 2) := by decide +kernel
theorem dX8_best_15 : decode cX8_best 15 = .ok (.iload 4, 2) := by decide +kernel
theorem dX8_best_17 : decode cX8_best 17 = .ok (.bipush 40, 2) := by decide +kernel
theorem dX8_best_19 : decode cX8_best 19 = .ok (.if_icmp .gt 44, 3) := by decide +kernel
theorem dX8_best_22 : decode cX8_best 22 = .ok (.aload_n 0, 1) := by decide +kernel
theorem dX8_best_23 : decode cX8_best 23 = .ok (.iload_n 1, 1) := by decide +kernel
theorem dX8_best_24 : decode cX8_best 24 = .ok (.iload 4, 2) := by decide +kernel
theorem dX8_best_26 : decode cX8_best 26 = .ok (.invokevirtual 196, 3) := by decide +kernel
theorem dX8_best_29 : decode cX8_best 29 = .ok (.istore 5, 2) := by decide +kernel
theorem dX8_best_31 : decode cX8_best 31 = .ok (.iload 5, 2) := by decide +kernel
theorem dX8_best_33 : decode cX8_best 33 = .ok (.iload_n 3, 1) := by decide +kernel
theorem dX8_best_34 : decode cX8_best 34 = .ok (.if_icmp .le 8, 3) := by decide +kernel
theorem dX8_best_37 : decode cX8_best 37 = .ok (.iload 4, 2) := by decide +kernel
theorem dX8_best_39 : decode cX8_best 39 = .ok (.goto 4, 3) := by decide +kernel
theorem dX8_best_42 : decode cX8_best 42 = .ok (.iload_n 2, 1) := by decide +kernel
theorem dX8_best_43 : decode cX8_best 43 = .ok (.istore_n 2, 1) := by decide +kernel
theorem dX8_best_44 : decode cX8_best 44 = .ok (.iload 5, 2) := by decide +kernel
theorem dX8_best_46 : decode cX8_best 46 = .ok (.iload_n 3, 1) := by decide +kernel
theorem dX8_best_47 : decode cX8_best 47 = .ok (.if_icmp .le 8, 3) := by decide +kernel
theorem dX8_best_50 : decode cX8_best 50 = .ok (.iload 5, 2) := by decide +kernel
theorem dX8_best_52 : decode cX8_best 52 = .ok (.goto 4, 3) := by decide +kernel
theorem dX8_best_55 : decode cX8_best 55 = .ok (.iload_n 3, 1) := by decide +kernel
theorem dX8_best_56 : decode cX8_best 56 = .ok (.istore_n 3, 1) := by decide +kernel
theorem dX8_best_57 : decode cX8_best 57 = .ok (.iinc 4 1, 3) := by decide +kernel
theorem dX8_best_60 : decode cX8_best 60 = .ok (.goto (-45), 3) := by decide +kernel
theorem dX8_best_63 : decode cX8_best 63 = .ok (.iload_n 2, 1) := by decide +kernel
theorem dX8_best_64 : decode cX8_best 64 = .ok (.ireturn, 1) := by decide +kernel
theorem dX8_bestPace_0 : decode cX8_bestPace 0 = .ok (.aload_n 0, 1) := by decide +kernel
theorem dX8_bestPace_1 : decode cX8_bestPace 1 = .ok (.aload_n 0, 1) := by decide +kernel
theorem dX8_bestPace_2 : decode cX8_bestPace 2 = .ok (.iload_n 1, 1) := by decide +kernel
theorem dX8_bestPace_3 : decode cX8_bestPace 3 = .ok (.invokevirtual 102, 3) := by decide +kernel
theorem dX8_bestPace_6 : decode cX8_bestPace 6 = .ok (.ifCond .ne 7, 3) := by decide +kernel
theorem dX8_bestPace_9 : decode cX8_bestPace 9 = .ok (.iconst 1, 1) := by decide +kernel
theorem dX8_bestPace_10 : decode cX8_bestPace 10 = .ok (.goto 20, 3) := by decide +kernel
theorem dX8_bestPace_13 : decode cX8_bestPace 13 = .ok (.aload_n 0, 1) := by decide +kernel
theorem dX8_bestPace_14 : decode cX8_bestPace 14 = .ok (.getfield 7, 3) := by decide +kernel
theorem dX8_bestPace_17 : decode cX8_bestPace 17 = .ok (.sipush 150, 3) := by decide +kernel
theorem dX8_bestPace_20 : decode cX8_bestPace 20 = .ok (.iaload, 1) := by decide +kernel
theorem dX8_bestPace_21 : decode cX8_bestPace 21 = .ok (.iconst 1, 1) := by decide +kernel
theorem dX8_bestPace_22 : decode cX8_bestPace 22 = .ok (.if_icmp .ne 7, 3) := by decide +kernel
theorem dX8_bestPace_25 : decode cX8_bestPace 25 = .ok (.iconst 0, 1) := by decide +kernel
theorem dX8_bestPace_26 : decode cX8_bestPace 26 = .ok (.goto 4, 3) := by decide +kernel
theorem dX8_bestPace_29 : decode cX8_bestPace 29 = .ok (.iconst 2, 1) := by decide +kernel
theorem dX8_bestPace_30 : decode cX8_bestPace 30 = .ok (.invokevirtual 96, 3) := by decide +kernel
theorem dX8_bestPace_33 : decode cX8_bestPace 33 = .ok (.ifCond .eq 7, 3) := by decide +kernel
theorem dX8_bestPace_36 : decode cX8_bestPace 36 = .ok (.iconst 0, 1) := by decide +kernel
theorem dX8_bestPace_37 : decode cX8_bestPace 37 = .ok (.goto 8, 3) := by decide +kernel
theorem dX8_bestPace_40 : decode cX8_bestPace 40 = .ok (.aload_n 0, 1) := by decide +kernel
theorem dX8_bestPace_41 : decode cX8_bestPace 41 = .ok (.iload_n 1, 1) := by decide +kernel
theorem dX8_bestPace_42 : decode cX8_bestPace 42 = .ok (.invokevirtual 199, 3) := by decide +kernel
theorem dX8_bestPace_45 : decode cX8_bestPace 45 = .ok (.ireturn, 1) := by decide +kernel
theorem dX8_isRacing_0 : decode cX8_isRacing 0 = .ok (.aload_n 0, 1) := by decide +kernel
theorem dX8_isRacing_1 : decode cX8_isRacing 1 = .ok (.aload_n 0, 1) := by decide +kernel
theorem dX8_isRacing_2 : decode cX8_isRacing 2 = .ok (.getfield 7, 3) := by decide +kernel
theorem dX8_isRacing_5 : decode cX8_isRacing 5 = .ok (.sipush 150, 3) := by decide +kernel
theorem dX8_isRacing_8 : decode cX8_isRacing 8 = .ok (.iaload, 1) := by decide +kernel
theorem dX8_isRacing_9 : decode cX8_isRacing 9 = .ok (.invokevirtual 172, 3) := by decide +kernel
theorem dX8_isRacing_12 : decode cX8_isRacing 12 = .ok (.iconst 1, 1) := by decide +kernel
theorem dX8_isRacing_13 : decode cX8_isRacing 13 = .ok (.if_icmp .ne 7, 3) := by decide +kernel
theorem dX8_isRacing_16 : decode cX8_isRacing 16 = .ok (.iconst 1, 1) := by decide +kernel
theorem dX8_isRacing_17 : decode cX8_isRacing 17 = .ok (.goto 4, 3) := by decide +kernel
theorem dX8_isRacing_20 : decode cX8_isRacing 20 = .ok (.iconst 0, 1) := by decide +kernel
theorem dX8_isRacing_21 : decode cX8_isRacing 21 = .ok (.ireturn, 1) := by decide +kernel
theorem dX8_seconds_0 : decode cX8_seconds 0 = .ok (.aload_n 0, 1) := by decide +kernel
theorem dX8_seconds_1 : decode cX8_seconds 1 = .ok (.aload_n 0, 1) := by decide +kernel
theorem dX8_seconds_2 : decode cX8_seconds 2 = .ok (.getfield 7, 3) := by decide +kernel
theorem dX8_seconds_5 : decode cX8_seconds 5 = .ok (.sipush 134, 3) := by decide +kernel
theorem dX8_seconds_8 : decode cX8_seconds 8 = .ok (.iaload, 1) := by decide +kernel
theorem dX8_seconds_9 : decode cX8_seconds 9 = .ok (.invokevirtual 172, 3) := by decide +kernel
theorem dX8_seconds_12 : decode cX8_seconds 12 = .ok (.ireturn, 1) := by decide +kernel
theorem dX8_arrived_0 : decode cX8_arrived 0 = .ok (.aload_n 0, 1) := by decide +kernel
theorem dX8_arrived_1 : decode cX8_arrived 1 = .ok (.aload_n 0, 1) := by decide +kernel
theorem dX8_arrived_2 : decode cX8_arrived 2 = .ok (.getfield 7, 3) := by decide +kernel
theorem dX8_arrived_5 : decode cX8_arrived 5 = .ok (.sipush 135, 3) := by decide +kernel
theorem dX8_arrived_8 : decode cX8_arrived 8 = .ok (.iaload, 1) := by decide +kernel
theorem dX8_arrived_9 : decode cX8_arrived 9 = .ok (.invokevirtual 172, 3) := by decide +kernel
theorem dX8_arrived_12 : decode cX8_arrived 12 = .ok (.ireturn, 1) := by decide +kernel
theorem dX8_arrivedAt_0 : decode cX8_arrivedAt 0 = .ok (.aload_n 0, 1) := by decide +kernel
theorem dX8_arrivedAt_1 : decode cX8_arrivedAt 1 = .ok (.iload_n 1, 1) := by decide +kernel
theorem dX8_arrivedAt_2 : decode cX8_arrivedAt 2 = .ok (.iconst 0, 1) := by decide +kernel
theorem dX8_arrivedAt_3 : decode cX8_arrivedAt 3 = .ok (.aload_n 0, 1) := by decide +kernel
theorem dX8_arrivedAt_4 : decode cX8_arrivedAt 4 = .ok (.getfield 7, 3) := by decide +kernel
theorem dX8_arrivedAt_7 : decode cX8_arrivedAt 7 = .ok (.sipush 135, 3) := by decide +kernel
theorem dX8_arrivedAt_10 : decode cX8_arrivedAt 10 = .ok (.iaload, 1) := by decide +kernel
theorem dX8_arrivedAt_11 : decode cX8_arrivedAt 11 = .ok (.iconst 1, 1) := by decide +kernel
theorem dX8_arrivedAt_12 : decode cX8_arrivedAt 12 = .ok (.isub, 1) := by decide +kernel
theorem dX8_arrivedAt_13 : decode cX8_arrivedAt 13 = .ok (.invokestatic 36, 3) := by decide +kernel
theorem dX8_arrivedAt_16 : decode cX8_arrivedAt 16 = .ok (.ifCond .eq 7, 3) := by decide +kernel
theorem dX8_arrivedAt_19 : decode cX8_arrivedAt 19 = .ok (.iconst 0, 1) := by decide +kernel
theorem dX8_arrivedAt_20 : decode cX8_arrivedAt 20 = .ok (.goto 4, 3) := by decide +kernel
theorem dX8_arrivedAt_23 : decode cX8_arrivedAt 23 = .ok (.iconst 1, 1) := by decide +kernel
theorem dX8_arrivedAt_24 : decode cX8_arrivedAt 24 = .ok (.invokevirtual 96, 3) := by decide +kernel
theorem dX8_arrivedAt_27 : decode cX8_arrivedAt 27 = .ok (.ifCond .eq 7, 3) := by decide +kernel
theorem dX8_arrivedAt_30 : decode cX8_arrivedAt 30 = .ok (.iconst 0, 1) := by decide +kernel
theorem dX8_arrivedAt_31 : decode cX8_arrivedAt 31 = .ok (.goto 13, 3) := by decide +kernel
theorem dX8_arrivedAt_34 : decode cX8_arrivedAt 34 = .ok (.aload_n 0, 1) := by decide +kernel
theorem dX8_arrivedAt_35 : decode cX8_arrivedAt 35 = .ok (.getfield 7, 3) := by decide +kernel
theorem dX8_arrivedAt_38 : decode cX8_arrivedAt 38 = .ok (.sipush 136, 3) := by decide +kernel
theorem dX8_arrivedAt_41 : decode cX8_arrivedAt 41 = .ok (.iload_n 1, 1) := by decide +kernel
theorem dX8_arrivedAt_42 : decode cX8_arrivedAt 42 = .ok (.iadd, 1) := by decide +kernel
theorem dX8_arrivedAt_43 : decode cX8_arrivedAt 43 = .ok (.iaload, 1) := by decide +kernel
theorem dX8_arrivedAt_44 : decode cX8_arrivedAt 44 = .ok (.ireturn, 1) := by decide +kernel
theorem dX8_timeOf_0 : decode cX8_timeOf 0 = .ok (.aload_n 0, 1) := by decide +kernel
theorem dX8_timeOf_1 : decode cX8_timeOf 1 = .ok (.aload_n 0, 1) := by decide +kernel
theorem dX8_timeOf_2 : decode cX8_timeOf 2 = .ok (.iload_n 1, 1) := by decide +kernel
theorem dX8_timeOf_3 : decode cX8_timeOf 3 = .ok (.invokevirtual 102, 3) := by decide +kernel
theorem dX8_timeOf_6 : decode cX8_timeOf 6 = .ok (.ifCond .ne 7, 3) := by decide +kernel
theorem dX8_timeOf_9 : decode cX8_timeOf 9 = .ok (.iconst 1, 1) := by decide +kernel
theorem dX8_timeOf_10 : decode cX8_timeOf 10 = .ok (.goto 16, 3) := by decide +kernel
theorem dX8_timeOf_13 : decode cX8_timeOf 13 = .ok (.aload_n 0, 1) := by decide +kernel
theorem dX8_timeOf_14 : decode cX8_timeOf 14 = .ok (.iload_n 1, 1) := by decide +kernel
theorem dX8_timeOf_15 : decode cX8_timeOf 15 = .ok (.invokevirtual 47, 3) := by decide +kernel
theorem dX8_timeOf_18 : decode cX8_timeOf 18 = .ok (.ifCond .eq 7, 3) := by decide +kernel
theorem dX8_timeOf_21 : decode cX8_timeOf 21 = .ok (.iconst 0, 1) := by decide +kernel
theorem dX8_timeOf_22 : decode cX8_timeOf 22 = .ok (.goto 4, 3) := by decide +kernel
theorem dX8_timeOf_25 : decode cX8_timeOf 25 = .ok (.iconst 2, 1) := by decide +kernel
theorem dX8_timeOf_26 : decode cX8_timeOf 26 = .ok (.invokevirtual 96, 3) := by decide +kernel
theorem dX8_timeOf_29 : decode cX8_timeOf 29 = .ok (.ifCond .eq 7, 3) := by decide +kernel
theorem dX8_timeOf_32 : decode cX8_timeOf 32 = .ok (.iconst 0, 1) := by decide +kernel
theorem dX8_timeOf_33 : decode cX8_timeOf 33 = .ok (.goto 10, 3) := by decide +kernel
theorem dX8_timeOf_36 : decode cX8_timeOf 36 = .ok (.aload_n 0, 1) := by decide +kernel
theorem dX8_timeOf_37 : decode cX8_timeOf 37 = .ok (.iload_n 1, 1) := by decide +kernel
theorem dX8_timeOf_38 : decode cX8_timeOf 38 = .ok (.bipush 11, 2) := by decide +kernel
theorem dX8_timeOf_40 : decode cX8_timeOf 40 = .ok (.invokevirtual 40, 3) := by decide +kernel
theorem dX8_timeOf_43 : decode cX8_timeOf 43 = .ok (.ireturn, 1) := by decide +kernel
theorem dX8_all_0 : decode cX8_all 0 = .ok (.iconst 0, 1) := by decide +kernel
theorem dX8_all_1 : decode cX8_all 1 = .ok (.istore_n 1, 1) := by decide +kernel
theorem dX8_all_2 : decode cX8_all 2 = .ok (.iconst 0, 1) := by decide +kernel
theorem dX8_all_3 : decode cX8_all 3 = .ok (.istore_n 2, 1) := by decide +kernel
theorem dX8_all_4 : decode cX8_all 4 = .ok (.iload_n 2, 1) := by decide +kernel
theorem dX8_all_5 : decode cX8_all 5 = .ok (.aload_n 0, 1) := by decide +kernel
