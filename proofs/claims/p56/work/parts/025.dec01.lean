theorem dX3_mayChangeLane_59 : decode cX3_mayChangeLane 59 = .ok (.iconst 3, 1) := by decide +kernel
theorem dX3_mayChangeLane_60 : decode cX3_mayChangeLane 60 = .ok (.if_icmp .le 11, 3) := by decide +kernel
theorem dX3_mayChangeLane_63 : decode cX3_mayChangeLane 63 = .ok (.iload 6, 2) := by decide +kernel
theorem dX3_mayChangeLane_65 : decode cX3_mayChangeLane 65 = .ok (.sipush 397, 3) := by decide +kernel
theorem dX3_mayChangeLane_68 : decode cX3_mayChangeLane 68 = .ok (.if_icmp .lt 5, 3) := by decide +kernel
theorem dX3_mayChangeLane_71 : decode cX3_mayChangeLane 71 = .ok (.iconst 0, 1) := by decide +kernel
theorem dX3_mayChangeLane_72 : decode cX3_mayChangeLane 72 = .ok (.ireturn, 1) := by decide +kernel
theorem dX3_mayChangeLane_73 : decode cX3_mayChangeLane 73 = .ok (.iinc 4 1, 3) := by decide +kernel
theorem dX3_mayChangeLane_76 : decode cX3_mayChangeLane 76 = .ok (.goto (-55), 3) := by decide +kernel
theorem dX3_mayChangeLane_79 : decode cX3_mayChangeLane 79 = .ok (.iconst 1, 1) := by decide +kernel
theorem dX3_mayChangeLane_80 : decode cX3_mayChangeLane 80 = .ok (.ireturn, 1) := by decide +kernel
theorem dX3_letGoBy_0 : decode cX3_letGoBy 0 = .ok (.iconst 0, 1) := by decide +kernel
theorem dX3_letGoBy_1 : decode cX3_letGoBy 1 = .ok (.istore_n 2, 1) := by decide +kernel
theorem dX3_letGoBy_2 : decode cX3_letGoBy 2 = .ok (.iload_n 2, 1) := by decide +kernel
theorem dX3_letGoBy_3 : decode cX3_letGoBy 3 = .ok (.iload_n 1, 1) := by decide +kernel
theorem dX3_letGoBy_4 : decode cX3_letGoBy 4 = .ok (.if_icmp .ge 92, 3) := by decide +kernel
theorem dX3_letGoBy_7 : decode cX3_letGoBy 7 = .ok (.aload_n 0, 1) := by decide +kernel
theorem dX3_letGoBy_8 : decode cX3_letGoBy 8 = .ok (.getfield 38, 3) := by decide +kernel
theorem dX3_letGoBy_11 : decode cX3_letGoBy 11 = .ok (.ifCond .eq 85, 3) := by decide +kernel
theorem dX3_letGoBy_14 : decode cX3_letGoBy 14 = .ok (.aload_n 0, 1) := by decide +kernel
theorem dX3_letGoBy_15 : decode cX3_letGoBy 15 = .ok (.dup, 1) := by decide +kernel
theorem dX3_letGoBy_16 : decode cX3_letGoBy 16 = .ok (.getfield 42, 3) := by decide +kernel
theorem dX3_letGoBy_19 : decode cX3_letGoBy 19 = .ok (.iconst 1, 1) := by decide +kernel
theorem dX3_letGoBy_20 : decode cX3_letGoBy 20 = .ok (.iadd, 1) := by decide +kernel
theorem dX3_letGoBy_21 : decode cX3_letGoBy 21 = .ok (.putfield 42, 3) := by decide +kernel
theorem dX3_letGoBy_24 : decode cX3_letGoBy 24 = .ok (.aload_n 0, 1) := by decide +kernel
theorem dX3_letGoBy_25 : decode cX3_letGoBy 25 = .ok (.invokevirtual 137, 3) := by decide +kernel
theorem dX3_letGoBy_28 : decode cX3_letGoBy 28 = .ok (.iconst 0, 1) := by decide +kernel
theorem dX3_letGoBy_29 : decode cX3_letGoBy 29 = .ok (.istore_n 3, 1) := by decide +kernel
theorem dX3_letGoBy_30 : decode cX3_letGoBy 30 = .ok (.iload_n 3, 1) := by decide +kernel
theorem dX3_letGoBy_31 : decode cX3_letGoBy 31 = .ok (.aload_n 0, 1) := by decide +kernel
theorem dX3_letGoBy_32 : decode cX3_letGoBy 32 = .ok (.getfield 35, 3) := by decide +kernel
theorem dX3_letGoBy_35 : decode cX3_letGoBy 35 = .ok (.if_icmp .ge 35, 3) := by decide +kernel
theorem dX3_letGoBy_38 : decode cX3_letGoBy 38 = .ok (.aload_n 0, 1) := by decide +kernel
theorem dX3_letGoBy_39 : decode cX3_letGoBy 39 = .ok (.iload_n 3, 1) := by decide +kernel
theorem dX3_letGoBy_40 : decode cX3_letGoBy 40 = .ok (.invokevirtual 140, 3) := by decide +kernel
theorem dX3_letGoBy_43 : decode cX3_letGoBy 43 = .ok (.astore 4, 2) := by decide +kernel
theorem dX3_letGoBy_45 : decode cX3_letGoBy 45 = .ok (.aload 4, 2) := by decide +kernel
theorem dX3_letGoBy_47 : decode cX3_letGoBy 47 = .ok (.ifnull 17, 3) := by decide +kernel
theorem dX3_letGoBy_50 : decode cX3_letGoBy 50 = .ok (.aload 4, 2) := by decide +kernel
theorem dX3_letGoBy_52 : decode cX3_letGoBy 52 = .ok (.invokevirtual 143, 3) := by decide +kernel
theorem dX3_letGoBy_55 : decode cX3_letGoBy 55 = .ok (.ifCond .eq 9, 3) := by decide +kernel
theorem dX3_letGoBy_58 : decode cX3_letGoBy 58 = .ok (.aload_n 0, 1) := by decide +kernel
theorem dX3_letGoBy_59 : decode cX3_letGoBy 59 = .ok (.aload 4, 2) := by decide +kernel
theorem dX3_letGoBy_61 : decode cX3_letGoBy 61 = .ok (.invokevirtual 147, 3) := by decide +kernel
theorem dX3_letGoBy_64 : decode cX3_letGoBy 64 = .ok (.iinc 3 1, 3) := by decide +kernel
theorem dX3_letGoBy_67 : decode cX3_letGoBy 67 = .ok (.goto (-37), 3) := by decide +kernel
theorem dX3_letGoBy_70 : decode cX3_letGoBy 70 = .ok (.aload_n 0, 1) := by decide +kernel
theorem dX3_letGoBy_71 : decode cX3_letGoBy 71 = .ok (.aload_n 0, 1) := by decide +kernel
theorem dX3_letGoBy_72 : decode cX3_letGoBy 72 = .ok (.getfield 45, 3) := by decide +kernel
theorem dX3_letGoBy_75 : decode cX3_letGoBy 75 = .ok (.aload_n 0, 1) := by decide +kernel
theorem dX3_letGoBy_76 : decode cX3_letGoBy 76 = .ok (.getfield 35, 3) := by decide +kernel
theorem dX3_letGoBy_79 : decode cX3_letGoBy 79 = .ok (.if_icmp .ge 7, 3) := by decide +kernel
theorem dX3_letGoBy_82 : decode cX3_letGoBy 82 = .ok (.iconst 1, 1) := by decide +kernel
theorem dX3_letGoBy_83 : decode cX3_letGoBy 83 = .ok (.goto 4, 3) := by decide +kernel
theorem dX3_letGoBy_86 : decode cX3_letGoBy 86 = .ok (.iconst 0, 1) := by decide +kernel
theorem dX3_letGoBy_87 : decode cX3_letGoBy 87 = .ok (.putfield 38, 3) := by decide +kernel
theorem dX3_letGoBy_90 : decode cX3_letGoBy 90 = .ok (.iinc 2 1, 3) := by decide +kernel
theorem dX3_letGoBy_93 : decode cX3_letGoBy 93 = .ok (.goto (-91), 3) := by decide +kernel
theorem dX3_letGoBy_96 : decode cX3_letGoBy 96 = .ok (.return_, 1) := by decide +kernel
theorem dX3_fly_0 : decode cX3_fly 0 = .ok (.aload_n 0, 1) := by decide +kernel
theorem dX3_fly_1 : decode cX3_fly 1 = .ok (.aload_n 1, 1) := by decide +kernel
theorem dX3_fly_2 : decode cX3_fly 2 = .ok (.invokevirtual 122, 3) := by decide +kernel
theorem dX3_fly_5 : decode cX3_fly 5 = .ok (.astore_n 2, 1) := by decide +kernel
theorem dX3_fly_6 : decode cX3_fly 6 = .ok (.aload_n 0, 1) := by decide +kernel
theorem dX3_fly_7 : decode cX3_fly 7 = .ok (.aload_n 1, 1) := by decide +kernel
theorem dX3_fly_8 : decode cX3_fly 8 = .ok (.aload_n 2, 1) := by decide +kernel
theorem dX3_fly_9 : decode cX3_fly 9 = .ok (.invokevirtual 150, 3) := by decide +kernel
theorem dX3_fly_12 : decode cX3_fly 12 = .ok (.istore_n 3, 1) := by decide +kernel
theorem dX3_fly_13 : decode cX3_fly 13 = .ok (.iload_n 3, 1) := by decide +kernel
theorem dX3_fly_14 : decode cX3_fly 14 = .ok (.ifCond .le 13, 3) := by decide +kernel
theorem dX3_fly_17 : decode cX3_fly 17 = .ok (.aload_n 0, 1) := by decide +kernel
theorem dX3_fly_18 : decode cX3_fly 18 = .ok (.dup, 1) := by decide +kernel
theorem dX3_fly_19 : decode cX3_fly 19 = .ok (.getfield 51, 3) := by decide +kernel
theorem dX3_fly_22 : decode cX3_fly 22 = .ok (.iconst 1, 1) := by decide +kernel
theorem dX3_fly_23 : decode cX3_fly 23 = .ok (.iadd, 1) := by decide +kernel
theorem dX3_fly_24 : decode cX3_fly 24 = .ok (.putfield 51, 3) := by decide +kernel
theorem dX3_fly_27 : decode cX3_fly 27 = .ok (.aload_n 0, 1) := by decide +kernel
theorem dX3_fly_28 : decode cX3_fly 28 = .ok (.aload_n 1, 1) := by decide +kernel
theorem dX3_fly_29 : decode cX3_fly 29 = .ok (.invokevirtual 154, 3) := by decide +kernel
theorem dX3_fly_32 : decode cX3_fly 32 = .ok (.iload_n 3, 1) := by decide +kernel
theorem dX3_fly_33 : decode cX3_fly 33 = .ok (.iadd, 1) := by decide +kernel
theorem dX3_fly_34 : decode cX3_fly 34 = .ok (.istore 4, 2) := by decide +kernel
theorem dX3_fly_36 : decode cX3_fly 36 = .ok (.aload_n 2, 1) := by decide +kernel
theorem dX3_fly_37 : decode cX3_fly 37 = .ok (.ifnull 49, 3) := by decide +kernel
theorem dX3_fly_40 : decode cX3_fly 40 = .ok (.iload 4, 2) := by decide +kernel
theorem dX3_fly_42 : decode cX3_fly 42 = .ok (.aload_n 1, 1) := by decide +kernel
theorem dX3_fly_43 : decode cX3_fly 43 = .ok (.aload_n 2, 1) := by decide +kernel
theorem dX3_fly_44 : decode cX3_fly 44 = .ok (.invokevirtual 118, 3) := by decide +kernel
theorem dX3_fly_47 : decode cX3_fly 47 = .ok (.iconst 1, 1) := by decide +kernel
theorem dX3_fly_48 : decode cX3_fly 48 = .ok (.isub, 1) := by decide +kernel
theorem dX3_fly_49 : decode cX3_fly 49 = .ok (.if_icmp .lt 37, 3) := by decide +kernel
theorem dX3_fly_52 : decode cX3_fly 52 = .ok (.aload_n 0, 1) := by decide +kernel
theorem dX3_fly_53 : decode cX3_fly 53 = .ok (.aload_n 1, 1) := by decide +kernel
theorem dX3_fly_54 : decode cX3_fly 54 = .ok (.invokevirtual 157, 3) := by decide +kernel
theorem dX3_fly_57 : decode cX3_fly 57 = .ok (.ifCond .eq 29, 3) := by decide +kernel
theorem dX3_fly_60 : decode cX3_fly 60 = .ok (.aload_n 1, 1) := by decide +kernel
theorem dX3_fly_61 : decode cX3_fly 61 = .ok (.iconst 1, 1) := by decide +kernel
theorem dX3_fly_62 : decode cX3_fly 62 = .ok (.aload_n 1, 1) := by decide +kernel
theorem dX3_fly_63 : decode cX3_fly 63 = .ok (.getfield 111, 3) := by decide +kernel
theorem dX3_fly_66 : decode cX3_fly 66 = .ok (.isub, 1) := by decide +kernel
theorem dX3_fly_67 : decode cX3_fly 67 = .ok (.putfield 111, 3) := by decide +kernel
theorem dX3_fly_70 : decode cX3_fly 70 = .ok (.aload_n 0, 1) := by decide +kernel
theorem dX3_fly_71 : decode cX3_fly 71 = .ok (.dup, 1) := by decide +kernel
theorem dX3_fly_72 : decode cX3_fly 72 = .ok (.getfield 54, 3) := by decide +kernel
theorem dX3_fly_75 : decode cX3_fly 75 = .ok (.iconst 1, 1) := by decide +kernel
theorem dX3_fly_76 : decode cX3_fly 76 = .ok (.iadd, 1) := by decide +kernel
theorem dX3_fly_77 : decode cX3_fly 77 = .ok (.putfield 54, 3) := by decide +kernel
theorem dX3_fly_80 : decode cX3_fly 80 = .ok (.aload_n 0, 1) := by decide +kernel
theorem dX3_fly_81 : decode cX3_fly 81 = .ok (.aload_n 1, 1) := by decide +kernel
theorem dX3_fly_82 : decode cX3_fly 82 = .ok (.invokevirtual 122, 3) := by decide +kernel
theorem dX3_fly_85 : decode cX3_fly 85 = .ok (.astore_n 2, 1) := by decide +kernel
theorem dX3_fly_86 : decode cX3_fly 86 = .ok (.aload_n 2, 1) := by decide +kernel
theorem dX3_fly_87 : decode cX3_fly 87 = .ok (.ifnull 28, 3) := by decide +kernel
theorem dX3_fly_90 : decode cX3_fly 90 = .ok (.aload_n 1, 1) := by decide +kernel
theorem dX3_fly_91 : decode cX3_fly 91 = .ok (.aload_n 2, 1) := by decide +kernel
theorem dX3_fly_92 : decode cX3_fly 92 = .ok (.invokevirtual 118, 3) := by decide +kernel
theorem dX3_fly_95 : decode cX3_fly 95 = .ok (.iconst 1, 1) := by decide +kernel
theorem dX3_fly_96 : decode cX3_fly 96 = .ok (.isub, 1) := by decide +kernel
theorem dX3_fly_97 : decode cX3_fly 97 = .ok (.istore 5, 2) := by decide +kernel
theorem dX3_fly_99 : decode cX3_fly 99 = .ok (.iload 5, 2) := by decide +kernel
theorem dX3_fly_101 : decode cX3_fly 101 = .ok (.iload 4, 2) := by decide +kernel
theorem dX3_fly_103 : decode cX3_fly 103 = .ok (.if_icmp .ge 8, 3) := by decide +kernel
theorem dX3_fly_106 : decode cX3_fly 106 = .ok (.iload 5, 2) := by decide +kernel
theorem dX3_fly_108 : decode cX3_fly 108 = .ok (.goto 5, 3) := by decide +kernel
theorem dX3_fly_111 : decode cX3_fly 111 = .ok (.iload 4, 2) := by decide +kernel
theorem dX3_fly_113 : decode cX3_fly 113 = .ok (.istore 4, 2) := by decide +kernel
theorem dX3_fly_115 : decode cX3_fly 115 = .ok (.aload_n 1, 1) := by decide +kernel
theorem dX3_fly_116 : decode cX3_fly 116 = .ok (.iload 4, 2) := by decide +kernel
theorem dX3_fly_118 : decode cX3_fly 118 = .ok (.iload_n 3, 1) := by decide +kernel
theorem dX3_fly_119 : decode cX3_fly 119 = .ok (.ifCond .le 7, 3) := by decide +kernel
theorem dX3_fly_122 : decode cX3_fly 122 = .ok (.iconst 1, 1) := by decide +kernel
theorem dX3_fly_123 : decode cX3_fly 123 = .ok (.goto 4, 3) := by decide +kernel
theorem dX3_fly_126 : decode cX3_fly 126 = .ok (.iconst 0, 1) := by decide +kernel
theorem dX3_fly_127 : decode cX3_fly 127 = .ok (.invokevirtual 160, 3) := by decide +kernel
theorem dX3_fly_130 : decode cX3_fly 130 = .ok (.istore 4, 2) := by decide +kernel
theorem dX3_fly_132 : decode cX3_fly 132 = .ok (.iload 4, 2) := by decide +kernel
theorem dX3_fly_134 : decode cX3_fly 134 = .ok (.bipush 15, 2) := by decide +kernel
theorem dX3_fly_136 : decode cX3_fly 136 = .ok (.if_icmp .lt 22, 3) := by decide +kernel
theorem dX3_fly_139 : decode cX3_fly 139 = .ok (.aload_n 1, 1) := by decide +kernel
theorem dX3_fly_140 : decode cX3_fly 140 = .ok (.getfield 134, 3) := by decide +kernel
theorem dX3_fly_143 : decode cX3_fly 143 = .ok (.bipush 100, 2) := by decide +kernel
theorem dX3_fly_145 : decode cX3_fly 145 = .ok (.if_icmp .ge 13, 3) := by decide +kernel
theorem dX3_fly_148 : decode cX3_fly 148 = .ok (.aload_n 1, 1) := by decide +kernel
theorem dX3_fly_149 : decode cX3_fly 149 = .ok (.dup, 1) := by decide +kernel
theorem dX3_fly_150 : decode cX3_fly 150 = .ok (.getfield 134, 3) := by decide +kernel
theorem dX3_fly_153 : decode cX3_fly 153 = .ok (.iconst 1, 1) := by decide +kernel
theorem dX3_fly_154 : decode cX3_fly 154 = .ok (.iadd, 1) := by decide +kernel
theorem dX3_fly_155 : decode cX3_fly 155 = .ok (.putfield 134, 3) := by decide +kernel
theorem dX3_fly_158 : decode cX3_fly 158 = .ok (.aload_n 0, 1) := by decide +kernel
theorem dX3_fly_159 : decode cX3_fly 159 = .ok (.aload_n 1, 1) := by decide +kernel
theorem dX3_fly_160 : decode cX3_fly 160 = .ok (.iload 4, 2) := by decide +kernel
theorem dX3_fly_162 : decode cX3_fly 162 = .ok (.invokevirtual 164, 3) := by decide +kernel
theorem dX3_fly_165 : decode cX3_fly 165 = .ok (.return_, 1) := by decide +kernel
theorem dX3_flyOn_0 : decode cX3_flyOn 0 = .ok (.aload_n 1, 1) := by decide +kernel
theorem dX3_flyOn_1 : decode cX3_flyOn 1 = .ok (.invokevirtual 167, 3) := by decide +kernel
theorem dX3_flyOn_4 : decode cX3_flyOn 4 = .ok (.iconst 1, 1) := by decide +kernel
theorem dX3_flyOn_5 : decode cX3_flyOn 5 = .ok (.iadd, 1) := by decide +kernel
theorem dX3_flyOn_6 : decode cX3_flyOn 6 = .ok (.sipush 400, 3) := by decide +kernel
theorem dX3_flyOn_9 : decode cX3_flyOn 9 = .ok (.imul, 1) := by decide +kernel
theorem dX3_flyOn_10 : decode cX3_flyOn 10 = .ok (.istore_n 3, 1) := by decide +kernel
theorem dX3_flyOn_11 : decode cX3_flyOn 11 = .ok (.aload_n 1, 1) := by decide +kernel
theorem dX3_flyOn_12 : decode cX3_flyOn 12 = .ok (.getfield 108, 3) := by decide +kernel
theorem dX3_flyOn_15 : decode cX3_flyOn 15 = .ok (.iload_n 2, 1) := by decide +kernel
theorem dX3_flyOn_16 : decode cX3_flyOn 16 = .ok (.iadd, 1) := by decide +kernel
theorem dX3_flyOn_17 : decode cX3_flyOn 17 = .ok (.istore 4, 2) := by decide +kernel
theorem dX3_flyOn_19 : decode cX3_flyOn 19 = .ok (.iload 4, 2) := by decide +kernel
theorem dX3_flyOn_21 : decode cX3_flyOn 21 = .ok (.iload_n 3, 1) := by decide +kernel
theorem dX3_flyOn_22 : decode cX3_flyOn 22 = .ok (.if_icmp .lt 7, 3) := by decide +kernel
theorem dX3_flyOn_25 : decode cX3_flyOn 25 = .ok (.iconst 1, 1) := by decide +kernel
theorem dX3_flyOn_26 : decode cX3_flyOn 26 = .ok (.goto 4, 3) := by decide +kernel
theorem dX3_flyOn_29 : decode cX3_flyOn 29 = .ok (.iconst 0, 1) := by decide +kernel
theorem dX3_flyOn_30 : decode cX3_flyOn 30 = .ok (.istore 5, 2) := by decide +kernel
theorem dX3_flyOn_32 : decode cX3_flyOn 32 = .ok (.iload 5, 2) := by decide +kernel
theorem dX3_flyOn_34 : decode cX3_flyOn 34 = .ok (.ifCond .eq 19, 3) := by decide +kernel
theorem dX3_flyOn_37 : decode cX3_flyOn 37 = .ok (.iload_n 3, 1) := by decide +kernel
theorem dX3_flyOn_38 : decode cX3_flyOn 38 = .ok (.aload_n 0, 1) := by decide +kernel
theorem dX3_flyOn_39 : decode cX3_flyOn 39 = .ok (.getfield 24, 3) := by decide +kernel
theorem dX3_flyOn_42 : decode cX3_flyOn 42 = .ok (.sipush 400, 3) := by decide +kernel
theorem dX3_flyOn_45 : decode cX3_flyOn 45 = .ok (.imul, 1) := by decide +kernel
theorem dX3_flyOn_46 : decode cX3_flyOn 46 = .ok (.if_icmp .lt 7, 3) := by decide +kernel
theorem dX3_flyOn_49 : decode cX3_flyOn 49 = .ok (.iconst 1, 1) := by decide +kernel
theorem dX3_flyOn_50 : decode cX3_flyOn 50 = .ok (.goto 4, 3) := by decide +kernel
theorem dX3_flyOn_53 : decode cX3_flyOn 53 = .ok (.iconst 0, 1) := by decide +kernel
theorem dX3_flyOn_54 : decode cX3_flyOn 54 = .ok (.istore 6, 2) := by decide +kernel
theorem dX3_flyOn_56 : decode cX3_flyOn 56 = .ok (.iload 5, 2) := by decide +kernel
theorem dX3_flyOn_58 : decode cX3_flyOn 58 = .ok (.ifCond .eq 19, 3) := by decide +kernel
theorem dX3_flyOn_61 : decode cX3_flyOn 61 = .ok (.iload 6, 2) := by decide +kernel
theorem dX3_flyOn_63 : decode cX3_flyOn 63 = .ok (.ifCond .ne 14, 3) := by decide +kernel
theorem dX3_flyOn_66 : decode cX3_flyOn 66 = .ok (.aload_n 1, 1) := by decide +kernel
theorem dX3_flyOn_67 : decode cX3_flyOn 67 = .ok (.getfield 170, 3) := by decide +kernel
theorem dX3_flyOn_70 : decode cX3_flyOn 70 = .ok (.ifCond .eq 7, 3) := by decide +kernel
theorem dX3_flyOn_73 : decode cX3_flyOn 73 = .ok (.iconst 1, 1) := by decide +kernel
theorem dX3_flyOn_74 : decode cX3_flyOn 74 = .ok (.goto 4, 3) := by decide +kernel
theorem dX3_flyOn_77 : decode cX3_flyOn 77 = .ok (.iconst 0, 1) := by decide +kernel
theorem dX3_flyOn_78 : decode cX3_flyOn 78 = .ok (.istore 7, 2) := by decide +kernel
theorem dX3_flyOn_80 : decode cX3_flyOn 80 = .ok (.iload 6, 2) := by decide +kernel
theorem dX3_flyOn_82 : decode cX3_flyOn 82 = .ok (.ifCond .ne 8, 3) := by decide +kernel
theorem dX3_flyOn_85 : decode cX3_flyOn 85 = .ok (.iload 7, 2) := by decide +kernel
theorem dX3_flyOn_87 : decode cX3_flyOn 87 = .ok (.ifCond .eq 6, 3) := by decide +kernel
theorem dX3_flyOn_90 : decode cX3_flyOn 90 = .ok (.iload_n 3, 1) := by decide +kernel
theorem dX3_flyOn_91 : decode cX3_flyOn 91 = .ok (.istore 4, 2) := by decide +kernel
theorem dX3_flyOn_93 : decode cX3_flyOn 93 = .ok (.aload_n 1, 1) := by decide +kernel
theorem dX3_flyOn_94 : decode cX3_flyOn 94 = .ok (.iload 4, 2) := by decide +kernel
theorem dX3_flyOn_96 : decode cX3_flyOn 96 = .ok (.aload_n 1, 1) := by decide +kernel
theorem dX3_flyOn_97 : decode cX3_flyOn 97 = .ok (.getfield 108, 3) := by decide +kernel
theorem dX3_flyOn_100 : decode cX3_flyOn 100 = .ok (.isub, 1) := by decide +kernel
theorem dX3_flyOn_101 : decode cX3_flyOn 101 = .ok (.putfield 173, 3) := by decide +kernel
theorem dX3_flyOn_104 : decode cX3_flyOn 104 = .ok (.aload_n 1, 1) := by decide +kernel
theorem dX3_flyOn_105 : decode cX3_flyOn 105 = .ok (.iload 4, 2) := by decide +kernel
theorem dX3_flyOn_107 : decode cX3_flyOn 107 = .ok (.putfield 108, 3) := by decide +kernel
theorem dX3_flyOn_110 : decode cX3_flyOn 110 = .ok (.aload_n 0, 1) := by decide +kernel
theorem dX3_flyOn_111 : decode cX3_flyOn 111 = .ok (.dup, 1) := by decide +kernel
theorem dX3_flyOn_112 : decode cX3_flyOn 112 = .ok (.getfield 48, 3) := by decide +kernel
theorem dX3_flyOn_115 : decode cX3_flyOn 115 = .ok (.aload_n 1, 1) := by decide +kernel
theorem dX3_flyOn_116 : decode cX3_flyOn 116 = .ok (.getfield 173, 3) := by decide +kernel
theorem dX3_flyOn_119 : decode cX3_flyOn 119 = .ok (.iadd, 1) := by decide +kernel
theorem dX3_flyOn_120 : decode cX3_flyOn 120 = .ok (.putfield 48, 3) := by decide +kernel
theorem dX3_flyOn_123 : decode cX3_flyOn 123 = .ok (.iload 6, 2) := by decide +kernel
theorem dX3_flyOn_125 : decode cX3_flyOn 125 = .ok (.ifCond .eq 11, 3) := by decide +kernel
theorem dX3_flyOn_128 : decode cX3_flyOn 128 = .ok (.aload_n 0, 1) := by decide +kernel
theorem dX3_flyOn_129 : decode cX3_flyOn 129 = .ok (.aload_n 1, 1) := by decide +kernel
theorem dX3_flyOn_130 : decode cX3_flyOn 130 = .ok (.invokevirtual 176, 3) := by decide +kernel
theorem dX3_flyOn_133 : decode cX3_flyOn 133 = .ok (.goto 22, 3) := by decide +kernel
theorem dX3_flyOn_136 : decode cX3_flyOn 136 = .ok (.iload 7, 2) := by decide +kernel
theorem dX3_flyOn_138 : decode cX3_flyOn 138 = .ok (.ifCond .eq 17, 3) := by decide +kernel
theorem dX3_flyOn_141 : decode cX3_flyOn 141 = .ok (.aload_n 1, 1) := by decide +kernel
theorem dX3_flyOn_142 : decode cX3_flyOn 142 = .ok (.invokevirtual 179, 3) := by decide +kernel
theorem dX3_flyOn_145 : decode cX3_flyOn 145 = .ok (.aload_n 0, 1) := by decide +kernel
theorem dX3_flyOn_146 : decode cX3_flyOn 146 = .ok (.dup, 1) := by decide +kernel
theorem dX3_flyOn_147 : decode cX3_flyOn 147 = .ok (.getfield 57, 3) := by decide +kernel
theorem dX3_flyOn_150 : decode cX3_flyOn 150 = .ok (.iconst 1, 1) := by decide +kernel
theorem dX3_flyOn_151 : decode cX3_flyOn 151 = .ok (.iadd, 1) := by decide +kernel
theorem dX3_flyOn_152 : decode cX3_flyOn 152 = .ok (.putfield 57, 3) := by decide +kernel
theorem dX3_flyOn_155 : decode cX3_flyOn 155 = .ok (.return_, 1) := by decide +kernel
theorem dX3_noteArrival_0 : decode cX3_noteArrival 0 = .ok (.aload_n 1, 1) := by decide +kernel
theorem dX3_noteArrival_1 : decode cX3_noteArrival 1 = .ok (.iconst 3, 1) := by decide +kernel
theorem dX3_noteArrival_2 : decode cX3_noteArrival 2 = .ok (.putfield 102, 3) := by decide +kernel
theorem dX3_noteArrival_5 : decode cX3_noteArrival 5 = .ok (.aload_n 1, 1) := by decide +kernel
theorem dX3_noteArrival_6 : decode cX3_noteArrival 6 = .ok (.aload_n 0, 1) := by decide +kernel
theorem dX3_noteArrival_7 : decode cX3_noteArrival 7 = .ok (.getfield 45, 3) := by decide +kernel
theorem dX3_noteArrival_10 : decode cX3_noteArrival 10 = .ok (.putfield 105, 3) := by decide +kernel
theorem dX3_noteArrival_13 : decode cX3_noteArrival 13 = .ok (.aload_n 1, 1) := by decide +kernel
theorem dX3_noteArrival_14 : decode cX3_noteArrival 14 = .ok (.aload_n 0, 1) := by decide +kernel
theorem dX3_noteArrival_15 : decode cX3_noteArrival 15 = .ok (.getfield 42, 3) := by decide +kernel
theorem dX3_noteArrival_18 : decode cX3_noteArrival 18 = .ok (.putfield 182, 3) := by decide +kernel
theorem dX3_noteArrival_21 : decode cX3_noteArrival 21 = .ok (.aload_n 0, 1) := by decide +kernel
theorem dX3_noteArrival_22 : decode cX3_noteArrival 22 = .ok (.getfield 45, 3) := by decide +kernel
theorem dX3_noteArrival_25 : decode cX3_noteArrival 25 = .ok (.ifCond .ne 21, 3) := by decide +kernel
theorem dX3_noteArrival_28 : decode cX3_noteArrival 28 = .ok (.aload_n 1, 1) := by decide +kernel
theorem dX3_noteArrival_29 : decode cX3_noteArrival 29 = .ok (.getfield 79, 3) := by decide +kernel
theorem dX3_noteArrival_32 : decode cX3_noteArrival 32 = .ok (.iconst (-1), 1) := by decide +kernel
theorem dX3_noteArrival_33 : decode cX3_noteArrival 33 = .ok (.if_icmp .eq 13, 3) := by decide +kernel
theorem dX3_noteArrival_36 : decode cX3_noteArrival 36 = .ok (.aload_n 0, 1) := by decide +kernel
theorem dX3_noteArrival_37 : decode cX3_noteArrival 37 = .ok (.dup, 1) := by decide +kernel
theorem dX3_noteArrival_38 : decode cX3_noteArrival 38 = .ok (.getfield 63, 3) := by decide +kernel
theorem dX3_noteArrival_41 : decode cX3_noteArrival 41 = .ok (.iconst 1, 1) := by decide +kernel
theorem dX3_noteArrival_42 : decode cX3_noteArrival 42 = .ok (.iadd, 1) := by decide +kernel
theorem dX3_noteArrival_43 : decode cX3_noteArrival 43 = .ok (.putfield 63, 3) := by decide +kernel
theorem dX3_noteArrival_46 : decode cX3_noteArrival 46 = .ok (.aload_n 0, 1) := by decide +kernel
theorem dX3_noteArrival_47 : decode cX3_noteArrival 47 = .ok (.dup, 1) := by decide +kernel
theorem dX3_noteArrival_48 : decode cX3_noteArrival 48 = .ok (.getfield 45, 3) := by decide +kernel
theorem dX3_noteArrival_51 : decode cX3_noteArrival 51 = .ok (.iconst 1, 1) := by decide +kernel
theorem dX3_noteArrival_52 : decode cX3_noteArrival 52 = .ok (.iadd, 1) := by decide +kernel
theorem dX3_noteArrival_53 : decode cX3_noteArrival 53 = .ok (.putfield 45, 3) := by decide +kernel
theorem dX3_noteArrival_56 : decode cX3_noteArrival 56 = .ok (.return_, 1) := by decide +kernel
theorem dX4_init_0 : decode cX4_init 0 = .ok (.aload_n 0, 1) := by decide +kernel
theorem dX4_init_1 : decode cX4_init 1 = .ok (.invokespecial 3, 3) := by decide +kernel
theorem dX4_init_4 : decode cX4_init 4 = .ok (.aload_n 0, 1) := by decide +kernel
theorem dX4_init_5 : decode cX4_init 5 = .ok (.bipush 6, 2) := by decide +kernel
theorem dX4_init_7 : decode cX4_init 7 = .ok (.anewarray 9, 3) := by decide +kernel
theorem dX4_init_10 : decode cX4_init 10 = .ok (.putfield 11, 3) := by decide +kernel
theorem dX4_init_13 : decode cX4_init 13 = .ok (.iconst 0, 1) := by decide +kernel
theorem dX4_init_14 : decode cX4_init 14 = .ok (.istore_n 1, 1) := by decide +kernel
theorem dX4_init_15 : decode cX4_init 15 = .ok (.iload_n 1, 1) := by decide +kernel
theorem dX4_init_16 : decode cX4_init 16 = .ok (.aload_n 0, 1) := by decide +kernel
theorem dX4_init_17 : decode cX4_init 17 = .ok (.getfield 11, 3) := by decide +kernel
theorem dX4_init_20 : decode cX4_init 20 = .ok (.arraylength, 1) := by decide +kernel
theorem dX4_init_21 : decode cX4_init 21 = .ok (.if_icmp .ge 22, 3) := by decide +kernel
theorem dX4_init_24 : decode cX4_init 24 = .ok (.aload_n 0, 1) := by decide +kernel
theorem dX4_init_25 : decode cX4_init 25 = .ok (.getfield 11, 3) := by decide +kernel
theorem dX4_init_28 : decode cX4_init 28 = .ok (.iload_n 1, 1) := by decide +kernel
theorem dX4_init_29 : decode cX4_init 29 = .ok (.new 9, 3) := by decide +kernel
theorem dX4_init_32 : decode cX4_init 32 = .ok (.dup, 1) := by decide +kernel
theorem dX4_init_33 : decode cX4_init 33 = .ok (.invokespecial 17, 3) := by decide +kernel
theorem dX4_init_36 : decode cX4_init 36 = .ok (.aastore, 1) := by decide +kernel
theorem dX4_init_37 : decode cX4_init 37 = .ok (.iinc 1 1, 3) := by decide +kernel
theorem dX4_init_40 : decode cX4_init 40 = .ok (.goto (-25), 3) := by decide +kernel
theorem dX4_init_43 : decode cX4_init 43 = .ok (.return_, 1) := by decide +kernel
theorem dX4_save_0 : decode cX4_save 0 = .ok (.aload_n 0, 1) := by decide +kernel
theorem dX4_save_1 : decode cX4_save 1 = .ok (.getfield 18, 3) := by decide +kernel
theorem dX4_save_4 : decode cX4_save 4 = .ok (.aload_n 0, 1) := by decide +kernel
theorem dX4_save_5 : decode cX4_save 5 = .ok (.getfield 11, 3) := by decide +kernel
theorem dX4_save_8 : decode cX4_save 8 = .ok (.arraylength, 1) := by decide +kernel
theorem dX4_save_9 : decode cX4_save 9 = .ok (.if_icmp .lt 7, 3) := by decide +kernel
theorem dX4_save_12 : decode cX4_save 12 = .ok (.aload_n 0, 1) := by decide +kernel
theorem dX4_save_13 : decode cX4_save 13 = .ok (.invokevirtual 22, 3) := by decide +kernel
theorem dX4_save_16 : decode cX4_save 16 = .ok (.aload_n 0, 1) := by decide +kernel
theorem dX4_save_17 : decode cX4_save 17 = .ok (.getfield 18, 3) := by decide +kernel
theorem dX4_save_20 : decode cX4_save 20 = .ok (.ifCond .lt 44, 3) := by decide +kernel
theorem dX4_save_23 : decode cX4_save 23 = .ok (.aload_n 0, 1) := by decide +kernel
theorem dX4_save_24 : decode cX4_save 24 = .ok (.getfield 18, 3) := by decide +kernel
theorem dX4_save_27 : decode cX4_save 27 = .ok (.aload_n 0, 1) := by decide +kernel
theorem dX4_save_28 : decode cX4_save 28 = .ok (.getfield 11, 3) := by decide +kernel
theorem dX4_save_31 : decode cX4_save 31 = .ok (.arraylength, 1) := by decide +kernel
theorem dX4_save_32 : decode cX4_save 32 = .ok (.if_icmp .ge 32, 3) := by decide +kernel
theorem dX4_save_35 : decode cX4_save 35 = .ok (.aload_n 0, 1) := by decide +kernel
theorem dX4_save_36 : decode cX4_save 36 = .ok (.getfield 11, 3) := by decide +kernel
theorem dX4_save_39 : decode cX4_save 39 = .ok (.aload_n 0, 1) := by decide +kernel
theorem dX4_save_40 : decode cX4_save 40 = .ok (.getfield 18, 3) := by decide +kernel
theorem dX4_save_43 : decode cX4_save 43 = .ok (.aaload, 1) := by decide +kernel
theorem dX4_save_44 : decode cX4_save 44 = .ok (.astore_n 2, 1) := by decide +kernel
theorem dX4_save_45 : decode cX4_save 45 = .ok (.aload_n 2, 1) := by decide +kernel
theorem dX4_save_46 : decode cX4_save 46 = .ok (.ifnull 18, 3) := by decide +kernel
theorem dX4_save_49 : decode cX4_save 49 = .ok (.aload_n 2, 1) := by decide +kernel
theorem dX4_save_50 : decode cX4_save 50 = .ok (.aload_n 1, 1) := by decide +kernel
theorem dX4_save_51 : decode cX4_save 51 = .ok (.invokevirtual 25, 3) := by decide +kernel
theorem dX4_save_54 : decode cX4_save 54 = .ok (.aload_n 0, 1) := by decide +kernel
theorem dX4_save_55 : decode cX4_save 55 = .ok (.dup, 1) := by decide +kernel
theorem dX4_save_56 : decode cX4_save 56 = .ok (.getfield 18, 3) := by decide +kernel
theorem dX4_save_59 : decode cX4_save 59 = .ok (.iconst 1, 1) := by decide +kernel
theorem dX4_save_60 : decode cX4_save 60 = .ok (.iadd, 1) := by decide +kernel
theorem dX4_save_61 : decode cX4_save 61 = .ok (.putfield 18, 3) := by decide +kernel
theorem dX4_save_64 : decode cX4_save 64 = .ok (.return_, 1) := by decide +kernel
theorem dX4_dropOldest_0 : decode cX4_dropOldest 0 = .ok (.iconst 1, 1) := by decide +kernel
theorem dX4_dropOldest_1 : decode cX4_dropOldest 1 = .ok (.istore_n 1, 1) := by decide +kernel
theorem dX4_dropOldest_2 : decode cX4_dropOldest 2 = .ok (.iload_n 1, 1) := by decide +kernel
theorem dX4_dropOldest_3 : decode cX4_dropOldest 3 = .ok (.aload_n 0, 1) := by decide +kernel
theorem dX4_dropOldest_4 : decode cX4_dropOldest 4 = .ok (.getfield 11, 3) := by decide +kernel
theorem dX4_dropOldest_7 : decode cX4_dropOldest 7 = .ok (.arraylength, 1) := by decide +kernel
theorem dX4_dropOldest_8 : decode cX4_dropOldest 8 = .ok (.if_icmp .ge 39, 3) := by decide +kernel
theorem dX4_dropOldest_11 : decode cX4_dropOldest 11 = .ok (.aload_n 0, 1) := by decide +kernel
theorem dX4_dropOldest_12 : decode cX4_dropOldest 12 = .ok (.getfield 11, 3) := by decide +kernel
theorem dX4_dropOldest_15 : decode cX4_dropOldest 15 = .ok (.iload_n 1, 1) := by decide +kernel
theorem dX4_dropOldest_16 : decode cX4_dropOldest 16 = .ok (.iconst 1, 1) := by decide +kernel
theorem dX4_dropOldest_17 : decode cX4_dropOldest 17 = .ok (.isub, 1) := by decide +kernel
theorem dX4_dropOldest_18 : decode cX4_dropOldest 18 = .ok (.aaload, 1) := by decide +kernel
theorem dX4_dropOldest_19 : decode cX4_dropOldest 19 = .ok (.astore_n 2, 1) := by decide +kernel
theorem dX4_dropOldest_20 : decode cX4_dropOldest 20 = .ok (.aload_n 0, 1) := by decide +kernel
theorem dX4_dropOldest_21 : decode cX4_dropOldest 21 = .ok (.getfield 11, 3) := by decide +kernel
theorem dX4_dropOldest_24 : decode cX4_dropOldest 24 = .ok (.iload_n 1, 1) := by decide +kernel
theorem dX4_dropOldest_25 : decode cX4_dropOldest 25 = .ok (.iconst 1, 1) := by decide +kernel
theorem dX4_dropOldest_26 : decode cX4_dropOldest 26 = .ok (.isub, 1) := by decide +kernel
theorem dX4_dropOldest_27 : decode cX4_dropOldest 27 = .ok (.aload_n 0, 1) := by decide +kernel
theorem dX4_dropOldest_28 : decode cX4_dropOldest 28 = .ok (.getfield 11, 3) := by decide +kernel
theorem dX4_dropOldest_31 : decode cX4_dropOldest 31 = .ok (.iload_n 1, 1) := by decide +kernel
theorem dX4_dropOldest_32 : decode cX4_dropOldest 32 = .ok (.aaload, 1) := by decide +kernel
theorem dX4_dropOldest_33 : decode cX4_dropOldest 33 = .ok (.aastore, 1) := by decide +kernel
theorem dX4_dropOldest_34 : decode cX4_dropOldest 34 = .ok (.aload_n 0, 1) := by decide +kernel
theorem dX4_dropOldest_35 : decode cX4_dropOldest 35 = .ok (.getfield 11, 3) := by decide +kernel
theorem dX4_dropOldest_38 : decode cX4_dropOldest 38 = .ok (.iload_n 1, 1) := by decide +kernel
theorem dX4_dropOldest_39 : decode cX4_dropOldest 39 = .ok (.aload_n 2, 1) := by decide +kernel
theorem dX4_dropOldest_40 : decode cX4_dropOldest 40 = .ok (.aastore, 1) := by decide +kernel
theorem dX4_dropOldest_41 : decode cX4_dropOldest 41 = .ok (.iinc 1 1, 3) := by decide +kernel
theorem dX4_dropOldest_44 : decode cX4_dropOldest 44 = .ok (.goto (-42), 3) := by decide +kernel
theorem dX4_dropOldest_47 : decode cX4_dropOldest 47 = .ok (.aload_n 0, 1) := by decide +kernel
theorem dX4_dropOldest_48 : decode cX4_dropOldest 48 = .ok (.dup, 1) := by decide +kernel
theorem dX4_dropOldest_49 : decode cX4_dropOldest 49 = .ok (.getfield 18, 3) := by decide +kernel
theorem dX4_dropOldest_52 : decode cX4_dropOldest 52 = .ok (.iconst 1, 1) := by decide +kernel
theorem dX4_dropOldest_53 : decode cX4_dropOldest 53 = .ok (.isub, 1) := by decide +kernel
theorem dX4_dropOldest_54 : decode cX4_dropOldest 54 = .ok (.putfield 18, 3) := by decide +kernel
theorem dX4_dropOldest_57 : decode cX4_dropOldest 57 = .ok (.return_, 1) := by decide +kernel
theorem dX4_dropLatest_0 : decode cX4_dropLatest 0 = .ok (.aload_n 0, 1) := by decide +kernel
theorem dX4_dropLatest_1 : decode cX4_dropLatest 1 = .ok (.getfield 18, 3) := by decide +kernel
theorem dX4_dropLatest_4 : decode cX4_dropLatest 4 = .ok (.ifCond .le 15, 3) := by decide +kernel
theorem dX4_dropLatest_7 : decode cX4_dropLatest 7 = .ok (.aload_n 0, 1) := by decide +kernel
theorem dX4_dropLatest_8 : decode cX4_dropLatest 8 = .ok (.getfield 18, 3) := by decide +kernel
theorem dX4_dropLatest_11 : decode cX4_dropLatest 11 = .ok (.aload_n 0, 1) := by decide +kernel
theorem dX4_dropLatest_12 : decode cX4_dropLatest 12 = .ok (.getfield 11, 3) := by decide +kernel
theorem dX4_dropLatest_15 : decode cX4_dropLatest 15 = .ok (.arraylength, 1) := by decide +kernel
theorem dX4_dropLatest_16 : decode cX4_dropLatest 16 = .ok (.if_icmp .le 5, 3) := by decide +kernel
theorem dX4_dropLatest_19 : decode cX4_dropLatest 19 = .ok (.aconst_null, 1) := by decide +kernel
theorem dX4_dropLatest_20 : decode cX4_dropLatest 20 = .ok (.areturn, 1) := by decide +kernel
theorem dX4_dropLatest_21 : decode cX4_dropLatest 21 = .ok (.aload_n 0, 1) := by decide +kernel
theorem dX4_dropLatest_22 : decode cX4_dropLatest 22 = .ok (.dup, 1) := by decide +kernel
theorem dX4_dropLatest_23 : decode cX4_dropLatest 23 = .ok (.getfield 18, 3) := by decide +kernel
theorem dX4_dropLatest_26 : decode cX4_dropLatest 26 = .ok (.iconst 1, 1) := by decide +kernel
theorem dX4_dropLatest_27 : decode cX4_dropLatest 27 = .ok (.isub, 1) := by decide +kernel
theorem dX4_dropLatest_28 : decode cX4_dropLatest 28 = .ok (.putfield 18, 3) := by decide +kernel
theorem dX4_dropLatest_31 : decode cX4_dropLatest 31 = .ok (.aload_n 0, 1) := by decide +kernel
theorem dX4_dropLatest_32 : decode cX4_dropLatest 32 = .ok (.getfield 11, 3) := by decide +kernel
theorem dX4_dropLatest_35 : decode cX4_dropLatest 35 = .ok (.aload_n 0, 1) := by decide +kernel
theorem dX4_dropLatest_36 : decode cX4_dropLatest 36 = .ok (.getfield 18, 3) := by decide +kernel
theorem dX4_dropLatest_39 : decode cX4_dropLatest 39 = .ok (.aaload, 1) := by decide +kernel
theorem dX4_dropLatest_40 : decode cX4_dropLatest 40 = .ok (.areturn, 1) := by decide +kernel
theorem dX5_init_0 : decode cX5_init 0 = .ok (.aload_n 0, 1) := by decide +kernel
theorem dX5_init_1 : decode cX5_init 1 = .ok (.invokespecial 3, 3) := by decide +kernel
theorem dX5_init_4 : decode cX5_init 4 = .ok (.aload_n 0, 1) := by decide +kernel
theorem dX5_init_5 : decode cX5_init 5 = .ok (.iconst 2, 1) := by decide +kernel
theorem dX5_init_6 : decode cX5_init 6 = .ok (.anewarray 9, 3) := by decide +kernel
theorem dX5_init_9 : decode cX5_init 9 = .ok (.putfield 11, 3) := by decide +kernel
theorem dX5_init_12 : decode cX5_init 12 = .ok (.aload_n 0, 1) := by decide +kernel
theorem dX5_init_13 : decode cX5_init 13 = .ok (.iconst 2, 1) := by decide +kernel
theorem dX5_init_14 : decode cX5_init 14 = .ok (.newarray .boolean, 2) := by decide +kernel
theorem dX5_init_16 : decode cX5_init 16 = .ok (.putfield 17, 3) := by decide +kernel
theorem dX5_init_19 : decode cX5_init 19 = .ok (.iconst 0, 1) := by decide +kernel
theorem dX5_init_20 : decode cX5_init 20 = .ok (.istore_n 1, 1) := by decide +kernel
theorem dX5_init_21 : decode cX5_init 21 = .ok (.iload_n 1, 1) := by decide +kernel
theorem dX5_init_22 : decode cX5_init 22 = .ok (.aload_n 0, 1) := by decide +kernel
theorem dX5_init_23 : decode cX5_init 23 = .ok (.getfield 11, 3) := by decide +kernel
theorem dX5_init_26 : decode cX5_init 26 = .ok (.arraylength, 1) := by decide +kernel
theorem dX5_init_27 : decode cX5_init 27 = .ok (.if_icmp .ge 22, 3) := by decide +kernel
theorem dX5_init_30 : decode cX5_init 30 = .ok (.aload_n 0, 1) := by decide +kernel
theorem dX5_init_31 : decode cX5_init 31 = .ok (.getfield 11, 3) := by decide +kernel
theorem dX5_init_34 : decode cX5_init 34 = .ok (.iload_n 1, 1) := by decide +kernel
theorem dX5_init_35 : decode cX5_init 35 = .ok (.new 9, 3) := by decide +kernel
theorem dX5_init_38 : decode cX5_init 38 = .ok (.dup, 1) := by decide +kernel
theorem dX5_init_39 : decode cX5_init 39 = .ok (.invokespecial 21, 3) := by decide +kernel
theorem dX5_init_42 : decode cX5_init 42 = .ok (.aastore, 1) := by decide +kernel
theorem dX5_init_43 : decode cX5_init 43 = .ok (.iinc 1 1, 3) := by decide +kernel
theorem dX5_init_46 : decode cX5_init 46 = .ok (.goto (-25), 3) := by decide +kernel
theorem dX5_init_49 : decode cX5_init 49 = .ok (.return_, 1) := by decide +kernel
theorem dX5_put_0 : decode cX5_put 0 = .ok (.iload_n 1, 1) := by decide +kernel
theorem dX5_put_1 : decode cX5_put 1 = .ok (.ifCond .lt 44, 3) := by decide +kernel
theorem dX5_put_4 : decode cX5_put 4 = .ok (.iload_n 1, 1) := by decide +kernel
theorem dX5_put_5 : decode cX5_put 5 = .ok (.aload_n 0, 1) := by decide +kernel
theorem dX5_put_6 : decode cX5_put 6 = .ok (.getfield 11, 3) := by decide +kernel
theorem dX5_put_9 : decode cX5_put 9 = .ok (.arraylength, 1) := by decide +kernel
theorem dX5_put_10 : decode cX5_put 10 = .ok (.if_icmp .ge 35, 3) := by decide +kernel
theorem dX5_put_13 : decode cX5_put 13 = .ok (.iload_n 1, 1) := by decide +kernel
theorem dX5_put_14 : decode cX5_put 14 = .ok (.aload_n 0, 1) := by decide +kernel
theorem dX5_put_15 : decode cX5_put 15 = .ok (.getfield 17, 3) := by decide +kernel
theorem dX5_put_18 : decode cX5_put 18 = .ok (.arraylength, 1) := by decide +kernel
theorem dX5_put_19 : decode cX5_put 19 = .ok (.if_icmp .ge 26, 3) := by decide +kernel
theorem dX5_put_22 : decode cX5_put 22 = .ok (.aload_n 0, 1) := by decide +kernel
theorem dX5_put_23 : decode cX5_put 23 = .ok (.getfield 11, 3) := by decide +kernel
theorem dX5_put_26 : decode cX5_put 26 = .ok (.iload_n 1, 1) := by decide +kernel
theorem dX5_put_27 : decode cX5_put 27 = .ok (.aaload, 1) := by decide +kernel
theorem dX5_put_28 : decode cX5_put 28 = .ok (.astore_n 3, 1) := by decide +kernel
theorem dX5_put_29 : decode cX5_put 29 = .ok (.aload_n 3, 1) := by decide +kernel
theorem dX5_put_30 : decode cX5_put 30 = .ok (.ifnull 15, 3) := by decide +kernel
theorem dX5_put_33 : decode cX5_put 33 = .ok (.aload_n 3, 1) := by decide +kernel
theorem dX5_put_34 : decode cX5_put 34 = .ok (.aload_n 2, 1) := by decide +kernel
theorem dX5_put_35 : decode cX5_put 35 = .ok (.invokevirtual 22, 3) := by decide +kernel
theorem dX5_put_38 : decode cX5_put 38 = .ok (.aload_n 0, 1) := by decide +kernel
theorem dX5_put_39 : decode cX5_put 39 = .ok (.getfield 17, 3) := by decide +kernel
theorem dX5_put_42 : decode cX5_put 42 = .ok (.iload_n 1, 1) := by decide +kernel
theorem dX5_put_43 : decode cX5_put 43 = .ok (.iconst 1, 1) := by decide +kernel
theorem dX5_put_44 : decode cX5_put 44 = .ok (.bastore, 1) := by decide +kernel
theorem dX5_put_45 : decode cX5_put 45 = .ok (.return_, 1) := by decide +kernel
theorem dX5_kept_0 : decode cX5_kept 0 = .ok (.iload_n 1, 1) := by decide +kernel
theorem dX5_kept_1 : decode cX5_kept 1 = .ok (.ifCond .lt 30, 3) := by decide +kernel
theorem dX5_kept_4 : decode cX5_kept 4 = .ok (.iload_n 1, 1) := by decide +kernel
theorem dX5_kept_5 : decode cX5_kept 5 = .ok (.aload_n 0, 1) := by decide +kernel
theorem dX5_kept_6 : decode cX5_kept 6 = .ok (.getfield 11, 3) := by decide +kernel
theorem dX5_kept_9 : decode cX5_kept 9 = .ok (.arraylength, 1) := by decide +kernel
theorem dX5_kept_10 : decode cX5_kept 10 = .ok (.if_icmp .ge 21, 3) := by decide +kernel
theorem dX5_kept_13 : decode cX5_kept 13 = .ok (.iload_n 1, 1) := by decide +kernel
theorem dX5_kept_14 : decode cX5_kept 14 = .ok (.aload_n 0, 1) := by decide +kernel
theorem dX5_kept_15 : decode cX5_kept 15 = .ok (.getfield 17, 3) := by decide +kernel
theorem dX5_kept_18 : decode cX5_kept 18 = .ok (.arraylength, 1) := by decide +kernel
theorem dX5_kept_19 : decode cX5_kept 19 = .ok (.if_icmp .ge 12, 3) := by decide +kernel
theorem dX5_kept_22 : decode cX5_kept 22 = .ok (.aload_n 0, 1) := by decide +kernel
theorem dX5_kept_23 : decode cX5_kept 23 = .ok (.getfield 17, 3) := by decide +kernel
theorem dX5_kept_26 : decode cX5_kept 26 = .ok (.iload_n 1, 1) := by decide +kernel
theorem dX5_kept_27 : decode cX5_kept 27 = .ok (.baload, 1) := by decide +kernel
theorem dX5_kept_28 : decode cX5_kept 28 = .ok (.ifCond .ne 5, 3) := by decide +kernel
theorem dX5_kept_31 : decode cX5_kept 31 = .ok (.aconst_null, 1) := by decide +kernel
theorem dX5_kept_32 : decode cX5_kept 32 = .ok (.areturn, 1) := by decide +kernel
theorem dX5_kept_33 : decode cX5_kept 33 = .ok (.aload_n 0, 1) := by decide +kernel
theorem dX5_kept_34 : decode cX5_kept 34 = .ok (.getfield 11, 3) := by decide +kernel
theorem dX5_kept_37 : decode cX5_kept 37 = .ok (.iload_n 1, 1) := by decide +kernel
theorem dX5_kept_38 : decode cX5_kept 38 = .ok (.aaload, 1) := by decide +kernel
theorem dX5_kept_39 : decode cX5_kept 39 = .ok (.areturn, 1) := by decide +kernel
theorem dX6_init_0 : decode cX6_init 0 = .ok (.aload_n 0, 1) := by decide +kernel
theorem dX6_init_1 : decode cX6_init 1 = .ok (.invokespecial 3, 3) := by decide +kernel
theorem dX6_init_4 : decode cX6_init 4 = .ok (.aload_n 0, 1) := by decide +kernel
theorem dX6_init_5 : decode cX6_init 5 = .ok (.iload_n 1, 1) := by decide +kernel
theorem dX6_init_6 : decode cX6_init 6 = .ok (.putfield 9, 3) := by decide +kernel
theorem dX6_init_9 : decode cX6_init 9 = .ok (.aload_n 0, 1) := by decide +kernel
theorem dX6_init_10 : decode cX6_init 10 = .ok (.iconst (-1), 1) := by decide +kernel
theorem dX6_init_11 : decode cX6_init 11 = .ok (.putfield 15, 3) := by decide +kernel
theorem dX6_init_14 : decode cX6_init 14 = .ok (.return_, 1) := by decide +kernel
theorem dX6_takeFrom_0 : decode cX6_takeFrom 0 = .ok (.aload_n 0, 1) := by decide +kernel
theorem dX6_takeFrom_1 : decode cX6_takeFrom 1 = .ok (.aload_n 1, 1) := by decide +kernel
theorem dX6_takeFrom_2 : decode cX6_takeFrom 2 = .ok (.getfield 18, 3) := by decide +kernel
theorem dX6_takeFrom_5 : decode cX6_takeFrom 5 = .ok (.putfield 18, 3) := by decide +kernel
theorem dX6_takeFrom_8 : decode cX6_takeFrom 8 = .ok (.aload_n 0, 1) := by decide +kernel
theorem dX6_takeFrom_9 : decode cX6_takeFrom 9 = .ok (.aload_n 1, 1) := by decide +kernel
theorem dX6_takeFrom_10 : decode cX6_takeFrom 10 = .ok (.getfield 21, 3) := by decide +kernel
theorem dX6_takeFrom_13 : decode cX6_takeFrom 13 = .ok (.putfield 21, 3) := by decide +kernel
theorem dX6_takeFrom_16 : decode cX6_takeFrom 16 = .ok (.aload_n 0, 1) := by decide +kernel
theorem dX6_takeFrom_17 : decode cX6_takeFrom 17 = .ok (.aload_n 1, 1) := by decide +kernel
theorem dX6_takeFrom_18 : decode cX6_takeFrom 18 = .ok (.getfield 24, 3) := by decide +kernel
theorem dX6_takeFrom_21 : decode cX6_takeFrom 21 = .ok (.putfield 24, 3) := by decide +kernel
theorem dX6_takeFrom_24 : decode cX6_takeFrom 24 = .ok (.aload_n 0, 1) := by decide +kernel
theorem dX6_takeFrom_25 : decode cX6_takeFrom 25 = .ok (.aload_n 1, 1) := by decide +kernel
theorem dX6_takeFrom_26 : decode cX6_takeFrom 26 = .ok (.getfield 27, 3) := by decide +kernel
theorem dX6_takeFrom_29 : decode cX6_takeFrom 29 = .ok (.putfield 27, 3) := by decide +kernel
theorem dX6_takeFrom_32 : decode cX6_takeFrom 32 = .ok (.aload_n 0, 1) := by decide +kernel
theorem dX6_takeFrom_33 : decode cX6_takeFrom 33 = .ok (.aload_n 1, 1) := by decide +kernel
theorem dX6_takeFrom_34 : decode cX6_takeFrom 34 = .ok (.getfield 30, 3) := by decide +kernel
theorem dX6_takeFrom_37 : decode cX6_takeFrom 37 = .ok (.putfield 30, 3) := by decide +kernel
theorem dX6_takeFrom_40 : decode cX6_takeFrom 40 = .ok (.aload_n 0, 1) := by decide +kernel
theorem dX6_takeFrom_41 : decode cX6_takeFrom 41 = .ok (.aload_n 1, 1) := by decide +kernel
theorem dX6_takeFrom_42 : decode cX6_takeFrom 42 = .ok (.getfield 33, 3) := by decide +kernel
theorem dX6_takeFrom_45 : decode cX6_takeFrom 45 = .ok (.putfield 33, 3) := by decide +kernel
theorem dX6_takeFrom_48 : decode cX6_takeFrom 48 = .ok (.aload_n 0, 1) := by decide +kernel
theorem dX6_takeFrom_49 : decode cX6_takeFrom 49 = .ok (.aload_n 1, 1) := by decide +kernel
theorem dX6_takeFrom_50 : decode cX6_takeFrom 50 = .ok (.getfield 36, 3) := by decide +kernel
theorem dX6_takeFrom_53 : decode cX6_takeFrom 53 = .ok (.putfield 36, 3) := by decide +kernel
theorem dX6_takeFrom_56 : decode cX6_takeFrom 56 = .ok (.aload_n 0, 1) := by decide +kernel
theorem dX6_takeFrom_57 : decode cX6_takeFrom 57 = .ok (.aload_n 1, 1) := by decide +kernel
theorem dX6_takeFrom_58 : decode cX6_takeFrom 58 = .ok (.getfield 39, 3) := by decide +kernel
theorem dX6_takeFrom_61 : decode cX6_takeFrom 61 = .ok (.putfield 39, 3) := by decide +kernel
theorem dX6_takeFrom_64 : decode cX6_takeFrom 64 = .ok (.aload_n 0, 1) := by decide +kernel
theorem dX6_takeFrom_65 : decode cX6_takeFrom 65 = .ok (.aload_n 1, 1) := by decide +kernel
theorem dX6_takeFrom_66 : decode cX6_takeFrom 66 = .ok (.getfield 42, 3) := by decide +kernel
theorem dX6_takeFrom_69 : decode cX6_takeFrom 69 = .ok (.putfield 42, 3) := by decide +kernel
theorem dX6_takeFrom_72 : decode cX6_takeFrom 72 = .ok (.aload_n 0, 1) := by decide +kernel
theorem dX6_takeFrom_73 : decode cX6_takeFrom 73 = .ok (.aload_n 1, 1) := by decide +kernel
theorem dX6_takeFrom_74 : decode cX6_takeFrom 74 = .ok (.getfield 45, 3) := by decide +kernel
theorem dX6_takeFrom_77 : decode cX6_takeFrom 77 = .ok (.putfield 45, 3) := by decide +kernel
theorem dX6_takeFrom_80 : decode cX6_takeFrom 80 = .ok (.aload_n 0, 1) := by decide +kernel
theorem dX6_takeFrom_81 : decode cX6_takeFrom 81 = .ok (.aload_n 1, 1) := by decide +kernel
theorem dX6_takeFrom_82 : decode cX6_takeFrom 82 = .ok (.getfield 48, 3) := by decide +kernel
theorem dX6_takeFrom_85 : decode cX6_takeFrom 85 = .ok (.putfield 48, 3) := by decide +kernel
theorem dX6_takeFrom_88 : decode cX6_takeFrom 88 = .ok (.aload_n 0, 1) := by decide +kernel
theorem dX6_takeFrom_89 : decode cX6_takeFrom 89 = .ok (.aload_n 1, 1) := by decide +kernel
theorem dX6_takeFrom_90 : decode cX6_takeFrom 90 = .ok (.getfield 15, 3) := by decide +kernel
theorem dX6_takeFrom_93 : decode cX6_takeFrom 93 = .ok (.putfield 15, 3) := by decide +kernel
theorem dX6_takeFrom_96 : decode cX6_takeFrom 96 = .ok (.aload_n 0, 1) := by decide +kernel
theorem dX6_takeFrom_97 : decode cX6_takeFrom 97 = .ok (.aload_n 1, 1) := by decide +kernel
theorem dX6_takeFrom_98 : decode cX6_takeFrom 98 = .ok (.getfield 52, 3) := by decide +kernel
theorem dX6_takeFrom_101 : decode cX6_takeFrom 101 = .ok (.putfield 52, 3) := by decide +kernel
theorem dX6_takeFrom_104 : decode cX6_takeFrom 104 = .ok (.aload_n 0, 1) := by decide +kernel
theorem dX6_takeFrom_105 : decode cX6_takeFrom 105 = .ok (.aload_n 1, 1) := by decide +kernel
theorem dX6_takeFrom_106 : decode cX6_takeFrom 106 = .ok (.getfield 55, 3) := by decide +kernel
theorem dX6_takeFrom_109 : decode cX6_takeFrom 109 = .ok (.putfield 55, 3) := by decide +kernel
theorem dX6_takeFrom_112 : decode cX6_takeFrom 112 = .ok (.return_, 1) := by decide +kernel
theorem dX6_goToStart_0 : decode cX6_goToStart 0 = .ok (.aload_n 0, 1) := by decide +kernel
theorem dX6_goToStart_1 : decode cX6_goToStart 1 = .ok (.iconst 0, 1) := by decide +kernel
theorem dX6_goToStart_2 : decode cX6_goToStart 2 = .ok (.putfield 27, 3) := by decide +kernel
theorem dX6_goToStart_5 : decode cX6_goToStart 5 = .ok (.aload_n 0, 1) := by decide +kernel
theorem dX6_goToStart_6 : decode cX6_goToStart 6 = .ok (.iconst 0, 1) := by decide +kernel
theorem dX6_goToStart_7 : decode cX6_goToStart 7 = .ok (.putfield 30, 3) := by decide +kernel
theorem dX6_goToStart_10 : decode cX6_goToStart 10 = .ok (.aload_n 0, 1) := by decide +kernel
theorem dX6_goToStart_11 : decode cX6_goToStart 11 = .ok (.aload_n 0, 1) := by decide +kernel
theorem dX6_goToStart_12 : decode cX6_goToStart 12 = .ok (.getfield 21, 3) := by decide +kernel
theorem dX6_goToStart_15 : decode cX6_goToStart 15 = .ok (.putfield 33, 3) := by decide +kernel
theorem dX6_goToStart_18 : decode cX6_goToStart 18 = .ok (.aload_n 0, 1) := by decide +kernel
theorem dX6_goToStart_19 : decode cX6_goToStart 19 = .ok (.iconst 0, 1) := by decide +kernel
theorem dX6_goToStart_20 : decode cX6_goToStart 20 = .ok (.putfield 36, 3) := by decide +kernel
theorem dX6_goToStart_23 : decode cX6_goToStart 23 = .ok (.aload_n 0, 1) := by decide +kernel
theorem dX6_goToStart_24 : decode cX6_goToStart 24 = .ok (.aload_n 0, 1) := by decide +kernel
theorem dX6_goToStart_25 : decode cX6_goToStart 25 = .ok (.getfield 24, 3) := by decide +kernel
theorem dX6_goToStart_28 : decode cX6_goToStart 28 = .ok (.putfield 39, 3) := by decide +kernel
theorem dX6_goToStart_31 : decode cX6_goToStart 31 = .ok (.aload_n 0, 1) := by decide +kernel
theorem dX6_goToStart_32 : decode cX6_goToStart 32 = .ok (.iload_n 1, 1) := by decide +kernel
theorem dX6_goToStart_33 : decode cX6_goToStart 33 = .ok (.putfield 42, 3) := by decide +kernel
theorem dX6_goToStart_36 : decode cX6_goToStart 36 = .ok (.aload_n 0, 1) := by decide +kernel
theorem dX6_goToStart_37 : decode cX6_goToStart 37 = .ok (.iconst 0, 1) := by decide +kernel
theorem dX6_goToStart_38 : decode cX6_goToStart 38 = .ok (.putfield 45, 3) := by decide +kernel
theorem dX6_goToStart_41 : decode cX6_goToStart 41 = .ok (.aload_n 0, 1) := by decide +kernel
theorem dX6_goToStart_42 : decode cX6_goToStart 42 = .ok (.iconst 0, 1) := by decide +kernel
theorem dX6_goToStart_43 : decode cX6_goToStart 43 = .ok (.putfield 48, 3) := by decide +kernel
theorem dX6_goToStart_46 : decode cX6_goToStart 46 = .ok (.aload_n 0, 1) := by decide +kernel
theorem dX6_goToStart_47 : decode cX6_goToStart 47 = .ok (.iconst 0, 1) := by decide +kernel
theorem dX6_goToStart_48 : decode cX6_goToStart 48 = .ok (.putfield 52, 3) := by decide +kernel
theorem dX6_goToStart_51 : decode cX6_goToStart 51 = .ok (.aload_n 0, 1) := by decide +kernel
theorem dX6_goToStart_52 : decode cX6_goToStart 52 = .ok (.iconst 0, 1) := by decide +kernel
theorem dX6_goToStart_53 : decode cX6_goToStart 53 = .ok (.putfield 55, 3) := by decide +kernel
theorem dX6_goToStart_56 : decode cX6_goToStart 56 = .ok (.return_, 1) := by decide +kernel
theorem dX6_lapsOver_0 : decode cX6_lapsOver 0 = .ok (.aload_n 0, 1) := by decide +kernel
theorem dX6_lapsOver_1 : decode cX6_lapsOver 1 = .ok (.getfield 27, 3) := by decide +kernel
theorem dX6_lapsOver_4 : decode cX6_lapsOver 4 = .ok (.sipush 400, 3) := by decide +kernel
theorem dX6_lapsOver_7 : decode cX6_lapsOver 7 = .ok (.idiv, 1) := by decide +kernel
theorem dX6_lapsOver_8 : decode cX6_lapsOver 8 = .ok (.ireturn, 1) := by decide +kernel
theorem dX6_partOfCourse_0 : decode cX6_partOfCourse 0 = .ok (.aload_n 0, 1) := by decide +kernel
theorem dX6_partOfCourse_1 : decode cX6_partOfCourse 1 = .ok (.getfield 27, 3) := by decide +kernel
theorem dX6_partOfCourse_4 : decode cX6_partOfCourse 4 = .ok (.sipush 400, 3) := by decide +kernel
theorem dX6_partOfCourse_7 : decode cX6_partOfCourse 7 = .ok (.irem, 1) := by decide +kernel
theorem dX6_partOfCourse_8 : decode cX6_partOfCourse 8 = .ok (.bipush 100, 2) := by decide +kernel
theorem dX6_partOfCourse_10 : decode cX6_partOfCourse 10 = .ok (.idiv, 1) := by decide +kernel
theorem dX6_partOfCourse_11 : decode cX6_partOfCourse 11 = .ok (.istore_n 1, 1) := by decide +kernel
theorem dX6_partOfCourse_12 : decode cX6_partOfCourse 12 = .ok (.aload_n 0, 1) := by decide +kernel
theorem dX6_partOfCourse_13 : decode cX6_partOfCourse 13 = .ok (.getfield 27, 3) := by decide +kernel
theorem dX6_partOfCourse_16 : decode cX6_partOfCourse 16 = .ok (.bipush 100, 2) := by decide +kernel
theorem dX6_partOfCourse_18 : decode cX6_partOfCourse 18 = .ok (.irem, 1) := by decide +kernel
theorem dX6_partOfCourse_19 : decode cX6_partOfCourse 19 = .ok (.bipush 70, 2) := by decide +kernel
theorem dX6_partOfCourse_21 : decode cX6_partOfCourse 21 = .ok (.if_icmp .ge 7, 3) := by decide +kernel
theorem dX6_partOfCourse_24 : decode cX6_partOfCourse 24 = .ok (.iload_n 1, 1) := by decide +kernel
theorem dX6_partOfCourse_25 : decode cX6_partOfCourse 25 = .ok (.goto 6, 3) := by decide +kernel
theorem dX6_partOfCourse_28 : decode cX6_partOfCourse 28 = .ok (.iload_n 1, 1) := by decide +kernel
theorem dX6_partOfCourse_29 : decode cX6_partOfCourse 29 = .ok (.iconst 4, 1) := by decide +kernel
theorem dX6_partOfCourse_30 : decode cX6_partOfCourse 30 = .ok (.iadd, 1) := by decide +kernel
theorem dX6_partOfCourse_31 : decode cX6_partOfCourse 31 = .ok (.ireturn, 1) := by decide +kernel
theorem dX6_isAheadOf_0 : decode cX6_isAheadOf 0 = .ok (.aload_n 0, 1) := by decide +kernel
theorem dX6_isAheadOf_1 : decode cX6_isAheadOf 1 = .ok (.getfield 42, 3) := by decide +kernel
theorem dX6_isAheadOf_4 : decode cX6_isAheadOf 4 = .ok (.iconst 3, 1) := by decide +kernel
theorem dX6_isAheadOf_5 : decode cX6_isAheadOf 5 = .ok (.if_icmp .ne 7, 3) := by decide +kernel
theorem dX6_isAheadOf_8 : decode cX6_isAheadOf 8 = .ok (.iconst 1, 1) := by decide +kernel
theorem dX6_isAheadOf_9 : decode cX6_isAheadOf 9 = .ok (.goto 4, 3) := by decide +kernel
theorem dX6_isAheadOf_12 : decode cX6_isAheadOf 12 = .ok (.iconst 0, 1) := by decide +kernel
theorem dX6_isAheadOf_13 : decode cX6_isAheadOf 13 = .ok (.istore_n 2, 1) := by decide +kernel
theorem dX6_isAheadOf_14 : decode cX6_isAheadOf 14 = .ok (.aload_n 1, 1) := by decide +kernel
theorem dX6_isAheadOf_15 : decode cX6_isAheadOf 15 = .ok (.getfield 42, 3) := by decide +kernel
theorem dX6_isAheadOf_18 : decode cX6_isAheadOf 18 = .ok (.iconst 3, 1) := by decide +kernel
theorem dX6_isAheadOf_19 : decode cX6_isAheadOf 19 = .ok (.if_icmp .ne 7, 3) := by decide +kernel
theorem dX6_isAheadOf_22 : decode cX6_isAheadOf 22 = .ok (.iconst 1, 1) := by decide +kernel
theorem dX6_isAheadOf_23 : decode cX6_isAheadOf 23 = .ok (.goto 4, 3) := by decide +kernel
theorem dX6_isAheadOf_26 : decode cX6_isAheadOf 26 = .ok (.iconst 0, 1) := by decide +kernel
theorem dX6_isAheadOf_27 : decode cX6_isAheadOf 27 = .ok (.istore_n 3, 1) := by decide +kernel
theorem dX6_isAheadOf_28 : decode cX6_isAheadOf 28 = .ok (.iload_n 2, 1) := by decide +kernel
theorem dX6_isAheadOf_29 : decode cX6_isAheadOf 29 = .ok (.ifCond .eq 24, 3) := by decide +kernel
theorem dX6_isAheadOf_32 : decode cX6_isAheadOf 32 = .ok (.iload_n 3, 1) := by decide +kernel
theorem dX6_isAheadOf_33 : decode cX6_isAheadOf 33 = .ok (.ifCond .eq 20, 3) := by decide +kernel
theorem dX6_isAheadOf_36 : decode cX6_isAheadOf 36 = .ok (.aload_n 0, 1) := by decide +kernel
theorem dX6_isAheadOf_37 : decode cX6_isAheadOf 37 = .ok (.getfield 52, 3) := by decide +kernel
theorem dX6_isAheadOf_40 : decode cX6_isAheadOf 40 = .ok (.aload_n 1, 1) := by decide +kernel
theorem dX6_isAheadOf_41 : decode cX6_isAheadOf 41 = .ok (.getfield 52, 3) := by decide +kernel
theorem dX6_isAheadOf_44 : decode cX6_isAheadOf 44 = .ok (.if_icmp .ge 7, 3) := by decide +kernel
theorem dX6_isAheadOf_47 : decode cX6_isAheadOf 47 = .ok (.iconst 1, 1) := by decide +kernel
theorem dX6_isAheadOf_48 : decode cX6_isAheadOf 48 = .ok (.goto 4, 3) := by decide +kernel
theorem dX6_isAheadOf_51 : decode cX6_isAheadOf 51 = .ok (.iconst 0, 1) := by decide +kernel
theorem dX6_isAheadOf_52 : decode cX6_isAheadOf 52 = .ok (.ireturn, 1) := by decide +kernel
theorem dX6_isAheadOf_53 : decode cX6_isAheadOf 53 = .ok (.iload_n 2, 1) := by decide +kernel
theorem dX6_isAheadOf_54 : decode cX6_isAheadOf 54 = .ok (.ifCond .ne 7, 3) := by decide +kernel
theorem dX6_isAheadOf_57 : decode cX6_isAheadOf 57 = .ok (.iload_n 3, 1) := by decide +kernel
theorem dX6_isAheadOf_58 : decode cX6_isAheadOf 58 = .ok (.ifCond .eq 5, 3) := by decide +kernel
theorem dX6_isAheadOf_61 : decode cX6_isAheadOf 61 = .ok (.iload_n 2, 1) := by decide +kernel
theorem dX6_isAheadOf_62 : decode cX6_isAheadOf 62 = .ok (.ireturn, 1) := by decide +kernel
theorem dX6_isAheadOf_63 : decode cX6_isAheadOf 63 = .ok (.aload_n 0, 1) := by decide +kernel
theorem dX6_isAheadOf_64 : decode cX6_isAheadOf 64 = .ok (.getfield 27, 3) := by decide +kernel
theorem dX6_isAheadOf_67 : decode cX6_isAheadOf 67 = .ok (.aload_n 1, 1) := by decide +kernel
theorem dX6_isAheadOf_68 : decode cX6_isAheadOf 68 = .ok (.getfield 27, 3) := by decide +kernel
theorem dX6_isAheadOf_71 : decode cX6_isAheadOf 71 = .ok (.if_icmp .gt 25, 3) := by decide +kernel
theorem dX6_isAheadOf_74 : decode cX6_isAheadOf 74 = .ok (.aload_n 0, 1) := by decide +kernel
theorem dX6_isAheadOf_75 : decode cX6_isAheadOf 75 = .ok (.getfield 27, 3) := by decide +kernel
theorem dX6_isAheadOf_78 : decode cX6_isAheadOf 78 = .ok (.aload_n 1, 1) := by decide +kernel
theorem dX6_isAheadOf_79 : decode cX6_isAheadOf 79 = .ok (.getfield 27, 3) := by decide +kernel
theorem dX6_isAheadOf_82 : decode cX6_isAheadOf 82 = .ok (.if_icmp .ne 18, 3) := by decide +kernel
theorem dX6_isAheadOf_85 : decode cX6_isAheadOf 85 = .ok (.aload_n 0, 1) := by decide +kernel
theorem dX6_isAheadOf_86 : decode cX6_isAheadOf 86 = .ok (.getfield 9, 3) := by decide +kernel
theorem dX6_isAheadOf_89 : decode cX6_isAheadOf 89 = .ok (.aload_n 1, 1) := by decide +kernel
theorem dX6_isAheadOf_90 : decode cX6_isAheadOf 90 = .ok (.getfield 9, 3) := by decide +kernel
theorem dX6_isAheadOf_93 : decode cX6_isAheadOf 93 = .ok (.if_icmp .ge 7, 3) := by decide +kernel
theorem dX6_isAheadOf_96 : decode cX6_isAheadOf 96 = .ok (.iconst 1, 1) := by decide +kernel
theorem dX6_isAheadOf_97 : decode cX6_isAheadOf 97 = .ok (.goto 4, 3) := by decide +kernel
theorem dX6_isAheadOf_100 : decode cX6_isAheadOf 100 = .ok (.iconst 0, 1) := by decide +kernel
theorem dX6_isAheadOf_101 : decode cX6_isAheadOf 101 = .ok (.ireturn, 1) := by decide +kernel
theorem dX6_feetBehind_0 : decode cX6_feetBehind 0 = .ok (.aload_n 1, 1) := by decide +kernel
theorem dX6_feetBehind_1 : decode cX6_feetBehind 1 = .ok (.getfield 27, 3) := by decide +kernel
theorem dX6_feetBehind_4 : decode cX6_feetBehind 4 = .ok (.aload_n 0, 1) := by decide +kernel
theorem dX6_feetBehind_5 : decode cX6_feetBehind 5 = .ok (.getfield 27, 3) := by decide +kernel
theorem dX6_feetBehind_8 : decode cX6_feetBehind 8 = .ok (.isub, 1) := by decide +kernel
theorem dX6_feetBehind_9 : decode cX6_feetBehind 9 = .ok (.sipush 400, 3) := by decide +kernel
theorem dX6_feetBehind_12 : decode cX6_feetBehind 12 = .ok (.irem, 1) := by decide +kernel
theorem dX6_feetBehind_13 : decode cX6_feetBehind 13 = .ok (.istore_n 2, 1) := by decide +kernel
theorem dX6_feetBehind_14 : decode cX6_feetBehind 14 = .ok (.iload_n 2, 1) := by decide +kernel
theorem dX6_feetBehind_15 : decode cX6_feetBehind 15 = .ok (.ifCond .le 7, 3) := by decide +kernel
theorem dX6_feetBehind_18 : decode cX6_feetBehind 18 = .ok (.iload_n 2, 1) := by decide +kernel
theorem dX6_feetBehind_19 : decode cX6_feetBehind 19 = .ok (.goto 8, 3) := by decide +kernel
theorem dX6_feetBehind_22 : decode cX6_feetBehind 22 = .ok (.iload_n 2, 1) := by decide +kernel
theorem dX6_feetBehind_23 : decode cX6_feetBehind 23 = .ok (.sipush 400, 3) := by decide +kernel
theorem dX6_feetBehind_26 : decode cX6_feetBehind 26 = .ok (.iadd, 1) := by decide +kernel
theorem dX6_feetBehind_27 : decode cX6_feetBehind 27 = .ok (.ireturn, 1) := by decide +kernel
theorem dX6_flyWithStrength_0 : decode cX6_flyWithStrength 0 = .ok (.iload_n 1, 1) := by decide +kernel
theorem dX6_flyWithStrength_1 : decode cX6_flyWithStrength 1 = .ok (.iload_n 1, 1) := by decide +kernel
theorem dX6_flyWithStrength_2 : decode cX6_flyWithStrength 2 = .ok (.imul, 1) := by decide +kernel
theorem dX6_flyWithStrength_3 : decode cX6_flyWithStrength 3 = .ok (.bipush 40, 2) := by decide +kernel
theorem dX6_flyWithStrength_5 : decode cX6_flyWithStrength 5 = .ok (.idiv, 1) := by decide +kernel
theorem dX6_flyWithStrength_6 : decode cX6_flyWithStrength 6 = .ok (.iconst 1, 1) := by decide +kernel
theorem dX6_flyWithStrength_7 : decode cX6_flyWithStrength 7 = .ok (.iadd, 1) := by decide +kernel
theorem dX6_flyWithStrength_8 : decode cX6_flyWithStrength 8 = .ok (.istore_n 3, 1) := by decide +kernel
theorem dX6_flyWithStrength_9 : decode cX6_flyWithStrength 9 = .ok (.iload_n 2, 1) := by decide +kernel
theorem dX6_flyWithStrength_10 : decode cX6_flyWithStrength 10 = .ok (.ifCond .eq 9, 3) := by decide +kernel
theorem dX6_flyWithStrength_13 : decode cX6_flyWithStrength 13 = .ok (.iload_n 3, 1) := by decide +kernel
theorem dX6_flyWithStrength_14 : decode cX6_flyWithStrength 14 = .ok (.iconst 3, 1) := by decide +kernel
theorem dX6_flyWithStrength_15 : decode cX6_flyWithStrength 15 = .ok (.imul, 1) := by decide +kernel
theorem dX6_flyWithStrength_16 : decode cX6_flyWithStrength 16 = .ok (.iconst 5, 1) := by decide +kernel
theorem dX6_flyWithStrength_17 : decode cX6_flyWithStrength 17 = .ok (.idiv, 1) := by decide +kernel
theorem dX6_flyWithStrength_18 : decode cX6_flyWithStrength 18 = .ok (.istore_n 3, 1) := by decide +kernel
theorem dX6_flyWithStrength_19 : decode cX6_flyWithStrength 19 = .ok (.aload_n 0, 1) := by decide +kernel
theorem dX6_flyWithStrength_20 : decode cX6_flyWithStrength 20 = .ok (.getfield 33, 3) := by decide +kernel
theorem dX6_flyWithStrength_23 : decode cX6_flyWithStrength 23 = .ok (.iload_n 3, 1) := by decide +kernel
theorem dX6_flyWithStrength_24 : decode cX6_flyWithStrength 24 = .ok (.if_icmp .ge 14, 3) := by decide +kernel
theorem dX6_flyWithStrength_27 : decode cX6_flyWithStrength 27 = .ok (.iload_n 1, 1) := by decide +kernel
theorem dX6_flyWithStrength_28 : decode cX6_flyWithStrength 28 = .ok (.iconst 4, 1) := by decide +kernel
theorem dX6_flyWithStrength_29 : decode cX6_flyWithStrength 29 = .ok (.if_icmp .ge 7, 3) := by decide +kernel
theorem dX6_flyWithStrength_32 : decode cX6_flyWithStrength 32 = .ok (.iload_n 1, 1) := by decide +kernel
theorem dX6_flyWithStrength_33 : decode cX6_flyWithStrength 33 = .ok (.goto 4, 3) := by decide +kernel
theorem dX6_flyWithStrength_36 : decode cX6_flyWithStrength 36 = .ok (.iconst 4, 1) := by decide +kernel
theorem dX6_flyWithStrength_37 : decode cX6_flyWithStrength 37 = .ok (.ireturn, 1) := by decide +kernel
theorem dX6_flyWithStrength_38 : decode cX6_flyWithStrength 38 = .ok (.aload_n 0, 1) := by decide +kernel
theorem dX6_flyWithStrength_39 : decode cX6_flyWithStrength 39 = .ok (.dup, 1) := by decide +kernel
theorem dX6_flyWithStrength_40 : decode cX6_flyWithStrength 40 = .ok (.getfield 33, 3) := by decide +kernel
theorem dX6_flyWithStrength_43 : decode cX6_flyWithStrength 43 = .ok (.iload_n 3, 1) := by decide +kernel
theorem dX6_flyWithStrength_44 : decode cX6_flyWithStrength 44 = .ok (.isub, 1) := by decide +kernel
theorem dX6_flyWithStrength_45 : decode cX6_flyWithStrength 45 = .ok (.putfield 33, 3) := by decide +kernel
theorem dX6_flyWithStrength_48 : decode cX6_flyWithStrength 48 = .ok (.iload_n 1, 1) := by decide +kernel
theorem dX6_flyWithStrength_49 : decode cX6_flyWithStrength 49 = .ok (.ireturn, 1) := by decide +kernel
theorem dX6_goToNest_0 : decode cX6_goToNest 0 = .ok (.aload_n 0, 1) := by decide +kernel
theorem dX6_goToNest_1 : decode cX6_goToNest 1 = .ok (.iconst 2, 1) := by decide +kernel
theorem dX6_goToNest_2 : decode cX6_goToNest 2 = .ok (.putfield 42, 3) := by decide +kernel
theorem dX6_goToNest_5 : decode cX6_goToNest 5 = .ok (.aload_n 0, 1) := by decide +kernel
theorem dX6_goToNest_6 : decode cX6_goToNest 6 = .ok (.bipush 12, 2) := by decide +kernel
theorem dX6_goToNest_8 : decode cX6_goToNest 8 = .ok (.putfield 45, 3) := by decide +kernel
theorem dX6_goToNest_11 : decode cX6_goToNest 11 = .ok (.aload_n 0, 1) := by decide +kernel
theorem dX6_goToNest_12 : decode cX6_goToNest 12 = .ok (.iconst 0, 1) := by decide +kernel
theorem dX6_goToNest_13 : decode cX6_goToNest 13 = .ok (.putfield 48, 3) := by decide +kernel
theorem dX6_goToNest_16 : decode cX6_goToNest 16 = .ok (.aload_n 0, 1) := by decide +kernel
theorem dX6_goToNest_17 : decode cX6_goToNest 17 = .ok (.iconst 0, 1) := by decide +kernel
theorem dX6_goToNest_18 : decode cX6_goToNest 18 = .ok (.putfield 36, 3) := by decide +kernel
theorem dX6_goToNest_21 : decode cX6_goToNest 21 = .ok (.aload_n 0, 1) := by decide +kernel
theorem dX6_goToNest_22 : decode cX6_goToNest 22 = .ok (.aload_n 0, 1) := by decide +kernel
theorem dX6_goToNest_23 : decode cX6_goToNest 23 = .ok (.getfield 33, 3) := by decide +kernel
theorem dX6_goToNest_26 : decode cX6_goToNest 26 = .ok (.sipush 300, 3) := by decide +kernel
theorem dX6_goToNest_29 : decode cX6_goToNest 29 = .ok (.iadd, 1) := by decide +kernel
theorem dX6_goToNest_30 : decode cX6_goToNest 30 = .ok (.sipush 999, 3) := by decide +kernel
theorem dX6_goToNest_33 : decode cX6_goToNest 33 = .ok (.if_icmp .ge 14, 3) := by decide +kernel
theorem dX6_goToNest_36 : decode cX6_goToNest 36 = .ok (.aload_n 0, 1) := by decide +kernel
theorem dX6_goToNest_37 : decode cX6_goToNest 37 = .ok (.getfield 33, 3) := by decide +kernel
theorem dX6_goToNest_40 : decode cX6_goToNest 40 = .ok (.sipush 300, 3) := by decide +kernel
theorem dX6_goToNest_43 : decode cX6_goToNest 43 = .ok (.iadd, 1) := by decide +kernel
theorem dX6_goToNest_44 : decode cX6_goToNest 44 = .ok (.goto 6, 3) := by decide +kernel
theorem dX6_goToNest_47 : decode cX6_goToNest 47 = .ok (.sipush 999, 3) := by decide +kernel
theorem dX6_goToNest_50 : decode cX6_goToNest 50 = .ok (.putfield 33, 3) := by decide +kernel
theorem dX6_goToNest_53 : decode cX6_goToNest 53 = .ok (.return_, 1) := by decide +kernel
theorem dX6_startsTurnFlying_0 : decode cX6_startsTurnFlying 0 = .ok (.aload_n 0, 1) := by decide +kernel
theorem dX6_startsTurnFlying_1 : decode cX6_startsTurnFlying 1 = .ok (.iconst 0, 1) := by decide +kernel
theorem dX6_startsTurnFlying_2 : decode cX6_startsTurnFlying 2 = .ok (.putfield 30, 3) := by decide +kernel
theorem dX6_startsTurnFlying_5 : decode cX6_startsTurnFlying 5 = .ok (.aload_n 0, 1) := by decide +kernel
theorem dX6_startsTurnFlying_6 : decode cX6_startsTurnFlying 6 = .ok (.getfield 42, 3) := by decide +kernel
theorem dX6_startsTurnFlying_9 : decode cX6_startsTurnFlying 9 = .ok (.iconst 1, 1) := by decide +kernel
theorem dX6_startsTurnFlying_10 : decode cX6_startsTurnFlying 10 = .ok (.if_icmp .ne 7, 3) := by decide +kernel
theorem dX6_startsTurnFlying_13 : decode cX6_startsTurnFlying 13 = .ok (.iconst 1, 1) := by decide +kernel
theorem dX6_startsTurnFlying_14 : decode cX6_startsTurnFlying 14 = .ok (.goto 4, 3) := by decide +kernel
theorem dX6_startsTurnFlying_17 : decode cX6_startsTurnFlying 17 = .ok (.iconst 0, 1) := by decide +kernel
theorem dX6_startsTurnFlying_18 : decode cX6_startsTurnFlying 18 = .ok (.istore_n 1, 1) := by decide +kernel
theorem dX6_startsTurnFlying_19 : decode cX6_startsTurnFlying 19 = .ok (.aload_n 0, 1) := by decide +kernel
theorem dX6_startsTurnFlying_20 : decode cX6_startsTurnFlying 20 = .ok (.getfield 42, 3) := by decide +kernel
theorem dX6_startsTurnFlying_23 : decode cX6_startsTurnFlying 23 = .ok (.iconst 2, 1) := by decide +kernel
theorem dX6_startsTurnFlying_24 : decode cX6_startsTurnFlying 24 = .ok (.if_icmp .ne 29, 3) := by decide +kernel
theorem dX6_startsTurnFlying_27 : decode cX6_startsTurnFlying 27 = .ok (.aload_n 0, 1) := by decide +kernel
theorem dX6_startsTurnFlying_28 : decode cX6_startsTurnFlying 28 = .ok (.dup, 1) := by decide +kernel
theorem dX6_startsTurnFlying_29 : decode cX6_startsTurnFlying 29 = .ok (.getfield 45, 3) := by decide +kernel
theorem dX6_startsTurnFlying_32 : decode cX6_startsTurnFlying 32 = .ok (.iconst 1, 1) := by decide +kernel
theorem dX6_startsTurnFlying_33 : decode cX6_startsTurnFlying 33 = .ok (.isub, 1) := by decide +kernel
theorem dX6_startsTurnFlying_34 : decode cX6_startsTurnFlying 34 = .ok (.putfield 45, 3) := by decide +kernel
theorem dX6_startsTurnFlying_37 : decode cX6_startsTurnFlying 37 = .ok (.aload_n 0, 1) := by decide +kernel
theorem dX6_startsTurnFlying_38 : decode cX6_startsTurnFlying 38 = .ok (.aload_n 0, 1) := by decide +kernel
theorem dX6_startsTurnFlying_39 : decode cX6_startsTurnFlying 39 = .ok (.getfield 45, 3) := by decide +kernel
theorem dX6_startsTurnFlying_42 : decode cX6_startsTurnFlying 42 = .ok (.ifCond .le 7, 3) := by decide +kernel
theorem dX6_startsTurnFlying_45 : decode cX6_startsTurnFlying 45 = .ok (.iconst 2, 1) := by decide +kernel
theorem dX6_startsTurnFlying_46 : decode cX6_startsTurnFlying 46 = .ok (.goto 4, 3) := by decide +kernel
theorem dX6_startsTurnFlying_49 : decode cX6_startsTurnFlying 49 = .ok (.iconst 1, 1) := by decide +kernel
theorem dX6_startsTurnFlying_50 : decode cX6_startsTurnFlying 50 = .ok (.putfield 42, 3) := by decide +kernel
theorem dX6_startsTurnFlying_53 : decode cX6_startsTurnFlying 53 = .ok (.iload_n 1, 1) := by decide +kernel
theorem dX6_startsTurnFlying_54 : decode cX6_startsTurnFlying 54 = .ok (.ireturn, 1) := by decide +kernel
theorem dX7_init_0 : decode cX7_init 0 = .ok (.aload_n 0, 1) := by decide +kernel
theorem dX7_init_1 : decode cX7_init 1 = .ok (.invokespecial 1, 3) := by decide +kernel
theorem dX7_init_4 : decode cX7_init 4 = .ok (.aload_n 0, 1) := by decide +kernel
theorem dX7_init_5 : decode cX7_init 5 = .ok (.new 7, 3) := by decide +kernel
theorem dX7_init_8 : decode cX7_init 8 = .ok (.dup, 1) := by decide +kernel
theorem dX7_init_9 : decode cX7_init 9 = .ok (.invokespecial 9, 3) := by decide +kernel
theorem dX7_init_12 : decode cX7_init 12 = .ok (.putfield 10, 3) := by decide +kernel
theorem dX7_init_15 : decode cX7_init 15 = .ok (.aload_n 0, 1) := by decide +kernel
theorem dX7_init_16 : decode cX7_init 16 = .ok (.new 7, 3) := by decide +kernel
theorem dX7_init_19 : decode cX7_init 19 = .ok (.dup, 1) := by decide +kernel
theorem dX7_init_20 : decode cX7_init 20 = .ok (.invokespecial 9, 3) := by decide +kernel
theorem dX7_init_23 : decode cX7_init 23 = .ok (.putfield 16, 3) := by decide +kernel
theorem dX7_init_26 : decode cX7_init 26 = .ok (.aload_n 0, 1) := by decide +kernel
theorem dX7_init_27 : decode cX7_init 27 = .ok (.new 19, 3) := by decide +kernel
theorem dX7_init_30 : decode cX7_init 30 = .ok (.dup, 1) := by decide +kernel
theorem dX7_init_31 : decode cX7_init 31 = .ok (.invokespecial 21, 3) := by decide +kernel
theorem dX7_init_34 : decode cX7_init 34 = .ok (.putfield 22, 3) := by decide +kernel
theorem dX7_init_37 : decode cX7_init 37 = .ok (.aload_n 0, 1) := by decide +kernel
theorem dX7_init_38 : decode cX7_init 38 = .ok (.new 26, 3) := by decide +kernel
theorem dX7_init_41 : decode cX7_init 41 = .ok (.dup, 1) := by decide +kernel
theorem dX7_init_42 : decode cX7_init 42 = .ok (.invokespecial 28, 3) := by decide +kernel
theorem dX7_init_45 : decode cX7_init 45 = .ok (.putfield 29, 3) := by decide +kernel
theorem dX7_init_48 : decode cX7_init 48 = .ok (.aload_n 0, 1) := by decide +kernel
theorem dX7_init_49 : decode cX7_init 49 = .ok (.new 33, 3) := by decide +kernel
theorem dX7_init_52 : decode cX7_init 52 = .ok (.dup, 1) := by decide +kernel
theorem dX7_init_53 : decode cX7_init 53 = .ok (.invokespecial 35, 3) := by decide +kernel
theorem dX7_init_56 : decode cX7_init 56 = .ok (.putfield 36, 3) := by decide +kernel
theorem dX7_init_59 : decode cX7_init 59 = .ok (.aload_n 0, 1) := by decide +kernel
theorem dX7_init_60 : decode cX7_init 60 = .ok (.new 40, 3) := by decide +kernel
theorem dX7_init_63 : decode cX7_init 63 = .ok (.dup, 1) := by decide +kernel
theorem dX7_init_64 : decode cX7_init 64 = .ok (.invokespecial 42, 3) := by decide +kernel
theorem dX7_init_67 : decode cX7_init 67 = .ok (.putfield 43, 3) := by decide +kernel
theorem dX7_init_70 : decode cX7_init 70 = .ok (.return_, 1) := by decide +kernel
theorem dX7_enter_0 : decode cX7_enter 0 = .ok (.iload_n 1, 1) := by decide +kernel
theorem dX7_enter_1 : decode cX7_enter 1 = .ok (.invokestatic 47, 3) := by decide +kernel
theorem dX7_enter_4 : decode cX7_enter 4 = .ok (.ifCond .eq 25, 3) := by decide +kernel
theorem dX7_enter_7 : decode cX7_enter 7 = .ok (.iload_n 2, 1) := by decide +kernel
theorem dX7_enter_8 : decode cX7_enter 8 = .ok (.bipush 100, 2) := by decide +kernel
theorem dX7_enter_10 : decode cX7_enter 10 = .ok (.if_icmp .lt 19, 3) := by decide +kernel
theorem dX7_enter_13 : decode cX7_enter 13 = .ok (.iload_n 2, 1) := by decide +kernel
theorem dX7_enter_14 : decode cX7_enter 14 = .ok (.sipush 999, 3) := by decide +kernel
theorem dX7_enter_17 : decode cX7_enter 17 = .ok (.if_icmp .gt 12, 3) := by decide +kernel
theorem dX7_enter_20 : decode cX7_enter 20 = .ok (.iload_n 3, 1) := by decide +kernel
theorem dX7_enter_21 : decode cX7_enter 21 = .ok (.ifCond .lt 8, 3) := by decide +kernel
theorem dX7_enter_24 : decode cX7_enter 24 = .ok (.iload_n 3, 1) := by decide +kernel
theorem dX7_enter_25 : decode cX7_enter 25 = .ok (.iconst 1, 1) := by decide +kernel
theorem dX7_enter_26 : decode cX7_enter 26 = .ok (.if_icmp .le 13, 3) := by decide +kernel
theorem dX7_enter_29 : decode cX7_enter 29 = .ok (.new 51, 3) := by decide +kernel
theorem dX7_enter_32 : decode cX7_enter 32 = .ok (.dup, 1) := by decide +kernel
theorem dX7_enter_33 : decode cX7_enter 33 = .ok (.ldc 53, 2) := by decide +kernel
theorem dX7_enter_35 : decode cX7_enter 35 = .ok (.invokespecial 55, 3) := by decide +kernel
theorem dX7_enter_38 : decode cX7_enter 38 = .ok (.athrow, 1) := by decide +kernel
theorem dX7_enter_39 : decode cX7_enter 39 = .ok (.aload_n 0, 1) := by decide +kernel
theorem dX7_enter_40 : decode cX7_enter 40 = .ok (.getfield 10, 3) := by decide +kernel
theorem dX7_enter_43 : decode cX7_enter 43 = .ok (.getfield 58, 3) := by decide +kernel
theorem dX7_enter_46 : decode cX7_enter 46 = .ok (.bipush 8, 2) := by decide +kernel
theorem dX7_enter_48 : decode cX7_enter 48 = .ok (.if_icmp .ge 13, 3) := by decide +kernel
theorem dX7_enter_51 : decode cX7_enter 51 = .ok (.aload_n 0, 1) := by decide +kernel
theorem dX7_enter_52 : decode cX7_enter 52 = .ok (.getfield 10, 3) := by decide +kernel
theorem dX7_enter_55 : decode cX7_enter 55 = .ok (.getfield 62, 3) := by decide +kernel
theorem dX7_enter_58 : decode cX7_enter 58 = .ok (.ifCond .eq 13, 3) := by decide +kernel
theorem dX7_enter_61 : decode cX7_enter 61 = .ok (.new 66, 3) := by decide +kernel
theorem dX7_enter_64 : decode cX7_enter 64 = .ok (.dup, 1) := by decide +kernel
theorem dX7_enter_65 : decode cX7_enter 65 = .ok (.ldc 68, 2) := by decide +kernel
theorem dX7_enter_67 : decode cX7_enter 67 = .ok (.invokespecial 70, 3) := by decide +kernel
theorem dX7_enter_70 : decode cX7_enter 70 = .ok (.athrow, 1) := by decide +kernel
theorem dX7_enter_71 : decode cX7_enter 71 = .ok (.aload_n 0, 1) := by decide +kernel
theorem dX7_enter_72 : decode cX7_enter 72 = .ok (.getfield 22, 3) := by decide +kernel
theorem dX7_enter_75 : decode cX7_enter 75 = .ok (.aload_n 0, 1) := by decide +kernel
theorem dX7_enter_76 : decode cX7_enter 76 = .ok (.getfield 10, 3) := by decide +kernel
theorem dX7_enter_79 : decode cX7_enter 79 = .ok (.invokevirtual 71, 3) := by decide +kernel
theorem dX7_enter_82 : decode cX7_enter 82 = .ok (.aload_n 0, 1) := by decide +kernel
theorem dX7_enter_83 : decode cX7_enter 83 = .ok (.getfield 10, 3) := by decide +kernel
theorem dX7_enter_86 : decode cX7_enter 86 = .ok (.iload_n 1, 1) := by decide +kernel
theorem dX7_enter_87 : decode cX7_enter 87 = .ok (.iload_n 2, 1) := by decide +kernel
theorem dX7_enter_88 : decode cX7_enter 88 = .ok (.iload_n 3, 1) := by decide +kernel
theorem dX7_enter_89 : decode cX7_enter 89 = .ok (.invokevirtual 75, 3) := by decide +kernel
theorem dX7_enter_92 : decode cX7_enter 92 = .ok (.ireturn, 1) := by decide +kernel
theorem dX7_setPace_0 : decode cX7_setPace 0 = .ok (.aload_n 0, 1) := by decide +kernel
theorem dX7_setPace_1 : decode cX7_setPace 1 = .ok (.iload_n 1, 1) := by decide +kernel
theorem dX7_setPace_2 : decode cX7_setPace 2 = .ok (.invokevirtual 79, 3) := by decide +kernel
theorem dX7_setPace_5 : decode cX7_setPace 5 = .ok (.astore_n 3, 1) := by decide +kernel
theorem dX7_setPace_6 : decode cX7_setPace 6 = .ok (.iload_n 2, 1) := by decide +kernel
theorem dX7_setPace_7 : decode cX7_setPace 7 = .ok (.invokestatic 83, 3) := by decide +kernel
theorem dX7_setPace_10 : decode cX7_setPace 10 = .ok (.aload_n 0, 1) := by decide +kernel
theorem dX7_setPace_11 : decode cX7_setPace 11 = .ok (.getfield 22, 3) := by decide +kernel
theorem dX7_setPace_14 : decode cX7_setPace 14 = .ok (.aload_n 0, 1) := by decide +kernel
theorem dX7_setPace_15 : decode cX7_setPace 15 = .ok (.getfield 10, 3) := by decide +kernel
theorem dX7_setPace_18 : decode cX7_setPace 18 = .ok (.invokevirtual 71, 3) := by decide +kernel
theorem dX7_setPace_21 : decode cX7_setPace 21 = .ok (.aload_n 3, 1) := by decide +kernel
theorem dX7_setPace_22 : decode cX7_setPace 22 = .ok (.getfield 87, 3) := by decide +kernel
theorem dX7_setPace_25 : decode cX7_setPace 25 = .ok (.istore 4, 2) := by decide +kernel
theorem dX7_setPace_27 : decode cX7_setPace 27 = .ok (.aload_n 3, 1) := by decide +kernel
theorem dX7_setPace_28 : decode cX7_setPace 28 = .ok (.iload_n 2, 1) := by decide +kernel
theorem dX7_setPace_29 : decode cX7_setPace 29 = .ok (.putfield 87, 3) := by decide +kernel
theorem dX7_setPace_32 : decode cX7_setPace 32 = .ok (.iload 4, 2) := by decide +kernel
theorem dX7_setPace_34 : decode cX7_setPace 34 = .ok (.ireturn, 1) := by decide +kernel
theorem dX7_callIn_0 : decode cX7_callIn 0 = .ok (.aload_n 0, 1) := by decide +kernel
theorem dX7_callIn_1 : decode cX7_callIn 1 = .ok (.iload_n 1, 1) := by decide +kernel
theorem dX7_callIn_2 : decode cX7_callIn 2 = .ok (.invokevirtual 79, 3) := by decide +kernel
theorem dX7_callIn_5 : decode cX7_callIn 5 = .ok (.astore_n 2, 1) := by decide +kernel
theorem dX7_callIn_6 : decode cX7_callIn 6 = .ok (.aload_n 2, 1) := by decide +kernel
theorem dX7_callIn_7 : decode cX7_callIn 7 = .ok (.getfield 92, 3) := by decide +kernel
theorem dX7_callIn_10 : decode cX7_callIn 10 = .ok (.iconst 3, 1) := by decide +kernel
theorem dX7_callIn_11 : decode cX7_callIn 11 = .ok (.if_icmp .ne 13, 3) := by decide +kernel
theorem dX7_callIn_14 : decode cX7_callIn 14 = .ok (.new 66, 3) := by decide +kernel
theorem dX7_callIn_17 : decode cX7_callIn 17 = .ok (.dup, 1) := by decide +kernel
theorem dX7_callIn_18 : decode cX7_callIn 18 = .ok (.ldc 95, 2) := by decide +kernel
theorem dX7_callIn_20 : decode cX7_callIn 20 = .ok (.invokespecial 70, 3) := by decide +kernel
theorem dX7_callIn_23 : decode cX7_callIn 23 = .ok (.athrow, 1) := by decide +kernel
theorem dX7_callIn_24 : decode cX7_callIn 24 = .ok (.aload_n 0, 1) := by decide +kernel
theorem dX7_callIn_25 : decode cX7_callIn 25 = .ok (.getfield 22, 3) := by decide +kernel
theorem dX7_callIn_28 : decode cX7_callIn 28 = .ok (.aload_n 0, 1) := by decide +kernel
theorem dX7_callIn_29 : decode cX7_callIn 29 = .ok (.getfield 10, 3) := by decide +kernel
theorem dX7_callIn_32 : decode cX7_callIn 32 = .ok (.invokevirtual 71, 3) := by decide +kernel
theorem dX7_callIn_35 : decode cX7_callIn 35 = .ok (.aload_n 2, 1) := by decide +kernel
theorem dX7_callIn_36 : decode cX7_callIn 36 = .ok (.aload_n 2, 1) := by decide +kernel
theorem dX7_callIn_37 : decode cX7_callIn 37 = .ok (.getfield 97, 3) := by decide +kernel
theorem dX7_callIn_40 : decode cX7_callIn 40 = .ok (.ifCond .ne 7, 3) := by decide +kernel
theorem dX7_callIn_43 : decode cX7_callIn 43 = .ok (.iconst 1, 1) := by decide +kernel
theorem dX7_callIn_44 : decode cX7_callIn 44 = .ok (.goto 4, 3) := by decide +kernel
theorem dX7_callIn_47 : decode cX7_callIn 47 = .ok (.iconst 0, 1) := by decide +kernel
theorem dX7_callIn_48 : decode cX7_callIn 48 = .ok (.putfield 97, 3) := by decide +kernel
theorem dX7_callIn_51 : decode cX7_callIn 51 = .ok (.aload_n 2, 1) := by decide +kernel
theorem dX7_callIn_52 : decode cX7_callIn 52 = .ok (.getfield 97, 3) := by decide +kernel
theorem dX7_callIn_55 : decode cX7_callIn 55 = .ok (.ireturn, 1) := by decide +kernel
theorem dX7_pair_0 : decode cX7_pair 0 = .ok (.aload_n 0, 1) := by decide +kernel
theorem dX7_pair_1 : decode cX7_pair 1 = .ok (.iload_n 1, 1) := by decide +kernel
theorem dX7_pair_2 : decode cX7_pair 2 = .ok (.invokevirtual 79, 3) := by decide +kernel
theorem dX7_pair_5 : decode cX7_pair 5 = .ok (.astore_n 3, 1) := by decide +kernel
theorem dX7_pair_6 : decode cX7_pair 6 = .ok (.aload_n 0, 1) := by decide +kernel
theorem dX7_pair_7 : decode cX7_pair 7 = .ok (.iload_n 2, 1) := by decide +kernel
theorem dX7_pair_8 : decode cX7_pair 8 = .ok (.invokevirtual 79, 3) := by decide +kernel
theorem dX7_pair_11 : decode cX7_pair 11 = .ok (.astore 4, 2) := by decide +kernel
theorem dX7_pair_13 : decode cX7_pair 13 = .ok (.iload_n 1, 1) := by decide +kernel
theorem dX7_pair_14 : decode cX7_pair 14 = .ok (.iload_n 2, 1) := by decide +kernel
theorem dX7_pair_15 : decode cX7_pair 15 = .ok (.if_icmp .ne 13, 3) := by decide +kernel
theorem dX7_pair_18 : decode cX7_pair 18 = .ok (.new 51, 3) := by decide +kernel
theorem dX7_pair_21 : decode cX7_pair 21 = .ok (.dup, 1) := by decide +kernel
theorem dX7_pair_22 : decode cX7_pair 22 = .ok (.ldc 100, 2) := by decide +kernel
theorem dX7_pair_24 : decode cX7_pair 24 = .ok (.invokespecial 55, 3) := by decide +kernel
theorem dX7_pair_27 : decode cX7_pair 27 = .ok (.athrow, 1) := by decide +kernel
theorem dX7_pair_28 : decode cX7_pair 28 = .ok (.aload_n 0, 1) := by decide +kernel
theorem dX7_pair_29 : decode cX7_pair 29 = .ok (.getfield 22, 3) := by decide +kernel
theorem dX7_pair_32 : decode cX7_pair 32 = .ok (.aload_n 0, 1) := by decide +kernel
theorem dX7_pair_33 : decode cX7_pair 33 = .ok (.getfield 10, 3) := by decide +kernel
theorem dX7_pair_36 : decode cX7_pair 36 = .ok (.invokevirtual 71, 3) := by decide +kernel
theorem dX7_pair_39 : decode cX7_pair 39 = .ok (.aload_n 0, 1) := by decide +kernel
theorem dX7_pair_40 : decode cX7_pair 40 = .ok (.getfield 10, 3) := by decide +kernel
theorem dX7_pair_43 : decode cX7_pair 43 = .ok (.aload_n 3, 1) := by decide +kernel
theorem dX7_pair_44 : decode cX7_pair 44 = .ok (.aload 4, 2) := by decide +kernel
theorem dX7_pair_46 : decode cX7_pair 46 = .ok (.invokevirtual 102, 3) := by decide +kernel
theorem dX7_pair_49 : decode cX7_pair 49 = .ok (.aload_n 0, 1) := by decide +kernel
theorem dX7_pair_50 : decode cX7_pair 50 = .ok (.getfield 10, 3) := by decide +kernel
theorem dX7_pair_53 : decode cX7_pair 53 = .ok (.invokevirtual 106, 3) := by decide +kernel
theorem dX7_pair_56 : decode cX7_pair 56 = .ok (.ireturn, 1) := by decide +kernel
theorem dX7_setLimit_0 : decode cX7_setLimit 0 = .ok (.iload_n 1, 1) := by decide +kernel
theorem dX7_setLimit_1 : decode cX7_setLimit 1 = .ok (.invokestatic 110, 3) := by decide +kernel
theorem dX7_setLimit_4 : decode cX7_setLimit 4 = .ok (.iload_n 2, 1) := by decide +kernel
theorem dX7_setLimit_5 : decode cX7_setLimit 5 = .ok (.bipush 8, 2) := by decide +kernel
theorem dX7_setLimit_7 : decode cX7_setLimit 7 = .ok (.if_icmp .lt 9, 3) := by decide +kernel
theorem dX7_setLimit_10 : decode cX7_setLimit 10 = .ok (.iload_n 2, 1) := by decide +kernel
theorem dX7_setLimit_11 : decode cX7_setLimit 11 = .ok (.bipush 40, 2) := by decide +kernel
theorem dX7_setLimit_13 : decode cX7_setLimit 13 = .ok (.if_icmp .le 13, 3) := by decide +kernel
theorem dX7_setLimit_16 : decode cX7_setLimit 16 = .ok (.new 51, 3) := by decide +kernel
theorem dX7_setLimit_19 : decode cX7_setLimit 19 = .ok (.dup, 1) := by decide +kernel
theorem dX7_setLimit_20 : decode cX7_setLimit 20 = .ok (.ldc 113, 2) := by decide +kernel
theorem dX7_setLimit_22 : decode cX7_setLimit 22 = .ok (.invokespecial 55, 3) := by decide +kernel
theorem dX7_setLimit_25 : decode cX7_setLimit 25 = .ok (.athrow, 1) := by decide +kernel
theorem dX7_setLimit_26 : decode cX7_setLimit 26 = .ok (.aload_n 0, 1) := by decide +kernel
theorem dX7_setLimit_27 : decode cX7_setLimit 27 = .ok (.getfield 22, 3) := by decide +kernel
theorem dX7_setLimit_30 : decode cX7_setLimit 30 = .ok (.aload_n 0, 1) := by decide +kernel
theorem dX7_setLimit_31 : decode cX7_setLimit 31 = .ok (.getfield 10, 3) := by decide +kernel
theorem dX7_setLimit_34 : decode cX7_setLimit 34 = .ok (.invokevirtual 71, 3) := by decide +kernel
theorem dX7_setLimit_37 : decode cX7_setLimit 37 = .ok (.aload_n 0, 1) := by decide +kernel
theorem dX7_setLimit_38 : decode cX7_setLimit 38 = .ok (.getfield 10, 3) := by decide +kernel
theorem dX7_setLimit_41 : decode cX7_setLimit 41 = .ok (.iload_n 1, 1) := by decide +kernel
theorem dX7_setLimit_42 : decode cX7_setLimit 42 = .ok (.invokevirtual 115, 3) := by decide +kernel
theorem dX7_setLimit_45 : decode cX7_setLimit 45 = .ok (.istore_n 3, 1) := by decide +kernel
theorem dX7_setLimit_46 : decode cX7_setLimit 46 = .ok (.aload_n 0, 1) := by decide +kernel
theorem dX7_setLimit_47 : decode cX7_setLimit 47 = .ok (.getfield 10, 3) := by decide +kernel
theorem dX7_setLimit_50 : decode cX7_setLimit 50 = .ok (.iload_n 1, 1) := by decide +kernel
theorem dX7_setLimit_51 : decode cX7_setLimit 51 = .ok (.iload_n 2, 1) := by decide +kernel
theorem dX7_setLimit_52 : decode cX7_setLimit 52 = .ok (.invokevirtual 119, 3) := by decide +kernel
theorem dX7_setLimit_55 : decode cX7_setLimit 55 = .ok (.iload_n 3, 1) := by decide +kernel
theorem dX7_setLimit_56 : decode cX7_setLimit 56 = .ok (.ireturn, 1) := by decide +kernel
theorem dX7_setLaps_0 : decode cX7_setLaps 0 = .ok (.iload_n 1, 1) := by decide +kernel
theorem dX7_setLaps_1 : decode cX7_setLaps 1 = .ok (.iconst 1, 1) := by decide +kernel
theorem dX7_setLaps_2 : decode cX7_setLaps 2 = .ok (.if_icmp .lt 9, 3) := by decide +kernel
theorem dX7_setLaps_5 : decode cX7_setLaps 5 = .ok (.iload_n 1, 1) := by decide +kernel
theorem dX7_setLaps_6 : decode cX7_setLaps 6 = .ok (.bipush 9, 2) := by decide +kernel
theorem dX7_setLaps_8 : decode cX7_setLaps 8 = .ok (.if_icmp .le 13, 3) := by decide +kernel
theorem dX7_setLaps_11 : decode cX7_setLaps 11 = .ok (.new 51, 3) := by decide +kernel
theorem dX7_setLaps_14 : decode cX7_setLaps 14 = .ok (.dup, 1) := by decide +kernel
theorem dX7_setLaps_15 : decode cX7_setLaps 15 = .ok (.ldc 123, 2) := by decide +kernel
theorem dX7_setLaps_17 : decode cX7_setLaps 17 = .ok (.invokespecial 55, 3) := by decide +kernel
theorem dX7_setLaps_20 : decode cX7_setLaps 20 = .ok (.athrow, 1) := by decide +kernel
theorem dX7_setLaps_21 : decode cX7_setLaps 21 = .ok (.aload_n 0, 1) := by decide +kernel
theorem dX7_setLaps_22 : decode cX7_setLaps 22 = .ok (.getfield 10, 3) := by decide +kernel
theorem dX7_setLaps_25 : decode cX7_setLaps 25 = .ok (.getfield 62, 3) := by decide +kernel
theorem dX7_setLaps_28 : decode cX7_setLaps 28 = .ok (.ifCond .eq 13, 3) := by decide +kernel
theorem dX7_setLaps_31 : decode cX7_setLaps 31 = .ok (.new 66, 3) := by decide +kernel
theorem dX7_setLaps_34 : decode cX7_setLaps 34 = .ok (.dup, 1) := by decide +kernel
theorem dX7_setLaps_35 : decode cX7_setLaps 35 = .ok (.ldc 125, 2) := by decide +kernel
theorem dX7_setLaps_37 : decode cX7_setLaps 37 = .ok (.invokespecial 70, 3) := by decide +kernel
theorem dX7_setLaps_40 : decode cX7_setLaps 40 = .ok (.athrow, 1) := by decide +kernel
theorem dX7_setLaps_41 : decode cX7_setLaps 41 = .ok (.aload_n 0, 1) := by decide +kernel
theorem dX7_setLaps_42 : decode cX7_setLaps 42 = .ok (.getfield 22, 3) := by decide +kernel
theorem dX7_setLaps_45 : decode cX7_setLaps 45 = .ok (.aload_n 0, 1) := by decide +kernel
theorem dX7_setLaps_46 : decode cX7_setLaps 46 = .ok (.getfield 10, 3) := by decide +kernel
theorem dX7_setLaps_49 : decode cX7_setLaps 49 = .ok (.invokevirtual 71, 3) := by decide +kernel
theorem dX7_setLaps_52 : decode cX7_setLaps 52 = .ok (.aload_n 0, 1) := by decide +kernel
theorem dX7_setLaps_53 : decode cX7_setLaps 53 = .ok (.getfield 10, 3) := by decide +kernel
theorem dX7_setLaps_56 : decode cX7_setLaps 56 = .ok (.getfield 127, 3) := by decide +kernel
theorem dX7_setLaps_59 : decode cX7_setLaps 59 = .ok (.istore_n 2, 1) := by decide +kernel
theorem dX7_setLaps_60 : decode cX7_setLaps 60 = .ok (.aload_n 0, 1) := by decide +kernel
theorem dX7_setLaps_61 : decode cX7_setLaps 61 = .ok (.getfield 10, 3) := by decide +kernel
theorem dX7_setLaps_64 : decode cX7_setLaps 64 = .ok (.iload_n 1, 1) := by decide +kernel
theorem dX7_setLaps_65 : decode cX7_setLaps 65 = .ok (.putfield 127, 3) := by decide +kernel
theorem dX7_setLaps_68 : decode cX7_setLaps 68 = .ok (.iload_n 2, 1) := by decide +kernel
theorem dX7_setLaps_69 : decode cX7_setLaps 69 = .ok (.ireturn, 1) := by decide +kernel
theorem dX7_begin_0 : decode cX7_begin 0 = .ok (.aload_n 0, 1) := by decide +kernel
theorem dX7_begin_1 : decode cX7_begin 1 = .ok (.getfield 10, 3) := by decide +kernel
theorem dX7_begin_4 : decode cX7_begin 4 = .ok (.getfield 58, 3) := by decide +kernel
theorem dX7_begin_7 : decode cX7_begin 7 = .ok (.ifCond .ne 13, 3) := by decide +kernel
theorem dX7_begin_10 : decode cX7_begin 10 = .ok (.new 66, 3) := by decide +kernel
theorem dX7_begin_13 : decode cX7_begin 13 = .ok (.dup, 1) := by decide +kernel
theorem dX7_begin_14 : decode cX7_begin 14 = .ok (.ldc 130, 2) := by decide +kernel
theorem dX7_begin_16 : decode cX7_begin 16 = .ok (.invokespecial 70, 3) := by decide +kernel
theorem dX7_begin_19 : decode cX7_begin 19 = .ok (.athrow, 1) := by decide +kernel
theorem dX7_begin_20 : decode cX7_begin 20 = .ok (.aload_n 0, 1) := by decide +kernel
theorem dX7_begin_21 : decode cX7_begin 21 = .ok (.getfield 22, 3) := by decide +kernel
theorem dX7_begin_24 : decode cX7_begin 24 = .ok (.aload_n 0, 1) := by decide +kernel
theorem dX7_begin_25 : decode cX7_begin 25 = .ok (.getfield 10, 3) := by decide +kernel
theorem dX7_begin_28 : decode cX7_begin 28 = .ok (.invokevirtual 71, 3) := by decide +kernel
theorem dX7_begin_31 : decode cX7_begin 31 = .ok (.aload_n 0, 1) := by decide +kernel
theorem dX7_begin_32 : decode cX7_begin 32 = .ok (.getfield 10, 3) := by decide +kernel
theorem dX7_begin_35 : decode cX7_begin 35 = .ok (.invokevirtual 132, 3) := by decide +kernel
theorem dX7_begin_38 : decode cX7_begin 38 = .ok (.aload_n 0, 1) := by decide +kernel
theorem dX7_begin_39 : decode cX7_begin 39 = .ok (.getfield 10, 3) := by decide +kernel
theorem dX7_begin_42 : decode cX7_begin 42 = .ok (.getfield 58, 3) := by decide +kernel
theorem dX7_begin_45 : decode cX7_begin 45 = .ok (.ireturn, 1) := by decide +kernel
theorem dX7_pass_0 : decode cX7_pass 0 = .ok (.iload_n 1, 1) := by decide +kernel
theorem dX7_pass_1 : decode cX7_pass 1 = .ok (.invokestatic 135, 3) := by decide +kernel
theorem dX7_pass_4 : decode cX7_pass 4 = .ok (.aload_n 0, 1) := by decide +kernel
theorem dX7_pass_5 : decode cX7_pass 5 = .ok (.invokevirtual 138, 3) := by decide +kernel
theorem dX7_pass_8 : decode cX7_pass 8 = .ok (.aload_n 0, 1) := by decide +kernel
theorem dX7_pass_9 : decode cX7_pass 9 = .ok (.getfield 22, 3) := by decide +kernel
theorem dX7_pass_12 : decode cX7_pass 12 = .ok (.aload_n 0, 1) := by decide +kernel
theorem dX7_pass_13 : decode cX7_pass 13 = .ok (.getfield 10, 3) := by decide +kernel
