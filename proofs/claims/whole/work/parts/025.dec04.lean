theorem dX7_hashAccounts_144 : decode cX7_hashAccounts 144 = .ok (.aload_n 1, 1) := by decide +kernel
theorem dX7_hashAccounts_145 : decode cX7_hashAccounts 145 = .ok (.aload_n 0, 1) := by decide +kernel
theorem dX7_hashAccounts_146 : decode cX7_hashAccounts 146 = .ok (.getfield 10, 3) := by decide +kernel
theorem dX7_hashAccounts_149 : decode cX7_hashAccounts 149 = .ok (.getfield 304, 3) := by decide +kernel
theorem dX7_hashAccounts_152 : decode cX7_hashAccounts 152 = .ok (.i2l, 1) := by decide +kernel
theorem dX7_hashAccounts_153 : decode cX7_hashAccounts 153 = .ok (.invokevirtual 313, 3) := by decide +kernel
theorem dX7_hashAccounts_156 : decode cX7_hashAccounts 156 = .ok (.aload_n 1, 1) := by decide +kernel
theorem dX7_hashAccounts_157 : decode cX7_hashAccounts 157 = .ok (.aload_n 0, 1) := by decide +kernel
theorem dX7_hashAccounts_158 : decode cX7_hashAccounts 158 = .ok (.getfield 10, 3) := by decide +kernel
theorem dX7_hashAccounts_161 : decode cX7_hashAccounts 161 = .ok (.getfield 307, 3) := by decide +kernel
theorem dX7_hashAccounts_164 : decode cX7_hashAccounts 164 = .ok (.i2l, 1) := by decide +kernel
theorem dX7_hashAccounts_165 : decode cX7_hashAccounts 165 = .ok (.invokevirtual 313, 3) := by decide +kernel
theorem dX7_hashAccounts_168 : decode cX7_hashAccounts 168 = .ok (.aload_n 1, 1) := by decide +kernel
theorem dX7_hashAccounts_169 : decode cX7_hashAccounts 169 = .ok (.aload_n 0, 1) := by decide +kernel
theorem dX7_hashAccounts_170 : decode cX7_hashAccounts 170 = .ok (.getfield 22, 3) := by decide +kernel
theorem dX7_hashAccounts_173 : decode cX7_hashAccounts 173 = .ok (.getfield 197, 3) := by decide +kernel
theorem dX7_hashAccounts_176 : decode cX7_hashAccounts 176 = .ok (.i2l, 1) := by decide +kernel
theorem dX7_hashAccounts_177 : decode cX7_hashAccounts 177 = .ok (.invokevirtual 313, 3) := by decide +kernel
theorem dX7_hashAccounts_180 : decode cX7_hashAccounts 180 = .ok (.aload_n 1, 1) := by decide +kernel
theorem dX7_hashAccounts_181 : decode cX7_hashAccounts 181 = .ok (.aload_n 0, 1) := by decide +kernel
theorem dX7_hashAccounts_182 : decode cX7_hashAccounts 182 = .ok (.invokevirtual 337, 3) := by decide +kernel
theorem dX7_hashAccounts_185 : decode cX7_hashAccounts 185 = .ok (.invokestatic 341, 3) := by decide +kernel
theorem dX7_hashAccounts_188 : decode cX7_hashAccounts 188 = .ok (.invokevirtual 313, 3) := by decide +kernel
theorem dX7_hashAccounts_191 : decode cX7_hashAccounts 191 = .ok (.return_, 1) := by decide +kernel
theorem dX7_bitsOf_0 : decode cX7_bitsOf 0 = .ok (.dload_n 0, 1) := by decide +kernel
theorem dX7_bitsOf_1 : decode cX7_bitsOf 1 = .ok (.dconst 0, 1) := by decide +kernel
theorem dX7_bitsOf_2 : decode cX7_bitsOf 2 = .ok (.dcmp .g, 1) := by decide +kernel
theorem dX7_bitsOf_3 : decode cX7_bitsOf 3 = .ok (.ifCond .gt 5, 3) := by decide +kernel
theorem dX7_bitsOf_6 : decode cX7_bitsOf 6 = .ok (.lconst 0, 1) := by decide +kernel
theorem dX7_bitsOf_7 : decode cX7_bitsOf 7 = .ok (.lreturn, 1) := by decide +kernel
theorem dX7_bitsOf_8 : decode cX7_bitsOf 8 = .ok (.dload_n 0, 1) := by decide +kernel
theorem dX7_bitsOf_9 : decode cX7_bitsOf 9 = .ok (.dstore_n 2, 1) := by decide +kernel
theorem dX7_bitsOf_10 : decode cX7_bitsOf 10 = .ok (.ldc2_w 345, 3) := by decide +kernel
theorem dX7_bitsOf_13 : decode cX7_bitsOf 13 = .ok (.lstore 4, 2) := by decide +kernel
theorem dX7_bitsOf_15 : decode cX7_bitsOf 15 = .ok (.iconst 0, 1) := by decide +kernel
theorem dX7_bitsOf_16 : decode cX7_bitsOf 16 = .ok (.istore 6, 2) := by decide +kernel
theorem dX7_bitsOf_18 : decode cX7_bitsOf 18 = .ok (.iload 6, 2) := by decide +kernel
theorem dX7_bitsOf_20 : decode cX7_bitsOf 20 = .ok (.bipush 64, 2) := by decide +kernel
theorem dX7_bitsOf_22 : decode cX7_bitsOf 22 = .ok (.if_icmp .ge 29, 3) := by decide +kernel
theorem dX7_bitsOf_25 : decode cX7_bitsOf 25 = .ok (.dload_n 2, 1) := by decide +kernel
theorem dX7_bitsOf_26 : decode cX7_bitsOf 26 = .ok (.ldc2_w 347, 3) := by decide +kernel
theorem dX7_bitsOf_29 : decode cX7_bitsOf 29 = .ok (.dcmp .l, 1) := by decide +kernel
theorem dX7_bitsOf_30 : decode cX7_bitsOf 30 = .ok (.ifCond .lt 21, 3) := by decide +kernel
theorem dX7_bitsOf_33 : decode cX7_bitsOf 33 = .ok (.dload_n 2, 1) := by decide +kernel
theorem dX7_bitsOf_34 : decode cX7_bitsOf 34 = .ok (.ldc2_w 347, 3) := by decide +kernel
theorem dX7_bitsOf_37 : decode cX7_bitsOf 37 = .ok (.ddiv, 1) := by decide +kernel
theorem dX7_bitsOf_38 : decode cX7_bitsOf 38 = .ok (.dstore_n 2, 1) := by decide +kernel
theorem dX7_bitsOf_39 : decode cX7_bitsOf 39 = .ok (.lload 4, 2) := by decide +kernel
theorem dX7_bitsOf_41 : decode cX7_bitsOf 41 = .ok (.lconst 1, 1) := by decide +kernel
theorem dX7_bitsOf_42 : decode cX7_bitsOf 42 = .ok (.ladd, 1) := by decide +kernel
theorem dX7_bitsOf_43 : decode cX7_bitsOf 43 = .ok (.lstore 4, 2) := by decide +kernel
theorem dX7_bitsOf_45 : decode cX7_bitsOf 45 = .ok (.iinc 6 1, 3) := by decide +kernel
theorem dX7_bitsOf_48 : decode cX7_bitsOf 48 = .ok (.goto (-30), 3) := by decide +kernel
theorem dX7_bitsOf_51 : decode cX7_bitsOf 51 = .ok (.iconst 0, 1) := by decide +kernel
theorem dX7_bitsOf_52 : decode cX7_bitsOf 52 = .ok (.istore 6, 2) := by decide +kernel
theorem dX7_bitsOf_54 : decode cX7_bitsOf 54 = .ok (.iload 6, 2) := by decide +kernel
theorem dX7_bitsOf_56 : decode cX7_bitsOf 56 = .ok (.bipush 64, 2) := by decide +kernel
theorem dX7_bitsOf_58 : decode cX7_bitsOf 58 = .ok (.if_icmp .ge 27, 3) := by decide +kernel
theorem dX7_bitsOf_61 : decode cX7_bitsOf 61 = .ok (.dload_n 2, 1) := by decide +kernel
theorem dX7_bitsOf_62 : decode cX7_bitsOf 62 = .ok (.dconst 1, 1) := by decide +kernel
theorem dX7_bitsOf_63 : decode cX7_bitsOf 63 = .ok (.dcmp .g, 1) := by decide +kernel
theorem dX7_bitsOf_64 : decode cX7_bitsOf 64 = .ok (.ifCond .ge 21, 3) := by decide +kernel
theorem dX7_bitsOf_67 : decode cX7_bitsOf 67 = .ok (.dload_n 2, 1) := by decide +kernel
theorem dX7_bitsOf_68 : decode cX7_bitsOf 68 = .ok (.ldc2_w 347, 3) := by decide +kernel
theorem dX7_bitsOf_71 : decode cX7_bitsOf 71 = .ok (.dmul, 1) := by decide +kernel
theorem dX7_bitsOf_72 : decode cX7_bitsOf 72 = .ok (.dstore_n 2, 1) := by decide +kernel
theorem dX7_bitsOf_73 : decode cX7_bitsOf 73 = .ok (.lload 4, 2) := by decide +kernel
theorem dX7_bitsOf_75 : decode cX7_bitsOf 75 = .ok (.lconst 1, 1) := by decide +kernel
theorem dX7_bitsOf_76 : decode cX7_bitsOf 76 = .ok (.lsub, 1) := by decide +kernel
theorem dX7_bitsOf_77 : decode cX7_bitsOf 77 = .ok (.lstore 4, 2) := by decide +kernel
theorem dX7_bitsOf_79 : decode cX7_bitsOf 79 = .ok (.iinc 6 1, 3) := by decide +kernel
theorem dX7_bitsOf_82 : decode cX7_bitsOf 82 = .ok (.goto (-28), 3) := by decide +kernel
theorem dX7_bitsOf_85 : decode cX7_bitsOf 85 = .ok (.lload 4, 2) := by decide +kernel
theorem dX7_bitsOf_87 : decode cX7_bitsOf 87 = .ok (.bipush 52, 2) := by decide +kernel
theorem dX7_bitsOf_89 : decode cX7_bitsOf 89 = .ok (.lshl, 1) := by decide +kernel
theorem dX7_bitsOf_90 : decode cX7_bitsOf 90 = .ok (.dload_n 2, 1) := by decide +kernel
theorem dX7_bitsOf_91 : decode cX7_bitsOf 91 = .ok (.dconst 1, 1) := by decide +kernel
theorem dX7_bitsOf_92 : decode cX7_bitsOf 92 = .ok (.dsub, 1) := by decide +kernel
theorem dX7_bitsOf_93 : decode cX7_bitsOf 93 = .ok (.ldc2_w 349, 3) := by decide +kernel
theorem dX7_bitsOf_96 : decode cX7_bitsOf 96 = .ok (.dmul, 1) := by decide +kernel
theorem dX7_bitsOf_97 : decode cX7_bitsOf 97 = .ok (.d2l, 1) := by decide +kernel
theorem dX7_bitsOf_98 : decode cX7_bitsOf 98 = .ok (.ladd, 1) := by decide +kernel
theorem dX7_bitsOf_99 : decode cX7_bitsOf 99 = .ok (.lreturn, 1) := by decide +kernel
theorem dX7_foretell_0 : decode cX7_foretell 0 = .ok (.aload_n 0, 1) := by decide +kernel
theorem dX7_foretell_1 : decode cX7_foretell 1 = .ok (.getfield 16, 3) := by decide +kernel
theorem dX7_foretell_4 : decode cX7_foretell 4 = .ok (.aload_n 0, 1) := by decide +kernel
theorem dX7_foretell_5 : decode cX7_foretell 5 = .ok (.getfield 10, 3) := by decide +kernel
theorem dX7_foretell_8 : decode cX7_foretell 8 = .ok (.invokevirtual 175, 3) := by decide +kernel
theorem dX7_foretell_11 : decode cX7_foretell 11 = .ok (.aload_n 0, 1) := by decide +kernel
theorem dX7_foretell_12 : decode cX7_foretell 12 = .ok (.getfield 16, 3) := by decide +kernel
theorem dX7_foretell_15 : decode cX7_foretell 15 = .ok (.aload_n 1, 1) := by decide +kernel
theorem dX7_foretell_16 : decode cX7_foretell 16 = .ok (.getfield 236, 3) := by decide +kernel
theorem dX7_foretell_19 : decode cX7_foretell 19 = .ok (.invokevirtual 316, 3) := by decide +kernel
theorem dX7_foretell_22 : decode cX7_foretell 22 = .ok (.astore 4, 2) := by decide +kernel
theorem dX7_foretell_24 : decode cX7_foretell 24 = .ok (.aload 4, 2) := by decide +kernel
theorem dX7_foretell_26 : decode cX7_foretell 26 = .ok (.ifnonnull 5, 3) := by decide +kernel
theorem dX7_foretell_29 : decode cX7_foretell 29 = .ok (.iconst 0, 1) := by decide +kernel
theorem dX7_foretell_30 : decode cX7_foretell 30 = .ok (.ireturn, 1) := by decide +kernel
theorem dX7_foretell_31 : decode cX7_foretell 31 = .ok (.aload 4, 2) := by decide +kernel
theorem dX7_foretell_33 : decode cX7_foretell 33 = .ok (.iload_n 2, 1) := by decide +kernel
theorem dX7_foretell_34 : decode cX7_foretell 34 = .ok (.putfield 87, 3) := by decide +kernel
theorem dX7_foretell_37 : decode cX7_foretell 37 = .ok (.aload_n 0, 1) := by decide +kernel
theorem dX7_foretell_38 : decode cX7_foretell 38 = .ok (.getfield 16, 3) := by decide +kernel
theorem dX7_foretell_41 : decode cX7_foretell 41 = .ok (.iload_n 3, 1) := by decide +kernel
theorem dX7_foretell_42 : decode cX7_foretell 42 = .ok (.invokevirtual 144, 3) := by decide +kernel
theorem dX7_foretell_45 : decode cX7_foretell 45 = .ok (.aload 4, 2) := by decide +kernel
theorem dX7_foretell_47 : decode cX7_foretell 47 = .ok (.getfield 198, 3) := by decide +kernel
theorem dX7_foretell_50 : decode cX7_foretell 50 = .ok (.ireturn, 1) := by decide +kernel
theorem dX7_foretellBestPace_0 : decode cX7_foretellBestPace 0 = .ok (.bipush 10, 2) := by decide +kernel
theorem dX7_foretellBestPace_2 : decode cX7_foretellBestPace 2 = .ok (.istore_n 2, 1) := by decide +kernel
theorem dX7_foretellBestPace_3 : decode cX7_foretellBestPace 3 = .ok (.iconst (-1), 1) := by decide +kernel
theorem dX7_foretellBestPace_4 : decode cX7_foretellBestPace 4 = .ok (.istore_n 3, 1) := by decide +kernel
theorem dX7_foretellBestPace_5 : decode cX7_foretellBestPace 5 = .ok (.bipush 10, 2) := by decide +kernel
theorem dX7_foretellBestPace_7 : decode cX7_foretellBestPace 7 = .ok (.istore 4, 2) := by decide +kernel
theorem dX7_foretellBestPace_9 : decode cX7_foretellBestPace 9 = .ok (.iload 4, 2) := by decide +kernel
theorem dX7_foretellBestPace_11 : decode cX7_foretellBestPace 11 = .ok (.bipush 40, 2) := by decide +kernel
theorem dX7_foretellBestPace_13 : decode cX7_foretellBestPace 13 = .ok (.if_icmp .gt 32, 3) := by decide +kernel
theorem dX7_foretellBestPace_16 : decode cX7_foretellBestPace 16 = .ok (.aload_n 0, 1) := by decide +kernel
theorem dX7_foretellBestPace_17 : decode cX7_foretellBestPace 17 = .ok (.aload_n 1, 1) := by decide +kernel
theorem dX7_foretellBestPace_18 : decode cX7_foretellBestPace 18 = .ok (.iload 4, 2) := by decide +kernel
theorem dX7_foretellBestPace_20 : decode cX7_foretellBestPace 20 = .ok (.bipush 50, 2) := by decide +kernel
theorem dX7_foretellBestPace_22 : decode cX7_foretellBestPace 22 = .ok (.invokevirtual 259, 3) := by decide +kernel
theorem dX7_foretellBestPace_25 : decode cX7_foretellBestPace 25 = .ok (.istore 5, 2) := by decide +kernel
theorem dX7_foretellBestPace_27 : decode cX7_foretellBestPace 27 = .ok (.iload 5, 2) := by decide +kernel
theorem dX7_foretellBestPace_29 : decode cX7_foretellBestPace 29 = .ok (.iload_n 3, 1) := by decide +kernel
theorem dX7_foretellBestPace_30 : decode cX7_foretellBestPace 30 = .ok (.if_icmp .le 9, 3) := by decide +kernel
theorem dX7_foretellBestPace_33 : decode cX7_foretellBestPace 33 = .ok (.iload 5, 2) := by decide +kernel
theorem dX7_foretellBestPace_35 : decode cX7_foretellBestPace 35 = .ok (.istore_n 3, 1) := by decide +kernel
theorem dX7_foretellBestPace_36 : decode cX7_foretellBestPace 36 = .ok (.iload 4, 2) := by decide +kernel
theorem dX7_foretellBestPace_38 : decode cX7_foretellBestPace 38 = .ok (.istore_n 2, 1) := by decide +kernel
theorem dX7_foretellBestPace_39 : decode cX7_foretellBestPace 39 = .ok (.iinc 4 1, 3) := by decide +kernel
theorem dX7_foretellBestPace_42 : decode cX7_foretellBestPace 42 = .ok (.goto (-33), 3) := by decide +kernel
theorem dX7_foretellBestPace_45 : decode cX7_foretellBestPace 45 = .ok (.iload_n 2, 1) := by decide +kernel
theorem dX7_foretellBestPace_46 : decode cX7_foretellBestPace 46 = .ok (.ireturn, 1) := by decide +kernel
theorem dX7_foretellSeconds_0 : decode cX7_foretellSeconds 0 = .ok (.aload_n 0, 1) := by decide +kernel
theorem dX7_foretellSeconds_1 : decode cX7_foretellSeconds 1 = .ok (.getfield 16, 3) := by decide +kernel
theorem dX7_foretellSeconds_4 : decode cX7_foretellSeconds 4 = .ok (.aload_n 0, 1) := by decide +kernel
theorem dX7_foretellSeconds_5 : decode cX7_foretellSeconds 5 = .ok (.getfield 10, 3) := by decide +kernel
theorem dX7_foretellSeconds_8 : decode cX7_foretellSeconds 8 = .ok (.invokevirtual 175, 3) := by decide +kernel
theorem dX7_foretellSeconds_11 : decode cX7_foretellSeconds 11 = .ok (.iconst 1, 1) := by decide +kernel
theorem dX7_foretellSeconds_12 : decode cX7_foretellSeconds 12 = .ok (.istore_n 1, 1) := by decide +kernel
theorem dX7_foretellSeconds_13 : decode cX7_foretellSeconds 13 = .ok (.iload_n 1, 1) := by decide +kernel
theorem dX7_foretellSeconds_14 : decode cX7_foretellSeconds 14 = .ok (.sipush 2000, 3) := by decide +kernel
theorem dX7_foretellSeconds_17 : decode cX7_foretellSeconds 17 = .ok (.if_icmp .gt 46, 3) := by decide +kernel
theorem dX7_foretellSeconds_20 : decode cX7_foretellSeconds 20 = .ok (.aload_n 0, 1) := by decide +kernel
theorem dX7_foretellSeconds_21 : decode cX7_foretellSeconds 21 = .ok (.getfield 16, 3) := by decide +kernel
theorem dX7_foretellSeconds_24 : decode cX7_foretellSeconds 24 = .ok (.getfield 62, 3) := by decide +kernel
theorem dX7_foretellSeconds_27 : decode cX7_foretellSeconds 27 = .ok (.ifCond .eq 36, 3) := by decide +kernel
theorem dX7_foretellSeconds_30 : decode cX7_foretellSeconds 30 = .ok (.aload_n 0, 1) := by decide +kernel
theorem dX7_foretellSeconds_31 : decode cX7_foretellSeconds 31 = .ok (.getfield 16, 3) := by decide +kernel
theorem dX7_foretellSeconds_34 : decode cX7_foretellSeconds 34 = .ok (.iconst 1, 1) := by decide +kernel
theorem dX7_foretellSeconds_35 : decode cX7_foretellSeconds 35 = .ok (.invokevirtual 144, 3) := by decide +kernel
theorem dX7_foretellSeconds_38 : decode cX7_foretellSeconds 38 = .ok (.aload_n 0, 1) := by decide +kernel
theorem dX7_foretellSeconds_39 : decode cX7_foretellSeconds 39 = .ok (.getfield 16, 3) := by decide +kernel
theorem dX7_foretellSeconds_42 : decode cX7_foretellSeconds 42 = .ok (.getfield 141, 3) := by decide +kernel
theorem dX7_foretellSeconds_45 : decode cX7_foretellSeconds 45 = .ok (.aload_n 0, 1) := by decide +kernel
theorem dX7_foretellSeconds_46 : decode cX7_foretellSeconds 46 = .ok (.getfield 10, 3) := by decide +kernel
theorem dX7_foretellSeconds_49 : decode cX7_foretellSeconds 49 = .ok (.getfield 141, 3) := by decide +kernel
theorem dX7_foretellSeconds_52 : decode cX7_foretellSeconds 52 = .ok (.if_icmp .le 5, 3) := by decide +kernel
theorem dX7_foretellSeconds_55 : decode cX7_foretellSeconds 55 = .ok (.iload_n 1, 1) := by decide +kernel
theorem dX7_foretellSeconds_56 : decode cX7_foretellSeconds 56 = .ok (.ireturn, 1) := by decide +kernel
theorem dX7_foretellSeconds_57 : decode cX7_foretellSeconds 57 = .ok (.iinc 1 1, 3) := by decide +kernel
theorem dX7_foretellSeconds_60 : decode cX7_foretellSeconds 60 = .ok (.goto (-47), 3) := by decide +kernel
theorem dX7_foretellSeconds_63 : decode cX7_foretellSeconds 63 = .ok (.iconst (-1), 1) := by decide +kernel
theorem dX7_foretellSeconds_64 : decode cX7_foretellSeconds 64 = .ok (.ireturn, 1) := by decide +kernel
theorem dX7_foretellWinner_0 : decode cX7_foretellWinner 0 = .ok (.aload_n 0, 1) := by decide +kernel
theorem dX7_foretellWinner_1 : decode cX7_foretellWinner 1 = .ok (.getfield 10, 3) := by decide +kernel
theorem dX7_foretellWinner_4 : decode cX7_foretellWinner 4 = .ok (.getfield 141, 3) := by decide +kernel
theorem dX7_foretellWinner_7 : decode cX7_foretellWinner 7 = .ok (.ifCond .gt 11, 3) := by decide +kernel
theorem dX7_foretellWinner_10 : decode cX7_foretellWinner 10 = .ok (.aload_n 0, 1) := by decide +kernel
theorem dX7_foretellWinner_11 : decode cX7_foretellWinner 11 = .ok (.invokevirtual 268, 3) := by decide +kernel
theorem dX7_foretellWinner_14 : decode cX7_foretellWinner 14 = .ok (.iconst (-1), 1) := by decide +kernel
theorem dX7_foretellWinner_15 : decode cX7_foretellWinner 15 = .ok (.if_icmp .ne 5, 3) := by decide +kernel
theorem dX7_foretellWinner_18 : decode cX7_foretellWinner 18 = .ok (.iconst (-1), 1) := by decide +kernel
theorem dX7_foretellWinner_19 : decode cX7_foretellWinner 19 = .ok (.ireturn, 1) := by decide +kernel
theorem dX7_foretellWinner_20 : decode cX7_foretellWinner 20 = .ok (.aload_n 0, 1) := by decide +kernel
theorem dX7_foretellWinner_21 : decode cX7_foretellWinner 21 = .ok (.getfield 16, 3) := by decide +kernel
theorem dX7_foretellWinner_24 : decode cX7_foretellWinner 24 = .ok (.iconst 0, 1) := by decide +kernel
theorem dX7_foretellWinner_25 : decode cX7_foretellWinner 25 = .ok (.invokevirtual 279, 3) := by decide +kernel
theorem dX7_foretellWinner_28 : decode cX7_foretellWinner 28 = .ok (.astore_n 1, 1) := by decide +kernel
theorem dX7_foretellWinner_29 : decode cX7_foretellWinner 29 = .ok (.aload_n 1, 1) := by decide +kernel
theorem dX7_foretellWinner_30 : decode cX7_foretellWinner 30 = .ok (.ifnonnull 7, 3) := by decide +kernel
theorem dX7_foretellWinner_33 : decode cX7_foretellWinner 33 = .ok (.iconst (-1), 1) := by decide +kernel
theorem dX7_foretellWinner_34 : decode cX7_foretellWinner 34 = .ok (.goto 7, 3) := by decide +kernel
theorem dX7_foretellWinner_37 : decode cX7_foretellWinner 37 = .ok (.aload_n 1, 1) := by decide +kernel
theorem dX7_foretellWinner_38 : decode cX7_foretellWinner 38 = .ok (.getfield 236, 3) := by decide +kernel
theorem dX7_foretellWinner_41 : decode cX7_foretellWinner 41 = .ok (.ireturn, 1) := by decide +kernel
theorem dX7_readText_0 : decode cX7_readText 0 = .ok (.aload_n 0, 1) := by decide +kernel
theorem dX7_readText_1 : decode cX7_readText 1 = .ok (.getfield 43, 3) := by decide +kernel
theorem dX7_readText_4 : decode cX7_readText 4 = .ok (.invokevirtual 351, 3) := by decide +kernel
theorem dX7_readText_7 : decode cX7_readText 7 = .ok (.iconst 0, 1) := by decide +kernel
theorem dX7_readText_8 : decode cX7_readText 8 = .ok (.istore_n 1, 1) := by decide +kernel
theorem dX7_readText_9 : decode cX7_readText 9 = .ok (.iload_n 1, 1) := by decide +kernel
theorem dX7_readText_10 : decode cX7_readText 10 = .ok (.aload_n 0, 1) := by decide +kernel
theorem dX7_readText_11 : decode cX7_readText 11 = .ok (.getfield 36, 3) := by decide +kernel
theorem dX7_readText_14 : decode cX7_readText 14 = .ok (.getfield 159, 3) := by decide +kernel
theorem dX7_readText_17 : decode cX7_readText 17 = .ok (.if_icmp .ge 29, 3) := by decide +kernel
theorem dX7_readText_20 : decode cX7_readText 20 = .ok (.aload_n 0, 1) := by decide +kernel
theorem dX7_readText_21 : decode cX7_readText 21 = .ok (.getfield 43, 3) := by decide +kernel
theorem dX7_readText_24 : decode cX7_readText 24 = .ok (.aload_n 0, 1) := by decide +kernel
theorem dX7_readText_25 : decode cX7_readText 25 = .ok (.getfield 36, 3) := by decide +kernel
theorem dX7_readText_28 : decode cX7_readText 28 = .ok (.iload_n 1, 1) := by decide +kernel
theorem dX7_readText_29 : decode cX7_readText 29 = .ok (.invokevirtual 330, 3) := by decide +kernel
theorem dX7_readText_32 : decode cX7_readText 32 = .ok (.invokevirtual 354, 3) := by decide +kernel
theorem dX7_readText_35 : decode cX7_readText 35 = .ok (.ifCond .ne 5, 3) := by decide +kernel
theorem dX7_readText_38 : decode cX7_readText 38 = .ok (.iload_n 1, 1) := by decide +kernel
theorem dX7_readText_39 : decode cX7_readText 39 = .ok (.ireturn, 1) := by decide +kernel
theorem dX7_readText_40 : decode cX7_readText 40 = .ok (.iinc 1 1, 3) := by decide +kernel
theorem dX7_readText_43 : decode cX7_readText 43 = .ok (.goto (-34), 3) := by decide +kernel
theorem dX7_readText_46 : decode cX7_readText 46 = .ok (.aload_n 0, 1) := by decide +kernel
theorem dX7_readText_47 : decode cX7_readText 47 = .ok (.getfield 36, 3) := by decide +kernel
theorem dX7_readText_50 : decode cX7_readText 50 = .ok (.getfield 159, 3) := by decide +kernel
theorem dX7_readText_53 : decode cX7_readText 53 = .ok (.ireturn, 1) := by decide +kernel
theorem dX7_followOnTrial_0 : decode cX7_followOnTrial 0 = .ok (.aload_n 0, 1) := by decide +kernel
theorem dX7_followOnTrial_1 : decode cX7_followOnTrial 1 = .ok (.getfield 16, 3) := by decide +kernel
theorem dX7_followOnTrial_4 : decode cX7_followOnTrial 4 = .ok (.aload_n 0, 1) := by decide +kernel
theorem dX7_followOnTrial_5 : decode cX7_followOnTrial 5 = .ok (.getfield 10, 3) := by decide +kernel
theorem dX7_followOnTrial_8 : decode cX7_followOnTrial 8 = .ok (.invokevirtual 175, 3) := by decide +kernel
theorem dX7_followOnTrial_11 : decode cX7_followOnTrial 11 = .ok (.aload_n 0, 1) := by decide +kernel
theorem dX7_followOnTrial_12 : decode cX7_followOnTrial 12 = .ok (.getfield 43, 3) := by decide +kernel
theorem dX7_followOnTrial_15 : decode cX7_followOnTrial 15 = .ok (.invokevirtual 351, 3) := by decide +kernel
theorem dX7_followOnTrial_18 : decode cX7_followOnTrial 18 = .ok (.iconst 0, 1) := by decide +kernel
theorem dX7_followOnTrial_19 : decode cX7_followOnTrial 19 = .ok (.istore_n 1, 1) := by decide +kernel
theorem dX7_followOnTrial_20 : decode cX7_followOnTrial 20 = .ok (.iconst 0, 1) := by decide +kernel
theorem dX7_followOnTrial_21 : decode cX7_followOnTrial 21 = .ok (.istore_n 2, 1) := by decide +kernel
theorem dX7_followOnTrial_22 : decode cX7_followOnTrial 22 = .ok (.iload_n 2, 1) := by decide +kernel
theorem dX7_followOnTrial_23 : decode cX7_followOnTrial 23 = .ok (.aload_n 0, 1) := by decide +kernel
theorem dX7_followOnTrial_24 : decode cX7_followOnTrial 24 = .ok (.getfield 36, 3) := by decide +kernel
theorem dX7_followOnTrial_27 : decode cX7_followOnTrial 27 = .ok (.getfield 159, 3) := by decide +kernel
theorem dX7_followOnTrial_30 : decode cX7_followOnTrial 30 = .ok (.if_icmp .ge 45, 3) := by decide +kernel
theorem dX7_followOnTrial_33 : decode cX7_followOnTrial 33 = .ok (.aload_n 0, 1) := by decide +kernel
theorem dX7_followOnTrial_34 : decode cX7_followOnTrial 34 = .ok (.getfield 36, 3) := by decide +kernel
theorem dX7_followOnTrial_37 : decode cX7_followOnTrial 37 = .ok (.iload_n 2, 1) := by decide +kernel
theorem dX7_followOnTrial_38 : decode cX7_followOnTrial 38 = .ok (.invokevirtual 330, 3) := by decide +kernel
theorem dX7_followOnTrial_41 : decode cX7_followOnTrial 41 = .ok (.istore_n 3, 1) := by decide +kernel
theorem dX7_followOnTrial_42 : decode cX7_followOnTrial 42 = .ok (.iload_n 3, 1) := by decide +kernel
theorem dX7_followOnTrial_43 : decode cX7_followOnTrial 43 = .ok (.bipush 59, 2) := by decide +kernel
theorem dX7_followOnTrial_45 : decode cX7_followOnTrial 45 = .ok (.if_icmp .ne 15, 3) := by decide +kernel
theorem dX7_followOnTrial_48 : decode cX7_followOnTrial 48 = .ok (.aload_n 0, 1) := by decide +kernel
theorem dX7_followOnTrial_49 : decode cX7_followOnTrial 49 = .ok (.invokevirtual 358, 3) := by decide +kernel
theorem dX7_followOnTrial_52 : decode cX7_followOnTrial 52 = .ok (.ifCond .ne 5, 3) := by decide +kernel
theorem dX7_followOnTrial_55 : decode cX7_followOnTrial 55 = .ok (.iconst (-1), 1) := by decide +kernel
theorem dX7_followOnTrial_56 : decode cX7_followOnTrial 56 = .ok (.ireturn, 1) := by decide +kernel
theorem dX7_followOnTrial_57 : decode cX7_followOnTrial 57 = .ok (.iinc 1 1, 3) := by decide +kernel
theorem dX7_followOnTrial_60 : decode cX7_followOnTrial 60 = .ok (.aload_n 0, 1) := by decide +kernel
theorem dX7_followOnTrial_61 : decode cX7_followOnTrial 61 = .ok (.getfield 43, 3) := by decide +kernel
theorem dX7_followOnTrial_64 : decode cX7_followOnTrial 64 = .ok (.iload_n 3, 1) := by decide +kernel
theorem dX7_followOnTrial_65 : decode cX7_followOnTrial 65 = .ok (.invokevirtual 354, 3) := by decide +kernel
theorem dX7_followOnTrial_68 : decode cX7_followOnTrial 68 = .ok (.pop, 1) := by decide +kernel
theorem dX7_followOnTrial_69 : decode cX7_followOnTrial 69 = .ok (.iinc 2 1, 3) := by decide +kernel
theorem dX7_followOnTrial_72 : decode cX7_followOnTrial 72 = .ok (.goto (-50), 3) := by decide +kernel
theorem dX7_followOnTrial_75 : decode cX7_followOnTrial 75 = .ok (.aload_n 0, 1) := by decide +kernel
theorem dX7_followOnTrial_76 : decode cX7_followOnTrial 76 = .ok (.invokevirtual 358, 3) := by decide +kernel
theorem dX7_followOnTrial_79 : decode cX7_followOnTrial 79 = .ok (.ifCond .eq 9, 3) := by decide +kernel
theorem dX7_followOnTrial_82 : decode cX7_followOnTrial 82 = .ok (.iload_n 1, 1) := by decide +kernel
theorem dX7_followOnTrial_83 : decode cX7_followOnTrial 83 = .ok (.iconst 1, 1) := by decide +kernel
theorem dX7_followOnTrial_84 : decode cX7_followOnTrial 84 = .ok (.iadd, 1) := by decide +kernel
theorem dX7_followOnTrial_85 : decode cX7_followOnTrial 85 = .ok (.goto 4, 3) := by decide +kernel
theorem dX7_followOnTrial_88 : decode cX7_followOnTrial 88 = .ok (.iconst (-1), 1) := by decide +kernel
theorem dX7_followOnTrial_89 : decode cX7_followOnTrial 89 = .ok (.ireturn, 1) := by decide +kernel
theorem dX7_followOneOnTrial_0 : decode cX7_followOneOnTrial 0 = .ok (.aload_n 0, 1) := by decide +kernel
theorem dX7_followOneOnTrial_1 : decode cX7_followOneOnTrial 1 = .ok (.getfield 16, 3) := by decide +kernel
theorem dX7_followOneOnTrial_4 : decode cX7_followOneOnTrial 4 = .ok (.aload_n 0, 1) := by decide +kernel
theorem dX7_followOneOnTrial_5 : decode cX7_followOneOnTrial 5 = .ok (.getfield 43, 3) := by decide +kernel
theorem dX7_followOneOnTrial_8 : decode cX7_followOneOnTrial 8 = .ok (.getfield 361, 3) := by decide +kernel
theorem dX7_followOneOnTrial_11 : decode cX7_followOneOnTrial 11 = .ok (.invokevirtual 316, 3) := by decide +kernel
theorem dX7_followOneOnTrial_14 : decode cX7_followOneOnTrial 14 = .ok (.astore_n 1, 1) := by decide +kernel
theorem dX7_followOneOnTrial_15 : decode cX7_followOneOnTrial 15 = .ok (.aload_n 0, 1) := by decide +kernel
theorem dX7_followOneOnTrial_16 : decode cX7_followOneOnTrial 16 = .ok (.getfield 43, 3) := by decide +kernel
theorem dX7_followOneOnTrial_19 : decode cX7_followOneOnTrial 19 = .ok (.getfield 364, 3) := by decide +kernel
theorem dX7_followOneOnTrial_22 : decode cX7_followOneOnTrial 22 = .ok (.lookupswitch 108 #[(99, 85), (110, 53), (112, 34)], 34) := by decide +kernel
theorem dX7_followOneOnTrial_56 : decode cX7_followOneOnTrial 56 = .ok (.aload_n 1, 1) := by decide +kernel
theorem dX7_followOneOnTrial_57 : decode cX7_followOneOnTrial 57 = .ok (.ifnonnull 5, 3) := by decide +kernel
theorem dX7_followOneOnTrial_60 : decode cX7_followOneOnTrial 60 = .ok (.iconst 0, 1) := by decide +kernel
theorem dX7_followOneOnTrial_61 : decode cX7_followOneOnTrial 61 = .ok (.ireturn, 1) := by decide +kernel
theorem dX7_followOneOnTrial_62 : decode cX7_followOneOnTrial 62 = .ok (.aload_n 1, 1) := by decide +kernel
theorem dX7_followOneOnTrial_63 : decode cX7_followOneOnTrial 63 = .ok (.aload_n 0, 1) := by decide +kernel
theorem dX7_followOneOnTrial_64 : decode cX7_followOneOnTrial 64 = .ok (.getfield 43, 3) := by decide +kernel
theorem dX7_followOneOnTrial_67 : decode cX7_followOneOnTrial 67 = .ok (.getfield 368, 3) := by decide +kernel
theorem dX7_followOneOnTrial_70 : decode cX7_followOneOnTrial 70 = .ok (.putfield 87, 3) := by decide +kernel
theorem dX7_followOneOnTrial_73 : decode cX7_followOneOnTrial 73 = .ok (.iconst 1, 1) := by decide +kernel
theorem dX7_followOneOnTrial_74 : decode cX7_followOneOnTrial 74 = .ok (.ireturn, 1) := by decide +kernel
theorem dX7_followOneOnTrial_75 : decode cX7_followOneOnTrial 75 = .ok (.aload_n 1, 1) := by decide +kernel
theorem dX7_followOneOnTrial_76 : decode cX7_followOneOnTrial 76 = .ok (.ifnull 11, 3) := by decide +kernel
theorem dX7_followOneOnTrial_79 : decode cX7_followOneOnTrial 79 = .ok (.aload_n 1, 1) := by decide +kernel
theorem dX7_followOneOnTrial_80 : decode cX7_followOneOnTrial 80 = .ok (.getfield 92, 3) := by decide +kernel
theorem dX7_followOneOnTrial_83 : decode cX7_followOneOnTrial 83 = .ok (.iconst 3, 1) := by decide +kernel
theorem dX7_followOneOnTrial_84 : decode cX7_followOneOnTrial 84 = .ok (.if_icmp .ne 5, 3) := by decide +kernel
theorem dX7_followOneOnTrial_87 : decode cX7_followOneOnTrial 87 = .ok (.iconst 0, 1) := by decide +kernel
theorem dX7_followOneOnTrial_88 : decode cX7_followOneOnTrial 88 = .ok (.ireturn, 1) := by decide +kernel
theorem dX7_followOneOnTrial_89 : decode cX7_followOneOnTrial 89 = .ok (.aload_n 1, 1) := by decide +kernel
theorem dX7_followOneOnTrial_90 : decode cX7_followOneOnTrial 90 = .ok (.aload_n 1, 1) := by decide +kernel
theorem dX7_followOneOnTrial_91 : decode cX7_followOneOnTrial 91 = .ok (.getfield 97, 3) := by decide +kernel
theorem dX7_followOneOnTrial_94 : decode cX7_followOneOnTrial 94 = .ok (.ifCond .ne 7, 3) := by decide +kernel
theorem dX7_followOneOnTrial_97 : decode cX7_followOneOnTrial 97 = .ok (.iconst 1, 1) := by decide +kernel
theorem dX7_followOneOnTrial_98 : decode cX7_followOneOnTrial 98 = .ok (.goto 4, 3) := by decide +kernel
theorem dX7_followOneOnTrial_101 : decode cX7_followOneOnTrial 101 = .ok (.iconst 0, 1) := by decide +kernel
theorem dX7_followOneOnTrial_102 : decode cX7_followOneOnTrial 102 = .ok (.putfield 97, 3) := by decide +kernel
theorem dX7_followOneOnTrial_105 : decode cX7_followOneOnTrial 105 = .ok (.iconst 1, 1) := by decide +kernel
theorem dX7_followOneOnTrial_106 : decode cX7_followOneOnTrial 106 = .ok (.ireturn, 1) := by decide +kernel
theorem dX7_followOneOnTrial_107 : decode cX7_followOneOnTrial 107 = .ok (.aload_n 0, 1) := by decide +kernel
theorem dX7_followOneOnTrial_108 : decode cX7_followOneOnTrial 108 = .ok (.getfield 16, 3) := by decide +kernel
theorem dX7_followOneOnTrial_111 : decode cX7_followOneOnTrial 111 = .ok (.aload_n 0, 1) := by decide +kernel
theorem dX7_followOneOnTrial_112 : decode cX7_followOneOnTrial 112 = .ok (.getfield 43, 3) := by decide +kernel
theorem dX7_followOneOnTrial_115 : decode cX7_followOneOnTrial 115 = .ok (.getfield 361, 3) := by decide +kernel
theorem dX7_followOneOnTrial_118 : decode cX7_followOneOnTrial 118 = .ok (.aload_n 0, 1) := by decide +kernel
theorem dX7_followOneOnTrial_119 : decode cX7_followOneOnTrial 119 = .ok (.getfield 43, 3) := by decide +kernel
theorem dX7_followOneOnTrial_122 : decode cX7_followOneOnTrial 122 = .ok (.getfield 368, 3) := by decide +kernel
theorem dX7_followOneOnTrial_125 : decode cX7_followOneOnTrial 125 = .ok (.invokevirtual 119, 3) := by decide +kernel
theorem dX7_followOneOnTrial_128 : decode cX7_followOneOnTrial 128 = .ok (.iconst 1, 1) := by decide +kernel
theorem dX7_followOneOnTrial_129 : decode cX7_followOneOnTrial 129 = .ok (.ireturn, 1) := by decide +kernel
theorem dX7_followOneOnTrial_130 : decode cX7_followOneOnTrial 130 = .ok (.aload_n 0, 1) := by decide +kernel
theorem dX7_followOneOnTrial_131 : decode cX7_followOneOnTrial 131 = .ok (.getfield 16, 3) := by decide +kernel
theorem dX7_followOneOnTrial_134 : decode cX7_followOneOnTrial 134 = .ok (.getfield 62, 3) := by decide +kernel
theorem dX7_followOneOnTrial_137 : decode cX7_followOneOnTrial 137 = .ok (.ifCond .ne 5, 3) := by decide +kernel
theorem dX7_followOneOnTrial_140 : decode cX7_followOneOnTrial 140 = .ok (.iconst 0, 1) := by decide +kernel
theorem dX7_followOneOnTrial_141 : decode cX7_followOneOnTrial 141 = .ok (.ireturn, 1) := by decide +kernel
theorem dX7_followOneOnTrial_142 : decode cX7_followOneOnTrial 142 = .ok (.aload_n 0, 1) := by decide +kernel
theorem dX7_followOneOnTrial_143 : decode cX7_followOneOnTrial 143 = .ok (.getfield 16, 3) := by decide +kernel
theorem dX7_followOneOnTrial_146 : decode cX7_followOneOnTrial 146 = .ok (.aload_n 0, 1) := by decide +kernel
theorem dX7_followOneOnTrial_147 : decode cX7_followOneOnTrial 147 = .ok (.getfield 43, 3) := by decide +kernel
theorem dX7_followOneOnTrial_150 : decode cX7_followOneOnTrial 150 = .ok (.getfield 368, 3) := by decide +kernel
theorem dX7_followOneOnTrial_153 : decode cX7_followOneOnTrial 153 = .ok (.invokevirtual 144, 3) := by decide +kernel
theorem dX7_followOneOnTrial_156 : decode cX7_followOneOnTrial 156 = .ok (.iconst 1, 1) := by decide +kernel
theorem dX7_followOneOnTrial_157 : decode cX7_followOneOnTrial 157 = .ok (.ireturn, 1) := by decide +kernel
theorem dX7_known_0 : decode cX7_known 0 = .ok (.aload_n 0, 1) := by decide +kernel
theorem dX7_known_1 : decode cX7_known 1 = .ok (.getfield 10, 3) := by decide +kernel
theorem dX7_known_4 : decode cX7_known 4 = .ok (.iload_n 1, 1) := by decide +kernel
theorem dX7_known_5 : decode cX7_known 5 = .ok (.invokevirtual 316, 3) := by decide +kernel
theorem dX7_known_8 : decode cX7_known 8 = .ok (.astore_n 2, 1) := by decide +kernel
theorem dX7_known_9 : decode cX7_known 9 = .ok (.aload_n 2, 1) := by decide +kernel
theorem dX7_known_10 : decode cX7_known 10 = .ok (.ifnonnull 14, 3) := by decide +kernel
theorem dX7_known_13 : decode cX7_known 13 = .ok (.new 231, 3) := by decide +kernel
theorem dX7_known_16 : decode cX7_known 16 = .ok (.dup, 1) := by decide +kernel
theorem dX7_known_17 : decode cX7_known 17 = .ok (.ldc_w 369, 3) := by decide +kernel
theorem dX7_known_20 : decode cX7_known 20 = .ok (.invokespecial 235, 3) := by decide +kernel
theorem dX7_known_23 : decode cX7_known 23 = .ok (.athrow, 1) := by decide +kernel
theorem dX7_known_24 : decode cX7_known 24 = .ok (.aload_n 2, 1) := by decide +kernel
theorem dX7_known_25 : decode cX7_known 25 = .ok (.areturn, 1) := by decide +kernel
theorem dX7_knownToFly_0 : decode cX7_knownToFly 0 = .ok (.aload_n 0, 1) := by decide +kernel
theorem dX7_knownToFly_1 : decode cX7_knownToFly 1 = .ok (.iload_n 1, 1) := by decide +kernel
theorem dX7_knownToFly_2 : decode cX7_knownToFly 2 = .ok (.invokevirtual 79, 3) := by decide +kernel
theorem dX7_knownToFly_5 : decode cX7_knownToFly 5 = .ok (.astore_n 2, 1) := by decide +kernel
theorem dX7_knownToFly_6 : decode cX7_knownToFly 6 = .ok (.aload_n 2, 1) := by decide +kernel
theorem dX7_knownToFly_7 : decode cX7_knownToFly 7 = .ok (.getfield 92, 3) := by decide +kernel
theorem dX7_knownToFly_10 : decode cX7_knownToFly 10 = .ok (.iconst 1, 1) := by decide +kernel
theorem dX7_knownToFly_11 : decode cX7_knownToFly 11 = .ok (.if_icmp .eq 14, 3) := by decide +kernel
theorem dX7_knownToFly_14 : decode cX7_knownToFly 14 = .ok (.new 66, 3) := by decide +kernel
theorem dX7_knownToFly_17 : decode cX7_knownToFly 17 = .ok (.dup, 1) := by decide +kernel
theorem dX7_knownToFly_18 : decode cX7_knownToFly 18 = .ok (.ldc_w 371, 3) := by decide +kernel
theorem dX7_knownToFly_21 : decode cX7_knownToFly 21 = .ok (.invokespecial 70, 3) := by decide +kernel
theorem dX7_knownToFly_24 : decode cX7_knownToFly 24 = .ok (.athrow, 1) := by decide +kernel
theorem dX7_knownToFly_25 : decode cX7_knownToFly 25 = .ok (.aload_n 2, 1) := by decide +kernel
theorem dX7_knownToFly_26 : decode cX7_knownToFly 26 = .ok (.areturn, 1) := by decide +kernel
theorem dX7_checkRacing_0 : decode cX7_checkRacing 0 = .ok (.aload_n 0, 1) := by decide +kernel
theorem dX7_checkRacing_1 : decode cX7_checkRacing 1 = .ok (.getfield 10, 3) := by decide +kernel
theorem dX7_checkRacing_4 : decode cX7_checkRacing 4 = .ok (.getfield 62, 3) := by decide +kernel
theorem dX7_checkRacing_7 : decode cX7_checkRacing 7 = .ok (.ifCond .ne 14, 3) := by decide +kernel
theorem dX7_checkRacing_10 : decode cX7_checkRacing 10 = .ok (.new 66, 3) := by decide +kernel
theorem dX7_checkRacing_13 : decode cX7_checkRacing 13 = .ok (.dup, 1) := by decide +kernel
theorem dX7_checkRacing_14 : decode cX7_checkRacing 14 = .ok (.ldc_w 373, 3) := by decide +kernel
theorem dX7_checkRacing_17 : decode cX7_checkRacing 17 = .ok (.invokespecial 70, 3) := by decide +kernel
theorem dX7_checkRacing_20 : decode cX7_checkRacing 20 = .ok (.athrow, 1) := by decide +kernel
theorem dX7_checkRacing_21 : decode cX7_checkRacing 21 = .ok (.return_, 1) := by decide +kernel
theorem dX7_isPace_0 : decode cX7_isPace 0 = .ok (.iload_n 0, 1) := by decide +kernel
theorem dX7_isPace_1 : decode cX7_isPace 1 = .ok (.bipush 10, 2) := by decide +kernel
theorem dX7_isPace_3 : decode cX7_isPace 3 = .ok (.if_icmp .lt 13, 3) := by decide +kernel
theorem dX7_isPace_6 : decode cX7_isPace 6 = .ok (.iload_n 0, 1) := by decide +kernel
theorem dX7_isPace_7 : decode cX7_isPace 7 = .ok (.bipush 40, 2) := by decide +kernel
theorem dX7_isPace_9 : decode cX7_isPace 9 = .ok (.if_icmp .gt 7, 3) := by decide +kernel
theorem dX7_isPace_12 : decode cX7_isPace 12 = .ok (.iconst 1, 1) := by decide +kernel
theorem dX7_isPace_13 : decode cX7_isPace 13 = .ok (.goto 4, 3) := by decide +kernel
theorem dX7_isPace_16 : decode cX7_isPace 16 = .ok (.iconst 0, 1) := by decide +kernel
theorem dX7_isPace_17 : decode cX7_isPace 17 = .ok (.ireturn, 1) := by decide +kernel
theorem dX7_checkPace_0 : decode cX7_checkPace 0 = .ok (.iload_n 0, 1) := by decide +kernel
theorem dX7_checkPace_1 : decode cX7_checkPace 1 = .ok (.invokestatic 47, 3) := by decide +kernel
theorem dX7_checkPace_4 : decode cX7_checkPace 4 = .ok (.ifCond .ne 14, 3) := by decide +kernel
theorem dX7_checkPace_7 : decode cX7_checkPace 7 = .ok (.new 51, 3) := by decide +kernel
theorem dX7_checkPace_10 : decode cX7_checkPace 10 = .ok (.dup, 1) := by decide +kernel
theorem dX7_checkPace_11 : decode cX7_checkPace 11 = .ok (.ldc_w 375, 3) := by decide +kernel
theorem dX7_checkPace_14 : decode cX7_checkPace 14 = .ok (.invokespecial 55, 3) := by decide +kernel
theorem dX7_checkPace_17 : decode cX7_checkPace 17 = .ok (.athrow, 1) := by decide +kernel
theorem dX7_checkPace_18 : decode cX7_checkPace 18 = .ok (.return_, 1) := by decide +kernel
theorem dX7_checkSeconds_0 : decode cX7_checkSeconds 0 = .ok (.iload_n 0, 1) := by decide +kernel
theorem dX7_checkSeconds_1 : decode cX7_checkSeconds 1 = .ok (.iconst 1, 1) := by decide +kernel
theorem dX7_checkSeconds_2 : decode cX7_checkSeconds 2 = .ok (.if_icmp .lt 10, 3) := by decide +kernel
theorem dX7_checkSeconds_5 : decode cX7_checkSeconds 5 = .ok (.iload_n 0, 1) := by decide +kernel
theorem dX7_checkSeconds_6 : decode cX7_checkSeconds 6 = .ok (.sipush 200, 3) := by decide +kernel
theorem dX7_checkSeconds_9 : decode cX7_checkSeconds 9 = .ok (.if_icmp .le 14, 3) := by decide +kernel
theorem dX7_checkSeconds_12 : decode cX7_checkSeconds 12 = .ok (.new 51, 3) := by decide +kernel
theorem dX7_checkSeconds_15 : decode cX7_checkSeconds 15 = .ok (.dup, 1) := by decide +kernel
theorem dX7_checkSeconds_16 : decode cX7_checkSeconds 16 = .ok (.ldc_w 377, 3) := by decide +kernel
theorem dX7_checkSeconds_19 : decode cX7_checkSeconds 19 = .ok (.invokespecial 55, 3) := by decide +kernel
theorem dX7_checkSeconds_22 : decode cX7_checkSeconds 22 = .ok (.athrow, 1) := by decide +kernel
theorem dX7_checkSeconds_23 : decode cX7_checkSeconds 23 = .ok (.return_, 1) := by decide +kernel
theorem dX7_checkCorner_0 : decode cX7_checkCorner 0 = .ok (.iload_n 0, 1) := by decide +kernel
theorem dX7_checkCorner_1 : decode cX7_checkCorner 1 = .ok (.ifCond .lt 8, 3) := by decide +kernel
theorem dX7_checkCorner_4 : decode cX7_checkCorner 4 = .ok (.iload_n 0, 1) := by decide +kernel
theorem dX7_checkCorner_5 : decode cX7_checkCorner 5 = .ok (.iconst 4, 1) := by decide +kernel
theorem dX7_checkCorner_6 : decode cX7_checkCorner 6 = .ok (.if_icmp .lt 14, 3) := by decide +kernel
theorem dX7_checkCorner_9 : decode cX7_checkCorner 9 = .ok (.new 231, 3) := by decide +kernel
theorem dX7_checkCorner_12 : decode cX7_checkCorner 12 = .ok (.dup, 1) := by decide +kernel
theorem dX7_checkCorner_13 : decode cX7_checkCorner 13 = .ok (.ldc_w 379, 3) := by decide +kernel
theorem dX7_checkCorner_16 : decode cX7_checkCorner 16 = .ok (.invokespecial 235, 3) := by decide +kernel
theorem dX7_checkCorner_19 : decode cX7_checkCorner 19 = .ok (.athrow, 1) := by decide +kernel
theorem dX7_checkCorner_20 : decode cX7_checkCorner 20 = .ok (.return_, 1) := by decide +kernel
theorem dX7_checkSlot_0 : decode cX7_checkSlot 0 = .ok (.iload_n 0, 1) := by decide +kernel
theorem dX7_checkSlot_1 : decode cX7_checkSlot 1 = .ok (.ifCond .lt 8, 3) := by decide +kernel
theorem dX7_checkSlot_4 : decode cX7_checkSlot 4 = .ok (.iload_n 0, 1) := by decide +kernel
theorem dX7_checkSlot_5 : decode cX7_checkSlot 5 = .ok (.iconst 2, 1) := by decide +kernel
theorem dX7_checkSlot_6 : decode cX7_checkSlot 6 = .ok (.if_icmp .lt 14, 3) := by decide +kernel
theorem dX7_checkSlot_9 : decode cX7_checkSlot 9 = .ok (.new 51, 3) := by decide +kernel
theorem dX7_checkSlot_12 : decode cX7_checkSlot 12 = .ok (.dup, 1) := by decide +kernel
theorem dX7_checkSlot_13 : decode cX7_checkSlot 13 = .ok (.ldc_w 381, 3) := by decide +kernel
theorem dX7_checkSlot_16 : decode cX7_checkSlot 16 = .ok (.invokespecial 55, 3) := by decide +kernel
theorem dX7_checkSlot_19 : decode cX7_checkSlot 19 = .ok (.athrow, 1) := by decide +kernel
theorem dX7_checkSlot_20 : decode cX7_checkSlot 20 = .ok (.return_, 1) := by decide +kernel
theorem dX8_init_0 : decode cX8_init 0 = .ok (.aload_n 0, 1) := by decide +kernel
theorem dX8_init_1 : decode cX8_init 1 = .ok (.invokespecial 1, 3) := by decide +kernel
theorem dX8_init_4 : decode cX8_init 4 = .ok (.aload_n 0, 1) := by decide +kernel
theorem dX8_init_5 : decode cX8_init 5 = .ok (.sipush 151, 3) := by decide +kernel
theorem dX8_init_8 : decode cX8_init 8 = .ok (.newarray .int, 2) := by decide +kernel
theorem dX8_init_10 : decode cX8_init 10 = .ok (.putfield 7, 3) := by decide +kernel
theorem dX8_init_13 : decode cX8_init 13 = .ok (.aload_n 0, 1) := by decide +kernel
theorem dX8_init_14 : decode cX8_init 14 = .ok (.sipush 151, 3) := by decide +kernel
theorem dX8_init_17 : decode cX8_init 17 = .ok (.newarray .int, 2) := by decide +kernel
theorem dX8_init_19 : decode cX8_init 19 = .ok (.putfield 13, 3) := by decide +kernel
theorem dX8_init_22 : decode cX8_init 22 = .ok (.aload_n 0, 1) := by decide +kernel
theorem dX8_init_23 : decode cX8_init 23 = .ok (.sipush 906, 3) := by decide +kernel
theorem dX8_init_26 : decode cX8_init 26 = .ok (.newarray .int, 2) := by decide +kernel
theorem dX8_init_28 : decode cX8_init 28 = .ok (.putfield 16, 3) := by decide +kernel
theorem dX8_init_31 : decode cX8_init 31 = .ok (.aload_n 0, 1) := by decide +kernel
theorem dX8_init_32 : decode cX8_init 32 = .ok (.sipush 302, 3) := by decide +kernel
theorem dX8_init_35 : decode cX8_init 35 = .ok (.newarray .int, 2) := by decide +kernel
theorem dX8_init_37 : decode cX8_init 37 = .ok (.putfield 19, 3) := by decide +kernel
theorem dX8_init_40 : decode cX8_init 40 = .ok (.aload_n 0, 1) := by decide +kernel
theorem dX8_init_41 : decode cX8_init 41 = .ok (.iconst 2, 1) := by decide +kernel
theorem dX8_init_42 : decode cX8_init 42 = .ok (.newarray .boolean, 2) := by decide +kernel
theorem dX8_init_44 : decode cX8_init 44 = .ok (.putfield 22, 3) := by decide +kernel
theorem dX8_init_47 : decode cX8_init 47 = .ok (.aload_n 0, 1) := by decide +kernel
theorem dX8_init_48 : decode cX8_init 48 = .ok (.bipush 60, 2) := by decide +kernel
theorem dX8_init_50 : decode cX8_init 50 = .ok (.newarray .int, 2) := by decide +kernel
theorem dX8_init_52 : decode cX8_init 52 = .ok (.putfield 26, 3) := by decide +kernel
theorem dX8_init_55 : decode cX8_init 55 = .ok (.aload_n 0, 1) := by decide +kernel
theorem dX8_init_56 : decode cX8_init 56 = .ok (.bipush 8, 2) := by decide +kernel
theorem dX8_init_58 : decode cX8_init 58 = .ok (.newarray .int, 2) := by decide +kernel
theorem dX8_init_60 : decode cX8_init 60 = .ok (.putfield 29, 3) := by decide +kernel
theorem dX8_init_63 : decode cX8_init 63 = .ok (.aload_n 0, 1) := by decide +kernel
theorem dX8_init_64 : decode cX8_init 64 = .ok (.getfield 7, 3) := by decide +kernel
theorem dX8_init_67 : decode cX8_init 67 = .ok (.sipush 133, 3) := by decide +kernel
theorem dX8_init_70 : decode cX8_init 70 = .ok (.iconst 2, 1) := by decide +kernel
theorem dX8_init_71 : decode cX8_init 71 = .ok (.iastore, 1) := by decide +kernel
theorem dX8_init_72 : decode cX8_init 72 = .ok (.iconst 0, 1) := by decide +kernel
theorem dX8_init_73 : decode cX8_init 73 = .ok (.istore_n 1, 1) := by decide +kernel
theorem dX8_init_74 : decode cX8_init 74 = .ok (.iload_n 1, 1) := by decide +kernel
theorem dX8_init_75 : decode cX8_init 75 = .ok (.iconst 4, 1) := by decide +kernel
theorem dX8_init_76 : decode cX8_init 76 = .ok (.if_icmp .ge 21, 3) := by decide +kernel
theorem dX8_init_79 : decode cX8_init 79 = .ok (.aload_n 0, 1) := by decide +kernel
theorem dX8_init_80 : decode cX8_init 80 = .ok (.getfield 7, 3) := by decide +kernel
theorem dX8_init_83 : decode cX8_init 83 = .ok (.sipush 129, 3) := by decide +kernel
theorem dX8_init_86 : decode cX8_init 86 = .ok (.iload_n 1, 1) := by decide +kernel
theorem dX8_init_87 : decode cX8_init 87 = .ok (.iadd, 1) := by decide +kernel
theorem dX8_init_88 : decode cX8_init 88 = .ok (.bipush 20, 2) := by decide +kernel
theorem dX8_init_90 : decode cX8_init 90 = .ok (.iastore, 1) := by decide +kernel
theorem dX8_init_91 : decode cX8_init 91 = .ok (.iinc 1 1, 3) := by decide +kernel
theorem dX8_init_94 : decode cX8_init 94 = .ok (.goto (-20), 3) := by decide +kernel
theorem dX8_init_97 : decode cX8_init 97 = .ok (.return_, 1) := by decide +kernel
theorem dX8_thrown_0 : decode cX8_thrown 0 = .ok (.aload_n 0, 1) := by decide +kernel
theorem dX8_thrown_1 : decode cX8_thrown 1 = .ok (.getfield 32, 3) := by decide +kernel
theorem dX8_thrown_4 : decode cX8_thrown 4 = .ok (.ireturn, 1) := by decide +kernel
theorem dX8_refused_0 : decode cX8_refused 0 = .ok (.aload_n 0, 1) := by decide +kernel
theorem dX8_refused_1 : decode cX8_refused 1 = .ok (.iload_n 1, 1) := by decide +kernel
theorem dX8_refused_2 : decode cX8_refused 2 = .ok (.putfield 32, 3) := by decide +kernel
theorem dX8_refused_5 : decode cX8_refused 5 = .ok (.iload_n 1, 1) := by decide +kernel
theorem dX8_refused_6 : decode cX8_refused 6 = .ok (.ifCond .le 7, 3) := by decide +kernel
theorem dX8_refused_9 : decode cX8_refused 9 = .ok (.iconst 1, 1) := by decide +kernel
theorem dX8_refused_10 : decode cX8_refused 10 = .ok (.goto 4, 3) := by decide +kernel
theorem dX8_refused_13 : decode cX8_refused 13 = .ok (.iconst 0, 1) := by decide +kernel
theorem dX8_refused_14 : decode cX8_refused 14 = .ok (.ireturn, 1) := by decide +kernel
theorem dX8_told_0 : decode cX8_told 0 = .ok (.aload_n 0, 1) := by decide +kernel
theorem dX8_told_1 : decode cX8_told 1 = .ok (.iconst 0, 1) := by decide +kernel
theorem dX8_told_2 : decode cX8_told 2 = .ok (.putfield 32, 3) := by decide +kernel
theorem dX8_told_5 : decode cX8_told 5 = .ok (.iload_n 1, 1) := by decide +kernel
theorem dX8_told_6 : decode cX8_told 6 = .ok (.ireturn, 1) := by decide +kernel
theorem dX8_in_0 : decode cX8_in 0 = .ok (.iload_n 0, 1) := by decide +kernel
theorem dX8_in_1 : decode cX8_in 1 = .ok (.iload_n 1, 1) := by decide +kernel
theorem dX8_in_2 : decode cX8_in 2 = .ok (.if_icmp .lt 12, 3) := by decide +kernel
theorem dX8_in_5 : decode cX8_in 5 = .ok (.iload_n 0, 1) := by decide +kernel
theorem dX8_in_6 : decode cX8_in 6 = .ok (.iload_n 2, 1) := by decide +kernel
theorem dX8_in_7 : decode cX8_in 7 = .ok (.if_icmp .gt 7, 3) := by decide +kernel
theorem dX8_in_10 : decode cX8_in 10 = .ok (.iconst 1, 1) := by decide +kernel
theorem dX8_in_11 : decode cX8_in 11 = .ok (.goto 4, 3) := by decide +kernel
theorem dX8_in_14 : decode cX8_in 14 = .ok (.iconst 0, 1) := by decide +kernel
theorem dX8_in_15 : decode cX8_in 15 = .ok (.ireturn, 1) := by decide +kernel
theorem dX8_isBird_0 : decode cX8_isBird 0 = .ok (.iload_n 1, 1) := by decide +kernel
theorem dX8_isBird_1 : decode cX8_isBird 1 = .ok (.iconst 0, 1) := by decide +kernel
theorem dX8_isBird_2 : decode cX8_isBird 2 = .ok (.aload_n 0, 1) := by decide +kernel
theorem dX8_isBird_3 : decode cX8_isBird 3 = .ok (.getfield 7, 3) := by decide +kernel
theorem dX8_isBird_6 : decode cX8_isBird 6 = .ok (.sipush 128, 3) := by decide +kernel
theorem dX8_isBird_9 : decode cX8_isBird 9 = .ok (.iaload, 1) := by decide +kernel
theorem dX8_isBird_10 : decode cX8_isBird 10 = .ok (.iconst 1, 1) := by decide +kernel
theorem dX8_isBird_11 : decode cX8_isBird 11 = .ok (.isub, 1) := by decide +kernel
theorem dX8_isBird_12 : decode cX8_isBird 12 = .ok (.invokestatic 36, 3) := by decide +kernel
theorem dX8_isBird_15 : decode cX8_isBird 15 = .ok (.ireturn, 1) := by decide +kernel
theorem dX8_of_0 : decode cX8_of 0 = .ok (.aload_n 0, 1) := by decide +kernel
theorem dX8_of_1 : decode cX8_of 1 = .ok (.getfield 7, 3) := by decide +kernel
theorem dX8_of_4 : decode cX8_of 4 = .ok (.bipush 16, 2) := by decide +kernel
theorem dX8_of_6 : decode cX8_of 6 = .ok (.iload_n 1, 1) := by decide +kernel
theorem dX8_of_7 : decode cX8_of 7 = .ok (.imul, 1) := by decide +kernel
theorem dX8_of_8 : decode cX8_of 8 = .ok (.iload_n 2, 1) := by decide +kernel
theorem dX8_of_9 : decode cX8_of 9 = .ok (.iadd, 1) := by decide +kernel
theorem dX8_of_10 : decode cX8_of 10 = .ok (.iaload, 1) := by decide +kernel
theorem dX8_of_11 : decode cX8_of 11 = .ok (.ireturn, 1) := by decide +kernel
theorem dX8_flies_0 : decode cX8_flies 0 = .ok (.aload_n 0, 1) := by decide +kernel
theorem dX8_flies_1 : decode cX8_flies 1 = .ok (.iload_n 1, 1) := by decide +kernel
theorem dX8_flies_2 : decode cX8_flies 2 = .ok (.bipush 6, 2) := by decide +kernel
theorem dX8_flies_4 : decode cX8_flies 4 = .ok (.invokevirtual 40, 3) := by decide +kernel
theorem dX8_flies_7 : decode cX8_flies 7 = .ok (.iconst 1, 1) := by decide +kernel
theorem dX8_flies_8 : decode cX8_flies 8 = .ok (.if_icmp .ne 7, 3) := by decide +kernel
theorem dX8_flies_11 : decode cX8_flies 11 = .ok (.iconst 1, 1) := by decide +kernel
theorem dX8_flies_12 : decode cX8_flies 12 = .ok (.goto 4, 3) := by decide +kernel
theorem dX8_flies_15 : decode cX8_flies 15 = .ok (.iconst 0, 1) := by decide +kernel
theorem dX8_flies_16 : decode cX8_flies 16 = .ok (.ireturn, 1) := by decide +kernel
theorem dX8_isOver_0 : decode cX8_isOver 0 = .ok (.aload_n 0, 1) := by decide +kernel
theorem dX8_isOver_1 : decode cX8_isOver 1 = .ok (.iload_n 1, 1) := by decide +kernel
theorem dX8_isOver_2 : decode cX8_isOver 2 = .ok (.bipush 6, 2) := by decide +kernel
theorem dX8_isOver_4 : decode cX8_isOver 4 = .ok (.invokevirtual 40, 3) := by decide +kernel
theorem dX8_isOver_7 : decode cX8_isOver 7 = .ok (.iconst 3, 1) := by decide +kernel
theorem dX8_isOver_8 : decode cX8_isOver 8 = .ok (.if_icmp .ne 7, 3) := by decide +kernel
theorem dX8_isOver_11 : decode cX8_isOver 11 = .ok (.iconst 1, 1) := by decide +kernel
theorem dX8_isOver_12 : decode cX8_isOver 12 = .ok (.goto 4, 3) := by decide +kernel
theorem dX8_isOver_15 : decode cX8_isOver 15 = .ok (.iconst 0, 1) := by decide +kernel
theorem dX8_isOver_16 : decode cX8_isOver 16 = .ok (.ireturn, 1) := by decide +kernel
theorem dX8_records_0 : decode cX8_records 0 = .ok (.aload_n 0, 1) := by decide +kernel
theorem dX8_records_1 : decode cX8_records 1 = .ok (.getfield 44, 3) := by decide +kernel
theorem dX8_records_4 : decode cX8_records 4 = .ok (.bipush 6, 2) := by decide +kernel
theorem dX8_records_6 : decode cX8_records 6 = .ok (.if_icmp .ne 44, 3) := by decide +kernel
theorem dX8_records_9 : decode cX8_records 9 = .ok (.iconst 0, 1) := by decide +kernel
theorem dX8_records_10 : decode cX8_records 10 = .ok (.istore_n 1, 1) := by decide +kernel
theorem dX8_records_11 : decode cX8_records 11 = .ok (.iload_n 1, 1) := by decide +kernel
theorem dX8_records_12 : decode cX8_records 12 = .ok (.sipush 755, 3) := by decide +kernel
theorem dX8_records_15 : decode cX8_records 15 = .ok (.if_icmp .ge 25, 3) := by decide +kernel
theorem dX8_records_18 : decode cX8_records 18 = .ok (.aload_n 0, 1) := by decide +kernel
theorem dX8_records_19 : decode cX8_records 19 = .ok (.getfield 16, 3) := by decide +kernel
theorem dX8_records_22 : decode cX8_records 22 = .ok (.iload_n 1, 1) := by decide +kernel
theorem dX8_records_23 : decode cX8_records 23 = .ok (.aload_n 0, 1) := by decide +kernel
theorem dX8_records_24 : decode cX8_records 24 = .ok (.getfield 16, 3) := by decide +kernel
theorem dX8_records_27 : decode cX8_records 27 = .ok (.sipush 151, 3) := by decide +kernel
theorem dX8_records_30 : decode cX8_records 30 = .ok (.iload_n 1, 1) := by decide +kernel
theorem dX8_records_31 : decode cX8_records 31 = .ok (.iadd, 1) := by decide +kernel
theorem dX8_records_32 : decode cX8_records 32 = .ok (.iaload, 1) := by decide +kernel
theorem dX8_records_33 : decode cX8_records 33 = .ok (.iastore, 1) := by decide +kernel
theorem dX8_records_34 : decode cX8_records 34 = .ok (.iinc 1 1, 3) := by decide +kernel
theorem dX8_records_37 : decode cX8_records 37 = .ok (.goto (-26), 3) := by decide +kernel
theorem dX8_records_40 : decode cX8_records 40 = .ok (.aload_n 0, 1) := by decide +kernel
theorem dX8_records_41 : decode cX8_records 41 = .ok (.dup, 1) := by decide +kernel
theorem dX8_records_42 : decode cX8_records 42 = .ok (.getfield 44, 3) := by decide +kernel
theorem dX8_records_45 : decode cX8_records 45 = .ok (.iconst 1, 1) := by decide +kernel
theorem dX8_records_46 : decode cX8_records 46 = .ok (.isub, 1) := by decide +kernel
theorem dX8_records_47 : decode cX8_records 47 = .ok (.putfield 44, 3) := by decide +kernel
theorem dX8_records_50 : decode cX8_records 50 = .ok (.iconst 0, 1) := by decide +kernel
theorem dX8_records_51 : decode cX8_records 51 = .ok (.istore_n 1, 1) := by decide +kernel
theorem dX8_records_52 : decode cX8_records 52 = .ok (.iload_n 1, 1) := by decide +kernel
theorem dX8_records_53 : decode cX8_records 53 = .ok (.sipush 151, 3) := by decide +kernel
theorem dX8_records_56 : decode cX8_records 56 = .ok (.if_icmp .ge 30, 3) := by decide +kernel
theorem dX8_records_59 : decode cX8_records 59 = .ok (.aload_n 0, 1) := by decide +kernel
theorem dX8_records_60 : decode cX8_records 60 = .ok (.getfield 16, 3) := by decide +kernel
theorem dX8_records_63 : decode cX8_records 63 = .ok (.sipush 151, 3) := by decide +kernel
theorem dX8_records_66 : decode cX8_records 66 = .ok (.aload_n 0, 1) := by decide +kernel
theorem dX8_records_67 : decode cX8_records 67 = .ok (.getfield 44, 3) := by decide +kernel
theorem dX8_records_70 : decode cX8_records 70 = .ok (.imul, 1) := by decide +kernel
theorem dX8_records_71 : decode cX8_records 71 = .ok (.iload_n 1, 1) := by decide +kernel
theorem dX8_records_72 : decode cX8_records 72 = .ok (.iadd, 1) := by decide +kernel
theorem dX8_records_73 : decode cX8_records 73 = .ok (.aload_n 0, 1) := by decide +kernel
theorem dX8_records_74 : decode cX8_records 74 = .ok (.getfield 7, 3) := by decide +kernel
theorem dX8_records_77 : decode cX8_records 77 = .ok (.iload_n 1, 1) := by decide +kernel
theorem dX8_records_78 : decode cX8_records 78 = .ok (.iaload, 1) := by decide +kernel
theorem dX8_records_79 : decode cX8_records 79 = .ok (.iastore, 1) := by decide +kernel
theorem dX8_records_80 : decode cX8_records 80 = .ok (.iinc 1 1, 3) := by decide +kernel
theorem dX8_records_83 : decode cX8_records 83 = .ok (.goto (-31), 3) := by decide +kernel
theorem dX8_records_86 : decode cX8_records 86 = .ok (.aload_n 0, 1) := by decide +kernel
theorem dX8_records_87 : decode cX8_records 87 = .ok (.dup, 1) := by decide +kernel
theorem dX8_records_88 : decode cX8_records 88 = .ok (.getfield 44, 3) := by decide +kernel
theorem dX8_records_91 : decode cX8_records 91 = .ok (.iconst 1, 1) := by decide +kernel
theorem dX8_records_92 : decode cX8_records 92 = .ok (.iadd, 1) := by decide +kernel
theorem dX8_records_93 : decode cX8_records 93 = .ok (.putfield 44, 3) := by decide +kernel
theorem dX8_records_96 : decode cX8_records 96 = .ok (.return_, 1) := by decide +kernel
theorem dX8_putAside_0 : decode cX8_putAside 0 = .ok (.iconst 0, 1) := by decide +kernel
theorem dX8_putAside_1 : decode cX8_putAside 1 = .ok (.istore_n 1, 1) := by decide +kernel
theorem dX8_putAside_2 : decode cX8_putAside 2 = .ok (.iload_n 1, 1) := by decide +kernel
theorem dX8_putAside_3 : decode cX8_putAside 3 = .ok (.sipush 151, 3) := by decide +kernel
theorem dX8_putAside_6 : decode cX8_putAside 6 = .ok (.if_icmp .ge 21, 3) := by decide +kernel
theorem dX8_putAside_9 : decode cX8_putAside 9 = .ok (.aload_n 0, 1) := by decide +kernel
theorem dX8_putAside_10 : decode cX8_putAside 10 = .ok (.getfield 13, 3) := by decide +kernel
theorem dX8_putAside_13 : decode cX8_putAside 13 = .ok (.iload_n 1, 1) := by decide +kernel
theorem dX8_putAside_14 : decode cX8_putAside 14 = .ok (.aload_n 0, 1) := by decide +kernel
theorem dX8_putAside_15 : decode cX8_putAside 15 = .ok (.getfield 7, 3) := by decide +kernel
theorem dX8_putAside_18 : decode cX8_putAside 18 = .ok (.iload_n 1, 1) := by decide +kernel
theorem dX8_putAside_19 : decode cX8_putAside 19 = .ok (.iaload, 1) := by decide +kernel
theorem dX8_putAside_20 : decode cX8_putAside 20 = .ok (.iastore, 1) := by decide +kernel
theorem dX8_putAside_21 : decode cX8_putAside 21 = .ok (.iinc 1 1, 3) := by decide +kernel
theorem dX8_putAside_24 : decode cX8_putAside 24 = .ok (.goto (-22), 3) := by decide +kernel
theorem dX8_putAside_27 : decode cX8_putAside 27 = .ok (.return_, 1) := by decide +kernel
theorem dX8_putBack_0 : decode cX8_putBack 0 = .ok (.iconst 0, 1) := by decide +kernel
theorem dX8_putBack_1 : decode cX8_putBack 1 = .ok (.istore_n 1, 1) := by decide +kernel
theorem dX8_putBack_2 : decode cX8_putBack 2 = .ok (.iload_n 1, 1) := by decide +kernel
theorem dX8_putBack_3 : decode cX8_putBack 3 = .ok (.sipush 151, 3) := by decide +kernel
theorem dX8_putBack_6 : decode cX8_putBack 6 = .ok (.if_icmp .ge 21, 3) := by decide +kernel
theorem dX8_putBack_9 : decode cX8_putBack 9 = .ok (.aload_n 0, 1) := by decide +kernel
theorem dX8_putBack_10 : decode cX8_putBack 10 = .ok (.getfield 7, 3) := by decide +kernel
theorem dX8_putBack_13 : decode cX8_putBack 13 = .ok (.iload_n 1, 1) := by decide +kernel
theorem dX8_putBack_14 : decode cX8_putBack 14 = .ok (.aload_n 0, 1) := by decide +kernel
theorem dX8_putBack_15 : decode cX8_putBack 15 = .ok (.getfield 13, 3) := by decide +kernel
theorem dX8_putBack_18 : decode cX8_putBack 18 = .ok (.iload_n 1, 1) := by decide +kernel
theorem dX8_putBack_19 : decode cX8_putBack 19 = .ok (.iaload, 1) := by decide +kernel
theorem dX8_putBack_20 : decode cX8_putBack 20 = .ok (.iastore, 1) := by decide +kernel
theorem dX8_putBack_21 : decode cX8_putBack 21 = .ok (.iinc 1 1, 3) := by decide +kernel
theorem dX8_putBack_24 : decode cX8_putBack 24 = .ok (.goto (-22), 3) := by decide +kernel
theorem dX8_putBack_27 : decode cX8_putBack 27 = .ok (.return_, 1) := by decide +kernel
theorem dX8_arrival_0 : decode cX8_arrival 0 = .ok (.bipush 8, 2) := by decide +kernel
theorem dX8_arrival_2 : decode cX8_arrival 2 = .ok (.istore_n 2, 1) := by decide +kernel
theorem dX8_arrival_3 : decode cX8_arrival 3 = .ok (.iconst 0, 1) := by decide +kernel
theorem dX8_arrival_4 : decode cX8_arrival 4 = .ok (.istore_n 3, 1) := by decide +kernel
theorem dX8_arrival_5 : decode cX8_arrival 5 = .ok (.iload_n 3, 1) := by decide +kernel
theorem dX8_arrival_6 : decode cX8_arrival 6 = .ok (.aload_n 0, 1) := by decide +kernel
theorem dX8_arrival_7 : decode cX8_arrival 7 = .ok (.getfield 7, 3) := by decide +kernel
theorem dX8_arrival_10 : decode cX8_arrival 10 = .ok (.sipush 135, 3) := by decide +kernel
theorem dX8_arrival_13 : decode cX8_arrival 13 = .ok (.iaload, 1) := by decide +kernel
theorem dX8_arrival_14 : decode cX8_arrival 14 = .ok (.if_icmp .ge 29, 3) := by decide +kernel
theorem dX8_arrival_17 : decode cX8_arrival 17 = .ok (.aload_n 0, 1) := by decide +kernel
theorem dX8_arrival_18 : decode cX8_arrival 18 = .ok (.getfield 7, 3) := by decide +kernel
theorem dX8_arrival_21 : decode cX8_arrival 21 = .ok (.sipush 136, 3) := by decide +kernel
theorem dX8_arrival_24 : decode cX8_arrival 24 = .ok (.iload_n 3, 1) := by decide +kernel
theorem dX8_arrival_25 : decode cX8_arrival 25 = .ok (.iadd, 1) := by decide +kernel
theorem dX8_arrival_26 : decode cX8_arrival 26 = .ok (.iaload, 1) := by decide +kernel
theorem dX8_arrival_27 : decode cX8_arrival 27 = .ok (.iload_n 1, 1) := by decide +kernel
theorem dX8_arrival_28 : decode cX8_arrival 28 = .ok (.if_icmp .ne 7, 3) := by decide +kernel
theorem dX8_arrival_31 : decode cX8_arrival 31 = .ok (.iload_n 3, 1) := by decide +kernel
theorem dX8_arrival_32 : decode cX8_arrival 32 = .ok (.goto 4, 3) := by decide +kernel
theorem dX8_arrival_35 : decode cX8_arrival 35 = .ok (.iload_n 2, 1) := by decide +kernel
theorem dX8_arrival_36 : decode cX8_arrival 36 = .ok (.istore_n 2, 1) := by decide +kernel
theorem dX8_arrival_37 : decode cX8_arrival 37 = .ok (.iinc 3 1, 3) := by decide +kernel
theorem dX8_arrival_40 : decode cX8_arrival 40 = .ok (.goto (-35), 3) := by decide +kernel
theorem dX8_arrival_43 : decode cX8_arrival 43 = .ok (.iload_n 2, 1) := by decide +kernel
theorem dX8_arrival_44 : decode cX8_arrival 44 = .ok (.ireturn, 1) := by decide +kernel
theorem dX8_isAhead_0 : decode cX8_isAhead 0 = .ok (.aload_n 0, 1) := by decide +kernel
theorem dX8_isAhead_1 : decode cX8_isAhead 1 = .ok (.iload_n 1, 1) := by decide +kernel
theorem dX8_isAhead_2 : decode cX8_isAhead 2 = .ok (.invokevirtual 47, 3) := by decide +kernel
theorem dX8_isAhead_5 : decode cX8_isAhead 5 = .ok (.ifCond .ne 11, 3) := by decide +kernel
theorem dX8_isAhead_8 : decode cX8_isAhead 8 = .ok (.aload_n 0, 1) := by decide +kernel
theorem dX8_isAhead_9 : decode cX8_isAhead 9 = .ok (.iload_n 2, 1) := by decide +kernel
theorem dX8_isAhead_10 : decode cX8_isAhead 10 = .ok (.invokevirtual 47, 3) := by decide +kernel
theorem dX8_isAhead_13 : decode cX8_isAhead 13 = .ok (.ifCond .eq 38, 3) := by decide +kernel
theorem dX8_isAhead_16 : decode cX8_isAhead 16 = .ok (.aload_n 0, 1) := by decide +kernel
theorem dX8_isAhead_17 : decode cX8_isAhead 17 = .ok (.iload_n 1, 1) := by decide +kernel
theorem dX8_isAhead_18 : decode cX8_isAhead 18 = .ok (.invokevirtual 47, 3) := by decide +kernel
theorem dX8_isAhead_21 : decode cX8_isAhead 21 = .ok (.ifCond .eq 28, 3) := by decide +kernel
theorem dX8_isAhead_24 : decode cX8_isAhead 24 = .ok (.aload_n 0, 1) := by decide +kernel
theorem dX8_isAhead_25 : decode cX8_isAhead 25 = .ok (.iload_n 2, 1) := by decide +kernel
theorem dX8_isAhead_26 : decode cX8_isAhead 26 = .ok (.invokevirtual 47, 3) := by decide +kernel
theorem dX8_isAhead_29 : decode cX8_isAhead 29 = .ok (.ifCond .eq 16, 3) := by decide +kernel
theorem dX8_isAhead_32 : decode cX8_isAhead 32 = .ok (.aload_n 0, 1) := by decide +kernel
theorem dX8_isAhead_33 : decode cX8_isAhead 33 = .ok (.iload_n 1, 1) := by decide +kernel
theorem dX8_isAhead_34 : decode cX8_isAhead 34 = .ok (.invokevirtual 51, 3) := by decide +kernel
theorem dX8_isAhead_37 : decode cX8_isAhead 37 = .ok (.aload_n 0, 1) := by decide +kernel
theorem dX8_isAhead_38 : decode cX8_isAhead 38 = .ok (.iload_n 2, 1) := by decide +kernel
theorem dX8_isAhead_39 : decode cX8_isAhead 39 = .ok (.invokevirtual 51, 3) := by decide +kernel
theorem dX8_isAhead_42 : decode cX8_isAhead 42 = .ok (.if_icmp .ge 7, 3) := by decide +kernel
theorem dX8_isAhead_45 : decode cX8_isAhead 45 = .ok (.iconst 1, 1) := by decide +kernel
theorem dX8_isAhead_46 : decode cX8_isAhead 46 = .ok (.goto 4, 3) := by decide +kernel
theorem dX8_isAhead_49 : decode cX8_isAhead 49 = .ok (.iconst 0, 1) := by decide +kernel
theorem dX8_isAhead_50 : decode cX8_isAhead 50 = .ok (.ireturn, 1) := by decide +kernel
theorem dX8_isAhead_51 : decode cX8_isAhead 51 = .ok (.aload_n 0, 1) := by decide +kernel
theorem dX8_isAhead_52 : decode cX8_isAhead 52 = .ok (.iload_n 1, 1) := by decide +kernel
theorem dX8_isAhead_53 : decode cX8_isAhead 53 = .ok (.bipush 7, 2) := by decide +kernel
theorem dX8_isAhead_55 : decode cX8_isAhead 55 = .ok (.invokevirtual 40, 3) := by decide +kernel
theorem dX8_isAhead_58 : decode cX8_isAhead 58 = .ok (.aload_n 0, 1) := by decide +kernel
theorem dX8_isAhead_59 : decode cX8_isAhead 59 = .ok (.iload_n 2, 1) := by decide +kernel
theorem dX8_isAhead_60 : decode cX8_isAhead 60 = .ok (.bipush 7, 2) := by decide +kernel
theorem dX8_isAhead_62 : decode cX8_isAhead 62 = .ok (.invokevirtual 40, 3) := by decide +kernel
theorem dX8_isAhead_65 : decode cX8_isAhead 65 = .ok (.if_icmp .eq 28, 3) := by decide +kernel
theorem dX8_isAhead_68 : decode cX8_isAhead 68 = .ok (.aload_n 0, 1) := by decide +kernel
theorem dX8_isAhead_69 : decode cX8_isAhead 69 = .ok (.iload_n 1, 1) := by decide +kernel
theorem dX8_isAhead_70 : decode cX8_isAhead 70 = .ok (.bipush 7, 2) := by decide +kernel
theorem dX8_isAhead_72 : decode cX8_isAhead 72 = .ok (.invokevirtual 40, 3) := by decide +kernel
theorem dX8_isAhead_75 : decode cX8_isAhead 75 = .ok (.aload_n 0, 1) := by decide +kernel
theorem dX8_isAhead_76 : decode cX8_isAhead 76 = .ok (.iload_n 2, 1) := by decide +kernel
theorem dX8_isAhead_77 : decode cX8_isAhead 77 = .ok (.bipush 7, 2) := by decide +kernel
theorem dX8_isAhead_79 : decode cX8_isAhead 79 = .ok (.invokevirtual 40, 3) := by decide +kernel
theorem dX8_isAhead_82 : decode cX8_isAhead 82 = .ok (.if_icmp .le 7, 3) := by decide +kernel
theorem dX8_isAhead_85 : decode cX8_isAhead 85 = .ok (.iconst 1, 1) := by decide +kernel
theorem dX8_isAhead_86 : decode cX8_isAhead 86 = .ok (.goto 17, 3) := by decide +kernel
theorem dX8_isAhead_89 : decode cX8_isAhead 89 = .ok (.iconst 0, 1) := by decide +kernel
theorem dX8_isAhead_90 : decode cX8_isAhead 90 = .ok (.goto 13, 3) := by decide +kernel
theorem dX8_isAhead_93 : decode cX8_isAhead 93 = .ok (.iload_n 1, 1) := by decide +kernel
theorem dX8_isAhead_94 : decode cX8_isAhead 94 = .ok (.iload_n 2, 1) := by decide +kernel
theorem dX8_isAhead_95 : decode cX8_isAhead 95 = .ok (.if_icmp .ge 7, 3) := by decide +kernel
theorem dX8_isAhead_98 : decode cX8_isAhead 98 = .ok (.iconst 1, 1) := by decide +kernel
theorem dX8_isAhead_99 : decode cX8_isAhead 99 = .ok (.goto 4, 3) := by decide +kernel
theorem dX8_isAhead_102 : decode cX8_isAhead 102 = .ok (.iconst 0, 1) := by decide +kernel
