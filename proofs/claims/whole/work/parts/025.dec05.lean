theorem dX8_isAhead_103 : decode cX8_isAhead 103 = .ok (.ireturn, 1) := by decide +kernel
theorem dX8_place_0 : decode cX8_place 0 = .ok (.iconst 0, 1) := by decide +kernel
theorem dX8_place_1 : decode cX8_place 1 = .ok (.istore_n 2, 1) := by decide +kernel
theorem dX8_place_2 : decode cX8_place 2 = .ok (.iconst 0, 1) := by decide +kernel
theorem dX8_place_3 : decode cX8_place 3 = .ok (.istore_n 3, 1) := by decide +kernel
theorem dX8_place_4 : decode cX8_place 4 = .ok (.iload_n 3, 1) := by decide +kernel
theorem dX8_place_5 : decode cX8_place 5 = .ok (.aload_n 0, 1) := by decide +kernel
theorem dX8_place_6 : decode cX8_place 6 = .ok (.getfield 7, 3) := by decide +kernel
theorem dX8_place_9 : decode cX8_place 9 = .ok (.sipush 128, 3) := by decide +kernel
theorem dX8_place_12 : decode cX8_place 12 = .ok (.iaload, 1) := by decide +kernel
theorem dX8_place_13 : decode cX8_place 13 = .ok (.if_icmp .ge 31, 3) := by decide +kernel
theorem dX8_place_16 : decode cX8_place 16 = .ok (.iload_n 2, 1) := by decide +kernel
theorem dX8_place_17 : decode cX8_place 17 = .ok (.iload_n 3, 1) := by decide +kernel
theorem dX8_place_18 : decode cX8_place 18 = .ok (.iload_n 1, 1) := by decide +kernel
theorem dX8_place_19 : decode cX8_place 19 = .ok (.if_icmp .eq 16, 3) := by decide +kernel
theorem dX8_place_22 : decode cX8_place 22 = .ok (.aload_n 0, 1) := by decide +kernel
theorem dX8_place_23 : decode cX8_place 23 = .ok (.iload_n 3, 1) := by decide +kernel
theorem dX8_place_24 : decode cX8_place 24 = .ok (.iload_n 1, 1) := by decide +kernel
theorem dX8_place_25 : decode cX8_place 25 = .ok (.invokevirtual 55, 3) := by decide +kernel
theorem dX8_place_28 : decode cX8_place 28 = .ok (.ifCond .eq 7, 3) := by decide +kernel
theorem dX8_place_31 : decode cX8_place 31 = .ok (.iconst 1, 1) := by decide +kernel
theorem dX8_place_32 : decode cX8_place 32 = .ok (.goto 4, 3) := by decide +kernel
theorem dX8_place_35 : decode cX8_place 35 = .ok (.iconst 0, 1) := by decide +kernel
theorem dX8_place_36 : decode cX8_place 36 = .ok (.iadd, 1) := by decide +kernel
theorem dX8_place_37 : decode cX8_place 37 = .ok (.istore_n 2, 1) := by decide +kernel
theorem dX8_place_38 : decode cX8_place 38 = .ok (.iinc 3 1, 3) := by decide +kernel
theorem dX8_place_41 : decode cX8_place 41 = .ok (.goto (-37), 3) := by decide +kernel
theorem dX8_place_44 : decode cX8_place 44 = .ok (.iload_n 2, 1) := by decide +kernel
theorem dX8_place_45 : decode cX8_place 45 = .ok (.ireturn, 1) := by decide +kernel
theorem dX8_birdAt_0 : decode cX8_birdAt 0 = .ok (.iconst (-1), 1) := by decide +kernel
theorem dX8_birdAt_1 : decode cX8_birdAt 1 = .ok (.istore_n 2, 1) := by decide +kernel
theorem dX8_birdAt_2 : decode cX8_birdAt 2 = .ok (.iconst 0, 1) := by decide +kernel
theorem dX8_birdAt_3 : decode cX8_birdAt 3 = .ok (.istore_n 3, 1) := by decide +kernel
theorem dX8_birdAt_4 : decode cX8_birdAt 4 = .ok (.iload_n 3, 1) := by decide +kernel
theorem dX8_birdAt_5 : decode cX8_birdAt 5 = .ok (.aload_n 0, 1) := by decide +kernel
theorem dX8_birdAt_6 : decode cX8_birdAt 6 = .ok (.getfield 7, 3) := by decide +kernel
theorem dX8_birdAt_9 : decode cX8_birdAt 9 = .ok (.sipush 128, 3) := by decide +kernel
theorem dX8_birdAt_12 : decode cX8_birdAt 12 = .ok (.iaload, 1) := by decide +kernel
theorem dX8_birdAt_13 : decode cX8_birdAt 13 = .ok (.if_icmp .ge 24, 3) := by decide +kernel
theorem dX8_birdAt_16 : decode cX8_birdAt 16 = .ok (.aload_n 0, 1) := by decide +kernel
theorem dX8_birdAt_17 : decode cX8_birdAt 17 = .ok (.iload_n 3, 1) := by decide +kernel
theorem dX8_birdAt_18 : decode cX8_birdAt 18 = .ok (.invokevirtual 59, 3) := by decide +kernel
theorem dX8_birdAt_21 : decode cX8_birdAt 21 = .ok (.iload_n 1, 1) := by decide +kernel
theorem dX8_birdAt_22 : decode cX8_birdAt 22 = .ok (.if_icmp .ne 7, 3) := by decide +kernel
theorem dX8_birdAt_25 : decode cX8_birdAt 25 = .ok (.iload_n 3, 1) := by decide +kernel
theorem dX8_birdAt_26 : decode cX8_birdAt 26 = .ok (.goto 4, 3) := by decide +kernel
theorem dX8_birdAt_29 : decode cX8_birdAt 29 = .ok (.iload_n 2, 1) := by decide +kernel
theorem dX8_birdAt_30 : decode cX8_birdAt 30 = .ok (.istore_n 2, 1) := by decide +kernel
theorem dX8_birdAt_31 : decode cX8_birdAt 31 = .ok (.iinc 3 1, 3) := by decide +kernel
theorem dX8_birdAt_34 : decode cX8_birdAt 34 = .ok (.goto (-30), 3) := by decide +kernel
theorem dX8_birdAt_37 : decode cX8_birdAt 37 = .ok (.iload_n 2, 1) := by decide +kernel
theorem dX8_birdAt_38 : decode cX8_birdAt 38 = .ok (.ireturn, 1) := by decide +kernel
theorem dX8_ahead_0 : decode cX8_ahead 0 = .ok (.aload_n 0, 1) := by decide +kernel
theorem dX8_ahead_1 : decode cX8_ahead 1 = .ok (.iload_n 1, 1) := by decide +kernel
theorem dX8_ahead_2 : decode cX8_ahead 2 = .ok (.bipush 7, 2) := by decide +kernel
theorem dX8_ahead_4 : decode cX8_ahead 4 = .ok (.invokevirtual 40, 3) := by decide +kernel
theorem dX8_ahead_7 : decode cX8_ahead 7 = .ok (.aload_n 0, 1) := by decide +kernel
theorem dX8_ahead_8 : decode cX8_ahead 8 = .ok (.iload_n 2, 1) := by decide +kernel
theorem dX8_ahead_9 : decode cX8_ahead 9 = .ok (.bipush 7, 2) := by decide +kernel
theorem dX8_ahead_11 : decode cX8_ahead 11 = .ok (.invokevirtual 40, 3) := by decide +kernel
theorem dX8_ahead_14 : decode cX8_ahead 14 = .ok (.isub, 1) := by decide +kernel
theorem dX8_ahead_15 : decode cX8_ahead 15 = .ok (.sipush 400, 3) := by decide +kernel
theorem dX8_ahead_18 : decode cX8_ahead 18 = .ok (.irem, 1) := by decide +kernel
theorem dX8_ahead_19 : decode cX8_ahead 19 = .ok (.istore_n 3, 1) := by decide +kernel
theorem dX8_ahead_20 : decode cX8_ahead 20 = .ok (.iload_n 3, 1) := by decide +kernel
theorem dX8_ahead_21 : decode cX8_ahead 21 = .ok (.ifCond .ge 11, 3) := by decide +kernel
theorem dX8_ahead_24 : decode cX8_ahead 24 = .ok (.iload_n 3, 1) := by decide +kernel
theorem dX8_ahead_25 : decode cX8_ahead 25 = .ok (.sipush 400, 3) := by decide +kernel
theorem dX8_ahead_28 : decode cX8_ahead 28 = .ok (.iadd, 1) := by decide +kernel
theorem dX8_ahead_29 : decode cX8_ahead 29 = .ok (.goto 4, 3) := by decide +kernel
theorem dX8_ahead_32 : decode cX8_ahead 32 = .ok (.iload_n 3, 1) := by decide +kernel
theorem dX8_ahead_33 : decode cX8_ahead 33 = .ok (.ireturn, 1) := by decide +kernel
theorem dX8_gap_0 : decode cX8_gap 0 = .ok (.iconst 0, 1) := by decide +kernel
theorem dX8_gap_1 : decode cX8_gap 1 = .ok (.istore_n 3, 1) := by decide +kernel
theorem dX8_gap_2 : decode cX8_gap 2 = .ok (.iconst 0, 1) := by decide +kernel
theorem dX8_gap_3 : decode cX8_gap 3 = .ok (.istore 4, 2) := by decide +kernel
theorem dX8_gap_5 : decode cX8_gap 5 = .ok (.iload 4, 2) := by decide +kernel
theorem dX8_gap_7 : decode cX8_gap 7 = .ok (.aload_n 0, 1) := by decide +kernel
theorem dX8_gap_8 : decode cX8_gap 8 = .ok (.getfield 7, 3) := by decide +kernel
theorem dX8_gap_11 : decode cX8_gap 11 = .ok (.sipush 128, 3) := by decide +kernel
theorem dX8_gap_14 : decode cX8_gap 14 = .ok (.iaload, 1) := by decide +kernel
theorem dX8_gap_15 : decode cX8_gap 15 = .ok (.if_icmp .ge 77, 3) := by decide +kernel
theorem dX8_gap_18 : decode cX8_gap 18 = .ok (.iload 4, 2) := by decide +kernel
theorem dX8_gap_20 : decode cX8_gap 20 = .ok (.iload_n 1, 1) := by decide +kernel
theorem dX8_gap_21 : decode cX8_gap 21 = .ok (.if_icmp .eq 65, 3) := by decide +kernel
theorem dX8_gap_24 : decode cX8_gap 24 = .ok (.aload_n 0, 1) := by decide +kernel
theorem dX8_gap_25 : decode cX8_gap 25 = .ok (.iload 4, 2) := by decide +kernel
theorem dX8_gap_27 : decode cX8_gap 27 = .ok (.invokevirtual 62, 3) := by decide +kernel
theorem dX8_gap_30 : decode cX8_gap 30 = .ok (.ifCond .eq 56, 3) := by decide +kernel
theorem dX8_gap_33 : decode cX8_gap 33 = .ok (.aload_n 0, 1) := by decide +kernel
theorem dX8_gap_34 : decode cX8_gap 34 = .ok (.iload 4, 2) := by decide +kernel
theorem dX8_gap_36 : decode cX8_gap 36 = .ok (.iconst 5, 1) := by decide +kernel
theorem dX8_gap_37 : decode cX8_gap 37 = .ok (.invokevirtual 40, 3) := by decide +kernel
theorem dX8_gap_40 : decode cX8_gap 40 = .ok (.iload_n 2, 1) := by decide +kernel
theorem dX8_gap_41 : decode cX8_gap 41 = .ok (.if_icmp .ne 45, 3) := by decide +kernel
theorem dX8_gap_44 : decode cX8_gap 44 = .ok (.aload_n 0, 1) := by decide +kernel
theorem dX8_gap_45 : decode cX8_gap 45 = .ok (.iload 4, 2) := by decide +kernel
theorem dX8_gap_47 : decode cX8_gap 47 = .ok (.iload_n 1, 1) := by decide +kernel
theorem dX8_gap_48 : decode cX8_gap 48 = .ok (.invokevirtual 65, 3) := by decide +kernel
theorem dX8_gap_51 : decode cX8_gap 51 = .ok (.ifCond .ne 9, 3) := by decide +kernel
theorem dX8_gap_54 : decode cX8_gap 54 = .ok (.sipush 400, 3) := by decide +kernel
theorem dX8_gap_57 : decode cX8_gap 57 = .ok (.goto 10, 3) := by decide +kernel
theorem dX8_gap_60 : decode cX8_gap 60 = .ok (.aload_n 0, 1) := by decide +kernel
theorem dX8_gap_61 : decode cX8_gap 61 = .ok (.iload 4, 2) := by decide +kernel
theorem dX8_gap_63 : decode cX8_gap 63 = .ok (.iload_n 1, 1) := by decide +kernel
theorem dX8_gap_64 : decode cX8_gap 64 = .ok (.invokevirtual 65, 3) := by decide +kernel
theorem dX8_gap_67 : decode cX8_gap 67 = .ok (.istore 5, 2) := by decide +kernel
theorem dX8_gap_69 : decode cX8_gap 69 = .ok (.iload_n 3, 1) := by decide +kernel
theorem dX8_gap_70 : decode cX8_gap 70 = .ok (.ifCond .eq 9, 3) := by decide +kernel
theorem dX8_gap_73 : decode cX8_gap 73 = .ok (.iload 5, 2) := by decide +kernel
theorem dX8_gap_75 : decode cX8_gap 75 = .ok (.iload_n 3, 1) := by decide +kernel
theorem dX8_gap_76 : decode cX8_gap 76 = .ok (.if_icmp .ge 8, 3) := by decide +kernel
theorem dX8_gap_79 : decode cX8_gap 79 = .ok (.iload 5, 2) := by decide +kernel
theorem dX8_gap_81 : decode cX8_gap 81 = .ok (.goto 4, 3) := by decide +kernel
theorem dX8_gap_84 : decode cX8_gap 84 = .ok (.iload_n 3, 1) := by decide +kernel
theorem dX8_gap_85 : decode cX8_gap 85 = .ok (.istore_n 3, 1) := by decide +kernel
theorem dX8_gap_86 : decode cX8_gap 86 = .ok (.iinc 4 1, 3) := by decide +kernel
theorem dX8_gap_89 : decode cX8_gap 89 = .ok (.goto (-84), 3) := by decide +kernel
theorem dX8_gap_92 : decode cX8_gap 92 = .ok (.iload_n 3, 1) := by decide +kernel
theorem dX8_gap_93 : decode cX8_gap 93 = .ok (.ireturn, 1) := by decide +kernel
theorem dX8_isDrafted_0 : decode cX8_isDrafted 0 = .ok (.aload_n 0, 1) := by decide +kernel
theorem dX8_isDrafted_1 : decode cX8_isDrafted 1 = .ok (.iload_n 1, 1) := by decide +kernel
theorem dX8_isDrafted_2 : decode cX8_isDrafted 2 = .ok (.aload_n 0, 1) := by decide +kernel
theorem dX8_isDrafted_3 : decode cX8_isDrafted 3 = .ok (.iload_n 1, 1) := by decide +kernel
theorem dX8_isDrafted_4 : decode cX8_isDrafted 4 = .ok (.iconst 5, 1) := by decide +kernel
theorem dX8_isDrafted_5 : decode cX8_isDrafted 5 = .ok (.invokevirtual 40, 3) := by decide +kernel
theorem dX8_isDrafted_8 : decode cX8_isDrafted 8 = .ok (.invokevirtual 68, 3) := by decide +kernel
theorem dX8_isDrafted_11 : decode cX8_isDrafted 11 = .ok (.iconst 1, 1) := by decide +kernel
theorem dX8_isDrafted_12 : decode cX8_isDrafted 12 = .ok (.bipush 8, 2) := by decide +kernel
theorem dX8_isDrafted_14 : decode cX8_isDrafted 14 = .ok (.invokestatic 36, 3) := by decide +kernel
theorem dX8_isDrafted_17 : decode cX8_isDrafted 17 = .ok (.ireturn, 1) := by decide +kernel
theorem dX8_isPartnerNext_0 : decode cX8_isPartnerNext 0 = .ok (.aload_n 0, 1) := by decide +kernel
theorem dX8_isPartnerNext_1 : decode cX8_isPartnerNext 1 = .ok (.iload_n 1, 1) := by decide +kernel
theorem dX8_isPartnerNext_2 : decode cX8_isPartnerNext 2 = .ok (.aload_n 0, 1) := by decide +kernel
theorem dX8_isPartnerNext_3 : decode cX8_isPartnerNext 3 = .ok (.iload_n 1, 1) := by decide +kernel
theorem dX8_isPartnerNext_4 : decode cX8_isPartnerNext 4 = .ok (.iconst 5, 1) := by decide +kernel
theorem dX8_isPartnerNext_5 : decode cX8_isPartnerNext 5 = .ok (.invokevirtual 40, 3) := by decide +kernel
theorem dX8_isPartnerNext_8 : decode cX8_isPartnerNext 8 = .ok (.invokevirtual 68, 3) := by decide +kernel
theorem dX8_isPartnerNext_11 : decode cX8_isPartnerNext 11 = .ok (.istore_n 2, 1) := by decide +kernel
theorem dX8_isPartnerNext_12 : decode cX8_isPartnerNext 12 = .ok (.iconst (-1), 1) := by decide +kernel
theorem dX8_isPartnerNext_13 : decode cX8_isPartnerNext 13 = .ok (.istore_n 3, 1) := by decide +kernel
theorem dX8_isPartnerNext_14 : decode cX8_isPartnerNext 14 = .ok (.aload_n 0, 1) := by decide +kernel
theorem dX8_isPartnerNext_15 : decode cX8_isPartnerNext 15 = .ok (.getfield 7, 3) := by decide +kernel
theorem dX8_isPartnerNext_18 : decode cX8_isPartnerNext 18 = .ok (.sipush 128, 3) := by decide +kernel
theorem dX8_isPartnerNext_21 : decode cX8_isPartnerNext 21 = .ok (.iaload, 1) := by decide +kernel
theorem dX8_isPartnerNext_22 : decode cX8_isPartnerNext 22 = .ok (.iconst 1, 1) := by decide +kernel
theorem dX8_isPartnerNext_23 : decode cX8_isPartnerNext 23 = .ok (.isub, 1) := by decide +kernel
theorem dX8_isPartnerNext_24 : decode cX8_isPartnerNext 24 = .ok (.istore 4, 2) := by decide +kernel
theorem dX8_isPartnerNext_26 : decode cX8_isPartnerNext 26 = .ok (.iload 4, 2) := by decide +kernel
theorem dX8_isPartnerNext_28 : decode cX8_isPartnerNext 28 = .ok (.ifCond .lt 58, 3) := by decide +kernel
theorem dX8_isPartnerNext_31 : decode cX8_isPartnerNext 31 = .ok (.iload 4, 2) := by decide +kernel
theorem dX8_isPartnerNext_33 : decode cX8_isPartnerNext 33 = .ok (.iload_n 1, 1) := by decide +kernel
theorem dX8_isPartnerNext_34 : decode cX8_isPartnerNext 34 = .ok (.if_icmp .eq 44, 3) := by decide +kernel
theorem dX8_isPartnerNext_37 : decode cX8_isPartnerNext 37 = .ok (.aload_n 0, 1) := by decide +kernel
theorem dX8_isPartnerNext_38 : decode cX8_isPartnerNext 38 = .ok (.iload 4, 2) := by decide +kernel
theorem dX8_isPartnerNext_40 : decode cX8_isPartnerNext 40 = .ok (.invokevirtual 62, 3) := by decide +kernel
theorem dX8_isPartnerNext_43 : decode cX8_isPartnerNext 43 = .ok (.ifCond .eq 35, 3) := by decide +kernel
theorem dX8_isPartnerNext_46 : decode cX8_isPartnerNext 46 = .ok (.aload_n 0, 1) := by decide +kernel
theorem dX8_isPartnerNext_47 : decode cX8_isPartnerNext 47 = .ok (.iload 4, 2) := by decide +kernel
theorem dX8_isPartnerNext_49 : decode cX8_isPartnerNext 49 = .ok (.iconst 5, 1) := by decide +kernel
theorem dX8_isPartnerNext_50 : decode cX8_isPartnerNext 50 = .ok (.invokevirtual 40, 3) := by decide +kernel
theorem dX8_isPartnerNext_53 : decode cX8_isPartnerNext 53 = .ok (.aload_n 0, 1) := by decide +kernel
theorem dX8_isPartnerNext_54 : decode cX8_isPartnerNext 54 = .ok (.iload_n 1, 1) := by decide +kernel
theorem dX8_isPartnerNext_55 : decode cX8_isPartnerNext 55 = .ok (.iconst 5, 1) := by decide +kernel
theorem dX8_isPartnerNext_56 : decode cX8_isPartnerNext 56 = .ok (.invokevirtual 40, 3) := by decide +kernel
theorem dX8_isPartnerNext_59 : decode cX8_isPartnerNext 59 = .ok (.if_icmp .ne 19, 3) := by decide +kernel
theorem dX8_isPartnerNext_62 : decode cX8_isPartnerNext 62 = .ok (.aload_n 0, 1) := by decide +kernel
theorem dX8_isPartnerNext_63 : decode cX8_isPartnerNext 63 = .ok (.iload 4, 2) := by decide +kernel
theorem dX8_isPartnerNext_65 : decode cX8_isPartnerNext 65 = .ok (.iload_n 1, 1) := by decide +kernel
theorem dX8_isPartnerNext_66 : decode cX8_isPartnerNext 66 = .ok (.invokevirtual 65, 3) := by decide +kernel
theorem dX8_isPartnerNext_69 : decode cX8_isPartnerNext 69 = .ok (.iload_n 2, 1) := by decide +kernel
theorem dX8_isPartnerNext_70 : decode cX8_isPartnerNext 70 = .ok (.if_icmp .ne 8, 3) := by decide +kernel
theorem dX8_isPartnerNext_73 : decode cX8_isPartnerNext 73 = .ok (.iload 4, 2) := by decide +kernel
theorem dX8_isPartnerNext_75 : decode cX8_isPartnerNext 75 = .ok (.goto 4, 3) := by decide +kernel
theorem dX8_isPartnerNext_78 : decode cX8_isPartnerNext 78 = .ok (.iload_n 3, 1) := by decide +kernel
theorem dX8_isPartnerNext_79 : decode cX8_isPartnerNext 79 = .ok (.istore_n 3, 1) := by decide +kernel
theorem dX8_isPartnerNext_80 : decode cX8_isPartnerNext 80 = .ok (.iinc 4 (-1), 3) := by decide +kernel
theorem dX8_isPartnerNext_83 : decode cX8_isPartnerNext 83 = .ok (.goto (-57), 3) := by decide +kernel
theorem dX8_isPartnerNext_86 : decode cX8_isPartnerNext 86 = .ok (.iload_n 3, 1) := by decide +kernel
theorem dX8_isPartnerNext_87 : decode cX8_isPartnerNext 87 = .ok (.ifCond .lt 20, 3) := by decide +kernel
theorem dX8_isPartnerNext_90 : decode cX8_isPartnerNext 90 = .ok (.iload_n 3, 1) := by decide +kernel
theorem dX8_isPartnerNext_91 : decode cX8_isPartnerNext 91 = .ok (.aload_n 0, 1) := by decide +kernel
theorem dX8_isPartnerNext_92 : decode cX8_isPartnerNext 92 = .ok (.iload_n 1, 1) := by decide +kernel
theorem dX8_isPartnerNext_93 : decode cX8_isPartnerNext 93 = .ok (.bipush 10, 2) := by decide +kernel
theorem dX8_isPartnerNext_95 : decode cX8_isPartnerNext 95 = .ok (.invokevirtual 40, 3) := by decide +kernel
theorem dX8_isPartnerNext_98 : decode cX8_isPartnerNext 98 = .ok (.iconst 1, 1) := by decide +kernel
theorem dX8_isPartnerNext_99 : decode cX8_isPartnerNext 99 = .ok (.isub, 1) := by decide +kernel
theorem dX8_isPartnerNext_100 : decode cX8_isPartnerNext 100 = .ok (.if_icmp .ne 7, 3) := by decide +kernel
theorem dX8_isPartnerNext_103 : decode cX8_isPartnerNext 103 = .ok (.iconst 1, 1) := by decide +kernel
theorem dX8_isPartnerNext_104 : decode cX8_isPartnerNext 104 = .ok (.goto 4, 3) := by decide +kernel
theorem dX8_isPartnerNext_107 : decode cX8_isPartnerNext 107 = .ok (.iconst 0, 1) := by decide +kernel
theorem dX8_isPartnerNext_108 : decode cX8_isPartnerNext 108 = .ok (.ireturn, 1) := by decide +kernel
theorem dX8_where_0 : decode cX8_where 0 = .ok (.aload_n 0, 1) := by decide +kernel
theorem dX8_where_1 : decode cX8_where 1 = .ok (.iload_n 1, 1) := by decide +kernel
theorem dX8_where_2 : decode cX8_where 2 = .ok (.bipush 7, 2) := by decide +kernel
theorem dX8_where_4 : decode cX8_where 4 = .ok (.invokevirtual 40, 3) := by decide +kernel
theorem dX8_where_7 : decode cX8_where 7 = .ok (.sipush 400, 3) := by decide +kernel
theorem dX8_where_10 : decode cX8_where 10 = .ok (.irem, 1) := by decide +kernel
theorem dX8_where_11 : decode cX8_where 11 = .ok (.istore_n 2, 1) := by decide +kernel
theorem dX8_where_12 : decode cX8_where 12 = .ok (.iload_n 2, 1) := by decide +kernel
theorem dX8_where_13 : decode cX8_where 13 = .ok (.bipush 100, 2) := by decide +kernel
theorem dX8_where_15 : decode cX8_where 15 = .ok (.irem, 1) := by decide +kernel
theorem dX8_where_16 : decode cX8_where 16 = .ok (.bipush 70, 2) := by decide +kernel
theorem dX8_where_18 : decode cX8_where 18 = .ok (.if_icmp .ge 10, 3) := by decide +kernel
theorem dX8_where_21 : decode cX8_where 21 = .ok (.iload_n 2, 1) := by decide +kernel
theorem dX8_where_22 : decode cX8_where 22 = .ok (.bipush 100, 2) := by decide +kernel
theorem dX8_where_24 : decode cX8_where 24 = .ok (.idiv, 1) := by decide +kernel
theorem dX8_where_25 : decode cX8_where 25 = .ok (.goto 9, 3) := by decide +kernel
theorem dX8_where_28 : decode cX8_where 28 = .ok (.iconst 4, 1) := by decide +kernel
theorem dX8_where_29 : decode cX8_where 29 = .ok (.iload_n 2, 1) := by decide +kernel
theorem dX8_where_30 : decode cX8_where 30 = .ok (.bipush 100, 2) := by decide +kernel
theorem dX8_where_32 : decode cX8_where 32 = .ok (.idiv, 1) := by decide +kernel
theorem dX8_where_33 : decode cX8_where 33 = .ok (.iadd, 1) := by decide +kernel
theorem dX8_where_34 : decode cX8_where 34 = .ok (.ireturn, 1) := by decide +kernel
theorem dX8_allowed_0 : decode cX8_allowed 0 = .ok (.aload_n 0, 1) := by decide +kernel
theorem dX8_allowed_1 : decode cX8_allowed 1 = .ok (.iload_n 1, 1) := by decide +kernel
theorem dX8_allowed_2 : decode cX8_allowed 2 = .ok (.invokevirtual 71, 3) := by decide +kernel
theorem dX8_allowed_5 : decode cX8_allowed 5 = .ok (.istore_n 2, 1) := by decide +kernel
theorem dX8_allowed_6 : decode cX8_allowed 6 = .ok (.iload_n 2, 1) := by decide +kernel
theorem dX8_allowed_7 : decode cX8_allowed 7 = .ok (.iconst 4, 1) := by decide +kernel
theorem dX8_allowed_8 : decode cX8_allowed 8 = .ok (.if_icmp .ge 12, 3) := by decide +kernel
theorem dX8_allowed_11 : decode cX8_allowed 11 = .ok (.aload_n 0, 1) := by decide +kernel
theorem dX8_allowed_12 : decode cX8_allowed 12 = .ok (.iload_n 1, 1) := by decide +kernel
theorem dX8_allowed_13 : decode cX8_allowed 13 = .ok (.iconst 0, 1) := by decide +kernel
theorem dX8_allowed_14 : decode cX8_allowed 14 = .ok (.invokevirtual 40, 3) := by decide +kernel
theorem dX8_allowed_17 : decode cX8_allowed 17 = .ok (.goto 24, 3) := by decide +kernel
theorem dX8_allowed_20 : decode cX8_allowed 20 = .ok (.aload_n 0, 1) := by decide +kernel
theorem dX8_allowed_21 : decode cX8_allowed 21 = .ok (.getfield 7, 3) := by decide +kernel
theorem dX8_allowed_24 : decode cX8_allowed 24 = .ok (.sipush 129, 3) := by decide +kernel
theorem dX8_allowed_27 : decode cX8_allowed 27 = .ok (.iload_n 2, 1) := by decide +kernel
theorem dX8_allowed_28 : decode cX8_allowed 28 = .ok (.iadd, 1) := by decide +kernel
theorem dX8_allowed_29 : decode cX8_allowed 29 = .ok (.iconst 4, 1) := by decide +kernel
theorem dX8_allowed_30 : decode cX8_allowed 30 = .ok (.isub, 1) := by decide +kernel
theorem dX8_allowed_31 : decode cX8_allowed 31 = .ok (.iaload, 1) := by decide +kernel
theorem dX8_allowed_32 : decode cX8_allowed 32 = .ok (.iconst 2, 1) := by decide +kernel
theorem dX8_allowed_33 : decode cX8_allowed 33 = .ok (.aload_n 0, 1) := by decide +kernel
theorem dX8_allowed_34 : decode cX8_allowed 34 = .ok (.iload_n 1, 1) := by decide +kernel
theorem dX8_allowed_35 : decode cX8_allowed 35 = .ok (.iconst 5, 1) := by decide +kernel
theorem dX8_allowed_36 : decode cX8_allowed 36 = .ok (.invokevirtual 40, 3) := by decide +kernel
theorem dX8_allowed_39 : decode cX8_allowed 39 = .ok (.imul, 1) := by decide +kernel
theorem dX8_allowed_40 : decode cX8_allowed 40 = .ok (.iadd, 1) := by decide +kernel
theorem dX8_allowed_41 : decode cX8_allowed 41 = .ok (.istore_n 3, 1) := by decide +kernel
theorem dX8_allowed_42 : decode cX8_allowed 42 = .ok (.aload_n 0, 1) := by decide +kernel
theorem dX8_allowed_43 : decode cX8_allowed 43 = .ok (.iload_n 1, 1) := by decide +kernel
theorem dX8_allowed_44 : decode cX8_allowed 44 = .ok (.iconst 0, 1) := by decide +kernel
theorem dX8_allowed_45 : decode cX8_allowed 45 = .ok (.invokevirtual 40, 3) := by decide +kernel
theorem dX8_allowed_48 : decode cX8_allowed 48 = .ok (.iload_n 3, 1) := by decide +kernel
theorem dX8_allowed_49 : decode cX8_allowed 49 = .ok (.if_icmp .ge 12, 3) := by decide +kernel
theorem dX8_allowed_52 : decode cX8_allowed 52 = .ok (.aload_n 0, 1) := by decide +kernel
theorem dX8_allowed_53 : decode cX8_allowed 53 = .ok (.iload_n 1, 1) := by decide +kernel
theorem dX8_allowed_54 : decode cX8_allowed 54 = .ok (.iconst 0, 1) := by decide +kernel
theorem dX8_allowed_55 : decode cX8_allowed 55 = .ok (.invokevirtual 40, 3) := by decide +kernel
theorem dX8_allowed_58 : decode cX8_allowed 58 = .ok (.goto 4, 3) := by decide +kernel
theorem dX8_allowed_61 : decode cX8_allowed 61 = .ok (.iload_n 3, 1) := by decide +kernel
theorem dX8_allowed_62 : decode cX8_allowed 62 = .ok (.aload_n 0, 1) := by decide +kernel
theorem dX8_allowed_63 : decode cX8_allowed 63 = .ok (.iload_n 1, 1) := by decide +kernel
theorem dX8_allowed_64 : decode cX8_allowed 64 = .ok (.iconst 4, 1) := by decide +kernel
theorem dX8_allowed_65 : decode cX8_allowed 65 = .ok (.invokevirtual 40, 3) := by decide +kernel
theorem dX8_allowed_68 : decode cX8_allowed 68 = .ok (.bipush 10, 2) := by decide +kernel
theorem dX8_allowed_70 : decode cX8_allowed 70 = .ok (.idiv, 1) := by decide +kernel
theorem dX8_allowed_71 : decode cX8_allowed 71 = .ok (.isub, 1) := by decide +kernel
theorem dX8_allowed_72 : decode cX8_allowed 72 = .ok (.istore 4, 2) := by decide +kernel
theorem dX8_allowed_74 : decode cX8_allowed 74 = .ok (.iload 4, 2) := by decide +kernel
theorem dX8_allowed_76 : decode cX8_allowed 76 = .ok (.iconst 4, 1) := by decide +kernel
theorem dX8_allowed_77 : decode cX8_allowed 77 = .ok (.if_icmp .ge 7, 3) := by decide +kernel
theorem dX8_allowed_80 : decode cX8_allowed 80 = .ok (.iconst 4, 1) := by decide +kernel
theorem dX8_allowed_81 : decode cX8_allowed 81 = .ok (.goto 5, 3) := by decide +kernel
theorem dX8_allowed_84 : decode cX8_allowed 84 = .ok (.iload 4, 2) := by decide +kernel
theorem dX8_allowed_86 : decode cX8_allowed 86 = .ok (.ireturn, 1) := by decide +kernel
theorem dX8_isFree_0 : decode cX8_isFree 0 = .ok (.iconst 0, 1) := by decide +kernel
theorem dX8_isFree_1 : decode cX8_isFree 1 = .ok (.istore_n 3, 1) := by decide +kernel
theorem dX8_isFree_2 : decode cX8_isFree 2 = .ok (.iload_n 3, 1) := by decide +kernel
theorem dX8_isFree_3 : decode cX8_isFree 3 = .ok (.aload_n 0, 1) := by decide +kernel
theorem dX8_isFree_4 : decode cX8_isFree 4 = .ok (.getfield 7, 3) := by decide +kernel
theorem dX8_isFree_7 : decode cX8_isFree 7 = .ok (.sipush 128, 3) := by decide +kernel
theorem dX8_isFree_10 : decode cX8_isFree 10 = .ok (.iaload, 1) := by decide +kernel
theorem dX8_isFree_11 : decode cX8_isFree 11 = .ok (.if_icmp .ge 56, 3) := by decide +kernel
theorem dX8_isFree_14 : decode cX8_isFree 14 = .ok (.aload_n 0, 1) := by decide +kernel
theorem dX8_isFree_15 : decode cX8_isFree 15 = .ok (.iload_n 3, 1) := by decide +kernel
theorem dX8_isFree_16 : decode cX8_isFree 16 = .ok (.iload_n 1, 1) := by decide +kernel
theorem dX8_isFree_17 : decode cX8_isFree 17 = .ok (.invokevirtual 65, 3) := by decide +kernel
theorem dX8_isFree_20 : decode cX8_isFree 20 = .ok (.istore 4, 2) := by decide +kernel
theorem dX8_isFree_22 : decode cX8_isFree 22 = .ok (.iload_n 3, 1) := by decide +kernel
theorem dX8_isFree_23 : decode cX8_isFree 23 = .ok (.iload_n 1, 1) := by decide +kernel
theorem dX8_isFree_24 : decode cX8_isFree 24 = .ok (.if_icmp .eq 37, 3) := by decide +kernel
theorem dX8_isFree_27 : decode cX8_isFree 27 = .ok (.aload_n 0, 1) := by decide +kernel
theorem dX8_isFree_28 : decode cX8_isFree 28 = .ok (.iload_n 3, 1) := by decide +kernel
theorem dX8_isFree_29 : decode cX8_isFree 29 = .ok (.invokevirtual 62, 3) := by decide +kernel
theorem dX8_isFree_32 : decode cX8_isFree 32 = .ok (.ifCond .eq 29, 3) := by decide +kernel
theorem dX8_isFree_35 : decode cX8_isFree 35 = .ok (.aload_n 0, 1) := by decide +kernel
theorem dX8_isFree_36 : decode cX8_isFree 36 = .ok (.iload_n 3, 1) := by decide +kernel
theorem dX8_isFree_37 : decode cX8_isFree 37 = .ok (.iconst 5, 1) := by decide +kernel
theorem dX8_isFree_38 : decode cX8_isFree 38 = .ok (.invokevirtual 40, 3) := by decide +kernel
theorem dX8_isFree_41 : decode cX8_isFree 41 = .ok (.iload_n 2, 1) := by decide +kernel
theorem dX8_isFree_42 : decode cX8_isFree 42 = .ok (.if_icmp .ne 19, 3) := by decide +kernel
theorem dX8_isFree_45 : decode cX8_isFree 45 = .ok (.iload 4, 2) := by decide +kernel
theorem dX8_isFree_47 : decode cX8_isFree 47 = .ok (.iconst 3, 1) := by decide +kernel
theorem dX8_isFree_48 : decode cX8_isFree 48 = .ok (.if_icmp .le 11, 3) := by decide +kernel
theorem dX8_isFree_51 : decode cX8_isFree 51 = .ok (.iload 4, 2) := by decide +kernel
theorem dX8_isFree_53 : decode cX8_isFree 53 = .ok (.sipush 397, 3) := by decide +kernel
theorem dX8_isFree_56 : decode cX8_isFree 56 = .ok (.if_icmp .lt 5, 3) := by decide +kernel
theorem dX8_isFree_59 : decode cX8_isFree 59 = .ok (.iconst 0, 1) := by decide +kernel
theorem dX8_isFree_60 : decode cX8_isFree 60 = .ok (.ireturn, 1) := by decide +kernel
theorem dX8_isFree_61 : decode cX8_isFree 61 = .ok (.iinc 3 1, 3) := by decide +kernel
theorem dX8_isFree_64 : decode cX8_isFree 64 = .ok (.goto (-62), 3) := by decide +kernel
theorem dX8_isFree_67 : decode cX8_isFree 67 = .ok (.iconst 1, 1) := by decide +kernel
theorem dX8_isFree_68 : decode cX8_isFree 68 = .ok (.ireturn, 1) := by decide +kernel
theorem dX8_atMost_0 : decode cX8_atMost 0 = .ok (.iload_n 2, 1) := by decide +kernel
theorem dX8_atMost_1 : decode cX8_atMost 1 = .ok (.ifCond .eq 8, 3) := by decide +kernel
theorem dX8_atMost_4 : decode cX8_atMost 4 = .ok (.iload_n 1, 1) := by decide +kernel
theorem dX8_atMost_5 : decode cX8_atMost 5 = .ok (.iload_n 2, 1) := by decide +kernel
theorem dX8_atMost_6 : decode cX8_atMost 6 = .ok (.if_icmp .ge 7, 3) := by decide +kernel
theorem dX8_atMost_9 : decode cX8_atMost 9 = .ok (.iload_n 1, 1) := by decide +kernel
theorem dX8_atMost_10 : decode cX8_atMost 10 = .ok (.goto 6, 3) := by decide +kernel
theorem dX8_atMost_13 : decode cX8_atMost 13 = .ok (.iload_n 2, 1) := by decide +kernel
theorem dX8_atMost_14 : decode cX8_atMost 14 = .ok (.iconst 1, 1) := by decide +kernel
theorem dX8_atMost_15 : decode cX8_atMost 15 = .ok (.isub, 1) := by decide +kernel
theorem dX8_atMost_16 : decode cX8_atMost 16 = .ok (.ireturn, 1) := by decide +kernel
theorem dX8_fly_0 : decode cX8_fly 0 = .ok (.bipush 16, 2) := by decide +kernel
theorem dX8_fly_2 : decode cX8_fly 2 = .ok (.iload_n 1, 1) := by decide +kernel
theorem dX8_fly_3 : decode cX8_fly 3 = .ok (.imul, 1) := by decide +kernel
theorem dX8_fly_4 : decode cX8_fly 4 = .ok (.istore_n 2, 1) := by decide +kernel
theorem dX8_fly_5 : decode cX8_fly 5 = .ok (.aload_n 0, 1) := by decide +kernel
theorem dX8_fly_6 : decode cX8_fly 6 = .ok (.getfield 7, 3) := by decide +kernel
theorem dX8_fly_9 : decode cX8_fly 9 = .ok (.iload_n 2, 1) := by decide +kernel
theorem dX8_fly_10 : decode cX8_fly 10 = .ok (.bipush 7, 2) := by decide +kernel
theorem dX8_fly_12 : decode cX8_fly 12 = .ok (.iadd, 1) := by decide +kernel
theorem dX8_fly_13 : decode cX8_fly 13 = .ok (.iaload, 1) := by decide +kernel
theorem dX8_fly_14 : decode cX8_fly 14 = .ok (.istore_n 3, 1) := by decide +kernel
theorem dX8_fly_15 : decode cX8_fly 15 = .ok (.aload_n 0, 1) := by decide +kernel
theorem dX8_fly_16 : decode cX8_fly 16 = .ok (.iload_n 1, 1) := by decide +kernel
theorem dX8_fly_17 : decode cX8_fly 17 = .ok (.aload_n 0, 1) := by decide +kernel
theorem dX8_fly_18 : decode cX8_fly 18 = .ok (.getfield 7, 3) := by decide +kernel
theorem dX8_fly_21 : decode cX8_fly 21 = .ok (.iload_n 2, 1) := by decide +kernel
theorem dX8_fly_22 : decode cX8_fly 22 = .ok (.iconst 5, 1) := by decide +kernel
theorem dX8_fly_23 : decode cX8_fly 23 = .ok (.iadd, 1) := by decide +kernel
theorem dX8_fly_24 : decode cX8_fly 24 = .ok (.iaload, 1) := by decide +kernel
theorem dX8_fly_25 : decode cX8_fly 25 = .ok (.invokevirtual 68, 3) := by decide +kernel
theorem dX8_fly_28 : decode cX8_fly 28 = .ok (.istore 4, 2) := by decide +kernel
theorem dX8_fly_30 : decode cX8_fly 30 = .ok (.aload_n 0, 1) := by decide +kernel
theorem dX8_fly_31 : decode cX8_fly 31 = .ok (.iload_n 1, 1) := by decide +kernel
theorem dX8_fly_32 : decode cX8_fly 32 = .ok (.invokevirtual 74, 3) := by decide +kernel
theorem dX8_fly_35 : decode cX8_fly 35 = .ok (.istore 5, 2) := by decide +kernel
theorem dX8_fly_37 : decode cX8_fly 37 = .ok (.aload_n 0, 1) := by decide +kernel
theorem dX8_fly_38 : decode cX8_fly 38 = .ok (.iload_n 1, 1) := by decide +kernel
theorem dX8_fly_39 : decode cX8_fly 39 = .ok (.invokevirtual 77, 3) := by decide +kernel
theorem dX8_fly_42 : decode cX8_fly 42 = .ok (.iload 5, 2) := by decide +kernel
theorem dX8_fly_44 : decode cX8_fly 44 = .ok (.ifCond .eq 19, 3) := by decide +kernel
theorem dX8_fly_47 : decode cX8_fly 47 = .ok (.aload_n 0, 1) := by decide +kernel
theorem dX8_fly_48 : decode cX8_fly 48 = .ok (.iload_n 1, 1) := by decide +kernel
theorem dX8_fly_49 : decode cX8_fly 49 = .ok (.invokevirtual 80, 3) := by decide +kernel
theorem dX8_fly_52 : decode cX8_fly 52 = .ok (.ifCond .eq 7, 3) := by decide +kernel
theorem dX8_fly_55 : decode cX8_fly 55 = .ok (.iconst 2, 1) := by decide +kernel
theorem dX8_fly_56 : decode cX8_fly 56 = .ok (.goto 8, 3) := by decide +kernel
theorem dX8_fly_59 : decode cX8_fly 59 = .ok (.iconst 1, 1) := by decide +kernel
theorem dX8_fly_60 : decode cX8_fly 60 = .ok (.goto 4, 3) := by decide +kernel
theorem dX8_fly_63 : decode cX8_fly 63 = .ok (.iconst 0, 1) := by decide +kernel
theorem dX8_fly_64 : decode cX8_fly 64 = .ok (.iadd, 1) := by decide +kernel
theorem dX8_fly_65 : decode cX8_fly 65 = .ok (.istore 6, 2) := by decide +kernel
theorem dX8_fly_67 : decode cX8_fly 67 = .ok (.aload_n 0, 1) := by decide +kernel
theorem dX8_fly_68 : decode cX8_fly 68 = .ok (.getfield 7, 3) := by decide +kernel
theorem dX8_fly_71 : decode cX8_fly 71 = .ok (.sipush 145, 3) := by decide +kernel
theorem dX8_fly_74 : decode cX8_fly 74 = .ok (.dup2, 1) := by decide +kernel
theorem dX8_fly_75 : decode cX8_fly 75 = .ok (.iaload, 1) := by decide +kernel
theorem dX8_fly_76 : decode cX8_fly 76 = .ok (.iload 5, 2) := by decide +kernel
theorem dX8_fly_78 : decode cX8_fly 78 = .ok (.ifCond .eq 7, 3) := by decide +kernel
theorem dX8_fly_81 : decode cX8_fly 81 = .ok (.iconst 1, 1) := by decide +kernel
theorem dX8_fly_82 : decode cX8_fly 82 = .ok (.goto 4, 3) := by decide +kernel
theorem dX8_fly_85 : decode cX8_fly 85 = .ok (.iconst 0, 1) := by decide +kernel
theorem dX8_fly_86 : decode cX8_fly 86 = .ok (.iadd, 1) := by decide +kernel
theorem dX8_fly_87 : decode cX8_fly 87 = .ok (.iastore, 1) := by decide +kernel
theorem dX8_fly_88 : decode cX8_fly 88 = .ok (.iload 4, 2) := by decide +kernel
theorem dX8_fly_90 : decode cX8_fly 90 = .ok (.ifCond .le 84, 3) := by decide +kernel
theorem dX8_fly_93 : decode cX8_fly 93 = .ok (.iload 4, 2) := by decide +kernel
theorem dX8_fly_95 : decode cX8_fly 95 = .ok (.iload 6, 2) := by decide +kernel
theorem dX8_fly_97 : decode cX8_fly 97 = .ok (.isub, 1) := by decide +kernel
theorem dX8_fly_98 : decode cX8_fly 98 = .ok (.iconst 1, 1) := by decide +kernel
theorem dX8_fly_99 : decode cX8_fly 99 = .ok (.if_icmp .gt 75, 3) := by decide +kernel
theorem dX8_fly_102 : decode cX8_fly 102 = .ok (.iconst 1, 1) := by decide +kernel
theorem dX8_fly_103 : decode cX8_fly 103 = .ok (.aload_n 0, 1) := by decide +kernel
theorem dX8_fly_104 : decode cX8_fly 104 = .ok (.getfield 7, 3) := by decide +kernel
theorem dX8_fly_107 : decode cX8_fly 107 = .ok (.iload_n 2, 1) := by decide +kernel
theorem dX8_fly_108 : decode cX8_fly 108 = .ok (.iconst 5, 1) := by decide +kernel
theorem dX8_fly_109 : decode cX8_fly 109 = .ok (.iadd, 1) := by decide +kernel
theorem dX8_fly_110 : decode cX8_fly 110 = .ok (.iaload, 1) := by decide +kernel
theorem dX8_fly_111 : decode cX8_fly 111 = .ok (.isub, 1) := by decide +kernel
theorem dX8_fly_112 : decode cX8_fly 112 = .ok (.istore 7, 2) := by decide +kernel
theorem dX8_fly_114 : decode cX8_fly 114 = .ok (.aload_n 0, 1) := by decide +kernel
theorem dX8_fly_115 : decode cX8_fly 115 = .ok (.iload_n 1, 1) := by decide +kernel
theorem dX8_fly_116 : decode cX8_fly 116 = .ok (.invokevirtual 71, 3) := by decide +kernel
theorem dX8_fly_119 : decode cX8_fly 119 = .ok (.iconst 4, 1) := by decide +kernel
theorem dX8_fly_120 : decode cX8_fly 120 = .ok (.if_icmp .ge 44, 3) := by decide +kernel
theorem dX8_fly_123 : decode cX8_fly 123 = .ok (.aload_n 0, 1) := by decide +kernel
theorem dX8_fly_124 : decode cX8_fly 124 = .ok (.iload_n 1, 1) := by decide +kernel
theorem dX8_fly_125 : decode cX8_fly 125 = .ok (.iload 7, 2) := by decide +kernel
theorem dX8_fly_127 : decode cX8_fly 127 = .ok (.invokevirtual 83, 3) := by decide +kernel
theorem dX8_fly_130 : decode cX8_fly 130 = .ok (.ifCond .eq 34, 3) := by decide +kernel
theorem dX8_fly_133 : decode cX8_fly 133 = .ok (.aload_n 0, 1) := by decide +kernel
theorem dX8_fly_134 : decode cX8_fly 134 = .ok (.getfield 7, 3) := by decide +kernel
theorem dX8_fly_137 : decode cX8_fly 137 = .ok (.iload_n 2, 1) := by decide +kernel
theorem dX8_fly_138 : decode cX8_fly 138 = .ok (.iconst 5, 1) := by decide +kernel
theorem dX8_fly_139 : decode cX8_fly 139 = .ok (.iadd, 1) := by decide +kernel
theorem dX8_fly_140 : decode cX8_fly 140 = .ok (.iload 7, 2) := by decide +kernel
theorem dX8_fly_142 : decode cX8_fly 142 = .ok (.iastore, 1) := by decide +kernel
theorem dX8_fly_143 : decode cX8_fly 143 = .ok (.aload_n 0, 1) := by decide +kernel
theorem dX8_fly_144 : decode cX8_fly 144 = .ok (.getfield 7, 3) := by decide +kernel
theorem dX8_fly_147 : decode cX8_fly 147 = .ok (.sipush 146, 3) := by decide +kernel
theorem dX8_fly_150 : decode cX8_fly 150 = .ok (.dup2, 1) := by decide +kernel
theorem dX8_fly_151 : decode cX8_fly 151 = .ok (.iaload, 1) := by decide +kernel
theorem dX8_fly_152 : decode cX8_fly 152 = .ok (.iconst 1, 1) := by decide +kernel
theorem dX8_fly_153 : decode cX8_fly 153 = .ok (.iadd, 1) := by decide +kernel
theorem dX8_fly_154 : decode cX8_fly 154 = .ok (.iastore, 1) := by decide +kernel
theorem dX8_fly_155 : decode cX8_fly 155 = .ok (.aload_n 0, 1) := by decide +kernel
theorem dX8_fly_156 : decode cX8_fly 156 = .ok (.iload_n 1, 1) := by decide +kernel
theorem dX8_fly_157 : decode cX8_fly 157 = .ok (.iload 7, 2) := by decide +kernel
theorem dX8_fly_159 : decode cX8_fly 159 = .ok (.invokevirtual 68, 3) := by decide +kernel
theorem dX8_fly_162 : decode cX8_fly 162 = .ok (.istore 4, 2) := by decide +kernel
theorem dX8_fly_164 : decode cX8_fly 164 = .ok (.aload_n 0, 1) := by decide +kernel
theorem dX8_fly_165 : decode cX8_fly 165 = .ok (.iload 6, 2) := by decide +kernel
theorem dX8_fly_167 : decode cX8_fly 167 = .ok (.iload 4, 2) := by decide +kernel
theorem dX8_fly_169 : decode cX8_fly 169 = .ok (.invokevirtual 86, 3) := by decide +kernel
theorem dX8_fly_172 : decode cX8_fly 172 = .ok (.istore 6, 2) := by decide +kernel
theorem dX8_fly_174 : decode cX8_fly 174 = .ok (.iload 6, 2) := by decide +kernel
theorem dX8_fly_176 : decode cX8_fly 176 = .ok (.iload 6, 2) := by decide +kernel
theorem dX8_fly_178 : decode cX8_fly 178 = .ok (.imul, 1) := by decide +kernel
theorem dX8_fly_179 : decode cX8_fly 179 = .ok (.bipush 40, 2) := by decide +kernel
theorem dX8_fly_181 : decode cX8_fly 181 = .ok (.idiv, 1) := by decide +kernel
theorem dX8_fly_182 : decode cX8_fly 182 = .ok (.iconst 1, 1) := by decide +kernel
theorem dX8_fly_183 : decode cX8_fly 183 = .ok (.iadd, 1) := by decide +kernel
theorem dX8_fly_184 : decode cX8_fly 184 = .ok (.istore 7, 2) := by decide +kernel
theorem dX8_fly_186 : decode cX8_fly 186 = .ok (.iload 5, 2) := by decide +kernel
theorem dX8_fly_188 : decode cX8_fly 188 = .ok (.ifCond .eq 12, 3) := by decide +kernel
theorem dX8_fly_191 : decode cX8_fly 191 = .ok (.iload 7, 2) := by decide +kernel
theorem dX8_fly_193 : decode cX8_fly 193 = .ok (.iconst 3, 1) := by decide +kernel
theorem dX8_fly_194 : decode cX8_fly 194 = .ok (.imul, 1) := by decide +kernel
theorem dX8_fly_195 : decode cX8_fly 195 = .ok (.iconst 5, 1) := by decide +kernel
theorem dX8_fly_196 : decode cX8_fly 196 = .ok (.idiv, 1) := by decide +kernel
theorem dX8_fly_197 : decode cX8_fly 197 = .ok (.goto 5, 3) := by decide +kernel
theorem dX8_fly_200 : decode cX8_fly 200 = .ok (.iload 7, 2) := by decide +kernel
theorem dX8_fly_202 : decode cX8_fly 202 = .ok (.istore 7, 2) := by decide +kernel
theorem dX8_fly_204 : decode cX8_fly 204 = .ok (.aload_n 0, 1) := by decide +kernel
theorem dX8_fly_205 : decode cX8_fly 205 = .ok (.getfield 7, 3) := by decide +kernel
theorem dX8_fly_208 : decode cX8_fly 208 = .ok (.iload_n 2, 1) := by decide +kernel
theorem dX8_fly_209 : decode cX8_fly 209 = .ok (.iconst 3, 1) := by decide +kernel
theorem dX8_fly_210 : decode cX8_fly 210 = .ok (.iadd, 1) := by decide +kernel
theorem dX8_fly_211 : decode cX8_fly 211 = .ok (.iaload, 1) := by decide +kernel
theorem dX8_fly_212 : decode cX8_fly 212 = .ok (.iload 7, 2) := by decide +kernel
theorem dX8_fly_214 : decode cX8_fly 214 = .ok (.if_icmp .ge 20, 3) := by decide +kernel
theorem dX8_fly_217 : decode cX8_fly 217 = .ok (.iload 6, 2) := by decide +kernel
theorem dX8_fly_219 : decode cX8_fly 219 = .ok (.iconst 4, 1) := by decide +kernel
theorem dX8_fly_220 : decode cX8_fly 220 = .ok (.if_icmp .le 7, 3) := by decide +kernel
theorem dX8_fly_223 : decode cX8_fly 223 = .ok (.iconst 4, 1) := by decide +kernel
theorem dX8_fly_224 : decode cX8_fly 224 = .ok (.goto 5, 3) := by decide +kernel
theorem dX8_fly_227 : decode cX8_fly 227 = .ok (.iload 6, 2) := by decide +kernel
theorem dX8_fly_229 : decode cX8_fly 229 = .ok (.istore 6, 2) := by decide +kernel
theorem dX8_fly_231 : decode cX8_fly 231 = .ok (.goto 16, 3) := by decide +kernel
theorem dX8_fly_234 : decode cX8_fly 234 = .ok (.aload_n 0, 1) := by decide +kernel
theorem dX8_fly_235 : decode cX8_fly 235 = .ok (.getfield 7, 3) := by decide +kernel
theorem dX8_fly_238 : decode cX8_fly 238 = .ok (.iload_n 2, 1) := by decide +kernel
theorem dX8_fly_239 : decode cX8_fly 239 = .ok (.iconst 3, 1) := by decide +kernel
theorem dX8_fly_240 : decode cX8_fly 240 = .ok (.iadd, 1) := by decide +kernel
theorem dX8_fly_241 : decode cX8_fly 241 = .ok (.dup2, 1) := by decide +kernel
theorem dX8_fly_242 : decode cX8_fly 242 = .ok (.iaload, 1) := by decide +kernel
theorem dX8_fly_243 : decode cX8_fly 243 = .ok (.iload 7, 2) := by decide +kernel
theorem dX8_fly_245 : decode cX8_fly 245 = .ok (.isub, 1) := by decide +kernel
theorem dX8_fly_246 : decode cX8_fly 246 = .ok (.iastore, 1) := by decide +kernel
theorem dX8_fly_247 : decode cX8_fly 247 = .ok (.aload_n 0, 1) := by decide +kernel
theorem dX8_fly_248 : decode cX8_fly 248 = .ok (.getfield 7, 3) := by decide +kernel
theorem dX8_fly_251 : decode cX8_fly 251 = .ok (.iload_n 2, 1) := by decide +kernel
theorem dX8_fly_252 : decode cX8_fly 252 = .ok (.iconst 4, 1) := by decide +kernel
theorem dX8_fly_253 : decode cX8_fly 253 = .ok (.iadd, 1) := by decide +kernel
theorem dX8_fly_254 : decode cX8_fly 254 = .ok (.dup2, 1) := by decide +kernel
theorem dX8_fly_255 : decode cX8_fly 255 = .ok (.iaload, 1) := by decide +kernel
theorem dX8_fly_256 : decode cX8_fly 256 = .ok (.iload 6, 2) := by decide +kernel
theorem dX8_fly_258 : decode cX8_fly 258 = .ok (.bipush 15, 2) := by decide +kernel
theorem dX8_fly_260 : decode cX8_fly 260 = .ok (.if_icmp .lt 20, 3) := by decide +kernel
theorem dX8_fly_263 : decode cX8_fly 263 = .ok (.aload_n 0, 1) := by decide +kernel
theorem dX8_fly_264 : decode cX8_fly 264 = .ok (.getfield 7, 3) := by decide +kernel
theorem dX8_fly_267 : decode cX8_fly 267 = .ok (.iload_n 2, 1) := by decide +kernel
theorem dX8_fly_268 : decode cX8_fly 268 = .ok (.iconst 4, 1) := by decide +kernel
theorem dX8_fly_269 : decode cX8_fly 269 = .ok (.iadd, 1) := by decide +kernel
theorem dX8_fly_270 : decode cX8_fly 270 = .ok (.iaload, 1) := by decide +kernel
theorem dX8_fly_271 : decode cX8_fly 271 = .ok (.bipush 100, 2) := by decide +kernel
theorem dX8_fly_273 : decode cX8_fly 273 = .ok (.if_icmp .ge 7, 3) := by decide +kernel
theorem dX8_fly_276 : decode cX8_fly 276 = .ok (.iconst 1, 1) := by decide +kernel
theorem dX8_fly_277 : decode cX8_fly 277 = .ok (.goto 4, 3) := by decide +kernel
theorem dX8_fly_280 : decode cX8_fly 280 = .ok (.iconst 0, 1) := by decide +kernel
theorem dX8_fly_281 : decode cX8_fly 281 = .ok (.iadd, 1) := by decide +kernel
theorem dX8_fly_282 : decode cX8_fly 282 = .ok (.iastore, 1) := by decide +kernel
theorem dX8_fly_283 : decode cX8_fly 283 = .ok (.iload_n 3, 1) := by decide +kernel
theorem dX8_fly_284 : decode cX8_fly 284 = .ok (.sipush 400, 3) := by decide +kernel
theorem dX8_fly_287 : decode cX8_fly 287 = .ok (.idiv, 1) := by decide +kernel
theorem dX8_fly_288 : decode cX8_fly 288 = .ok (.iconst 1, 1) := by decide +kernel
theorem dX8_fly_289 : decode cX8_fly 289 = .ok (.iadd, 1) := by decide +kernel
theorem dX8_fly_290 : decode cX8_fly 290 = .ok (.istore 8, 2) := by decide +kernel
theorem dX8_fly_292 : decode cX8_fly 292 = .ok (.iload_n 3, 1) := by decide +kernel
theorem dX8_fly_293 : decode cX8_fly 293 = .ok (.iload 6, 2) := by decide +kernel
theorem dX8_fly_295 : decode cX8_fly 295 = .ok (.iadd, 1) := by decide +kernel
theorem dX8_fly_296 : decode cX8_fly 296 = .ok (.istore 9, 2) := by decide +kernel
theorem dX8_fly_298 : decode cX8_fly 298 = .ok (.iload 9, 2) := by decide +kernel
theorem dX8_fly_300 : decode cX8_fly 300 = .ok (.sipush 400, 3) := by decide +kernel
theorem dX8_fly_303 : decode cX8_fly 303 = .ok (.iload 8, 2) := by decide +kernel
theorem dX8_fly_305 : decode cX8_fly 305 = .ok (.imul, 1) := by decide +kernel
theorem dX8_fly_306 : decode cX8_fly 306 = .ok (.if_icmp .lt 7, 3) := by decide +kernel
theorem dX8_fly_309 : decode cX8_fly 309 = .ok (.iconst 1, 1) := by decide +kernel
theorem dX8_fly_310 : decode cX8_fly 310 = .ok (.goto 4, 3) := by decide +kernel
theorem dX8_fly_313 : decode cX8_fly 313 = .ok (.iconst 0, 1) := by decide +kernel
theorem dX8_fly_314 : decode cX8_fly 314 = .ok (.istore 10, 2) := by decide +kernel
theorem dX8_fly_316 : decode cX8_fly 316 = .ok (.iload 10, 2) := by decide +kernel
theorem dX8_fly_318 : decode cX8_fly 318 = .ok (.ifCond .eq 20, 3) := by decide +kernel
theorem dX8_fly_321 : decode cX8_fly 321 = .ok (.iload 8, 2) := by decide +kernel
theorem dX8_fly_323 : decode cX8_fly 323 = .ok (.aload_n 0, 1) := by decide +kernel
theorem dX8_fly_324 : decode cX8_fly 324 = .ok (.getfield 7, 3) := by decide +kernel
theorem dX8_fly_327 : decode cX8_fly 327 = .ok (.sipush 133, 3) := by decide +kernel
theorem dX8_fly_330 : decode cX8_fly 330 = .ok (.iaload, 1) := by decide +kernel
theorem dX8_fly_331 : decode cX8_fly 331 = .ok (.if_icmp .ne 7, 3) := by decide +kernel
theorem dX8_fly_334 : decode cX8_fly 334 = .ok (.iconst 1, 1) := by decide +kernel
theorem dX8_fly_335 : decode cX8_fly 335 = .ok (.goto 4, 3) := by decide +kernel
theorem dX8_fly_338 : decode cX8_fly 338 = .ok (.iconst 0, 1) := by decide +kernel
theorem dX8_fly_339 : decode cX8_fly 339 = .ok (.istore 11, 2) := by decide +kernel
theorem dX8_fly_341 : decode cX8_fly 341 = .ok (.iload 10, 2) := by decide +kernel
theorem dX8_fly_343 : decode cX8_fly 343 = .ok (.ifCond .eq 25, 3) := by decide +kernel
theorem dX8_fly_346 : decode cX8_fly 346 = .ok (.iload 11, 2) := by decide +kernel
theorem dX8_fly_348 : decode cX8_fly 348 = .ok (.ifCond .ne 20, 3) := by decide +kernel
theorem dX8_fly_351 : decode cX8_fly 351 = .ok (.aload_n 0, 1) := by decide +kernel
theorem dX8_fly_352 : decode cX8_fly 352 = .ok (.getfield 7, 3) := by decide +kernel
theorem dX8_fly_355 : decode cX8_fly 355 = .ok (.iload_n 2, 1) := by decide +kernel
theorem dX8_fly_356 : decode cX8_fly 356 = .ok (.bipush 9, 2) := by decide +kernel
theorem dX8_fly_358 : decode cX8_fly 358 = .ok (.iadd, 1) := by decide +kernel
theorem dX8_fly_359 : decode cX8_fly 359 = .ok (.iaload, 1) := by decide +kernel
theorem dX8_fly_360 : decode cX8_fly 360 = .ok (.iconst 1, 1) := by decide +kernel
theorem dX8_fly_361 : decode cX8_fly 361 = .ok (.if_icmp .ne 7, 3) := by decide +kernel
theorem dX8_fly_364 : decode cX8_fly 364 = .ok (.iconst 1, 1) := by decide +kernel
theorem dX8_fly_365 : decode cX8_fly 365 = .ok (.goto 4, 3) := by decide +kernel
theorem dX8_fly_368 : decode cX8_fly 368 = .ok (.iconst 0, 1) := by decide +kernel
theorem dX8_fly_369 : decode cX8_fly 369 = .ok (.istore 12, 2) := by decide +kernel
theorem dX8_fly_371 : decode cX8_fly 371 = .ok (.iload 11, 2) := by decide +kernel
theorem dX8_fly_373 : decode cX8_fly 373 = .ok (.ifCond .ne 8, 3) := by decide +kernel
theorem dX8_fly_376 : decode cX8_fly 376 = .ok (.iload 12, 2) := by decide +kernel
theorem dX8_fly_378 : decode cX8_fly 378 = .ok (.ifCond .eq 12, 3) := by decide +kernel
theorem dX8_fly_381 : decode cX8_fly 381 = .ok (.sipush 400, 3) := by decide +kernel
theorem dX8_fly_384 : decode cX8_fly 384 = .ok (.iload 8, 2) := by decide +kernel
theorem dX8_fly_386 : decode cX8_fly 386 = .ok (.imul, 1) := by decide +kernel
theorem dX8_fly_387 : decode cX8_fly 387 = .ok (.goto 5, 3) := by decide +kernel
theorem dX8_fly_390 : decode cX8_fly 390 = .ok (.iload 9, 2) := by decide +kernel
theorem dX8_fly_392 : decode cX8_fly 392 = .ok (.istore 9, 2) := by decide +kernel
theorem dX8_fly_394 : decode cX8_fly 394 = .ok (.aload_n 0, 1) := by decide +kernel
theorem dX8_fly_395 : decode cX8_fly 395 = .ok (.getfield 7, 3) := by decide +kernel
theorem dX8_fly_398 : decode cX8_fly 398 = .ok (.iload_n 2, 1) := by decide +kernel
theorem dX8_fly_399 : decode cX8_fly 399 = .ok (.bipush 7, 2) := by decide +kernel
theorem dX8_fly_401 : decode cX8_fly 401 = .ok (.iadd, 1) := by decide +kernel
theorem dX8_fly_402 : decode cX8_fly 402 = .ok (.iload 9, 2) := by decide +kernel
theorem dX8_fly_404 : decode cX8_fly 404 = .ok (.iastore, 1) := by decide +kernel
theorem dX8_fly_405 : decode cX8_fly 405 = .ok (.aload_n 0, 1) := by decide +kernel
theorem dX8_fly_406 : decode cX8_fly 406 = .ok (.getfield 7, 3) := by decide +kernel
theorem dX8_fly_409 : decode cX8_fly 409 = .ok (.iload_n 2, 1) := by decide +kernel
theorem dX8_fly_410 : decode cX8_fly 410 = .ok (.bipush 8, 2) := by decide +kernel
theorem dX8_fly_412 : decode cX8_fly 412 = .ok (.iadd, 1) := by decide +kernel
theorem dX8_fly_413 : decode cX8_fly 413 = .ok (.iload 9, 2) := by decide +kernel
theorem dX8_fly_415 : decode cX8_fly 415 = .ok (.iload_n 3, 1) := by decide +kernel
theorem dX8_fly_416 : decode cX8_fly 416 = .ok (.isub, 1) := by decide +kernel
theorem dX8_fly_417 : decode cX8_fly 417 = .ok (.iastore, 1) := by decide +kernel
theorem dX8_fly_418 : decode cX8_fly 418 = .ok (.aload_n 0, 1) := by decide +kernel
theorem dX8_fly_419 : decode cX8_fly 419 = .ok (.getfield 7, 3) := by decide +kernel
theorem dX8_fly_422 : decode cX8_fly 422 = .ok (.sipush 144, 3) := by decide +kernel
theorem dX8_fly_425 : decode cX8_fly 425 = .ok (.dup2, 1) := by decide +kernel
theorem dX8_fly_426 : decode cX8_fly 426 = .ok (.iaload, 1) := by decide +kernel
theorem dX8_fly_427 : decode cX8_fly 427 = .ok (.iload 9, 2) := by decide +kernel
theorem dX8_fly_429 : decode cX8_fly 429 = .ok (.iload_n 3, 1) := by decide +kernel
theorem dX8_fly_430 : decode cX8_fly 430 = .ok (.isub, 1) := by decide +kernel
theorem dX8_fly_431 : decode cX8_fly 431 = .ok (.iadd, 1) := by decide +kernel
theorem dX8_fly_432 : decode cX8_fly 432 = .ok (.iastore, 1) := by decide +kernel
theorem dX8_fly_433 : decode cX8_fly 433 = .ok (.iload 12, 2) := by decide +kernel
theorem dX8_fly_435 : decode cX8_fly 435 = .ok (.ifCond .eq 99, 3) := by decide +kernel
theorem dX8_fly_438 : decode cX8_fly 438 = .ok (.aload_n 0, 1) := by decide +kernel
theorem dX8_fly_439 : decode cX8_fly 439 = .ok (.getfield 7, 3) := by decide +kernel
theorem dX8_fly_442 : decode cX8_fly 442 = .ok (.iload_n 2, 1) := by decide +kernel
theorem dX8_fly_443 : decode cX8_fly 443 = .ok (.bipush 6, 2) := by decide +kernel
theorem dX8_fly_445 : decode cX8_fly 445 = .ok (.iadd, 1) := by decide +kernel
theorem dX8_fly_446 : decode cX8_fly 446 = .ok (.iconst 2, 1) := by decide +kernel
theorem dX8_fly_447 : decode cX8_fly 447 = .ok (.iastore, 1) := by decide +kernel
theorem dX8_fly_448 : decode cX8_fly 448 = .ok (.aload_n 0, 1) := by decide +kernel
theorem dX8_fly_449 : decode cX8_fly 449 = .ok (.getfield 7, 3) := by decide +kernel
theorem dX8_fly_452 : decode cX8_fly 452 = .ok (.iload_n 2, 1) := by decide +kernel
theorem dX8_fly_453 : decode cX8_fly 453 = .ok (.bipush 12, 2) := by decide +kernel
theorem dX8_fly_455 : decode cX8_fly 455 = .ok (.iadd, 1) := by decide +kernel
theorem dX8_fly_456 : decode cX8_fly 456 = .ok (.bipush 12, 2) := by decide +kernel
theorem dX8_fly_458 : decode cX8_fly 458 = .ok (.iastore, 1) := by decide +kernel
theorem dX8_fly_459 : decode cX8_fly 459 = .ok (.aload_n 0, 1) := by decide +kernel
theorem dX8_fly_460 : decode cX8_fly 460 = .ok (.getfield 7, 3) := by decide +kernel
theorem dX8_fly_463 : decode cX8_fly 463 = .ok (.iload_n 2, 1) := by decide +kernel
theorem dX8_fly_464 : decode cX8_fly 464 = .ok (.bipush 9, 2) := by decide +kernel
theorem dX8_fly_466 : decode cX8_fly 466 = .ok (.iadd, 1) := by decide +kernel
theorem dX8_fly_467 : decode cX8_fly 467 = .ok (.iconst 0, 1) := by decide +kernel
theorem dX8_fly_468 : decode cX8_fly 468 = .ok (.iastore, 1) := by decide +kernel
theorem dX8_fly_469 : decode cX8_fly 469 = .ok (.aload_n 0, 1) := by decide +kernel
theorem dX8_fly_470 : decode cX8_fly 470 = .ok (.getfield 7, 3) := by decide +kernel
theorem dX8_fly_473 : decode cX8_fly 473 = .ok (.iload_n 2, 1) := by decide +kernel
theorem dX8_fly_474 : decode cX8_fly 474 = .ok (.iconst 4, 1) := by decide +kernel
theorem dX8_fly_475 : decode cX8_fly 475 = .ok (.iadd, 1) := by decide +kernel
theorem dX8_fly_476 : decode cX8_fly 476 = .ok (.iconst 0, 1) := by decide +kernel
theorem dX8_fly_477 : decode cX8_fly 477 = .ok (.iastore, 1) := by decide +kernel
theorem dX8_fly_478 : decode cX8_fly 478 = .ok (.aload_n 0, 1) := by decide +kernel
theorem dX8_fly_479 : decode cX8_fly 479 = .ok (.getfield 7, 3) := by decide +kernel
theorem dX8_fly_482 : decode cX8_fly 482 = .ok (.iload_n 2, 1) := by decide +kernel
theorem dX8_fly_483 : decode cX8_fly 483 = .ok (.iconst 3, 1) := by decide +kernel
theorem dX8_fly_484 : decode cX8_fly 484 = .ok (.iadd, 1) := by decide +kernel
theorem dX8_fly_485 : decode cX8_fly 485 = .ok (.aload_n 0, 1) := by decide +kernel
theorem dX8_fly_486 : decode cX8_fly 486 = .ok (.getfield 7, 3) := by decide +kernel
theorem dX8_fly_489 : decode cX8_fly 489 = .ok (.iload_n 2, 1) := by decide +kernel
theorem dX8_fly_490 : decode cX8_fly 490 = .ok (.iconst 3, 1) := by decide +kernel
theorem dX8_fly_491 : decode cX8_fly 491 = .ok (.iadd, 1) := by decide +kernel
theorem dX8_fly_492 : decode cX8_fly 492 = .ok (.iaload, 1) := by decide +kernel
theorem dX8_fly_493 : decode cX8_fly 493 = .ok (.sipush 300, 3) := by decide +kernel
theorem dX8_fly_496 : decode cX8_fly 496 = .ok (.iadd, 1) := by decide +kernel
theorem dX8_fly_497 : decode cX8_fly 497 = .ok (.sipush 999, 3) := by decide +kernel
theorem dX8_fly_500 : decode cX8_fly 500 = .ok (.if_icmp .le 9, 3) := by decide +kernel
theorem dX8_fly_503 : decode cX8_fly 503 = .ok (.sipush 999, 3) := by decide +kernel
theorem dX8_fly_506 : decode cX8_fly 506 = .ok (.goto 15, 3) := by decide +kernel
theorem dX8_fly_509 : decode cX8_fly 509 = .ok (.aload_n 0, 1) := by decide +kernel
theorem dX8_fly_510 : decode cX8_fly 510 = .ok (.getfield 7, 3) := by decide +kernel
theorem dX8_fly_513 : decode cX8_fly 513 = .ok (.iload_n 2, 1) := by decide +kernel
theorem dX8_fly_514 : decode cX8_fly 514 = .ok (.iconst 3, 1) := by decide +kernel
theorem dX8_fly_515 : decode cX8_fly 515 = .ok (.iadd, 1) := by decide +kernel
theorem dX8_fly_516 : decode cX8_fly 516 = .ok (.iaload, 1) := by decide +kernel
theorem dX8_fly_517 : decode cX8_fly 517 = .ok (.sipush 300, 3) := by decide +kernel
theorem dX8_fly_520 : decode cX8_fly 520 = .ok (.iadd, 1) := by decide +kernel
theorem dX8_fly_521 : decode cX8_fly 521 = .ok (.iastore, 1) := by decide +kernel
theorem dX8_fly_522 : decode cX8_fly 522 = .ok (.aload_n 0, 1) := by decide +kernel
theorem dX8_fly_523 : decode cX8_fly 523 = .ok (.getfield 7, 3) := by decide +kernel
theorem dX8_fly_526 : decode cX8_fly 526 = .ok (.sipush 147, 3) := by decide +kernel
theorem dX8_fly_529 : decode cX8_fly 529 = .ok (.dup2, 1) := by decide +kernel
theorem dX8_fly_530 : decode cX8_fly 530 = .ok (.iaload, 1) := by decide +kernel
theorem dX8_fly_531 : decode cX8_fly 531 = .ok (.iconst 1, 1) := by decide +kernel
theorem dX8_fly_532 : decode cX8_fly 532 = .ok (.iadd, 1) := by decide +kernel
theorem dX8_fly_533 : decode cX8_fly 533 = .ok (.iastore, 1) := by decide +kernel
theorem dX8_fly_534 : decode cX8_fly 534 = .ok (.iload 11, 2) := by decide +kernel
theorem dX8_fly_536 : decode cX8_fly 536 = .ok (.ifCond .eq 101, 3) := by decide +kernel
theorem dX8_fly_539 : decode cX8_fly 539 = .ok (.aload_n 0, 1) := by decide +kernel
theorem dX8_fly_540 : decode cX8_fly 540 = .ok (.getfield 7, 3) := by decide +kernel
theorem dX8_fly_543 : decode cX8_fly 543 = .ok (.iload_n 2, 1) := by decide +kernel
theorem dX8_fly_544 : decode cX8_fly 544 = .ok (.bipush 6, 2) := by decide +kernel
theorem dX8_fly_546 : decode cX8_fly 546 = .ok (.iadd, 1) := by decide +kernel
theorem dX8_fly_547 : decode cX8_fly 547 = .ok (.iconst 3, 1) := by decide +kernel
theorem dX8_fly_548 : decode cX8_fly 548 = .ok (.iastore, 1) := by decide +kernel
theorem dX8_fly_549 : decode cX8_fly 549 = .ok (.aload_n 0, 1) := by decide +kernel
theorem dX8_fly_550 : decode cX8_fly 550 = .ok (.getfield 7, 3) := by decide +kernel
theorem dX8_fly_553 : decode cX8_fly 553 = .ok (.iload_n 2, 1) := by decide +kernel
theorem dX8_fly_554 : decode cX8_fly 554 = .ok (.bipush 11, 2) := by decide +kernel
theorem dX8_fly_556 : decode cX8_fly 556 = .ok (.iadd, 1) := by decide +kernel
theorem dX8_fly_557 : decode cX8_fly 557 = .ok (.aload_n 0, 1) := by decide +kernel
theorem dX8_fly_558 : decode cX8_fly 558 = .ok (.getfield 7, 3) := by decide +kernel
theorem dX8_fly_561 : decode cX8_fly 561 = .ok (.sipush 134, 3) := by decide +kernel
theorem dX8_fly_564 : decode cX8_fly 564 = .ok (.iaload, 1) := by decide +kernel
theorem dX8_fly_565 : decode cX8_fly 565 = .ok (.iconst 1, 1) := by decide +kernel
theorem dX8_fly_566 : decode cX8_fly 566 = .ok (.iadd, 1) := by decide +kernel
theorem dX8_fly_567 : decode cX8_fly 567 = .ok (.iastore, 1) := by decide +kernel
theorem dX8_fly_568 : decode cX8_fly 568 = .ok (.aload_n 0, 1) := by decide +kernel
theorem dX8_fly_569 : decode cX8_fly 569 = .ok (.getfield 7, 3) := by decide +kernel
theorem dX8_fly_572 : decode cX8_fly 572 = .ok (.sipush 149, 3) := by decide +kernel
theorem dX8_fly_575 : decode cX8_fly 575 = .ok (.dup2, 1) := by decide +kernel
theorem dX8_fly_576 : decode cX8_fly 576 = .ok (.iaload, 1) := by decide +kernel
theorem dX8_fly_577 : decode cX8_fly 577 = .ok (.aload_n 0, 1) := by decide +kernel
theorem dX8_fly_578 : decode cX8_fly 578 = .ok (.getfield 7, 3) := by decide +kernel
theorem dX8_fly_581 : decode cX8_fly 581 = .ok (.sipush 135, 3) := by decide +kernel
theorem dX8_fly_584 : decode cX8_fly 584 = .ok (.iaload, 1) := by decide +kernel
theorem dX8_fly_585 : decode cX8_fly 585 = .ok (.ifCond .ne 19, 3) := by decide +kernel
theorem dX8_fly_588 : decode cX8_fly 588 = .ok (.aload_n 0, 1) := by decide +kernel
theorem dX8_fly_589 : decode cX8_fly 589 = .ok (.getfield 7, 3) := by decide +kernel
theorem dX8_fly_592 : decode cX8_fly 592 = .ok (.iload_n 2, 1) := by decide +kernel
theorem dX8_fly_593 : decode cX8_fly 593 = .ok (.bipush 10, 2) := by decide +kernel
theorem dX8_fly_595 : decode cX8_fly 595 = .ok (.iadd, 1) := by decide +kernel
theorem dX8_fly_596 : decode cX8_fly 596 = .ok (.iaload, 1) := by decide +kernel
theorem dX8_fly_597 : decode cX8_fly 597 = .ok (.ifCond .le 7, 3) := by decide +kernel
theorem dX8_fly_600 : decode cX8_fly 600 = .ok (.iconst 1, 1) := by decide +kernel
theorem dX8_fly_601 : decode cX8_fly 601 = .ok (.goto 4, 3) := by decide +kernel
theorem dX8_fly_604 : decode cX8_fly 604 = .ok (.iconst 0, 1) := by decide +kernel
theorem dX8_fly_605 : decode cX8_fly 605 = .ok (.iadd, 1) := by decide +kernel
theorem dX8_fly_606 : decode cX8_fly 606 = .ok (.iastore, 1) := by decide +kernel
theorem dX8_fly_607 : decode cX8_fly 607 = .ok (.aload_n 0, 1) := by decide +kernel
theorem dX8_fly_608 : decode cX8_fly 608 = .ok (.getfield 7, 3) := by decide +kernel
theorem dX8_fly_611 : decode cX8_fly 611 = .ok (.sipush 136, 3) := by decide +kernel
theorem dX8_fly_614 : decode cX8_fly 614 = .ok (.aload_n 0, 1) := by decide +kernel
theorem dX8_fly_615 : decode cX8_fly 615 = .ok (.getfield 7, 3) := by decide +kernel
theorem dX8_fly_618 : decode cX8_fly 618 = .ok (.sipush 135, 3) := by decide +kernel
theorem dX8_fly_621 : decode cX8_fly 621 = .ok (.iaload, 1) := by decide +kernel
theorem dX8_fly_622 : decode cX8_fly 622 = .ok (.iadd, 1) := by decide +kernel
theorem dX8_fly_623 : decode cX8_fly 623 = .ok (.iload_n 1, 1) := by decide +kernel
theorem dX8_fly_624 : decode cX8_fly 624 = .ok (.iastore, 1) := by decide +kernel
theorem dX8_fly_625 : decode cX8_fly 625 = .ok (.aload_n 0, 1) := by decide +kernel
theorem dX8_fly_626 : decode cX8_fly 626 = .ok (.getfield 7, 3) := by decide +kernel
theorem dX8_fly_629 : decode cX8_fly 629 = .ok (.sipush 135, 3) := by decide +kernel
theorem dX8_fly_632 : decode cX8_fly 632 = .ok (.dup2, 1) := by decide +kernel
theorem dX8_fly_633 : decode cX8_fly 633 = .ok (.iaload, 1) := by decide +kernel
theorem dX8_fly_634 : decode cX8_fly 634 = .ok (.iconst 1, 1) := by decide +kernel
theorem dX8_fly_635 : decode cX8_fly 635 = .ok (.iadd, 1) := by decide +kernel
theorem dX8_fly_636 : decode cX8_fly 636 = .ok (.iastore, 1) := by decide +kernel
theorem dX8_fly_637 : decode cX8_fly 637 = .ok (.iload 11, 2) := by decide +kernel
theorem dX8_fly_639 : decode cX8_fly 639 = .ok (.ireturn, 1) := by decide +kernel
theorem dX8_second_0 : decode cX8_second 0 = .ok (.aload_n 0, 1) := by decide +kernel
