theorem dX8_gapAhead_10 : decode cX8_gapAhead 10 = .ok (.goto 4, 3) := by decide +kernel
theorem dX8_gapAhead_13 : decode cX8_gapAhead 13 = .ok (.iconst 1, 1) := by decide +kernel
theorem dX8_gapAhead_14 : decode cX8_gapAhead 14 = .ok (.invokevirtual 96, 3) := by decide +kernel
theorem dX8_gapAhead_17 : decode cX8_gapAhead 17 = .ok (.ifCond .eq 7, 3) := by decide +kernel
theorem dX8_gapAhead_20 : decode cX8_gapAhead 20 = .ok (.iconst 0, 1) := by decide +kernel
theorem dX8_gapAhead_21 : decode cX8_gapAhead 21 = .ok (.goto 14, 3) := by decide +kernel
theorem dX8_gapAhead_24 : decode cX8_gapAhead 24 = .ok (.aload_n 0, 1) := by decide +kernel
theorem dX8_gapAhead_25 : decode cX8_gapAhead 25 = .ok (.iload_n 1, 1) := by decide +kernel
theorem dX8_gapAhead_26 : decode cX8_gapAhead 26 = .ok (.aload_n 0, 1) := by decide +kernel
theorem dX8_gapAhead_27 : decode cX8_gapAhead 27 = .ok (.iload_n 1, 1) := by decide +kernel
theorem dX8_gapAhead_28 : decode cX8_gapAhead 28 = .ok (.iconst 5, 1) := by decide +kernel
theorem dX8_gapAhead_29 : decode cX8_gapAhead 29 = .ok (.invokevirtual 40, 3) := by decide +kernel
theorem dX8_gapAhead_32 : decode cX8_gapAhead 32 = .ok (.invokevirtual 68, 3) := by decide +kernel
theorem dX8_gapAhead_35 : decode cX8_gapAhead 35 = .ok (.ireturn, 1) := by decide +kernel
theorem dX8_isIdle_0 : decode cX8_isIdle 0 = .ok (.aload_n 0, 1) := by decide +kernel
theorem dX8_isIdle_1 : decode cX8_isIdle 1 = .ok (.aload_n 0, 1) := by decide +kernel
theorem dX8_isIdle_2 : decode cX8_isIdle 2 = .ok (.iload_n 1, 1) := by decide +kernel
theorem dX8_isIdle_3 : decode cX8_isIdle 3 = .ok (.invokevirtual 102, 3) := by decide +kernel
theorem dX8_isIdle_6 : decode cX8_isIdle 6 = .ok (.ifCond .ne 7, 3) := by decide +kernel
theorem dX8_isIdle_9 : decode cX8_isIdle 9 = .ok (.iconst 1, 1) := by decide +kernel
theorem dX8_isIdle_10 : decode cX8_isIdle 10 = .ok (.goto 16, 3) := by decide +kernel
theorem dX8_isIdle_13 : decode cX8_isIdle 13 = .ok (.aload_n 0, 1) := by decide +kernel
theorem dX8_isIdle_14 : decode cX8_isIdle 14 = .ok (.iload_n 1, 1) := by decide +kernel
theorem dX8_isIdle_15 : decode cX8_isIdle 15 = .ok (.invokevirtual 62, 3) := by decide +kernel
theorem dX8_isIdle_18 : decode cX8_isIdle 18 = .ok (.ifCond .eq 7, 3) := by decide +kernel
theorem dX8_isIdle_21 : decode cX8_isIdle 21 = .ok (.iconst 0, 1) := by decide +kernel
theorem dX8_isIdle_22 : decode cX8_isIdle 22 = .ok (.goto 4, 3) := by decide +kernel
theorem dX8_isIdle_25 : decode cX8_isIdle 25 = .ok (.iconst 2, 1) := by decide +kernel
theorem dX8_isIdle_26 : decode cX8_isIdle 26 = .ok (.invokevirtual 96, 3) := by decide +kernel
theorem dX8_isIdle_29 : decode cX8_isIdle 29 = .ok (.ireturn, 1) := by decide +kernel
theorem dX8_isDrafting_0 : decode cX8_isDrafting 0 = .ok (.aload_n 0, 1) := by decide +kernel
theorem dX8_isDrafting_1 : decode cX8_isDrafting 1 = .ok (.iload_n 1, 1) := by decide +kernel
theorem dX8_isDrafting_2 : decode cX8_isDrafting 2 = .ok (.invokevirtual 181, 3) := by decide +kernel
theorem dX8_isDrafting_5 : decode cX8_isDrafting 5 = .ok (.ifCond .ne 15, 3) := by decide +kernel
theorem dX8_isDrafting_8 : decode cX8_isDrafting 8 = .ok (.aload_n 0, 1) := by decide +kernel
theorem dX8_isDrafting_9 : decode cX8_isDrafting 9 = .ok (.iload_n 1, 1) := by decide +kernel
theorem dX8_isDrafting_10 : decode cX8_isDrafting 10 = .ok (.invokevirtual 74, 3) := by decide +kernel
theorem dX8_isDrafting_13 : decode cX8_isDrafting 13 = .ok (.ifCond .eq 7, 3) := by decide +kernel
theorem dX8_isDrafting_16 : decode cX8_isDrafting 16 = .ok (.iconst 1, 1) := by decide +kernel
theorem dX8_isDrafting_17 : decode cX8_isDrafting 17 = .ok (.goto 4, 3) := by decide +kernel
theorem dX8_isDrafting_20 : decode cX8_isDrafting 20 = .ok (.iconst 0, 1) := by decide +kernel
theorem dX8_isDrafting_21 : decode cX8_isDrafting 21 = .ok (.ireturn, 1) := by decide +kernel
theorem dX8_whereIs_0 : decode cX8_whereIs 0 = .ok (.aload_n 0, 1) := by decide +kernel
theorem dX8_whereIs_1 : decode cX8_whereIs 1 = .ok (.aload_n 0, 1) := by decide +kernel
theorem dX8_whereIs_2 : decode cX8_whereIs 2 = .ok (.iload_n 1, 1) := by decide +kernel
theorem dX8_whereIs_3 : decode cX8_whereIs 3 = .ok (.invokevirtual 102, 3) := by decide +kernel
theorem dX8_whereIs_6 : decode cX8_whereIs 6 = .ok (.ifCond .eq 7, 3) := by decide +kernel
theorem dX8_whereIs_9 : decode cX8_whereIs 9 = .ok (.iconst 0, 1) := by decide +kernel
theorem dX8_whereIs_10 : decode cX8_whereIs 10 = .ok (.goto 4, 3) := by decide +kernel
theorem dX8_whereIs_13 : decode cX8_whereIs 13 = .ok (.iconst 1, 1) := by decide +kernel
theorem dX8_whereIs_14 : decode cX8_whereIs 14 = .ok (.invokevirtual 96, 3) := by decide +kernel
theorem dX8_whereIs_17 : decode cX8_whereIs 17 = .ok (.ifCond .eq 7, 3) := by decide +kernel
theorem dX8_whereIs_20 : decode cX8_whereIs 20 = .ok (.iconst 0, 1) := by decide +kernel
theorem dX8_whereIs_21 : decode cX8_whereIs 21 = .ok (.goto 8, 3) := by decide +kernel
theorem dX8_whereIs_24 : decode cX8_whereIs 24 = .ok (.aload_n 0, 1) := by decide +kernel
theorem dX8_whereIs_25 : decode cX8_whereIs 25 = .ok (.iload_n 1, 1) := by decide +kernel
theorem dX8_whereIs_26 : decode cX8_whereIs 26 = .ok (.invokevirtual 71, 3) := by decide +kernel
theorem dX8_whereIs_29 : decode cX8_whereIs 29 = .ok (.ireturn, 1) := by decide +kernel
theorem dX8_allowance_0 : decode cX8_allowance 0 = .ok (.aload_n 0, 1) := by decide +kernel
theorem dX8_allowance_1 : decode cX8_allowance 1 = .ok (.iload_n 1, 1) := by decide +kernel
theorem dX8_allowance_2 : decode cX8_allowance 2 = .ok (.invokevirtual 181, 3) := by decide +kernel
theorem dX8_allowance_5 : decode cX8_allowance 5 = .ok (.ifCond .eq 7, 3) := by decide +kernel
theorem dX8_allowance_8 : decode cX8_allowance 8 = .ok (.iconst 0, 1) := by decide +kernel
theorem dX8_allowance_9 : decode cX8_allowance 9 = .ok (.goto 8, 3) := by decide +kernel
theorem dX8_allowance_12 : decode cX8_allowance 12 = .ok (.aload_n 0, 1) := by decide +kernel
theorem dX8_allowance_13 : decode cX8_allowance 13 = .ok (.iload_n 1, 1) := by decide +kernel
theorem dX8_allowance_14 : decode cX8_allowance 14 = .ok (.invokevirtual 77, 3) := by decide +kernel
theorem dX8_allowance_17 : decode cX8_allowance 17 = .ok (.ireturn, 1) := by decide +kernel
theorem dX8_flownIn_0 : decode cX8_flownIn 0 = .ok (.aload_n 0, 1) := by decide +kernel
theorem dX8_flownIn_1 : decode cX8_flownIn 1 = .ok (.invokevirtual 163, 3) := by decide +kernel
theorem dX8_flownIn_4 : decode cX8_flownIn 4 = .ok (.aload_n 0, 1) := by decide +kernel
theorem dX8_flownIn_5 : decode cX8_flownIn 5 = .ok (.iload_n 2, 1) := by decide +kernel
theorem dX8_flownIn_6 : decode cX8_flownIn 6 = .ok (.invokevirtual 118, 3) := by decide +kernel
theorem dX8_flownIn_9 : decode cX8_flownIn 9 = .ok (.istore_n 3, 1) := by decide +kernel
theorem dX8_flownIn_10 : decode cX8_flownIn 10 = .ok (.aload_n 0, 1) := by decide +kernel
theorem dX8_flownIn_11 : decode cX8_flownIn 11 = .ok (.iload_n 1, 1) := by decide +kernel
theorem dX8_flownIn_12 : decode cX8_flownIn 12 = .ok (.bipush 7, 2) := by decide +kernel
theorem dX8_flownIn_14 : decode cX8_flownIn 14 = .ok (.invokevirtual 40, 3) := by decide +kernel
theorem dX8_flownIn_17 : decode cX8_flownIn 17 = .ok (.istore 4, 2) := by decide +kernel
theorem dX8_flownIn_19 : decode cX8_flownIn 19 = .ok (.aload_n 0, 1) := by decide +kernel
theorem dX8_flownIn_20 : decode cX8_flownIn 20 = .ok (.invokevirtual 169, 3) := by decide +kernel
theorem dX8_flownIn_23 : decode cX8_flownIn 23 = .ok (.iload 4, 2) := by decide +kernel
theorem dX8_flownIn_25 : decode cX8_flownIn 25 = .ok (.ireturn, 1) := by decide +kernel
theorem dX8_wouldFly_0 : decode cX8_wouldFly 0 = .ok (.aload_n 0, 1) := by decide +kernel
theorem dX8_wouldFly_1 : decode cX8_wouldFly 1 = .ok (.aload_n 0, 1) := by decide +kernel
theorem dX8_wouldFly_2 : decode cX8_wouldFly 2 = .ok (.iload_n 1, 1) := by decide +kernel
theorem dX8_wouldFly_3 : decode cX8_wouldFly 3 = .ok (.invokevirtual 102, 3) := by decide +kernel
theorem dX8_wouldFly_6 : decode cX8_wouldFly 6 = .ok (.ifCond .ne 7, 3) := by decide +kernel
theorem dX8_wouldFly_9 : decode cX8_wouldFly 9 = .ok (.iconst 1, 1) := by decide +kernel
theorem dX8_wouldFly_10 : decode cX8_wouldFly 10 = .ok (.goto 35, 3) := by decide +kernel
theorem dX8_wouldFly_13 : decode cX8_wouldFly 13 = .ok (.iload_n 2, 1) := by decide +kernel
theorem dX8_wouldFly_14 : decode cX8_wouldFly 14 = .ok (.iconst 1, 1) := by decide +kernel
theorem dX8_wouldFly_15 : decode cX8_wouldFly 15 = .ok (.sipush 200, 3) := by decide +kernel
theorem dX8_wouldFly_18 : decode cX8_wouldFly 18 = .ok (.invokestatic 36, 3) := by decide +kernel
theorem dX8_wouldFly_21 : decode cX8_wouldFly 21 = .ok (.ifCond .ne 7, 3) := by decide +kernel
theorem dX8_wouldFly_24 : decode cX8_wouldFly 24 = .ok (.iconst 2, 1) := by decide +kernel
theorem dX8_wouldFly_25 : decode cX8_wouldFly 25 = .ok (.goto 20, 3) := by decide +kernel
theorem dX8_wouldFly_28 : decode cX8_wouldFly 28 = .ok (.aload_n 0, 1) := by decide +kernel
theorem dX8_wouldFly_29 : decode cX8_wouldFly 29 = .ok (.getfield 7, 3) := by decide +kernel
theorem dX8_wouldFly_32 : decode cX8_wouldFly 32 = .ok (.sipush 150, 3) := by decide +kernel
theorem dX8_wouldFly_35 : decode cX8_wouldFly 35 = .ok (.iaload, 1) := by decide +kernel
theorem dX8_wouldFly_36 : decode cX8_wouldFly 36 = .ok (.iconst 1, 1) := by decide +kernel
theorem dX8_wouldFly_37 : decode cX8_wouldFly 37 = .ok (.if_icmp .ne 7, 3) := by decide +kernel
theorem dX8_wouldFly_40 : decode cX8_wouldFly 40 = .ok (.iconst 0, 1) := by decide +kernel
theorem dX8_wouldFly_41 : decode cX8_wouldFly 41 = .ok (.goto 4, 3) := by decide +kernel
theorem dX8_wouldFly_44 : decode cX8_wouldFly 44 = .ok (.iconst 3, 1) := by decide +kernel
theorem dX8_wouldFly_45 : decode cX8_wouldFly 45 = .ok (.invokevirtual 96, 3) := by decide +kernel
theorem dX8_wouldFly_48 : decode cX8_wouldFly 48 = .ok (.ifCond .eq 7, 3) := by decide +kernel
theorem dX8_wouldFly_51 : decode cX8_wouldFly 51 = .ok (.iconst 0, 1) := by decide +kernel
theorem dX8_wouldFly_52 : decode cX8_wouldFly 52 = .ok (.goto 9, 3) := by decide +kernel
theorem dX8_wouldFly_55 : decode cX8_wouldFly 55 = .ok (.aload_n 0, 1) := by decide +kernel
theorem dX8_wouldFly_56 : decode cX8_wouldFly 56 = .ok (.iload_n 1, 1) := by decide +kernel
theorem dX8_wouldFly_57 : decode cX8_wouldFly 57 = .ok (.iload_n 2, 1) := by decide +kernel
theorem dX8_wouldFly_58 : decode cX8_wouldFly 58 = .ok (.invokevirtual 184, 3) := by decide +kernel
theorem dX8_wouldFly_61 : decode cX8_wouldFly 61 = .ok (.ireturn, 1) := by decide +kernel
theorem dX8_nextIn_0 : decode cX8_nextIn 0 = .ok (.aload_n 0, 1) := by decide +kernel
theorem dX8_nextIn_1 : decode cX8_nextIn 1 = .ok (.getfield 7, 3) := by decide +kernel
theorem dX8_nextIn_4 : decode cX8_nextIn 4 = .ok (.sipush 150, 3) := by decide +kernel
theorem dX8_nextIn_7 : decode cX8_nextIn 7 = .ok (.iaload, 1) := by decide +kernel
theorem dX8_nextIn_8 : decode cX8_nextIn 8 = .ok (.ifCond .ne 5, 3) := by decide +kernel
theorem dX8_nextIn_11 : decode cX8_nextIn 11 = .ok (.iconst 0, 1) := by decide +kernel
theorem dX8_nextIn_12 : decode cX8_nextIn 12 = .ok (.ireturn, 1) := by decide +kernel
theorem dX8_nextIn_13 : decode cX8_nextIn 13 = .ok (.aload_n 0, 1) := by decide +kernel
theorem dX8_nextIn_14 : decode cX8_nextIn 14 = .ok (.invokevirtual 163, 3) := by decide +kernel
theorem dX8_nextIn_17 : decode cX8_nextIn 17 = .ok (.iconst 0, 1) := by decide +kernel
theorem dX8_nextIn_18 : decode cX8_nextIn 18 = .ok (.istore_n 1, 1) := by decide +kernel
theorem dX8_nextIn_19 : decode cX8_nextIn 19 = .ok (.iconst 0, 1) := by decide +kernel
theorem dX8_nextIn_20 : decode cX8_nextIn 20 = .ok (.istore_n 2, 1) := by decide +kernel
theorem dX8_nextIn_21 : decode cX8_nextIn 21 = .ok (.iload_n 1, 1) := by decide +kernel
theorem dX8_nextIn_22 : decode cX8_nextIn 22 = .ok (.sipush 2000, 3) := by decide +kernel
theorem dX8_nextIn_25 : decode cX8_nextIn 25 = .ok (.if_icmp .ge 26, 3) := by decide +kernel
theorem dX8_nextIn_28 : decode cX8_nextIn 28 = .ok (.iload_n 2, 1) := by decide +kernel
theorem dX8_nextIn_29 : decode cX8_nextIn 29 = .ok (.ifCond .ne 22, 3) := by decide +kernel
theorem dX8_nextIn_32 : decode cX8_nextIn 32 = .ok (.aload_n 0, 1) := by decide +kernel
theorem dX8_nextIn_33 : decode cX8_nextIn 33 = .ok (.invokevirtual 92, 3) := by decide +kernel
theorem dX8_nextIn_36 : decode cX8_nextIn 36 = .ok (.ifCond .le 7, 3) := by decide +kernel
theorem dX8_nextIn_39 : decode cX8_nextIn 39 = .ok (.iconst 1, 1) := by decide +kernel
theorem dX8_nextIn_40 : decode cX8_nextIn 40 = .ok (.goto 4, 3) := by decide +kernel
theorem dX8_nextIn_43 : decode cX8_nextIn 43 = .ok (.iconst 0, 1) := by decide +kernel
theorem dX8_nextIn_44 : decode cX8_nextIn 44 = .ok (.istore_n 2, 1) := by decide +kernel
theorem dX8_nextIn_45 : decode cX8_nextIn 45 = .ok (.iinc 1 1, 3) := by decide +kernel
theorem dX8_nextIn_48 : decode cX8_nextIn 48 = .ok (.goto (-27), 3) := by decide +kernel
theorem dX8_nextIn_51 : decode cX8_nextIn 51 = .ok (.aload_n 0, 1) := by decide +kernel
theorem dX8_nextIn_52 : decode cX8_nextIn 52 = .ok (.aload_n 0, 1) := by decide +kernel
theorem dX8_nextIn_53 : decode cX8_nextIn 53 = .ok (.getfield 7, 3) := by decide +kernel
theorem dX8_nextIn_56 : decode cX8_nextIn 56 = .ok (.sipush 136, 3) := by decide +kernel
theorem dX8_nextIn_59 : decode cX8_nextIn 59 = .ok (.iaload, 1) := by decide +kernel
theorem dX8_nextIn_60 : decode cX8_nextIn 60 = .ok (.putfield 187, 3) := by decide +kernel
theorem dX8_nextIn_63 : decode cX8_nextIn 63 = .ok (.aload_n 0, 1) := by decide +kernel
theorem dX8_nextIn_64 : decode cX8_nextIn 64 = .ok (.invokevirtual 169, 3) := by decide +kernel
theorem dX8_nextIn_67 : decode cX8_nextIn 67 = .ok (.iload_n 2, 1) := by decide +kernel
theorem dX8_nextIn_68 : decode cX8_nextIn 68 = .ok (.ifCond .eq 7, 3) := by decide +kernel
theorem dX8_nextIn_71 : decode cX8_nextIn 71 = .ok (.iload_n 1, 1) := by decide +kernel
theorem dX8_nextIn_72 : decode cX8_nextIn 72 = .ok (.goto 4, 3) := by decide +kernel
theorem dX8_nextIn_75 : decode cX8_nextIn 75 = .ok (.iconst 0, 1) := by decide +kernel
theorem dX8_nextIn_76 : decode cX8_nextIn 76 = .ok (.ireturn, 1) := by decide +kernel
theorem dX8_first_0 : decode cX8_first 0 = .ok (.aload_n 0, 1) := by decide +kernel
theorem dX8_first_1 : decode cX8_first 1 = .ok (.getfield 7, 3) := by decide +kernel
theorem dX8_first_4 : decode cX8_first 4 = .ok (.sipush 135, 3) := by decide +kernel
theorem dX8_first_7 : decode cX8_first 7 = .ok (.iaload, 1) := by decide +kernel
theorem dX8_first_8 : decode cX8_first 8 = .ok (.ifCond .gt 10, 3) := by decide +kernel
theorem dX8_first_11 : decode cX8_first 11 = .ok (.aload_n 0, 1) := by decide +kernel
theorem dX8_first_12 : decode cX8_first 12 = .ok (.invokevirtual 190, 3) := by decide +kernel
theorem dX8_first_15 : decode cX8_first 15 = .ok (.ifCond .ne 7, 3) := by decide +kernel
theorem dX8_first_18 : decode cX8_first 18 = .ok (.iconst 0, 1) := by decide +kernel
theorem dX8_first_19 : decode cX8_first 19 = .ok (.goto 9, 3) := by decide +kernel
theorem dX8_first_22 : decode cX8_first 22 = .ok (.aload_n 0, 1) := by decide +kernel
theorem dX8_first_23 : decode cX8_first 23 = .ok (.getfield 187, 3) := by decide +kernel
theorem dX8_first_26 : decode cX8_first 26 = .ok (.iconst 1, 1) := by decide +kernel
theorem dX8_first_27 : decode cX8_first 27 = .ok (.iadd, 1) := by decide +kernel
theorem dX8_first_28 : decode cX8_first 28 = .ok (.ireturn, 1) := by decide +kernel
theorem dX8_wouldWin_0 : decode cX8_wouldWin 0 = .ok (.aload_n 0, 1) := by decide +kernel
theorem dX8_wouldWin_1 : decode cX8_wouldWin 1 = .ok (.invokevirtual 193, 3) := by decide +kernel
theorem dX8_wouldWin_4 : decode cX8_wouldWin 4 = .ok (.istore_n 1, 1) := by decide +kernel
theorem dX8_wouldWin_5 : decode cX8_wouldWin 5 = .ok (.aload_n 0, 1) := by decide +kernel
theorem dX8_wouldWin_6 : decode cX8_wouldWin 6 = .ok (.iload_n 1, 1) := by decide +kernel
theorem dX8_wouldWin_7 : decode cX8_wouldWin 7 = .ok (.ifCond .ne 7, 3) := by decide +kernel
theorem dX8_wouldWin_10 : decode cX8_wouldWin 10 = .ok (.iconst 1, 1) := by decide +kernel
theorem dX8_wouldWin_11 : decode cX8_wouldWin 11 = .ok (.goto 4, 3) := by decide +kernel
theorem dX8_wouldWin_14 : decode cX8_wouldWin 14 = .ok (.iconst 0, 1) := by decide +kernel
theorem dX8_wouldWin_15 : decode cX8_wouldWin 15 = .ok (.invokevirtual 96, 3) := by decide +kernel
theorem dX8_wouldWin_18 : decode cX8_wouldWin 18 = .ok (.ifCond .eq 7, 3) := by decide +kernel
theorem dX8_wouldWin_21 : decode cX8_wouldWin 21 = .ok (.iconst 0, 1) := by decide +kernel
theorem dX8_wouldWin_22 : decode cX8_wouldWin 22 = .ok (.goto 6, 3) := by decide +kernel
theorem dX8_wouldWin_25 : decode cX8_wouldWin 25 = .ok (.iload_n 1, 1) := by decide +kernel
theorem dX8_wouldWin_26 : decode cX8_wouldWin 26 = .ok (.iconst 1, 1) := by decide +kernel
theorem dX8_wouldWin_27 : decode cX8_wouldWin 27 = .ok (.isub, 1) := by decide +kernel
theorem dX8_wouldWin_28 : decode cX8_wouldWin 28 = .ok (.ireturn, 1) := by decide +kernel
theorem dX8_secondsToNext_0 : decode cX8_secondsToNext 0 = .ok (.aload_n 0, 1) := by decide +kernel
theorem dX8_secondsToNext_1 : decode cX8_secondsToNext 1 = .ok (.invokevirtual 190, 3) := by decide +kernel
theorem dX8_secondsToNext_4 : decode cX8_secondsToNext 4 = .ok (.istore_n 1, 1) := by decide +kernel
theorem dX8_secondsToNext_5 : decode cX8_secondsToNext 5 = .ok (.aload_n 0, 1) := by decide +kernel
theorem dX8_secondsToNext_6 : decode cX8_secondsToNext 6 = .ok (.iload_n 1, 1) := by decide +kernel
theorem dX8_secondsToNext_7 : decode cX8_secondsToNext 7 = .ok (.ifCond .ne 7, 3) := by decide +kernel
theorem dX8_secondsToNext_10 : decode cX8_secondsToNext 10 = .ok (.iconst 1, 1) := by decide +kernel
theorem dX8_secondsToNext_11 : decode cX8_secondsToNext 11 = .ok (.goto 4, 3) := by decide +kernel
theorem dX8_secondsToNext_14 : decode cX8_secondsToNext 14 = .ok (.iconst 0, 1) := by decide +kernel
theorem dX8_secondsToNext_15 : decode cX8_secondsToNext 15 = .ok (.invokevirtual 96, 3) := by decide +kernel
theorem dX8_secondsToNext_18 : decode cX8_secondsToNext 18 = .ok (.ifCond .eq 7, 3) := by decide +kernel
theorem dX8_secondsToNext_21 : decode cX8_secondsToNext 21 = .ok (.iconst 0, 1) := by decide +kernel
theorem dX8_secondsToNext_22 : decode cX8_secondsToNext 22 = .ok (.goto 4, 3) := by decide +kernel
theorem dX8_secondsToNext_25 : decode cX8_secondsToNext 25 = .ok (.iload_n 1, 1) := by decide +kernel
theorem dX8_secondsToNext_26 : decode cX8_secondsToNext 26 = .ok (.ireturn, 1) := by decide +kernel
theorem dX8_flownAt_0 : decode cX8_flownAt 0 = .ok (.aload_n 0, 1) := by decide +kernel
theorem dX8_flownAt_1 : decode cX8_flownAt 1 = .ok (.iload_n 1, 1) := by decide +kernel
theorem dX8_flownAt_2 : decode cX8_flownAt 2 = .ok (.iconst 0, 1) := by decide +kernel
theorem dX8_flownAt_3 : decode cX8_flownAt 3 = .ok (.invokevirtual 40, 3) := by decide +kernel
theorem dX8_flownAt_6 : decode cX8_flownAt 6 = .ok (.istore_n 3, 1) := by decide +kernel
theorem dX8_flownAt_7 : decode cX8_flownAt 7 = .ok (.aload_n 0, 1) := by decide +kernel
theorem dX8_flownAt_8 : decode cX8_flownAt 8 = .ok (.getfield 7, 3) := by decide +kernel
theorem dX8_flownAt_11 : decode cX8_flownAt 11 = .ok (.bipush 16, 2) := by decide +kernel
theorem dX8_flownAt_13 : decode cX8_flownAt 13 = .ok (.iload_n 1, 1) := by decide +kernel
theorem dX8_flownAt_14 : decode cX8_flownAt 14 = .ok (.imul, 1) := by decide +kernel
theorem dX8_flownAt_15 : decode cX8_flownAt 15 = .ok (.iload_n 2, 1) := by decide +kernel
theorem dX8_flownAt_16 : decode cX8_flownAt 16 = .ok (.iastore, 1) := by decide +kernel
theorem dX8_flownAt_17 : decode cX8_flownAt 17 = .ok (.aload_n 0, 1) := by decide +kernel
theorem dX8_flownAt_18 : decode cX8_flownAt 18 = .ok (.iload_n 1, 1) := by decide +kernel
theorem dX8_flownAt_19 : decode cX8_flownAt 19 = .ok (.bipush 50, 2) := by decide +kernel
theorem dX8_flownAt_21 : decode cX8_flownAt 21 = .ok (.invokevirtual 184, 3) := by decide +kernel
theorem dX8_flownAt_24 : decode cX8_flownAt 24 = .ok (.istore 4, 2) := by decide +kernel
theorem dX8_flownAt_26 : decode cX8_flownAt 26 = .ok (.aload_n 0, 1) := by decide +kernel
theorem dX8_flownAt_27 : decode cX8_flownAt 27 = .ok (.getfield 7, 3) := by decide +kernel
theorem dX8_flownAt_30 : decode cX8_flownAt 30 = .ok (.bipush 16, 2) := by decide +kernel
theorem dX8_flownAt_32 : decode cX8_flownAt 32 = .ok (.iload_n 1, 1) := by decide +kernel
theorem dX8_flownAt_33 : decode cX8_flownAt 33 = .ok (.imul, 1) := by decide +kernel
theorem dX8_flownAt_34 : decode cX8_flownAt 34 = .ok (.iload_n 3, 1) := by decide +kernel
theorem dX8_flownAt_35 : decode cX8_flownAt 35 = .ok (.iastore, 1) := by decide +kernel
theorem dX8_flownAt_36 : decode cX8_flownAt 36 = .ok (.iload 4, 2) := by decide +kernel
theorem dX8_flownAt_38 : decode cX8_flownAt 38 = .ok (.ireturn, 1) := by decide +kernel
theorem dX8_flownWithPace_0 : decode cX8_flownWithPace 0 = .ok (.aload_n 0, 1) := by decide +kernel
theorem dX8_flownWithPace_1 : decode cX8_flownWithPace 1 = .ok (.aload_n 0, 1) := by decide +kernel
theorem dX8_flownWithPace_2 : decode cX8_flownWithPace 2 = .ok (.iload_n 1, 1) := by decide +kernel
theorem dX8_flownWithPace_3 : decode cX8_flownWithPace 3 = .ok (.invokevirtual 102, 3) := by decide +kernel
theorem dX8_flownWithPace_6 : decode cX8_flownWithPace 6 = .ok (.ifCond .ne 7, 3) := by decide +kernel
theorem dX8_flownWithPace_9 : decode cX8_flownWithPace 9 = .ok (.iconst 1, 1) := by decide +kernel
theorem dX8_flownWithPace_10 : decode cX8_flownWithPace 10 = .ok (.goto 35, 3) := by decide +kernel
theorem dX8_flownWithPace_13 : decode cX8_flownWithPace 13 = .ok (.iload_n 2, 1) := by decide +kernel
theorem dX8_flownWithPace_14 : decode cX8_flownWithPace 14 = .ok (.bipush 10, 2) := by decide +kernel
theorem dX8_flownWithPace_16 : decode cX8_flownWithPace 16 = .ok (.bipush 40, 2) := by decide +kernel
theorem dX8_flownWithPace_18 : decode cX8_flownWithPace 18 = .ok (.invokestatic 36, 3) := by decide +kernel
theorem dX8_flownWithPace_21 : decode cX8_flownWithPace 21 = .ok (.ifCond .ne 7, 3) := by decide +kernel
theorem dX8_flownWithPace_24 : decode cX8_flownWithPace 24 = .ok (.iconst 2, 1) := by decide +kernel
theorem dX8_flownWithPace_25 : decode cX8_flownWithPace 25 = .ok (.goto 20, 3) := by decide +kernel
theorem dX8_flownWithPace_28 : decode cX8_flownWithPace 28 = .ok (.aload_n 0, 1) := by decide +kernel
theorem dX8_flownWithPace_29 : decode cX8_flownWithPace 29 = .ok (.getfield 7, 3) := by decide +kernel
theorem dX8_flownWithPace_32 : decode cX8_flownWithPace 32 = .ok (.sipush 150, 3) := by decide +kernel
theorem dX8_flownWithPace_35 : decode cX8_flownWithPace 35 = .ok (.iaload, 1) := by decide +kernel
theorem dX8_flownWithPace_36 : decode cX8_flownWithPace 36 = .ok (.iconst 1, 1) := by decide +kernel
theorem dX8_flownWithPace_37 : decode cX8_flownWithPace 37 = .ok (.if_icmp .ne 7, 3) := by decide +kernel
theorem dX8_flownWithPace_40 : decode cX8_flownWithPace 40 = .ok (.iconst 0, 1) := by decide +kernel
theorem dX8_flownWithPace_41 : decode cX8_flownWithPace 41 = .ok (.goto 4, 3) := by decide +kernel
theorem dX8_flownWithPace_44 : decode cX8_flownWithPace 44 = .ok (.iconst 3, 1) := by decide +kernel
theorem dX8_flownWithPace_45 : decode cX8_flownWithPace 45 = .ok (.invokevirtual 96, 3) := by decide +kernel
theorem dX8_flownWithPace_48 : decode cX8_flownWithPace 48 = .ok (.ifCond .eq 7, 3) := by decide +kernel
theorem dX8_flownWithPace_51 : decode cX8_flownWithPace 51 = .ok (.iconst 0, 1) := by decide +kernel
theorem dX8_flownWithPace_52 : decode cX8_flownWithPace 52 = .ok (.goto 9, 3) := by decide +kernel
theorem dX8_flownWithPace_55 : decode cX8_flownWithPace 55 = .ok (.aload_n 0, 1) := by decide +kernel
theorem dX8_flownWithPace_56 : decode cX8_flownWithPace 56 = .ok (.iload_n 1, 1) := by decide +kernel
theorem dX8_flownWithPace_57 : decode cX8_flownWithPace 57 = .ok (.iload_n 2, 1) := by decide +kernel
theorem dX8_flownWithPace_58 : decode cX8_flownWithPace 58 = .ok (.invokevirtual 196, 3) := by decide +kernel
theorem dX8_flownWithPace_61 : decode cX8_flownWithPace 61 = .ok (.ireturn, 1) := by decide +kernel
theorem dX8_best_0 : decode cX8_best 0 = .ok (.bipush 10, 2) := by decide +kernel
theorem dX8_best_2 : decode cX8_best 2 = .ok (.istore_n 2, 1) := by decide +kernel
theorem dX8_best_3 : decode cX8_best 3 = .ok (.aload_n 0, 1) := by decide +kernel
theorem dX8_best_4 : decode cX8_best 4 = .ok (.iload_n 1, 1) := by decide +kernel
theorem dX8_best_5 : decode cX8_best 5 = .ok (.bipush 10, 2) := by decide +kernel
theorem dX8_best_7 : decode cX8_best 7 = .ok (.invokevirtual 196, 3) := by decide +kernel
theorem dX8_best_10 : decode cX8_best 10 = .ok (.istore_n 3, 1) := by decide +kernel
theorem dX8_best_11 : decode cX8_best 11 = .ok (.bipush 11, 2) := by decide +kernel
theorem dX8_best_13 : decode cX8_best 13 = .ok (.istore 4, 2) := by decide +kernel
theorem dX8_best_15 : decode cX8_best 15 = .ok (.iload 4, 2) := by decide +kernel
theorem dX8_best_17 : decode cX8_best 17 = .ok (.bipush 40, 2) := by decide +kernel
theorem dX8_best_19 : decode cX8_best 19 = .ok (.if_icmp .gt 44, 3) := by decide +kernel
theorem dX8_best_22 : decode cX8_best 22 = .ok (.aload_n 0, 1) := by decide +kernel
theorem dX8_best_23 : decode cX8_best 23 = .ok (.iload_n 1, 1) := by decide +kernel
theorem dX8_best_24 : decode cX8_best 24 = .ok (.iload 4, 2) := by decide +kernel
theorem dX8_best_26 : decode cX8_best 26 = .ok (.invokevirtual 196, 3) := by decide +kernel
theorem dX8_best_29 : decode cX8_best 29 = .ok (.istore 5, 2) := by decide +kernel
theorem dX8_best_31 : decode cX8_best 31 = .ok (.iload 5, 2) := by decide +kernel
theorem dX8_best_33 : decode cX8_best 33 = .ok (.iload_n 3, 1) := by decide +kernel
theorem dX8_best_34 : decode cX8_best 34 = .ok (.if_icmp .le 8, 3) := by decide +kernel
theorem dX8_best_37 : decode cX8_best 37 = .ok (.iload 4, 2) := by decide +kernel
theorem dX8_best_39 : decode cX8_best 39 = .ok (.goto 4, 3) := by decide +kernel
theorem dX8_best_42 : decode cX8_best 42 = .ok (.iload_n 2, 1) := by decide +kernel
theorem dX8_best_43 : decode cX8_best 43 = .ok (.istore_n 2, 1) := by decide +kernel
theorem dX8_best_44 : decode cX8_best 44 = .ok (.iload 5, 2) := by decide +kernel
theorem dX8_best_46 : decode cX8_best 46 = .ok (.iload_n 3, 1) := by decide +kernel
theorem dX8_best_47 : decode cX8_best 47 = .ok (.if_icmp .le 8, 3) := by decide +kernel
theorem dX8_best_50 : decode cX8_best 50 = .ok (.iload 5, 2) := by decide +kernel
theorem dX8_best_52 : decode cX8_best 52 = .ok (.goto 4, 3) := by decide +kernel
theorem dX8_best_55 : decode cX8_best 55 = .ok (.iload_n 3, 1) := by decide +kernel
theorem dX8_best_56 : decode cX8_best 56 = .ok (.istore_n 3, 1) := by decide +kernel
theorem dX8_best_57 : decode cX8_best 57 = .ok (.iinc 4 1, 3) := by decide +kernel
theorem dX8_best_60 : decode cX8_best 60 = .ok (.goto (-45), 3) := by decide +kernel
theorem dX8_best_63 : decode cX8_best 63 = .ok (.iload_n 2, 1) := by decide +kernel
theorem dX8_best_64 : decode cX8_best 64 = .ok (.ireturn, 1) := by decide +kernel
theorem dX8_bestPace_0 : decode cX8_bestPace 0 = .ok (.aload_n 0, 1) := by decide +kernel
theorem dX8_bestPace_1 : decode cX8_bestPace 1 = .ok (.aload_n 0, 1) := by decide +kernel
theorem dX8_bestPace_2 : decode cX8_bestPace 2 = .ok (.iload_n 1, 1) := by decide +kernel
theorem dX8_bestPace_3 : decode cX8_bestPace 3 = .ok (.invokevirtual 102, 3) := by decide +kernel
theorem dX8_bestPace_6 : decode cX8_bestPace 6 = .ok (.ifCond .ne 7, 3) := by decide +kernel
theorem dX8_bestPace_9 : decode cX8_bestPace 9 = .ok (.iconst 1, 1) := by decide +kernel
theorem dX8_bestPace_10 : decode cX8_bestPace 10 = .ok (.goto 20, 3) := by decide +kernel
theorem dX8_bestPace_13 : decode cX8_bestPace 13 = .ok (.aload_n 0, 1) := by decide +kernel
theorem dX8_bestPace_14 : decode cX8_bestPace 14 = .ok (.getfield 7, 3) := by decide +kernel
theorem dX8_bestPace_17 : decode cX8_bestPace 17 = .ok (.sipush 150, 3) := by decide +kernel
theorem dX8_bestPace_20 : decode cX8_bestPace 20 = .ok (.iaload, 1) := by decide +kernel
theorem dX8_bestPace_21 : decode cX8_bestPace 21 = .ok (.iconst 1, 1) := by decide +kernel
theorem dX8_bestPace_22 : decode cX8_bestPace 22 = .ok (.if_icmp .ne 7, 3) := by decide +kernel
theorem dX8_bestPace_25 : decode cX8_bestPace 25 = .ok (.iconst 0, 1) := by decide +kernel
theorem dX8_bestPace_26 : decode cX8_bestPace 26 = .ok (.goto 4, 3) := by decide +kernel
theorem dX8_bestPace_29 : decode cX8_bestPace 29 = .ok (.iconst 2, 1) := by decide +kernel
theorem dX8_bestPace_30 : decode cX8_bestPace 30 = .ok (.invokevirtual 96, 3) := by decide +kernel
theorem dX8_bestPace_33 : decode cX8_bestPace 33 = .ok (.ifCond .eq 7, 3) := by decide +kernel
theorem dX8_bestPace_36 : decode cX8_bestPace 36 = .ok (.iconst 0, 1) := by decide +kernel
theorem dX8_bestPace_37 : decode cX8_bestPace 37 = .ok (.goto 8, 3) := by decide +kernel
theorem dX8_bestPace_40 : decode cX8_bestPace 40 = .ok (.aload_n 0, 1) := by decide +kernel
theorem dX8_bestPace_41 : decode cX8_bestPace 41 = .ok (.iload_n 1, 1) := by decide +kernel
theorem dX8_bestPace_42 : decode cX8_bestPace 42 = .ok (.invokevirtual 199, 3) := by decide +kernel
theorem dX8_bestPace_45 : decode cX8_bestPace 45 = .ok (.ireturn, 1) := by decide +kernel
theorem dX8_isRacing_0 : decode cX8_isRacing 0 = .ok (.aload_n 0, 1) := by decide +kernel
theorem dX8_isRacing_1 : decode cX8_isRacing 1 = .ok (.aload_n 0, 1) := by decide +kernel
theorem dX8_isRacing_2 : decode cX8_isRacing 2 = .ok (.getfield 7, 3) := by decide +kernel
theorem dX8_isRacing_5 : decode cX8_isRacing 5 = .ok (.sipush 150, 3) := by decide +kernel
theorem dX8_isRacing_8 : decode cX8_isRacing 8 = .ok (.iaload, 1) := by decide +kernel
theorem dX8_isRacing_9 : decode cX8_isRacing 9 = .ok (.invokevirtual 172, 3) := by decide +kernel
theorem dX8_isRacing_12 : decode cX8_isRacing 12 = .ok (.iconst 1, 1) := by decide +kernel
theorem dX8_isRacing_13 : decode cX8_isRacing 13 = .ok (.if_icmp .ne 7, 3) := by decide +kernel
theorem dX8_isRacing_16 : decode cX8_isRacing 16 = .ok (.iconst 1, 1) := by decide +kernel
theorem dX8_isRacing_17 : decode cX8_isRacing 17 = .ok (.goto 4, 3) := by decide +kernel
theorem dX8_isRacing_20 : decode cX8_isRacing 20 = .ok (.iconst 0, 1) := by decide +kernel
theorem dX8_isRacing_21 : decode cX8_isRacing 21 = .ok (.ireturn, 1) := by decide +kernel
theorem dX8_seconds_0 : decode cX8_seconds 0 = .ok (.aload_n 0, 1) := by decide +kernel
theorem dX8_seconds_1 : decode cX8_seconds 1 = .ok (.aload_n 0, 1) := by decide +kernel
theorem dX8_seconds_2 : decode cX8_seconds 2 = .ok (.getfield 7, 3) := by decide +kernel
theorem dX8_seconds_5 : decode cX8_seconds 5 = .ok (.sipush 134, 3) := by decide +kernel
theorem dX8_seconds_8 : decode cX8_seconds 8 = .ok (.iaload, 1) := by decide +kernel
theorem dX8_seconds_9 : decode cX8_seconds 9 = .ok (.invokevirtual 172, 3) := by decide +kernel
theorem dX8_seconds_12 : decode cX8_seconds 12 = .ok (.ireturn, 1) := by decide +kernel
theorem dX8_arrived_0 : decode cX8_arrived 0 = .ok (.aload_n 0, 1) := by decide +kernel
theorem dX8_arrived_1 : decode cX8_arrived 1 = .ok (.aload_n 0, 1) := by decide +kernel
theorem dX8_arrived_2 : decode cX8_arrived 2 = .ok (.getfield 7, 3) := by decide +kernel
theorem dX8_arrived_5 : decode cX8_arrived 5 = .ok (.sipush 135, 3) := by decide +kernel
theorem dX8_arrived_8 : decode cX8_arrived 8 = .ok (.iaload, 1) := by decide +kernel
theorem dX8_arrived_9 : decode cX8_arrived 9 = .ok (.invokevirtual 172, 3) := by decide +kernel
theorem dX8_arrived_12 : decode cX8_arrived 12 = .ok (.ireturn, 1) := by decide +kernel
theorem dX8_arrivedAt_0 : decode cX8_arrivedAt 0 = .ok (.aload_n 0, 1) := by decide +kernel
theorem dX8_arrivedAt_1 : decode cX8_arrivedAt 1 = .ok (.iload_n 1, 1) := by decide +kernel
theorem dX8_arrivedAt_2 : decode cX8_arrivedAt 2 = .ok (.iconst 0, 1) := by decide +kernel
theorem dX8_arrivedAt_3 : decode cX8_arrivedAt 3 = .ok (.aload_n 0, 1) := by decide +kernel
theorem dX8_arrivedAt_4 : decode cX8_arrivedAt 4 = .ok (.getfield 7, 3) := by decide +kernel
theorem dX8_arrivedAt_7 : decode cX8_arrivedAt 7 = .ok (.sipush 135, 3) := by decide +kernel
theorem dX8_arrivedAt_10 : decode cX8_arrivedAt 10 = .ok (.iaload, 1) := by decide +kernel
theorem dX8_arrivedAt_11 : decode cX8_arrivedAt 11 = .ok (.iconst 1, 1) := by decide +kernel
theorem dX8_arrivedAt_12 : decode cX8_arrivedAt 12 = .ok (.isub, 1) := by decide +kernel
theorem dX8_arrivedAt_13 : decode cX8_arrivedAt 13 = .ok (.invokestatic 36, 3) := by decide +kernel
theorem dX8_arrivedAt_16 : decode cX8_arrivedAt 16 = .ok (.ifCond .eq 7, 3) := by decide +kernel
theorem dX8_arrivedAt_19 : decode cX8_arrivedAt 19 = .ok (.iconst 0, 1) := by decide +kernel
theorem dX8_arrivedAt_20 : decode cX8_arrivedAt 20 = .ok (.goto 4, 3) := by decide +kernel
theorem dX8_arrivedAt_23 : decode cX8_arrivedAt 23 = .ok (.iconst 1, 1) := by decide +kernel
theorem dX8_arrivedAt_24 : decode cX8_arrivedAt 24 = .ok (.invokevirtual 96, 3) := by decide +kernel
theorem dX8_arrivedAt_27 : decode cX8_arrivedAt 27 = .ok (.ifCond .eq 7, 3) := by decide +kernel
theorem dX8_arrivedAt_30 : decode cX8_arrivedAt 30 = .ok (.iconst 0, 1) := by decide +kernel
theorem dX8_arrivedAt_31 : decode cX8_arrivedAt 31 = .ok (.goto 13, 3) := by decide +kernel
theorem dX8_arrivedAt_34 : decode cX8_arrivedAt 34 = .ok (.aload_n 0, 1) := by decide +kernel
theorem dX8_arrivedAt_35 : decode cX8_arrivedAt 35 = .ok (.getfield 7, 3) := by decide +kernel
theorem dX8_arrivedAt_38 : decode cX8_arrivedAt 38 = .ok (.sipush 136, 3) := by decide +kernel
theorem dX8_arrivedAt_41 : decode cX8_arrivedAt 41 = .ok (.iload_n 1, 1) := by decide +kernel
theorem dX8_arrivedAt_42 : decode cX8_arrivedAt 42 = .ok (.iadd, 1) := by decide +kernel
theorem dX8_arrivedAt_43 : decode cX8_arrivedAt 43 = .ok (.iaload, 1) := by decide +kernel
theorem dX8_arrivedAt_44 : decode cX8_arrivedAt 44 = .ok (.ireturn, 1) := by decide +kernel
theorem dX8_timeOf_0 : decode cX8_timeOf 0 = .ok (.aload_n 0, 1) := by decide +kernel
theorem dX8_timeOf_1 : decode cX8_timeOf 1 = .ok (.aload_n 0, 1) := by decide +kernel
theorem dX8_timeOf_2 : decode cX8_timeOf 2 = .ok (.iload_n 1, 1) := by decide +kernel
theorem dX8_timeOf_3 : decode cX8_timeOf 3 = .ok (.invokevirtual 102, 3) := by decide +kernel
theorem dX8_timeOf_6 : decode cX8_timeOf 6 = .ok (.ifCond .ne 7, 3) := by decide +kernel
theorem dX8_timeOf_9 : decode cX8_timeOf 9 = .ok (.iconst 1, 1) := by decide +kernel
theorem dX8_timeOf_10 : decode cX8_timeOf 10 = .ok (.goto 16, 3) := by decide +kernel
theorem dX8_timeOf_13 : decode cX8_timeOf 13 = .ok (.aload_n 0, 1) := by decide +kernel
theorem dX8_timeOf_14 : decode cX8_timeOf 14 = .ok (.iload_n 1, 1) := by decide +kernel
theorem dX8_timeOf_15 : decode cX8_timeOf 15 = .ok (.invokevirtual 47, 3) := by decide +kernel
theorem dX8_timeOf_18 : decode cX8_timeOf 18 = .ok (.ifCond .eq 7, 3) := by decide +kernel
theorem dX8_timeOf_21 : decode cX8_timeOf 21 = .ok (.iconst 0, 1) := by decide +kernel
theorem dX8_timeOf_22 : decode cX8_timeOf 22 = .ok (.goto 4, 3) := by decide +kernel
theorem dX8_timeOf_25 : decode cX8_timeOf 25 = .ok (.iconst 2, 1) := by decide +kernel
theorem dX8_timeOf_26 : decode cX8_timeOf 26 = .ok (.invokevirtual 96, 3) := by decide +kernel
theorem dX8_timeOf_29 : decode cX8_timeOf 29 = .ok (.ifCond .eq 7, 3) := by decide +kernel
theorem dX8_timeOf_32 : decode cX8_timeOf 32 = .ok (.iconst 0, 1) := by decide +kernel
theorem dX8_timeOf_33 : decode cX8_timeOf 33 = .ok (.goto 10, 3) := by decide +kernel
theorem dX8_timeOf_36 : decode cX8_timeOf 36 = .ok (.aload_n 0, 1) := by decide +kernel
theorem dX8_timeOf_37 : decode cX8_timeOf 37 = .ok (.iload_n 1, 1) := by decide +kernel
theorem dX8_timeOf_38 : decode cX8_timeOf 38 = .ok (.bipush 11, 2) := by decide +kernel
theorem dX8_timeOf_40 : decode cX8_timeOf 40 = .ok (.invokevirtual 40, 3) := by decide +kernel
theorem dX8_timeOf_43 : decode cX8_timeOf 43 = .ok (.ireturn, 1) := by decide +kernel
theorem dX8_all_0 : decode cX8_all 0 = .ok (.iconst 0, 1) := by decide +kernel
theorem dX8_all_1 : decode cX8_all 1 = .ok (.istore_n 1, 1) := by decide +kernel
theorem dX8_all_2 : decode cX8_all 2 = .ok (.iconst 0, 1) := by decide +kernel
theorem dX8_all_3 : decode cX8_all 3 = .ok (.istore_n 2, 1) := by decide +kernel
theorem dX8_all_4 : decode cX8_all 4 = .ok (.iload_n 2, 1) := by decide +kernel
theorem dX8_all_5 : decode cX8_all 5 = .ok (.aload_n 0, 1) := by decide +kernel
theorem dX8_all_6 : decode cX8_all 6 = .ok (.getfield 7, 3) := by decide +kernel
theorem dX8_all_9 : decode cX8_all 9 = .ok (.sipush 128, 3) := by decide +kernel
theorem dX8_all_12 : decode cX8_all 12 = .ok (.iaload, 1) := by decide +kernel
theorem dX8_all_13 : decode cX8_all 13 = .ok (.if_icmp .ge 19, 3) := by decide +kernel
theorem dX8_all_16 : decode cX8_all 16 = .ok (.iload_n 1, 1) := by decide +kernel
theorem dX8_all_17 : decode cX8_all 17 = .ok (.aload_n 0, 1) := by decide +kernel
theorem dX8_all_18 : decode cX8_all 18 = .ok (.iload_n 2, 1) := by decide +kernel
theorem dX8_all_19 : decode cX8_all 19 = .ok (.bipush 7, 2) := by decide +kernel
theorem dX8_all_21 : decode cX8_all 21 = .ok (.invokevirtual 40, 3) := by decide +kernel
theorem dX8_all_24 : decode cX8_all 24 = .ok (.iadd, 1) := by decide +kernel
theorem dX8_all_25 : decode cX8_all 25 = .ok (.istore_n 1, 1) := by decide +kernel
theorem dX8_all_26 : decode cX8_all 26 = .ok (.iinc 2 1, 3) := by decide +kernel
theorem dX8_all_29 : decode cX8_all 29 = .ok (.goto (-25), 3) := by decide +kernel
theorem dX8_all_32 : decode cX8_all 32 = .ok (.iload_n 1, 1) := by decide +kernel
theorem dX8_all_33 : decode cX8_all 33 = .ok (.ireturn, 1) := by decide +kernel
theorem dX8_flownByBirds_0 : decode cX8_flownByBirds 0 = .ok (.aload_n 0, 1) := by decide +kernel
theorem dX8_flownByBirds_1 : decode cX8_flownByBirds 1 = .ok (.aload_n 0, 1) := by decide +kernel
theorem dX8_flownByBirds_2 : decode cX8_flownByBirds 2 = .ok (.invokevirtual 202, 3) := by decide +kernel
theorem dX8_flownByBirds_5 : decode cX8_flownByBirds 5 = .ok (.invokevirtual 172, 3) := by decide +kernel
theorem dX8_flownByBirds_8 : decode cX8_flownByBirds 8 = .ok (.ireturn, 1) := by decide +kernel
theorem dX8_flownByAccount_0 : decode cX8_flownByAccount 0 = .ok (.aload_n 0, 1) := by decide +kernel
theorem dX8_flownByAccount_1 : decode cX8_flownByAccount 1 = .ok (.aload_n 0, 1) := by decide +kernel
theorem dX8_flownByAccount_2 : decode cX8_flownByAccount 2 = .ok (.getfield 7, 3) := by decide +kernel
theorem dX8_flownByAccount_5 : decode cX8_flownByAccount 5 = .ok (.sipush 144, 3) := by decide +kernel
theorem dX8_flownByAccount_8 : decode cX8_flownByAccount 8 = .ok (.iaload, 1) := by decide +kernel
theorem dX8_flownByAccount_9 : decode cX8_flownByAccount 9 = .ok (.invokevirtual 172, 3) := by decide +kernel
theorem dX8_flownByAccount_12 : decode cX8_flownByAccount 12 = .ok (.ireturn, 1) := by decide +kernel
theorem dX8_drafts_0 : decode cX8_drafts 0 = .ok (.aload_n 0, 1) := by decide +kernel
theorem dX8_drafts_1 : decode cX8_drafts 1 = .ok (.aload_n 0, 1) := by decide +kernel
theorem dX8_drafts_2 : decode cX8_drafts 2 = .ok (.getfield 7, 3) := by decide +kernel
theorem dX8_drafts_5 : decode cX8_drafts 5 = .ok (.sipush 145, 3) := by decide +kernel
theorem dX8_drafts_8 : decode cX8_drafts 8 = .ok (.iaload, 1) := by decide +kernel
theorem dX8_drafts_9 : decode cX8_drafts 9 = .ok (.invokevirtual 172, 3) := by decide +kernel
theorem dX8_drafts_12 : decode cX8_drafts 12 = .ok (.ireturn, 1) := by decide +kernel
theorem dX8_changes_0 : decode cX8_changes 0 = .ok (.aload_n 0, 1) := by decide +kernel
theorem dX8_changes_1 : decode cX8_changes 1 = .ok (.aload_n 0, 1) := by decide +kernel
theorem dX8_changes_2 : decode cX8_changes 2 = .ok (.getfield 7, 3) := by decide +kernel
theorem dX8_changes_5 : decode cX8_changes 5 = .ok (.sipush 146, 3) := by decide +kernel
theorem dX8_changes_8 : decode cX8_changes 8 = .ok (.iaload, 1) := by decide +kernel
theorem dX8_changes_9 : decode cX8_changes 9 = .ok (.invokevirtual 172, 3) := by decide +kernel
theorem dX8_changes_12 : decode cX8_changes 12 = .ok (.ireturn, 1) := by decide +kernel
theorem dX8_rests_0 : decode cX8_rests 0 = .ok (.aload_n 0, 1) := by decide +kernel
theorem dX8_rests_1 : decode cX8_rests 1 = .ok (.aload_n 0, 1) := by decide +kernel
theorem dX8_rests_2 : decode cX8_rests 2 = .ok (.getfield 7, 3) := by decide +kernel
theorem dX8_rests_5 : decode cX8_rests 5 = .ok (.sipush 147, 3) := by decide +kernel
theorem dX8_rests_8 : decode cX8_rests 8 = .ok (.iaload, 1) := by decide +kernel
theorem dX8_rests_9 : decode cX8_rests 9 = .ok (.invokevirtual 172, 3) := by decide +kernel
theorem dX8_rests_12 : decode cX8_rests 12 = .ok (.ireturn, 1) := by decide +kernel
theorem dX8_races_0 : decode cX8_races 0 = .ok (.aload_n 0, 1) := by decide +kernel
theorem dX8_races_1 : decode cX8_races 1 = .ok (.aload_n 0, 1) := by decide +kernel
theorem dX8_races_2 : decode cX8_races 2 = .ok (.getfield 7, 3) := by decide +kernel
theorem dX8_races_5 : decode cX8_races 5 = .ok (.sipush 148, 3) := by decide +kernel
theorem dX8_races_8 : decode cX8_races 8 = .ok (.iaload, 1) := by decide +kernel
theorem dX8_races_9 : decode cX8_races 9 = .ok (.invokevirtual 172, 3) := by decide +kernel
theorem dX8_races_12 : decode cX8_races 12 = .ok (.ireturn, 1) := by decide +kernel
theorem dX8_winsInPairs_0 : decode cX8_winsInPairs 0 = .ok (.aload_n 0, 1) := by decide +kernel
theorem dX8_winsInPairs_1 : decode cX8_winsInPairs 1 = .ok (.aload_n 0, 1) := by decide +kernel
theorem dX8_winsInPairs_2 : decode cX8_winsInPairs 2 = .ok (.getfield 7, 3) := by decide +kernel
theorem dX8_winsInPairs_5 : decode cX8_winsInPairs 5 = .ok (.sipush 149, 3) := by decide +kernel
theorem dX8_winsInPairs_8 : decode cX8_winsInPairs 8 = .ok (.iaload, 1) := by decide +kernel
theorem dX8_winsInPairs_9 : decode cX8_winsInPairs 9 = .ok (.invokevirtual 172, 3) := by decide +kernel
theorem dX8_winsInPairs_12 : decode cX8_winsInPairs 12 = .ok (.ireturn, 1) := by decide +kernel
theorem dX8_mean_0 : decode cX8_mean 0 = .ok (.aload_n 0, 1) := by decide +kernel
theorem dX8_mean_1 : decode cX8_mean 1 = .ok (.getfield 7, 3) := by decide +kernel
theorem dX8_mean_4 : decode cX8_mean 4 = .ok (.sipush 128, 3) := by decide +kernel
theorem dX8_mean_7 : decode cX8_mean 7 = .ok (.iaload, 1) := by decide +kernel
theorem dX8_mean_8 : decode cX8_mean 8 = .ok (.ifCond .ne 7, 3) := by decide +kernel
theorem dX8_mean_11 : decode cX8_mean 11 = .ok (.dconst 0, 1) := by decide +kernel
theorem dX8_mean_12 : decode cX8_mean 12 = .ok (.goto 18, 3) := by decide +kernel
theorem dX8_mean_15 : decode cX8_mean 15 = .ok (.aload_n 0, 1) := by decide +kernel
theorem dX8_mean_16 : decode cX8_mean 16 = .ok (.invokevirtual 202, 3) := by decide +kernel
theorem dX8_mean_19 : decode cX8_mean 19 = .ok (.i2d, 1) := by decide +kernel
theorem dX8_mean_20 : decode cX8_mean 20 = .ok (.aload_n 0, 1) := by decide +kernel
theorem dX8_mean_21 : decode cX8_mean 21 = .ok (.getfield 7, 3) := by decide +kernel
theorem dX8_mean_24 : decode cX8_mean 24 = .ok (.sipush 128, 3) := by decide +kernel
theorem dX8_mean_27 : decode cX8_mean 27 = .ok (.iaload, 1) := by decide +kernel
theorem dX8_mean_28 : decode cX8_mean 28 = .ok (.i2d, 1) := by decide +kernel
theorem dX8_mean_29 : decode cX8_mean 29 = .ok (.ddiv, 1) := by decide +kernel
theorem dX8_mean_30 : decode cX8_mean 30 = .ok (.dreturn, 1) := by decide +kernel
theorem dX8_meanFlown_0 : decode cX8_meanFlown 0 = .ok (.aload_n 0, 1) := by decide +kernel
theorem dX8_meanFlown_1 : decode cX8_meanFlown 1 = .ok (.iconst 0, 1) := by decide +kernel
theorem dX8_meanFlown_2 : decode cX8_meanFlown 2 = .ok (.putfield 32, 3) := by decide +kernel
theorem dX8_meanFlown_5 : decode cX8_meanFlown 5 = .ok (.aload_n 0, 1) := by decide +kernel
theorem dX8_meanFlown_6 : decode cX8_meanFlown 6 = .ok (.invokevirtual 205, 3) := by decide +kernel
theorem dX8_meanFlown_9 : decode cX8_meanFlown 9 = .ok (.dreturn, 1) := by decide +kernel
theorem dX8_mixes_0 : decode cX8_mixes 0 = .ok (.aload_n 0, 1) := by decide +kernel
theorem dX8_mixes_1 : decode cX8_mixes 1 = .ok (.ldc2_w 209, 3) := by decide +kernel
theorem dX8_mixes_4 : decode cX8_mixes 4 = .ok (.aload_n 0, 1) := by decide +kernel
theorem dX8_mixes_5 : decode cX8_mixes 5 = .ok (.getfield 211, 3) := by decide +kernel
theorem dX8_mixes_8 : decode cX8_mixes 8 = .ok (.lmul, 1) := by decide +kernel
theorem dX8_mixes_9 : decode cX8_mixes 9 = .ok (.lload_n 1, 1) := by decide +kernel
theorem dX8_mixes_10 : decode cX8_mixes 10 = .ok (.ladd, 1) := by decide +kernel
theorem dX8_mixes_11 : decode cX8_mixes 11 = .ok (.putfield 211, 3) := by decide +kernel
theorem dX8_mixes_14 : decode cX8_mixes 14 = .ok (.return_, 1) := by decide +kernel
theorem dX8_mixBird_0 : decode cX8_mixBird 0 = .ok (.aload_n 0, 1) := by decide +kernel
theorem dX8_mixBird_1 : decode cX8_mixBird 1 = .ok (.aload_n 0, 1) := by decide +kernel
theorem dX8_mixBird_2 : decode cX8_mixBird 2 = .ok (.iload_n 1, 1) := by decide +kernel
theorem dX8_mixBird_3 : decode cX8_mixBird 3 = .ok (.bipush 7, 2) := by decide +kernel
theorem dX8_mixBird_5 : decode cX8_mixBird 5 = .ok (.invokevirtual 40, 3) := by decide +kernel
theorem dX8_mixBird_8 : decode cX8_mixBird 8 = .ok (.i2l, 1) := by decide +kernel
theorem dX8_mixBird_9 : decode cX8_mixBird 9 = .ok (.invokevirtual 215, 3) := by decide +kernel
theorem dX8_mixBird_12 : decode cX8_mixBird 12 = .ok (.aload_n 0, 1) := by decide +kernel
theorem dX8_mixBird_13 : decode cX8_mixBird 13 = .ok (.aload_n 0, 1) := by decide +kernel
theorem dX8_mixBird_14 : decode cX8_mixBird 14 = .ok (.iload_n 1, 1) := by decide +kernel
theorem dX8_mixBird_15 : decode cX8_mixBird 15 = .ok (.bipush 7, 2) := by decide +kernel
theorem dX8_mixBird_17 : decode cX8_mixBird 17 = .ok (.invokevirtual 40, 3) := by decide +kernel
theorem dX8_mixBird_20 : decode cX8_mixBird 20 = .ok (.sipush 400, 3) := by decide +kernel
theorem dX8_mixBird_23 : decode cX8_mixBird 23 = .ok (.idiv, 1) := by decide +kernel
theorem dX8_mixBird_24 : decode cX8_mixBird 24 = .ok (.i2l, 1) := by decide +kernel
theorem dX8_mixBird_25 : decode cX8_mixBird 25 = .ok (.invokevirtual 215, 3) := by decide +kernel
theorem dX8_mixBird_28 : decode cX8_mixBird 28 = .ok (.aload_n 0, 1) := by decide +kernel
theorem dX8_mixBird_29 : decode cX8_mixBird 29 = .ok (.aload_n 0, 1) := by decide +kernel
theorem dX8_mixBird_30 : decode cX8_mixBird 30 = .ok (.iload_n 1, 1) := by decide +kernel
theorem dX8_mixBird_31 : decode cX8_mixBird 31 = .ok (.bipush 8, 2) := by decide +kernel
theorem dX8_mixBird_33 : decode cX8_mixBird 33 = .ok (.invokevirtual 40, 3) := by decide +kernel
theorem dX8_mixBird_36 : decode cX8_mixBird 36 = .ok (.i2l, 1) := by decide +kernel
theorem dX8_mixBird_37 : decode cX8_mixBird 37 = .ok (.invokevirtual 215, 3) := by decide +kernel
theorem dX8_mixBird_40 : decode cX8_mixBird 40 = .ok (.aload_n 0, 1) := by decide +kernel
theorem dX8_mixBird_41 : decode cX8_mixBird 41 = .ok (.aload_n 0, 1) := by decide +kernel
theorem dX8_mixBird_42 : decode cX8_mixBird 42 = .ok (.iload_n 1, 1) := by decide +kernel
theorem dX8_mixBird_43 : decode cX8_mixBird 43 = .ok (.iconst 3, 1) := by decide +kernel
theorem dX8_mixBird_44 : decode cX8_mixBird 44 = .ok (.invokevirtual 40, 3) := by decide +kernel
theorem dX8_mixBird_47 : decode cX8_mixBird 47 = .ok (.i2l, 1) := by decide +kernel
theorem dX8_mixBird_48 : decode cX8_mixBird 48 = .ok (.invokevirtual 215, 3) := by decide +kernel
theorem dX8_mixBird_51 : decode cX8_mixBird 51 = .ok (.aload_n 0, 1) := by decide +kernel
theorem dX8_mixBird_52 : decode cX8_mixBird 52 = .ok (.aload_n 0, 1) := by decide +kernel
theorem dX8_mixBird_53 : decode cX8_mixBird 53 = .ok (.iload_n 1, 1) := by decide +kernel
theorem dX8_mixBird_54 : decode cX8_mixBird 54 = .ok (.iconst 4, 1) := by decide +kernel
theorem dX8_mixBird_55 : decode cX8_mixBird 55 = .ok (.invokevirtual 40, 3) := by decide +kernel
theorem dX8_mixBird_58 : decode cX8_mixBird 58 = .ok (.i2l, 1) := by decide +kernel
theorem dX8_mixBird_59 : decode cX8_mixBird 59 = .ok (.invokevirtual 215, 3) := by decide +kernel
theorem dX8_mixBird_62 : decode cX8_mixBird 62 = .ok (.aload_n 0, 1) := by decide +kernel
theorem dX8_mixBird_63 : decode cX8_mixBird 63 = .ok (.aload_n 0, 1) := by decide +kernel
theorem dX8_mixBird_64 : decode cX8_mixBird 64 = .ok (.iload_n 1, 1) := by decide +kernel
theorem dX8_mixBird_65 : decode cX8_mixBird 65 = .ok (.iconst 5, 1) := by decide +kernel
theorem dX8_mixBird_66 : decode cX8_mixBird 66 = .ok (.invokevirtual 40, 3) := by decide +kernel
theorem dX8_mixBird_69 : decode cX8_mixBird 69 = .ok (.i2l, 1) := by decide +kernel
theorem dX8_mixBird_70 : decode cX8_mixBird 70 = .ok (.invokevirtual 215, 3) := by decide +kernel
theorem dX8_mixBird_73 : decode cX8_mixBird 73 = .ok (.aload_n 0, 1) := by decide +kernel
theorem dX8_mixBird_74 : decode cX8_mixBird 74 = .ok (.aload_n 0, 1) := by decide +kernel
theorem dX8_mixBird_75 : decode cX8_mixBird 75 = .ok (.iload_n 1, 1) := by decide +kernel
theorem dX8_mixBird_76 : decode cX8_mixBird 76 = .ok (.bipush 6, 2) := by decide +kernel
theorem dX8_mixBird_78 : decode cX8_mixBird 78 = .ok (.invokevirtual 40, 3) := by decide +kernel
theorem dX8_mixBird_81 : decode cX8_mixBird 81 = .ok (.i2l, 1) := by decide +kernel
theorem dX8_mixBird_82 : decode cX8_mixBird 82 = .ok (.invokevirtual 215, 3) := by decide +kernel
theorem dX8_mixBird_85 : decode cX8_mixBird 85 = .ok (.aload_n 0, 1) := by decide +kernel
theorem dX8_mixBird_86 : decode cX8_mixBird 86 = .ok (.aload_n 0, 1) := by decide +kernel
theorem dX8_mixBird_87 : decode cX8_mixBird 87 = .ok (.iload_n 1, 1) := by decide +kernel
theorem dX8_mixBird_88 : decode cX8_mixBird 88 = .ok (.iconst 0, 1) := by decide +kernel
theorem dX8_mixBird_89 : decode cX8_mixBird 89 = .ok (.invokevirtual 40, 3) := by decide +kernel
theorem dX8_mixBird_92 : decode cX8_mixBird 92 = .ok (.i2l, 1) := by decide +kernel
theorem dX8_mixBird_93 : decode cX8_mixBird 93 = .ok (.invokevirtual 215, 3) := by decide +kernel
theorem dX8_mixBird_96 : decode cX8_mixBird 96 = .ok (.aload_n 0, 1) := by decide +kernel
theorem dX8_mixBird_97 : decode cX8_mixBird 97 = .ok (.aload_n 0, 1) := by decide +kernel
theorem dX8_mixBird_98 : decode cX8_mixBird 98 = .ok (.iload_n 1, 1) := by decide +kernel
theorem dX8_mixBird_99 : decode cX8_mixBird 99 = .ok (.bipush 10, 2) := by decide +kernel
theorem dX8_mixBird_101 : decode cX8_mixBird 101 = .ok (.invokevirtual 40, 3) := by decide +kernel
theorem dX8_mixBird_104 : decode cX8_mixBird 104 = .ok (.i2l, 1) := by decide +kernel
theorem dX8_mixBird_105 : decode cX8_mixBird 105 = .ok (.invokevirtual 215, 3) := by decide +kernel
theorem dX8_mixBird_108 : decode cX8_mixBird 108 = .ok (.aload_n 0, 1) := by decide +kernel
theorem dX8_mixBird_109 : decode cX8_mixBird 109 = .ok (.aload_n 0, 1) := by decide +kernel
theorem dX8_mixBird_110 : decode cX8_mixBird 110 = .ok (.iload_n 1, 1) := by decide +kernel
theorem dX8_mixBird_111 : decode cX8_mixBird 111 = .ok (.bipush 9, 2) := by decide +kernel
theorem dX8_mixBird_113 : decode cX8_mixBird 113 = .ok (.invokevirtual 40, 3) := by decide +kernel
theorem dX8_mixBird_116 : decode cX8_mixBird 116 = .ok (.i2l, 1) := by decide +kernel
theorem dX8_mixBird_117 : decode cX8_mixBird 117 = .ok (.invokevirtual 215, 3) := by decide +kernel
theorem dX8_mixBird_120 : decode cX8_mixBird 120 = .ok (.aload_n 0, 1) := by decide +kernel
theorem dX8_mixBird_121 : decode cX8_mixBird 121 = .ok (.aload_n 0, 1) := by decide +kernel
theorem dX8_mixBird_122 : decode cX8_mixBird 122 = .ok (.iload_n 1, 1) := by decide +kernel
theorem dX8_mixBird_123 : decode cX8_mixBird 123 = .ok (.invokevirtual 59, 3) := by decide +kernel
theorem dX8_mixBird_126 : decode cX8_mixBird 126 = .ok (.i2l, 1) := by decide +kernel
theorem dX8_mixBird_127 : decode cX8_mixBird 127 = .ok (.invokevirtual 215, 3) := by decide +kernel
theorem dX8_mixBird_130 : decode cX8_mixBird 130 = .ok (.aload_n 0, 1) := by decide +kernel
theorem dX8_mixBird_131 : decode cX8_mixBird 131 = .ok (.aload_n 0, 1) := by decide +kernel
theorem dX8_mixBird_132 : decode cX8_mixBird 132 = .ok (.iload_n 1, 1) := by decide +kernel
theorem dX8_mixBird_133 : decode cX8_mixBird 133 = .ok (.aload_n 0, 1) := by decide +kernel
theorem dX8_mixBird_134 : decode cX8_mixBird 134 = .ok (.iload_n 1, 1) := by decide +kernel
theorem dX8_mixBird_135 : decode cX8_mixBird 135 = .ok (.iconst 5, 1) := by decide +kernel
theorem dX8_mixBird_136 : decode cX8_mixBird 136 = .ok (.invokevirtual 40, 3) := by decide +kernel
theorem dX8_mixBird_139 : decode cX8_mixBird 139 = .ok (.invokevirtual 68, 3) := by decide +kernel
theorem dX8_mixBird_142 : decode cX8_mixBird 142 = .ok (.i2l, 1) := by decide +kernel
theorem dX8_mixBird_143 : decode cX8_mixBird 143 = .ok (.invokevirtual 215, 3) := by decide +kernel
theorem dX8_mixBird_146 : decode cX8_mixBird 146 = .ok (.aload_n 0, 1) := by decide +kernel
theorem dX8_mixBird_147 : decode cX8_mixBird 147 = .ok (.aload_n 0, 1) := by decide +kernel
theorem dX8_mixBird_148 : decode cX8_mixBird 148 = .ok (.iload_n 1, 1) := by decide +kernel
theorem dX8_mixBird_149 : decode cX8_mixBird 149 = .ok (.invokevirtual 62, 3) := by decide +kernel
theorem dX8_mixBird_152 : decode cX8_mixBird 152 = .ok (.ifCond .eq 15, 3) := by decide +kernel
theorem dX8_mixBird_155 : decode cX8_mixBird 155 = .ok (.aload_n 0, 1) := by decide +kernel
theorem dX8_mixBird_156 : decode cX8_mixBird 156 = .ok (.iload_n 1, 1) := by decide +kernel
theorem dX8_mixBird_157 : decode cX8_mixBird 157 = .ok (.invokevirtual 74, 3) := by decide +kernel
theorem dX8_mixBird_160 : decode cX8_mixBird 160 = .ok (.ifCond .eq 7, 3) := by decide +kernel
theorem dX8_mixBird_163 : decode cX8_mixBird 163 = .ok (.lconst 1, 1) := by decide +kernel
theorem dX8_mixBird_164 : decode cX8_mixBird 164 = .ok (.goto 4, 3) := by decide +kernel
theorem dX8_mixBird_167 : decode cX8_mixBird 167 = .ok (.lconst 0, 1) := by decide +kernel
theorem dX8_mixBird_168 : decode cX8_mixBird 168 = .ok (.invokevirtual 215, 3) := by decide +kernel
theorem dX8_mixBird_171 : decode cX8_mixBird 171 = .ok (.aload_n 0, 1) := by decide +kernel
theorem dX8_mixBird_172 : decode cX8_mixBird 172 = .ok (.aload_n 0, 1) := by decide +kernel
theorem dX8_mixBird_173 : decode cX8_mixBird 173 = .ok (.iload_n 1, 1) := by decide +kernel
theorem dX8_mixBird_174 : decode cX8_mixBird 174 = .ok (.invokevirtual 71, 3) := by decide +kernel
theorem dX8_mixBird_177 : decode cX8_mixBird 177 = .ok (.i2l, 1) := by decide +kernel
theorem dX8_mixBird_178 : decode cX8_mixBird 178 = .ok (.invokevirtual 215, 3) := by decide +kernel
theorem dX8_mixBird_181 : decode cX8_mixBird 181 = .ok (.aload_n 0, 1) := by decide +kernel
theorem dX8_mixBird_182 : decode cX8_mixBird 182 = .ok (.aload_n 0, 1) := by decide +kernel
theorem dX8_mixBird_183 : decode cX8_mixBird 183 = .ok (.iload_n 1, 1) := by decide +kernel
theorem dX8_mixBird_184 : decode cX8_mixBird 184 = .ok (.invokevirtual 62, 3) := by decide +kernel
theorem dX8_mixBird_187 : decode cX8_mixBird 187 = .ok (.ifCond .eq 12, 3) := by decide +kernel
theorem dX8_mixBird_190 : decode cX8_mixBird 190 = .ok (.aload_n 0, 1) := by decide +kernel
theorem dX8_mixBird_191 : decode cX8_mixBird 191 = .ok (.iload_n 1, 1) := by decide +kernel
theorem dX8_mixBird_192 : decode cX8_mixBird 192 = .ok (.invokevirtual 77, 3) := by decide +kernel
theorem dX8_mixBird_195 : decode cX8_mixBird 195 = .ok (.i2l, 1) := by decide +kernel
theorem dX8_mixBird_196 : decode cX8_mixBird 196 = .ok (.goto 4, 3) := by decide +kernel
theorem dX8_mixBird_199 : decode cX8_mixBird 199 = .ok (.lconst 0, 1) := by decide +kernel
theorem dX8_mixBird_200 : decode cX8_mixBird 200 = .ok (.invokevirtual 215, 3) := by decide +kernel
theorem dX8_mixBird_203 : decode cX8_mixBird 203 = .ok (.aload_n 0, 1) := by decide +kernel
theorem dX8_mixBird_204 : decode cX8_mixBird 204 = .ok (.aload_n 0, 1) := by decide +kernel
theorem dX8_mixBird_205 : decode cX8_mixBird 205 = .ok (.iload_n 1, 1) := by decide +kernel
theorem dX8_mixBird_206 : decode cX8_mixBird 206 = .ok (.invokevirtual 47, 3) := by decide +kernel
theorem dX8_mixBird_209 : decode cX8_mixBird 209 = .ok (.ifCond .eq 14, 3) := by decide +kernel
theorem dX8_mixBird_212 : decode cX8_mixBird 212 = .ok (.aload_n 0, 1) := by decide +kernel
theorem dX8_mixBird_213 : decode cX8_mixBird 213 = .ok (.iload_n 1, 1) := by decide +kernel
theorem dX8_mixBird_214 : decode cX8_mixBird 214 = .ok (.bipush 11, 2) := by decide +kernel
theorem dX8_mixBird_216 : decode cX8_mixBird 216 = .ok (.invokevirtual 40, 3) := by decide +kernel
theorem dX8_mixBird_219 : decode cX8_mixBird 219 = .ok (.i2l, 1) := by decide +kernel
theorem dX8_mixBird_220 : decode cX8_mixBird 220 = .ok (.goto 4, 3) := by decide +kernel
theorem dX8_mixBird_223 : decode cX8_mixBird 223 = .ok (.lconst 0, 1) := by decide +kernel
theorem dX8_mixBird_224 : decode cX8_mixBird 224 = .ok (.invokevirtual 215, 3) := by decide +kernel
theorem dX8_mixBird_227 : decode cX8_mixBird 227 = .ok (.aload_n 0, 1) := by decide +kernel
theorem dX8_mixBird_228 : decode cX8_mixBird 228 = .ok (.aload_n 0, 1) := by decide +kernel
theorem dX8_mixBird_229 : decode cX8_mixBird 229 = .ok (.getfield 7, 3) := by decide +kernel
theorem dX8_mixBird_232 : decode cX8_mixBird 232 = .ok (.sipush 150, 3) := by decide +kernel
theorem dX8_mixBird_235 : decode cX8_mixBird 235 = .ok (.iaload, 1) := by decide +kernel
theorem dX8_mixBird_236 : decode cX8_mixBird 236 = .ok (.iconst 1, 1) := by decide +kernel
theorem dX8_mixBird_237 : decode cX8_mixBird 237 = .ok (.if_icmp .ne 14, 3) := by decide +kernel
theorem dX8_mixBird_240 : decode cX8_mixBird 240 = .ok (.aload_n 0, 1) := by decide +kernel
theorem dX8_mixBird_241 : decode cX8_mixBird 241 = .ok (.iload_n 1, 1) := by decide +kernel
theorem dX8_mixBird_242 : decode cX8_mixBird 242 = .ok (.bipush 30, 2) := by decide +kernel
theorem dX8_mixBird_244 : decode cX8_mixBird 244 = .ok (.invokevirtual 184, 3) := by decide +kernel
theorem dX8_mixBird_247 : decode cX8_mixBird 247 = .ok (.i2l, 1) := by decide +kernel
theorem dX8_mixBird_248 : decode cX8_mixBird 248 = .ok (.goto 4, 3) := by decide +kernel
theorem dX8_mixBird_251 : decode cX8_mixBird 251 = .ok (.lconst 0, 1) := by decide +kernel
theorem dX8_mixBird_252 : decode cX8_mixBird 252 = .ok (.invokevirtual 215, 3) := by decide +kernel
theorem dX8_mixBird_255 : decode cX8_mixBird 255 = .ok (.return_, 1) := by decide +kernel
theorem dX8_digest_0 : decode cX8_digest 0 = .ok (.aload_n 0, 1) := by decide +kernel
theorem dX8_digest_1 : decode cX8_digest 1 = .ok (.iconst 0, 1) := by decide +kernel
theorem dX8_digest_2 : decode cX8_digest 2 = .ok (.putfield 32, 3) := by decide +kernel
theorem dX8_digest_5 : decode cX8_digest 5 = .ok (.aload_n 0, 1) := by decide +kernel
theorem dX8_digest_6 : decode cX8_digest 6 = .ok (.ldc2_w 219, 3) := by decide +kernel
theorem dX8_digest_9 : decode cX8_digest 9 = .ok (.putfield 211, 3) := by decide +kernel
theorem dX8_digest_12 : decode cX8_digest 12 = .ok (.aload_n 0, 1) := by decide +kernel
theorem dX8_digest_13 : decode cX8_digest 13 = .ok (.aload_n 0, 1) := by decide +kernel
theorem dX8_digest_14 : decode cX8_digest 14 = .ok (.getfield 7, 3) := by decide +kernel
theorem dX8_digest_17 : decode cX8_digest 17 = .ok (.sipush 128, 3) := by decide +kernel
theorem dX8_digest_20 : decode cX8_digest 20 = .ok (.iaload, 1) := by decide +kernel
theorem dX8_digest_21 : decode cX8_digest 21 = .ok (.i2l, 1) := by decide +kernel
theorem dX8_digest_22 : decode cX8_digest 22 = .ok (.invokevirtual 215, 3) := by decide +kernel
theorem dX8_digest_25 : decode cX8_digest 25 = .ok (.iconst 0, 1) := by decide +kernel
theorem dX8_digest_26 : decode cX8_digest 26 = .ok (.istore_n 1, 1) := by decide +kernel
theorem dX8_digest_27 : decode cX8_digest 27 = .ok (.iload_n 1, 1) := by decide +kernel
theorem dX8_digest_28 : decode cX8_digest 28 = .ok (.aload_n 0, 1) := by decide +kernel
theorem dX8_digest_29 : decode cX8_digest 29 = .ok (.getfield 7, 3) := by decide +kernel
theorem dX8_digest_32 : decode cX8_digest 32 = .ok (.sipush 128, 3) := by decide +kernel
theorem dX8_digest_35 : decode cX8_digest 35 = .ok (.iaload, 1) := by decide +kernel
theorem dX8_digest_36 : decode cX8_digest 36 = .ok (.if_icmp .ge 14, 3) := by decide +kernel
theorem dX8_digest_39 : decode cX8_digest 39 = .ok (.aload_n 0, 1) := by decide +kernel
theorem dX8_digest_40 : decode cX8_digest 40 = .ok (.iload_n 1, 1) := by decide +kernel
theorem dX8_digest_41 : decode cX8_digest 41 = .ok (.invokevirtual 221, 3) := by decide +kernel
theorem dX8_digest_44 : decode cX8_digest 44 = .ok (.iinc 1 1, 3) := by decide +kernel
theorem dX8_digest_47 : decode cX8_digest 47 = .ok (.goto (-20), 3) := by decide +kernel
theorem dX8_digest_50 : decode cX8_digest 50 = .ok (.iconst 0, 1) := by decide +kernel
theorem dX8_digest_51 : decode cX8_digest 51 = .ok (.istore_n 1, 1) := by decide +kernel
theorem dX8_digest_52 : decode cX8_digest 52 = .ok (.iload_n 1, 1) := by decide +kernel
theorem dX8_digest_53 : decode cX8_digest 53 = .ok (.aload_n 0, 1) := by decide +kernel
theorem dX8_digest_54 : decode cX8_digest 54 = .ok (.getfield 7, 3) := by decide +kernel
theorem dX8_digest_57 : decode cX8_digest 57 = .ok (.sipush 128, 3) := by decide +kernel
theorem dX8_digest_60 : decode cX8_digest 60 = .ok (.iaload, 1) := by decide +kernel
theorem dX8_digest_61 : decode cX8_digest 61 = .ok (.if_icmp .ge 19, 3) := by decide +kernel
theorem dX8_digest_64 : decode cX8_digest 64 = .ok (.aload_n 0, 1) := by decide +kernel
theorem dX8_digest_65 : decode cX8_digest 65 = .ok (.aload_n 0, 1) := by decide +kernel
theorem dX8_digest_66 : decode cX8_digest 66 = .ok (.iload_n 1, 1) := by decide +kernel
theorem dX8_digest_67 : decode cX8_digest 67 = .ok (.invokevirtual 178, 3) := by decide +kernel
theorem dX8_digest_70 : decode cX8_digest 70 = .ok (.i2l, 1) := by decide +kernel
theorem dX8_digest_71 : decode cX8_digest 71 = .ok (.invokevirtual 215, 3) := by decide +kernel
theorem dX8_digest_74 : decode cX8_digest 74 = .ok (.iinc 1 1, 3) := by decide +kernel
theorem dX8_digest_77 : decode cX8_digest 77 = .ok (.goto (-25), 3) := by decide +kernel
theorem dX8_digest_80 : decode cX8_digest 80 = .ok (.iconst 0, 1) := by decide +kernel
theorem dX8_digest_81 : decode cX8_digest 81 = .ok (.istore_n 1, 1) := by decide +kernel
theorem dX8_digest_82 : decode cX8_digest 82 = .ok (.iload_n 1, 1) := by decide +kernel
theorem dX8_digest_83 : decode cX8_digest 83 = .ok (.iconst 4, 1) := by decide +kernel
theorem dX8_digest_84 : decode cX8_digest 84 = .ok (.if_icmp .ge 24, 3) := by decide +kernel
theorem dX8_digest_87 : decode cX8_digest 87 = .ok (.aload_n 0, 1) := by decide +kernel
theorem dX8_digest_88 : decode cX8_digest 88 = .ok (.aload_n 0, 1) := by decide +kernel
theorem dX8_digest_89 : decode cX8_digest 89 = .ok (.getfield 7, 3) := by decide +kernel
theorem dX8_digest_92 : decode cX8_digest 92 = .ok (.sipush 129, 3) := by decide +kernel
theorem dX8_digest_95 : decode cX8_digest 95 = .ok (.iload_n 1, 1) := by decide +kernel
theorem dX8_digest_96 : decode cX8_digest 96 = .ok (.iadd, 1) := by decide +kernel
theorem dX8_digest_97 : decode cX8_digest 97 = .ok (.iaload, 1) := by decide +kernel
theorem dX8_digest_98 : decode cX8_digest 98 = .ok (.i2l, 1) := by decide +kernel
theorem dX8_digest_99 : decode cX8_digest 99 = .ok (.invokevirtual 215, 3) := by decide +kernel
theorem dX8_digest_102 : decode cX8_digest 102 = .ok (.iinc 1 1, 3) := by decide +kernel
theorem dX8_digest_105 : decode cX8_digest 105 = .ok (.goto (-23), 3) := by decide +kernel
