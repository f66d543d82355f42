theorem dX7_pass_16 : decode cX7_pass 16 = .ok (.invokevirtual 71, 3) := by decide +kernel
theorem dX7_pass_19 : decode cX7_pass 19 = .ok (.aload_n 0, 1) := by decide +kernel
theorem dX7_pass_20 : decode cX7_pass 20 = .ok (.getfield 10, 3) := by decide +kernel
theorem dX7_pass_23 : decode cX7_pass 23 = .ok (.getfield 141, 3) := by decide +kernel
theorem dX7_pass_26 : decode cX7_pass 26 = .ok (.istore_n 2, 1) := by decide +kernel
theorem dX7_pass_27 : decode cX7_pass 27 = .ok (.aload_n 0, 1) := by decide +kernel
theorem dX7_pass_28 : decode cX7_pass 28 = .ok (.getfield 10, 3) := by decide +kernel
theorem dX7_pass_31 : decode cX7_pass 31 = .ok (.iload_n 1, 1) := by decide +kernel
theorem dX7_pass_32 : decode cX7_pass 32 = .ok (.invokevirtual 144, 3) := by decide +kernel
theorem dX7_pass_35 : decode cX7_pass 35 = .ok (.aload_n 0, 1) := by decide +kernel
theorem dX7_pass_36 : decode cX7_pass 36 = .ok (.getfield 10, 3) := by decide +kernel
theorem dX7_pass_39 : decode cX7_pass 39 = .ok (.getfield 141, 3) := by decide +kernel
theorem dX7_pass_42 : decode cX7_pass 42 = .ok (.iload_n 2, 1) := by decide +kernel
theorem dX7_pass_43 : decode cX7_pass 43 = .ok (.isub, 1) := by decide +kernel
theorem dX7_pass_44 : decode cX7_pass 44 = .ok (.ireturn, 1) := by decide +kernel
theorem dX7_append_0 : decode cX7_append 0 = .ok (.iload_n 1, 1) := by decide +kernel
theorem dX7_append_1 : decode cX7_append 1 = .ok (.bipush 33, 2) := by decide +kernel
theorem dX7_append_3 : decode cX7_append 3 = .ok (.if_icmp .lt 9, 3) := by decide +kernel
theorem dX7_append_6 : decode cX7_append 6 = .ok (.iload_n 1, 1) := by decide +kernel
theorem dX7_append_7 : decode cX7_append 7 = .ok (.bipush 126, 2) := by decide +kernel
theorem dX7_append_9 : decode cX7_append 9 = .ok (.if_icmp .le 13, 3) := by decide +kernel
theorem dX7_append_12 : decode cX7_append 12 = .ok (.new 51, 3) := by decide +kernel
theorem dX7_append_15 : decode cX7_append 15 = .ok (.dup, 1) := by decide +kernel
theorem dX7_append_16 : decode cX7_append 16 = .ok (.ldc 147, 2) := by decide +kernel
theorem dX7_append_18 : decode cX7_append 18 = .ok (.invokespecial 55, 3) := by decide +kernel
theorem dX7_append_21 : decode cX7_append 21 = .ok (.athrow, 1) := by decide +kernel
theorem dX7_append_22 : decode cX7_append 22 = .ok (.aload_n 0, 1) := by decide +kernel
theorem dX7_append_23 : decode cX7_append 23 = .ok (.getfield 36, 3) := by decide +kernel
theorem dX7_append_26 : decode cX7_append 26 = .ok (.invokevirtual 149, 3) := by decide +kernel
theorem dX7_append_29 : decode cX7_append 29 = .ok (.ifCond .eq 13, 3) := by decide +kernel
theorem dX7_append_32 : decode cX7_append 32 = .ok (.new 66, 3) := by decide +kernel
theorem dX7_append_35 : decode cX7_append 35 = .ok (.dup, 1) := by decide +kernel
theorem dX7_append_36 : decode cX7_append 36 = .ok (.ldc 153, 2) := by decide +kernel
theorem dX7_append_38 : decode cX7_append 38 = .ok (.invokespecial 70, 3) := by decide +kernel
theorem dX7_append_41 : decode cX7_append 41 = .ok (.athrow, 1) := by decide +kernel
theorem dX7_append_42 : decode cX7_append 42 = .ok (.aload_n 0, 1) := by decide +kernel
theorem dX7_append_43 : decode cX7_append 43 = .ok (.getfield 36, 3) := by decide +kernel
theorem dX7_append_46 : decode cX7_append 46 = .ok (.iload_n 1, 1) := by decide +kernel
theorem dX7_append_47 : decode cX7_append 47 = .ok (.i2c, 1) := by decide +kernel
theorem dX7_append_48 : decode cX7_append 48 = .ok (.invokevirtual 155, 3) := by decide +kernel
theorem dX7_append_51 : decode cX7_append 51 = .ok (.aload_n 0, 1) := by decide +kernel
theorem dX7_append_52 : decode cX7_append 52 = .ok (.getfield 36, 3) := by decide +kernel
theorem dX7_append_55 : decode cX7_append 55 = .ok (.getfield 159, 3) := by decide +kernel
theorem dX7_append_58 : decode cX7_append 58 = .ok (.ireturn, 1) := by decide +kernel
theorem dX7_clearBuffer_0 : decode cX7_clearBuffer 0 = .ok (.aload_n 0, 1) := by decide +kernel
theorem dX7_clearBuffer_1 : decode cX7_clearBuffer 1 = .ok (.getfield 36, 3) := by decide +kernel
theorem dX7_clearBuffer_4 : decode cX7_clearBuffer 4 = .ok (.getfield 159, 3) := by decide +kernel
theorem dX7_clearBuffer_7 : decode cX7_clearBuffer 7 = .ok (.istore_n 1, 1) := by decide +kernel
theorem dX7_clearBuffer_8 : decode cX7_clearBuffer 8 = .ok (.aload_n 0, 1) := by decide +kernel
theorem dX7_clearBuffer_9 : decode cX7_clearBuffer 9 = .ok (.getfield 36, 3) := by decide +kernel
theorem dX7_clearBuffer_12 : decode cX7_clearBuffer 12 = .ok (.iconst 0, 1) := by decide +kernel
theorem dX7_clearBuffer_13 : decode cX7_clearBuffer 13 = .ok (.putfield 159, 3) := by decide +kernel
theorem dX7_clearBuffer_16 : decode cX7_clearBuffer 16 = .ok (.iload_n 1, 1) := by decide +kernel
theorem dX7_clearBuffer_17 : decode cX7_clearBuffer 17 = .ok (.ireturn, 1) := by decide +kernel
theorem dX7_firstError_0 : decode cX7_firstError 0 = .ok (.aload_n 0, 1) := by decide +kernel
theorem dX7_firstError_1 : decode cX7_firstError 1 = .ok (.invokevirtual 162, 3) := by decide +kernel
theorem dX7_firstError_4 : decode cX7_firstError 4 = .ok (.ireturn, 1) := by decide +kernel
theorem dX7_follow_0 : decode cX7_follow 0 = .ok (.aload_n 0, 1) := by decide +kernel
theorem dX7_follow_1 : decode cX7_follow 1 = .ok (.invokevirtual 162, 3) := by decide +kernel
theorem dX7_follow_4 : decode cX7_follow 4 = .ok (.aload_n 0, 1) := by decide +kernel
theorem dX7_follow_5 : decode cX7_follow 5 = .ok (.getfield 36, 3) := by decide +kernel
theorem dX7_follow_8 : decode cX7_follow 8 = .ok (.getfield 159, 3) := by decide +kernel
theorem dX7_follow_11 : decode cX7_follow 11 = .ok (.if_icmp .lt 13, 3) := by decide +kernel
theorem dX7_follow_14 : decode cX7_follow 14 = .ok (.aload_n 0, 1) := by decide +kernel
theorem dX7_follow_15 : decode cX7_follow 15 = .ok (.getfield 43, 3) := by decide +kernel
theorem dX7_follow_18 : decode cX7_follow 18 = .ok (.invokevirtual 165, 3) := by decide +kernel
theorem dX7_follow_21 : decode cX7_follow 21 = .ok (.ifCond .ne 13, 3) := by decide +kernel
theorem dX7_follow_24 : decode cX7_follow 24 = .ok (.new 51, 3) := by decide +kernel
theorem dX7_follow_27 : decode cX7_follow 27 = .ok (.dup, 1) := by decide +kernel
theorem dX7_follow_28 : decode cX7_follow 28 = .ok (.ldc 168, 2) := by decide +kernel
theorem dX7_follow_30 : decode cX7_follow 30 = .ok (.invokespecial 55, 3) := by decide +kernel
theorem dX7_follow_33 : decode cX7_follow 33 = .ok (.athrow, 1) := by decide +kernel
theorem dX7_follow_34 : decode cX7_follow 34 = .ok (.aload_n 0, 1) := by decide +kernel
theorem dX7_follow_35 : decode cX7_follow 35 = .ok (.invokevirtual 170, 3) := by decide +kernel
theorem dX7_follow_38 : decode cX7_follow 38 = .ok (.istore_n 1, 1) := by decide +kernel
theorem dX7_follow_39 : decode cX7_follow 39 = .ok (.iload_n 1, 1) := by decide +kernel
theorem dX7_follow_40 : decode cX7_follow 40 = .ok (.iconst (-1), 1) := by decide +kernel
theorem dX7_follow_41 : decode cX7_follow 41 = .ok (.if_icmp .ne 13, 3) := by decide +kernel
theorem dX7_follow_44 : decode cX7_follow 44 = .ok (.new 66, 3) := by decide +kernel
theorem dX7_follow_47 : decode cX7_follow 47 = .ok (.dup, 1) := by decide +kernel
theorem dX7_follow_48 : decode cX7_follow 48 = .ok (.ldc 173, 2) := by decide +kernel
theorem dX7_follow_50 : decode cX7_follow 50 = .ok (.invokespecial 70, 3) := by decide +kernel
theorem dX7_follow_53 : decode cX7_follow 53 = .ok (.athrow, 1) := by decide +kernel
theorem dX7_follow_54 : decode cX7_follow 54 = .ok (.aload_n 0, 1) := by decide +kernel
theorem dX7_follow_55 : decode cX7_follow 55 = .ok (.getfield 22, 3) := by decide +kernel
theorem dX7_follow_58 : decode cX7_follow 58 = .ok (.aload_n 0, 1) := by decide +kernel
theorem dX7_follow_59 : decode cX7_follow 59 = .ok (.getfield 10, 3) := by decide +kernel
theorem dX7_follow_62 : decode cX7_follow 62 = .ok (.invokevirtual 71, 3) := by decide +kernel
theorem dX7_follow_65 : decode cX7_follow 65 = .ok (.aload_n 0, 1) := by decide +kernel
theorem dX7_follow_66 : decode cX7_follow 66 = .ok (.getfield 10, 3) := by decide +kernel
theorem dX7_follow_69 : decode cX7_follow 69 = .ok (.aload_n 0, 1) := by decide +kernel
theorem dX7_follow_70 : decode cX7_follow 70 = .ok (.getfield 16, 3) := by decide +kernel
theorem dX7_follow_73 : decode cX7_follow 73 = .ok (.invokevirtual 175, 3) := by decide +kernel
theorem dX7_follow_76 : decode cX7_follow 76 = .ok (.aload_n 0, 1) := by decide +kernel
theorem dX7_follow_77 : decode cX7_follow 77 = .ok (.getfield 36, 3) := by decide +kernel
theorem dX7_follow_80 : decode cX7_follow 80 = .ok (.iconst 0, 1) := by decide +kernel
theorem dX7_follow_81 : decode cX7_follow 81 = .ok (.putfield 159, 3) := by decide +kernel
theorem dX7_follow_84 : decode cX7_follow 84 = .ok (.iload_n 1, 1) := by decide +kernel
theorem dX7_follow_85 : decode cX7_follow 85 = .ok (.ireturn, 1) := by decide +kernel
theorem dX7_keep_0 : decode cX7_keep 0 = .ok (.iload_n 1, 1) := by decide +kernel
theorem dX7_keep_1 : decode cX7_keep 1 = .ok (.invokestatic 178, 3) := by decide +kernel
theorem dX7_keep_4 : decode cX7_keep 4 = .ok (.aload_n 0, 1) := by decide +kernel
theorem dX7_keep_5 : decode cX7_keep 5 = .ok (.getfield 29, 3) := by decide +kernel
theorem dX7_keep_8 : decode cX7_keep 8 = .ok (.iload_n 1, 1) := by decide +kernel
theorem dX7_keep_9 : decode cX7_keep 9 = .ok (.aload_n 0, 1) := by decide +kernel
theorem dX7_keep_10 : decode cX7_keep 10 = .ok (.getfield 10, 3) := by decide +kernel
theorem dX7_keep_13 : decode cX7_keep 13 = .ok (.invokevirtual 181, 3) := by decide +kernel
theorem dX7_keep_16 : decode cX7_keep 16 = .ok (.return_, 1) := by decide +kernel
theorem dX7_goBack_0 : decode cX7_goBack 0 = .ok (.iload_n 1, 1) := by decide +kernel
theorem dX7_goBack_1 : decode cX7_goBack 1 = .ok (.invokestatic 178, 3) := by decide +kernel
theorem dX7_goBack_4 : decode cX7_goBack 4 = .ok (.aload_n 0, 1) := by decide +kernel
theorem dX7_goBack_5 : decode cX7_goBack 5 = .ok (.getfield 29, 3) := by decide +kernel
theorem dX7_goBack_8 : decode cX7_goBack 8 = .ok (.iload_n 1, 1) := by decide +kernel
theorem dX7_goBack_9 : decode cX7_goBack 9 = .ok (.invokevirtual 185, 3) := by decide +kernel
theorem dX7_goBack_12 : decode cX7_goBack 12 = .ok (.astore_n 2, 1) := by decide +kernel
theorem dX7_goBack_13 : decode cX7_goBack 13 = .ok (.aload_n 2, 1) := by decide +kernel
theorem dX7_goBack_14 : decode cX7_goBack 14 = .ok (.ifnonnull 13, 3) := by decide +kernel
theorem dX7_goBack_17 : decode cX7_goBack 17 = .ok (.new 66, 3) := by decide +kernel
theorem dX7_goBack_20 : decode cX7_goBack 20 = .ok (.dup, 1) := by decide +kernel
theorem dX7_goBack_21 : decode cX7_goBack 21 = .ok (.ldc 189, 2) := by decide +kernel
theorem dX7_goBack_23 : decode cX7_goBack 23 = .ok (.invokespecial 70, 3) := by decide +kernel
theorem dX7_goBack_26 : decode cX7_goBack 26 = .ok (.athrow, 1) := by decide +kernel
theorem dX7_goBack_27 : decode cX7_goBack 27 = .ok (.aload_n 0, 1) := by decide +kernel
theorem dX7_goBack_28 : decode cX7_goBack 28 = .ok (.getfield 22, 3) := by decide +kernel
theorem dX7_goBack_31 : decode cX7_goBack 31 = .ok (.aload_n 0, 1) := by decide +kernel
theorem dX7_goBack_32 : decode cX7_goBack 32 = .ok (.getfield 10, 3) := by decide +kernel
theorem dX7_goBack_35 : decode cX7_goBack 35 = .ok (.invokevirtual 71, 3) := by decide +kernel
theorem dX7_goBack_38 : decode cX7_goBack 38 = .ok (.aload_n 0, 1) := by decide +kernel
theorem dX7_goBack_39 : decode cX7_goBack 39 = .ok (.getfield 10, 3) := by decide +kernel
theorem dX7_goBack_42 : decode cX7_goBack 42 = .ok (.aload_n 2, 1) := by decide +kernel
theorem dX7_goBack_43 : decode cX7_goBack 43 = .ok (.invokevirtual 175, 3) := by decide +kernel
theorem dX7_goBack_46 : decode cX7_goBack 46 = .ok (.return_, 1) := by decide +kernel
theorem dX7_undo_0 : decode cX7_undo 0 = .ok (.aload_n 0, 1) := by decide +kernel
theorem dX7_undo_1 : decode cX7_undo 1 = .ok (.getfield 22, 3) := by decide +kernel
theorem dX7_undo_4 : decode cX7_undo 4 = .ok (.invokevirtual 191, 3) := by decide +kernel
theorem dX7_undo_7 : decode cX7_undo 7 = .ok (.astore_n 1, 1) := by decide +kernel
theorem dX7_undo_8 : decode cX7_undo 8 = .ok (.aload_n 1, 1) := by decide +kernel
theorem dX7_undo_9 : decode cX7_undo 9 = .ok (.ifnonnull 13, 3) := by decide +kernel
theorem dX7_undo_12 : decode cX7_undo 12 = .ok (.new 66, 3) := by decide +kernel
theorem dX7_undo_15 : decode cX7_undo 15 = .ok (.dup, 1) := by decide +kernel
theorem dX7_undo_16 : decode cX7_undo 16 = .ok (.ldc 195, 2) := by decide +kernel
theorem dX7_undo_18 : decode cX7_undo 18 = .ok (.invokespecial 70, 3) := by decide +kernel
theorem dX7_undo_21 : decode cX7_undo 21 = .ok (.athrow, 1) := by decide +kernel
theorem dX7_undo_22 : decode cX7_undo 22 = .ok (.aload_n 0, 1) := by decide +kernel
theorem dX7_undo_23 : decode cX7_undo 23 = .ok (.getfield 10, 3) := by decide +kernel
theorem dX7_undo_26 : decode cX7_undo 26 = .ok (.aload_n 1, 1) := by decide +kernel
theorem dX7_undo_27 : decode cX7_undo 27 = .ok (.invokevirtual 175, 3) := by decide +kernel
theorem dX7_undo_30 : decode cX7_undo 30 = .ok (.return_, 1) := by decide +kernel
theorem dX7_savedStates_0 : decode cX7_savedStates 0 = .ok (.aload_n 0, 1) := by decide +kernel
theorem dX7_savedStates_1 : decode cX7_savedStates 1 = .ok (.getfield 22, 3) := by decide +kernel
theorem dX7_savedStates_4 : decode cX7_savedStates 4 = .ok (.getfield 197, 3) := by decide +kernel
theorem dX7_savedStates_7 : decode cX7_savedStates 7 = .ok (.ireturn, 1) := by decide +kernel
theorem dX7_sparrows_0 : decode cX7_sparrows 0 = .ok (.aload_n 0, 1) := by decide +kernel
theorem dX7_sparrows_1 : decode cX7_sparrows 1 = .ok (.getfield 10, 3) := by decide +kernel
theorem dX7_sparrows_4 : decode cX7_sparrows 4 = .ok (.getfield 58, 3) := by decide +kernel
theorem dX7_sparrows_7 : decode cX7_sparrows 7 = .ok (.ireturn, 1) := by decide +kernel
theorem dX7_flown_0 : decode cX7_flown 0 = .ok (.aload_n 0, 1) := by decide +kernel
theorem dX7_flown_1 : decode cX7_flown 1 = .ok (.iload_n 1, 1) := by decide +kernel
theorem dX7_flown_2 : decode cX7_flown 2 = .ok (.invokevirtual 79, 3) := by decide +kernel
theorem dX7_flown_5 : decode cX7_flown 5 = .ok (.getfield 198, 3) := by decide +kernel
theorem dX7_flown_8 : decode cX7_flown 8 = .ok (.ireturn, 1) := by decide +kernel
theorem dX7_lapsOf_0 : decode cX7_lapsOf 0 = .ok (.aload_n 0, 1) := by decide +kernel
theorem dX7_lapsOf_1 : decode cX7_lapsOf 1 = .ok (.iload_n 1, 1) := by decide +kernel
theorem dX7_lapsOf_2 : decode cX7_lapsOf 2 = .ok (.invokevirtual 79, 3) := by decide +kernel
theorem dX7_lapsOf_5 : decode cX7_lapsOf 5 = .ok (.invokevirtual 201, 3) := by decide +kernel
theorem dX7_lapsOf_8 : decode cX7_lapsOf 8 = .ok (.ireturn, 1) := by decide +kernel
theorem dX7_speedOf_0 : decode cX7_speedOf 0 = .ok (.aload_n 0, 1) := by decide +kernel
theorem dX7_speedOf_1 : decode cX7_speedOf 1 = .ok (.iload_n 1, 1) := by decide +kernel
theorem dX7_speedOf_2 : decode cX7_speedOf 2 = .ok (.invokevirtual 79, 3) := by decide +kernel
theorem dX7_speedOf_5 : decode cX7_speedOf 5 = .ok (.getfield 204, 3) := by decide +kernel
theorem dX7_speedOf_8 : decode cX7_speedOf 8 = .ok (.ireturn, 1) := by decide +kernel
theorem dX7_strengthOf_0 : decode cX7_strengthOf 0 = .ok (.aload_n 0, 1) := by decide +kernel
theorem dX7_strengthOf_1 : decode cX7_strengthOf 1 = .ok (.iload_n 1, 1) := by decide +kernel
theorem dX7_strengthOf_2 : decode cX7_strengthOf 2 = .ok (.invokevirtual 79, 3) := by decide +kernel
theorem dX7_strengthOf_5 : decode cX7_strengthOf 5 = .ok (.getfield 207, 3) := by decide +kernel
theorem dX7_strengthOf_8 : decode cX7_strengthOf 8 = .ok (.ireturn, 1) := by decide +kernel
theorem dX7_wearOf_0 : decode cX7_wearOf 0 = .ok (.aload_n 0, 1) := by decide +kernel
theorem dX7_wearOf_1 : decode cX7_wearOf 1 = .ok (.iload_n 1, 1) := by decide +kernel
theorem dX7_wearOf_2 : decode cX7_wearOf 2 = .ok (.invokevirtual 79, 3) := by decide +kernel
theorem dX7_wearOf_5 : decode cX7_wearOf 5 = .ok (.getfield 210, 3) := by decide +kernel
theorem dX7_wearOf_8 : decode cX7_wearOf 8 = .ok (.ireturn, 1) := by decide +kernel
theorem dX7_laneOf_0 : decode cX7_laneOf 0 = .ok (.aload_n 0, 1) := by decide +kernel
theorem dX7_laneOf_1 : decode cX7_laneOf 1 = .ok (.iload_n 1, 1) := by decide +kernel
theorem dX7_laneOf_2 : decode cX7_laneOf 2 = .ok (.invokevirtual 79, 3) := by decide +kernel
theorem dX7_laneOf_5 : decode cX7_laneOf 5 = .ok (.getfield 213, 3) := by decide +kernel
theorem dX7_laneOf_8 : decode cX7_laneOf 8 = .ok (.ireturn, 1) := by decide +kernel
theorem dX7_stateOf_0 : decode cX7_stateOf 0 = .ok (.aload_n 0, 1) := by decide +kernel
theorem dX7_stateOf_1 : decode cX7_stateOf 1 = .ok (.iload_n 1, 1) := by decide +kernel
theorem dX7_stateOf_2 : decode cX7_stateOf 2 = .ok (.invokevirtual 79, 3) := by decide +kernel
theorem dX7_stateOf_5 : decode cX7_stateOf 5 = .ok (.getfield 92, 3) := by decide +kernel
theorem dX7_stateOf_8 : decode cX7_stateOf 8 = .ok (.ireturn, 1) := by decide +kernel
theorem dX7_paceOf_0 : decode cX7_paceOf 0 = .ok (.aload_n 0, 1) := by decide +kernel
theorem dX7_paceOf_1 : decode cX7_paceOf 1 = .ok (.iload_n 1, 1) := by decide +kernel
theorem dX7_paceOf_2 : decode cX7_paceOf 2 = .ok (.invokevirtual 79, 3) := by decide +kernel
theorem dX7_paceOf_5 : decode cX7_paceOf 5 = .ok (.getfield 87, 3) := by decide +kernel
theorem dX7_paceOf_8 : decode cX7_paceOf 8 = .ok (.ireturn, 1) := by decide +kernel
theorem dX7_partnerOf_0 : decode cX7_partnerOf 0 = .ok (.aload_n 0, 1) := by decide +kernel
theorem dX7_partnerOf_1 : decode cX7_partnerOf 1 = .ok (.iload_n 1, 1) := by decide +kernel
theorem dX7_partnerOf_2 : decode cX7_partnerOf 2 = .ok (.invokevirtual 79, 3) := by decide +kernel
theorem dX7_partnerOf_5 : decode cX7_partnerOf 5 = .ok (.astore_n 2, 1) := by decide +kernel
theorem dX7_partnerOf_6 : decode cX7_partnerOf 6 = .ok (.aload_n 2, 1) := by decide +kernel
theorem dX7_partnerOf_7 : decode cX7_partnerOf 7 = .ok (.getfield 216, 3) := by decide +kernel
theorem dX7_partnerOf_10 : decode cX7_partnerOf 10 = .ok (.iconst (-1), 1) := by decide +kernel
theorem dX7_partnerOf_11 : decode cX7_partnerOf 11 = .ok (.if_icmp .ne 13, 3) := by decide +kernel
theorem dX7_partnerOf_14 : decode cX7_partnerOf 14 = .ok (.new 66, 3) := by decide +kernel
theorem dX7_partnerOf_17 : decode cX7_partnerOf 17 = .ok (.dup, 1) := by decide +kernel
theorem dX7_partnerOf_18 : decode cX7_partnerOf 18 = .ok (.ldc 219, 2) := by decide +kernel
theorem dX7_partnerOf_20 : decode cX7_partnerOf 20 = .ok (.invokespecial 70, 3) := by decide +kernel
theorem dX7_partnerOf_23 : decode cX7_partnerOf 23 = .ok (.athrow, 1) := by decide +kernel
theorem dX7_partnerOf_24 : decode cX7_partnerOf 24 = .ok (.aload_n 2, 1) := by decide +kernel
theorem dX7_partnerOf_25 : decode cX7_partnerOf 25 = .ok (.getfield 216, 3) := by decide +kernel
theorem dX7_partnerOf_28 : decode cX7_partnerOf 28 = .ok (.ireturn, 1) := by decide +kernel
theorem dX7_isCalledIn_0 : decode cX7_isCalledIn 0 = .ok (.aload_n 0, 1) := by decide +kernel
theorem dX7_isCalledIn_1 : decode cX7_isCalledIn 1 = .ok (.iload_n 1, 1) := by decide +kernel
theorem dX7_isCalledIn_2 : decode cX7_isCalledIn 2 = .ok (.invokevirtual 79, 3) := by decide +kernel
theorem dX7_isCalledIn_5 : decode cX7_isCalledIn 5 = .ok (.getfield 97, 3) := by decide +kernel
theorem dX7_isCalledIn_8 : decode cX7_isCalledIn 8 = .ok (.ireturn, 1) := by decide +kernel
theorem dX7_limitOf_0 : decode cX7_limitOf 0 = .ok (.iload_n 1, 1) := by decide +kernel
theorem dX7_limitOf_1 : decode cX7_limitOf 1 = .ok (.invokestatic 110, 3) := by decide +kernel
theorem dX7_limitOf_4 : decode cX7_limitOf 4 = .ok (.aload_n 0, 1) := by decide +kernel
theorem dX7_limitOf_5 : decode cX7_limitOf 5 = .ok (.getfield 10, 3) := by decide +kernel
theorem dX7_limitOf_8 : decode cX7_limitOf 8 = .ok (.iload_n 1, 1) := by decide +kernel
theorem dX7_limitOf_9 : decode cX7_limitOf 9 = .ok (.invokevirtual 115, 3) := by decide +kernel
theorem dX7_limitOf_12 : decode cX7_limitOf 12 = .ok (.ireturn, 1) := by decide +kernel
theorem dX7_placeByCounting_0 : decode cX7_placeByCounting 0 = .ok (.aload_n 0, 1) := by decide +kernel
theorem dX7_placeByCounting_1 : decode cX7_placeByCounting 1 = .ok (.getfield 10, 3) := by decide +kernel
theorem dX7_placeByCounting_4 : decode cX7_placeByCounting 4 = .ok (.aload_n 0, 1) := by decide +kernel
theorem dX7_placeByCounting_5 : decode cX7_placeByCounting 5 = .ok (.iload_n 1, 1) := by decide +kernel
theorem dX7_placeByCounting_6 : decode cX7_placeByCounting 6 = .ok (.invokevirtual 79, 3) := by decide +kernel
theorem dX7_placeByCounting_9 : decode cX7_placeByCounting 9 = .ok (.invokevirtual 221, 3) := by decide +kernel
theorem dX7_placeByCounting_12 : decode cX7_placeByCounting 12 = .ok (.ireturn, 1) := by decide +kernel
theorem dX7_birdByOrder_0 : decode cX7_birdByOrder 0 = .ok (.aload_n 0, 1) := by decide +kernel
theorem dX7_birdByOrder_1 : decode cX7_birdByOrder 1 = .ok (.getfield 10, 3) := by decide +kernel
theorem dX7_birdByOrder_4 : decode cX7_birdByOrder 4 = .ok (.invokevirtual 225, 3) := by decide +kernel
theorem dX7_birdByOrder_7 : decode cX7_birdByOrder 7 = .ok (.aload_n 0, 1) := by decide +kernel
theorem dX7_birdByOrder_8 : decode cX7_birdByOrder 8 = .ok (.getfield 10, 3) := by decide +kernel
theorem dX7_birdByOrder_11 : decode cX7_birdByOrder 11 = .ok (.iload_n 1, 1) := by decide +kernel
theorem dX7_birdByOrder_12 : decode cX7_birdByOrder 12 = .ok (.invokevirtual 228, 3) := by decide +kernel
theorem dX7_birdByOrder_15 : decode cX7_birdByOrder 15 = .ok (.astore_n 2, 1) := by decide +kernel
theorem dX7_birdByOrder_16 : decode cX7_birdByOrder 16 = .ok (.aload_n 2, 1) := by decide +kernel
theorem dX7_birdByOrder_17 : decode cX7_birdByOrder 17 = .ok (.ifnonnull 13, 3) := by decide +kernel
theorem dX7_birdByOrder_20 : decode cX7_birdByOrder 20 = .ok (.new 231, 3) := by decide +kernel
theorem dX7_birdByOrder_23 : decode cX7_birdByOrder 23 = .ok (.dup, 1) := by decide +kernel
theorem dX7_birdByOrder_24 : decode cX7_birdByOrder 24 = .ok (.ldc 233, 2) := by decide +kernel
theorem dX7_birdByOrder_26 : decode cX7_birdByOrder 26 = .ok (.invokespecial 235, 3) := by decide +kernel
theorem dX7_birdByOrder_29 : decode cX7_birdByOrder 29 = .ok (.athrow, 1) := by decide +kernel
theorem dX7_birdByOrder_30 : decode cX7_birdByOrder 30 = .ok (.aload_n 2, 1) := by decide +kernel
theorem dX7_birdByOrder_31 : decode cX7_birdByOrder 31 = .ok (.getfield 236, 3) := by decide +kernel
theorem dX7_birdByOrder_34 : decode cX7_birdByOrder 34 = .ok (.ireturn, 1) := by decide +kernel
theorem dX7_gapAhead_0 : decode cX7_gapAhead 0 = .ok (.aload_n 0, 1) := by decide +kernel
theorem dX7_gapAhead_1 : decode cX7_gapAhead 1 = .ok (.getfield 10, 3) := by decide +kernel
theorem dX7_gapAhead_4 : decode cX7_gapAhead 4 = .ok (.aload_n 0, 1) := by decide +kernel
theorem dX7_gapAhead_5 : decode cX7_gapAhead 5 = .ok (.iload_n 1, 1) := by decide +kernel
theorem dX7_gapAhead_6 : decode cX7_gapAhead 6 = .ok (.invokevirtual 79, 3) := by decide +kernel
theorem dX7_gapAhead_9 : decode cX7_gapAhead 9 = .ok (.invokevirtual 239, 3) := by decide +kernel
theorem dX7_gapAhead_12 : decode cX7_gapAhead 12 = .ok (.ireturn, 1) := by decide +kernel
theorem dX7_isDrafting_0 : decode cX7_isDrafting 0 = .ok (.aload_n 0, 1) := by decide +kernel
theorem dX7_isDrafting_1 : decode cX7_isDrafting 1 = .ok (.iload_n 1, 1) := by decide +kernel
theorem dX7_isDrafting_2 : decode cX7_isDrafting 2 = .ok (.invokevirtual 242, 3) := by decide +kernel
theorem dX7_isDrafting_5 : decode cX7_isDrafting 5 = .ok (.astore_n 2, 1) := by decide +kernel
theorem dX7_isDrafting_6 : decode cX7_isDrafting 6 = .ok (.aload_n 0, 1) := by decide +kernel
theorem dX7_isDrafting_7 : decode cX7_isDrafting 7 = .ok (.getfield 10, 3) := by decide +kernel
theorem dX7_isDrafting_10 : decode cX7_isDrafting 10 = .ok (.aload_n 2, 1) := by decide +kernel
theorem dX7_isDrafting_11 : decode cX7_isDrafting 11 = .ok (.aload_n 0, 1) := by decide +kernel
theorem dX7_isDrafting_12 : decode cX7_isDrafting 12 = .ok (.getfield 10, 3) := by decide +kernel
theorem dX7_isDrafting_15 : decode cX7_isDrafting 15 = .ok (.aload_n 2, 1) := by decide +kernel
theorem dX7_isDrafting_16 : decode cX7_isDrafting 16 = .ok (.invokevirtual 245, 3) := by decide +kernel
theorem dX7_isDrafting_19 : decode cX7_isDrafting 19 = .ok (.invokevirtual 249, 3) := by decide +kernel
theorem dX7_isDrafting_22 : decode cX7_isDrafting 22 = .ok (.ifCond .le 7, 3) := by decide +kernel
theorem dX7_isDrafting_25 : decode cX7_isDrafting 25 = .ok (.iconst 1, 1) := by decide +kernel
theorem dX7_isDrafting_26 : decode cX7_isDrafting 26 = .ok (.goto 4, 3) := by decide +kernel
theorem dX7_isDrafting_29 : decode cX7_isDrafting 29 = .ok (.iconst 0, 1) := by decide +kernel
theorem dX7_isDrafting_30 : decode cX7_isDrafting 30 = .ok (.ireturn, 1) := by decide +kernel
theorem dX7_whereIs_0 : decode cX7_whereIs 0 = .ok (.aload_n 0, 1) := by decide +kernel
theorem dX7_whereIs_1 : decode cX7_whereIs 1 = .ok (.iload_n 1, 1) := by decide +kernel
theorem dX7_whereIs_2 : decode cX7_whereIs 2 = .ok (.invokevirtual 79, 3) := by decide +kernel
theorem dX7_whereIs_5 : decode cX7_whereIs 5 = .ok (.invokevirtual 253, 3) := by decide +kernel
theorem dX7_whereIs_8 : decode cX7_whereIs 8 = .ok (.ireturn, 1) := by decide +kernel
theorem dX7_allowance_0 : decode cX7_allowance 0 = .ok (.aload_n 0, 1) := by decide +kernel
theorem dX7_allowance_1 : decode cX7_allowance 1 = .ok (.getfield 10, 3) := by decide +kernel
theorem dX7_allowance_4 : decode cX7_allowance 4 = .ok (.aload_n 0, 1) := by decide +kernel
theorem dX7_allowance_5 : decode cX7_allowance 5 = .ok (.iload_n 1, 1) := by decide +kernel
theorem dX7_allowance_6 : decode cX7_allowance 6 = .ok (.invokevirtual 242, 3) := by decide +kernel
theorem dX7_allowance_9 : decode cX7_allowance 9 = .ok (.invokevirtual 256, 3) := by decide +kernel
theorem dX7_allowance_12 : decode cX7_allowance 12 = .ok (.ireturn, 1) := by decide +kernel
theorem dX7_wouldFly_0 : decode cX7_wouldFly 0 = .ok (.aload_n 0, 1) := by decide +kernel
theorem dX7_wouldFly_1 : decode cX7_wouldFly 1 = .ok (.iload_n 1, 1) := by decide +kernel
theorem dX7_wouldFly_2 : decode cX7_wouldFly 2 = .ok (.invokevirtual 79, 3) := by decide +kernel
theorem dX7_wouldFly_5 : decode cX7_wouldFly 5 = .ok (.astore_n 3, 1) := by decide +kernel
theorem dX7_wouldFly_6 : decode cX7_wouldFly 6 = .ok (.iload_n 2, 1) := by decide +kernel
theorem dX7_wouldFly_7 : decode cX7_wouldFly 7 = .ok (.invokestatic 135, 3) := by decide +kernel
theorem dX7_wouldFly_10 : decode cX7_wouldFly 10 = .ok (.aload_n 0, 1) := by decide +kernel
theorem dX7_wouldFly_11 : decode cX7_wouldFly 11 = .ok (.invokevirtual 138, 3) := by decide +kernel
theorem dX7_wouldFly_14 : decode cX7_wouldFly 14 = .ok (.aload_n 0, 1) := by decide +kernel
theorem dX7_wouldFly_15 : decode cX7_wouldFly 15 = .ok (.aload_n 3, 1) := by decide +kernel
theorem dX7_wouldFly_16 : decode cX7_wouldFly 16 = .ok (.aload_n 3, 1) := by decide +kernel
theorem dX7_wouldFly_17 : decode cX7_wouldFly 17 = .ok (.getfield 87, 3) := by decide +kernel
theorem dX7_wouldFly_20 : decode cX7_wouldFly 20 = .ok (.iload_n 2, 1) := by decide +kernel
theorem dX7_wouldFly_21 : decode cX7_wouldFly 21 = .ok (.invokevirtual 259, 3) := by decide +kernel
theorem dX7_wouldFly_24 : decode cX7_wouldFly 24 = .ok (.ireturn, 1) := by decide +kernel
theorem dX7_wouldWin_0 : decode cX7_wouldWin 0 = .ok (.aload_n 0, 1) := by decide +kernel
theorem dX7_wouldWin_1 : decode cX7_wouldWin 1 = .ok (.invokevirtual 263, 3) := by decide +kernel
theorem dX7_wouldWin_4 : decode cX7_wouldWin 4 = .ok (.istore_n 1, 1) := by decide +kernel
theorem dX7_wouldWin_5 : decode cX7_wouldWin 5 = .ok (.iload_n 1, 1) := by decide +kernel
theorem dX7_wouldWin_6 : decode cX7_wouldWin 6 = .ok (.iconst (-1), 1) := by decide +kernel
theorem dX7_wouldWin_7 : decode cX7_wouldWin 7 = .ok (.if_icmp .ne 14, 3) := by decide +kernel
theorem dX7_wouldWin_10 : decode cX7_wouldWin 10 = .ok (.new 66, 3) := by decide +kernel
theorem dX7_wouldWin_13 : decode cX7_wouldWin 13 = .ok (.dup, 1) := by decide +kernel
theorem dX7_wouldWin_14 : decode cX7_wouldWin 14 = .ok (.ldc_w 266, 3) := by decide +kernel
theorem dX7_wouldWin_17 : decode cX7_wouldWin 17 = .ok (.invokespecial 70, 3) := by decide +kernel
theorem dX7_wouldWin_20 : decode cX7_wouldWin 20 = .ok (.athrow, 1) := by decide +kernel
theorem dX7_wouldWin_21 : decode cX7_wouldWin 21 = .ok (.iload_n 1, 1) := by decide +kernel
theorem dX7_wouldWin_22 : decode cX7_wouldWin 22 = .ok (.ireturn, 1) := by decide +kernel
theorem dX7_secondsToNext_0 : decode cX7_secondsToNext 0 = .ok (.aload_n 0, 1) := by decide +kernel
theorem dX7_secondsToNext_1 : decode cX7_secondsToNext 1 = .ok (.invokevirtual 268, 3) := by decide +kernel
theorem dX7_secondsToNext_4 : decode cX7_secondsToNext 4 = .ok (.istore_n 1, 1) := by decide +kernel
theorem dX7_secondsToNext_5 : decode cX7_secondsToNext 5 = .ok (.iload_n 1, 1) := by decide +kernel
theorem dX7_secondsToNext_6 : decode cX7_secondsToNext 6 = .ok (.iconst (-1), 1) := by decide +kernel
theorem dX7_secondsToNext_7 : decode cX7_secondsToNext 7 = .ok (.if_icmp .ne 14, 3) := by decide +kernel
theorem dX7_secondsToNext_10 : decode cX7_secondsToNext 10 = .ok (.new 66, 3) := by decide +kernel
theorem dX7_secondsToNext_13 : decode cX7_secondsToNext 13 = .ok (.dup, 1) := by decide +kernel
theorem dX7_secondsToNext_14 : decode cX7_secondsToNext 14 = .ok (.ldc_w 271, 3) := by decide +kernel
theorem dX7_secondsToNext_17 : decode cX7_secondsToNext 17 = .ok (.invokespecial 70, 3) := by decide +kernel
theorem dX7_secondsToNext_20 : decode cX7_secondsToNext 20 = .ok (.athrow, 1) := by decide +kernel
theorem dX7_secondsToNext_21 : decode cX7_secondsToNext 21 = .ok (.iload_n 1, 1) := by decide +kernel
theorem dX7_secondsToNext_22 : decode cX7_secondsToNext 22 = .ok (.ireturn, 1) := by decide +kernel
theorem dX7_flownWithPace_0 : decode cX7_flownWithPace 0 = .ok (.aload_n 0, 1) := by decide +kernel
theorem dX7_flownWithPace_1 : decode cX7_flownWithPace 1 = .ok (.iload_n 1, 1) := by decide +kernel
theorem dX7_flownWithPace_2 : decode cX7_flownWithPace 2 = .ok (.invokevirtual 79, 3) := by decide +kernel
theorem dX7_flownWithPace_5 : decode cX7_flownWithPace 5 = .ok (.astore_n 3, 1) := by decide +kernel
theorem dX7_flownWithPace_6 : decode cX7_flownWithPace 6 = .ok (.iload_n 2, 1) := by decide +kernel
theorem dX7_flownWithPace_7 : decode cX7_flownWithPace 7 = .ok (.invokestatic 83, 3) := by decide +kernel
theorem dX7_flownWithPace_10 : decode cX7_flownWithPace 10 = .ok (.aload_n 0, 1) := by decide +kernel
theorem dX7_flownWithPace_11 : decode cX7_flownWithPace 11 = .ok (.invokevirtual 138, 3) := by decide +kernel
theorem dX7_flownWithPace_14 : decode cX7_flownWithPace 14 = .ok (.aload_n 0, 1) := by decide +kernel
theorem dX7_flownWithPace_15 : decode cX7_flownWithPace 15 = .ok (.aload_n 3, 1) := by decide +kernel
theorem dX7_flownWithPace_16 : decode cX7_flownWithPace 16 = .ok (.iload_n 2, 1) := by decide +kernel
theorem dX7_flownWithPace_17 : decode cX7_flownWithPace 17 = .ok (.bipush 50, 2) := by decide +kernel
theorem dX7_flownWithPace_19 : decode cX7_flownWithPace 19 = .ok (.invokevirtual 259, 3) := by decide +kernel
theorem dX7_flownWithPace_22 : decode cX7_flownWithPace 22 = .ok (.ireturn, 1) := by decide +kernel
theorem dX7_bestPace_0 : decode cX7_bestPace 0 = .ok (.aload_n 0, 1) := by decide +kernel
theorem dX7_bestPace_1 : decode cX7_bestPace 1 = .ok (.iload_n 1, 1) := by decide +kernel
theorem dX7_bestPace_2 : decode cX7_bestPace 2 = .ok (.invokevirtual 79, 3) := by decide +kernel
theorem dX7_bestPace_5 : decode cX7_bestPace 5 = .ok (.astore_n 2, 1) := by decide +kernel
theorem dX7_bestPace_6 : decode cX7_bestPace 6 = .ok (.aload_n 0, 1) := by decide +kernel
theorem dX7_bestPace_7 : decode cX7_bestPace 7 = .ok (.invokevirtual 138, 3) := by decide +kernel
theorem dX7_bestPace_10 : decode cX7_bestPace 10 = .ok (.aload_n 0, 1) := by decide +kernel
theorem dX7_bestPace_11 : decode cX7_bestPace 11 = .ok (.aload_n 2, 1) := by decide +kernel
theorem dX7_bestPace_12 : decode cX7_bestPace 12 = .ok (.invokevirtual 273, 3) := by decide +kernel
theorem dX7_bestPace_15 : decode cX7_bestPace 15 = .ok (.ireturn, 1) := by decide +kernel
theorem dX7_isRacing_0 : decode cX7_isRacing 0 = .ok (.aload_n 0, 1) := by decide +kernel
theorem dX7_isRacing_1 : decode cX7_isRacing 1 = .ok (.getfield 10, 3) := by decide +kernel
theorem dX7_isRacing_4 : decode cX7_isRacing 4 = .ok (.getfield 62, 3) := by decide +kernel
theorem dX7_isRacing_7 : decode cX7_isRacing 7 = .ok (.ireturn, 1) := by decide +kernel
theorem dX7_seconds_0 : decode cX7_seconds 0 = .ok (.aload_n 0, 1) := by decide +kernel
theorem dX7_seconds_1 : decode cX7_seconds 1 = .ok (.getfield 10, 3) := by decide +kernel
theorem dX7_seconds_4 : decode cX7_seconds 4 = .ok (.getfield 276, 3) := by decide +kernel
theorem dX7_seconds_7 : decode cX7_seconds 7 = .ok (.ireturn, 1) := by decide +kernel
theorem dX7_arrived_0 : decode cX7_arrived 0 = .ok (.aload_n 0, 1) := by decide +kernel
theorem dX7_arrived_1 : decode cX7_arrived 1 = .ok (.getfield 10, 3) := by decide +kernel
theorem dX7_arrived_4 : decode cX7_arrived 4 = .ok (.getfield 141, 3) := by decide +kernel
theorem dX7_arrived_7 : decode cX7_arrived 7 = .ok (.ireturn, 1) := by decide +kernel
theorem dX7_arrivedAt_0 : decode cX7_arrivedAt 0 = .ok (.aload_n 0, 1) := by decide +kernel
theorem dX7_arrivedAt_1 : decode cX7_arrivedAt 1 = .ok (.getfield 10, 3) := by decide +kernel
theorem dX7_arrivedAt_4 : decode cX7_arrivedAt 4 = .ok (.iload_n 1, 1) := by decide +kernel
theorem dX7_arrivedAt_5 : decode cX7_arrivedAt 5 = .ok (.invokevirtual 279, 3) := by decide +kernel
theorem dX7_arrivedAt_8 : decode cX7_arrivedAt 8 = .ok (.astore_n 2, 1) := by decide +kernel
theorem dX7_arrivedAt_9 : decode cX7_arrivedAt 9 = .ok (.aload_n 2, 1) := by decide +kernel
theorem dX7_arrivedAt_10 : decode cX7_arrivedAt 10 = .ok (.ifnonnull 14, 3) := by decide +kernel
theorem dX7_arrivedAt_13 : decode cX7_arrivedAt 13 = .ok (.new 231, 3) := by decide +kernel
theorem dX7_arrivedAt_16 : decode cX7_arrivedAt 16 = .ok (.dup, 1) := by decide +kernel
theorem dX7_arrivedAt_17 : decode cX7_arrivedAt 17 = .ok (.ldc_w 282, 3) := by decide +kernel
theorem dX7_arrivedAt_20 : decode cX7_arrivedAt 20 = .ok (.invokespecial 235, 3) := by decide +kernel
theorem dX7_arrivedAt_23 : decode cX7_arrivedAt 23 = .ok (.athrow, 1) := by decide +kernel
theorem dX7_arrivedAt_24 : decode cX7_arrivedAt 24 = .ok (.aload_n 2, 1) := by decide +kernel
theorem dX7_arrivedAt_25 : decode cX7_arrivedAt 25 = .ok (.getfield 236, 3) := by decide +kernel
theorem dX7_arrivedAt_28 : decode cX7_arrivedAt 28 = .ok (.ireturn, 1) := by decide +kernel
theorem dX7_timeOf_0 : decode cX7_timeOf 0 = .ok (.aload_n 0, 1) := by decide +kernel
theorem dX7_timeOf_1 : decode cX7_timeOf 1 = .ok (.iload_n 1, 1) := by decide +kernel
theorem dX7_timeOf_2 : decode cX7_timeOf 2 = .ok (.invokevirtual 79, 3) := by decide +kernel
theorem dX7_timeOf_5 : decode cX7_timeOf 5 = .ok (.astore_n 2, 1) := by decide +kernel
theorem dX7_timeOf_6 : decode cX7_timeOf 6 = .ok (.aload_n 2, 1) := by decide +kernel
theorem dX7_timeOf_7 : decode cX7_timeOf 7 = .ok (.getfield 92, 3) := by decide +kernel
theorem dX7_timeOf_10 : decode cX7_timeOf 10 = .ok (.iconst 3, 1) := by decide +kernel
theorem dX7_timeOf_11 : decode cX7_timeOf 11 = .ok (.if_icmp .eq 14, 3) := by decide +kernel
theorem dX7_timeOf_14 : decode cX7_timeOf 14 = .ok (.new 66, 3) := by decide +kernel
theorem dX7_timeOf_17 : decode cX7_timeOf 17 = .ok (.dup, 1) := by decide +kernel
theorem dX7_timeOf_18 : decode cX7_timeOf 18 = .ok (.ldc_w 284, 3) := by decide +kernel
theorem dX7_timeOf_21 : decode cX7_timeOf 21 = .ok (.invokespecial 70, 3) := by decide +kernel
theorem dX7_timeOf_24 : decode cX7_timeOf 24 = .ok (.athrow, 1) := by decide +kernel
theorem dX7_timeOf_25 : decode cX7_timeOf 25 = .ok (.aload_n 2, 1) := by decide +kernel
theorem dX7_timeOf_26 : decode cX7_timeOf 26 = .ok (.getfield 286, 3) := by decide +kernel
theorem dX7_timeOf_29 : decode cX7_timeOf 29 = .ok (.ireturn, 1) := by decide +kernel
theorem dX7_flownByBirds_0 : decode cX7_flownByBirds 0 = .ok (.aload_n 0, 1) := by decide +kernel
theorem dX7_flownByBirds_1 : decode cX7_flownByBirds 1 = .ok (.getfield 10, 3) := by decide +kernel
theorem dX7_flownByBirds_4 : decode cX7_flownByBirds 4 = .ok (.invokevirtual 289, 3) := by decide +kernel
theorem dX7_flownByBirds_7 : decode cX7_flownByBirds 7 = .ok (.ireturn, 1) := by decide +kernel
theorem dX7_flownByAccount_0 : decode cX7_flownByAccount 0 = .ok (.aload_n 0, 1) := by decide +kernel
theorem dX7_flownByAccount_1 : decode cX7_flownByAccount 1 = .ok (.getfield 10, 3) := by decide +kernel
theorem dX7_flownByAccount_4 : decode cX7_flownByAccount 4 = .ok (.getfield 292, 3) := by decide +kernel
theorem dX7_flownByAccount_7 : decode cX7_flownByAccount 7 = .ok (.ireturn, 1) := by decide +kernel
theorem dX7_drafts_0 : decode cX7_drafts 0 = .ok (.aload_n 0, 1) := by decide +kernel
theorem dX7_drafts_1 : decode cX7_drafts 1 = .ok (.getfield 10, 3) := by decide +kernel
theorem dX7_drafts_4 : decode cX7_drafts 4 = .ok (.getfield 295, 3) := by decide +kernel
theorem dX7_drafts_7 : decode cX7_drafts 7 = .ok (.ireturn, 1) := by decide +kernel
theorem dX7_changes_0 : decode cX7_changes 0 = .ok (.aload_n 0, 1) := by decide +kernel
theorem dX7_changes_1 : decode cX7_changes 1 = .ok (.getfield 10, 3) := by decide +kernel
theorem dX7_changes_4 : decode cX7_changes 4 = .ok (.getfield 298, 3) := by decide +kernel
theorem dX7_changes_7 : decode cX7_changes 7 = .ok (.ireturn, 1) := by decide +kernel
theorem dX7_rests_0 : decode cX7_rests 0 = .ok (.aload_n 0, 1) := by decide +kernel
theorem dX7_rests_1 : decode cX7_rests 1 = .ok (.getfield 10, 3) := by decide +kernel
theorem dX7_rests_4 : decode cX7_rests 4 = .ok (.getfield 301, 3) := by decide +kernel
theorem dX7_rests_7 : decode cX7_rests 7 = .ok (.ireturn, 1) := by decide +kernel
theorem dX7_races_0 : decode cX7_races 0 = .ok (.aload_n 0, 1) := by decide +kernel
theorem dX7_races_1 : decode cX7_races 1 = .ok (.getfield 10, 3) := by decide +kernel
theorem dX7_races_4 : decode cX7_races 4 = .ok (.getfield 304, 3) := by decide +kernel
theorem dX7_races_7 : decode cX7_races 7 = .ok (.ireturn, 1) := by decide +kernel
theorem dX7_winsInPairs_0 : decode cX7_winsInPairs 0 = .ok (.aload_n 0, 1) := by decide +kernel
theorem dX7_winsInPairs_1 : decode cX7_winsInPairs 1 = .ok (.getfield 10, 3) := by decide +kernel
theorem dX7_winsInPairs_4 : decode cX7_winsInPairs 4 = .ok (.getfield 307, 3) := by decide +kernel
theorem dX7_winsInPairs_7 : decode cX7_winsInPairs 7 = .ok (.ireturn, 1) := by decide +kernel
theorem dX7_meanFlown_0 : decode cX7_meanFlown 0 = .ok (.aload_n 0, 1) := by decide +kernel
theorem dX7_meanFlown_1 : decode cX7_meanFlown 1 = .ok (.getfield 10, 3) := by decide +kernel
theorem dX7_meanFlown_4 : decode cX7_meanFlown 4 = .ok (.getfield 58, 3) := by decide +kernel
theorem dX7_meanFlown_7 : decode cX7_meanFlown 7 = .ok (.ifCond .le 23, 3) := by decide +kernel
theorem dX7_meanFlown_10 : decode cX7_meanFlown 10 = .ok (.aload_n 0, 1) := by decide +kernel
theorem dX7_meanFlown_11 : decode cX7_meanFlown 11 = .ok (.getfield 10, 3) := by decide +kernel
theorem dX7_meanFlown_14 : decode cX7_meanFlown 14 = .ok (.invokevirtual 289, 3) := by decide +kernel
theorem dX7_meanFlown_17 : decode cX7_meanFlown 17 = .ok (.i2d, 1) := by decide +kernel
theorem dX7_meanFlown_18 : decode cX7_meanFlown 18 = .ok (.aload_n 0, 1) := by decide +kernel
theorem dX7_meanFlown_19 : decode cX7_meanFlown 19 = .ok (.getfield 10, 3) := by decide +kernel
theorem dX7_meanFlown_22 : decode cX7_meanFlown 22 = .ok (.getfield 58, 3) := by decide +kernel
theorem dX7_meanFlown_25 : decode cX7_meanFlown 25 = .ok (.i2d, 1) := by decide +kernel
theorem dX7_meanFlown_26 : decode cX7_meanFlown 26 = .ok (.ddiv, 1) := by decide +kernel
theorem dX7_meanFlown_27 : decode cX7_meanFlown 27 = .ok (.goto 4, 3) := by decide +kernel
theorem dX7_meanFlown_30 : decode cX7_meanFlown 30 = .ok (.dconst 0, 1) := by decide +kernel
theorem dX7_meanFlown_31 : decode cX7_meanFlown 31 = .ok (.dreturn, 1) := by decide +kernel
theorem dX7_digest_0 : decode cX7_digest 0 = .ok (.new 310, 3) := by decide +kernel
theorem dX7_digest_3 : decode cX7_digest 3 = .ok (.dup, 1) := by decide +kernel
theorem dX7_digest_4 : decode cX7_digest 4 = .ok (.invokespecial 312, 3) := by decide +kernel
theorem dX7_digest_7 : decode cX7_digest 7 = .ok (.astore_n 1, 1) := by decide +kernel
theorem dX7_digest_8 : decode cX7_digest 8 = .ok (.aload_n 1, 1) := by decide +kernel
theorem dX7_digest_9 : decode cX7_digest 9 = .ok (.aload_n 0, 1) := by decide +kernel
theorem dX7_digest_10 : decode cX7_digest 10 = .ok (.getfield 10, 3) := by decide +kernel
theorem dX7_digest_13 : decode cX7_digest 13 = .ok (.getfield 58, 3) := by decide +kernel
theorem dX7_digest_16 : decode cX7_digest 16 = .ok (.i2l, 1) := by decide +kernel
theorem dX7_digest_17 : decode cX7_digest 17 = .ok (.invokevirtual 313, 3) := by decide +kernel
theorem dX7_digest_20 : decode cX7_digest 20 = .ok (.iconst 0, 1) := by decide +kernel
theorem dX7_digest_21 : decode cX7_digest 21 = .ok (.istore_n 2, 1) := by decide +kernel
theorem dX7_digest_22 : decode cX7_digest 22 = .ok (.iload_n 2, 1) := by decide +kernel
theorem dX7_digest_23 : decode cX7_digest 23 = .ok (.aload_n 0, 1) := by decide +kernel
theorem dX7_digest_24 : decode cX7_digest 24 = .ok (.getfield 10, 3) := by decide +kernel
theorem dX7_digest_27 : decode cX7_digest 27 = .ok (.getfield 58, 3) := by decide +kernel
theorem dX7_digest_30 : decode cX7_digest 30 = .ok (.if_icmp .ge 58, 3) := by decide +kernel
theorem dX7_digest_33 : decode cX7_digest 33 = .ok (.aload_n 0, 1) := by decide +kernel
theorem dX7_digest_34 : decode cX7_digest 34 = .ok (.getfield 10, 3) := by decide +kernel
theorem dX7_digest_37 : decode cX7_digest 37 = .ok (.iload_n 2, 1) := by decide +kernel
theorem dX7_digest_38 : decode cX7_digest 38 = .ok (.invokevirtual 316, 3) := by decide +kernel
theorem dX7_digest_41 : decode cX7_digest 41 = .ok (.astore_n 3, 1) := by decide +kernel
theorem dX7_digest_42 : decode cX7_digest 42 = .ok (.aload_n 3, 1) := by decide +kernel
theorem dX7_digest_43 : decode cX7_digest 43 = .ok (.ifnull 39, 3) := by decide +kernel
theorem dX7_digest_46 : decode cX7_digest 46 = .ok (.aload_n 0, 1) := by decide +kernel
theorem dX7_digest_47 : decode cX7_digest 47 = .ok (.aload_n 1, 1) := by decide +kernel
theorem dX7_digest_48 : decode cX7_digest 48 = .ok (.aload_n 3, 1) := by decide +kernel
theorem dX7_digest_49 : decode cX7_digest 49 = .ok (.invokevirtual 319, 3) := by decide +kernel
theorem dX7_digest_52 : decode cX7_digest 52 = .ok (.aload_n 1, 1) := by decide +kernel
theorem dX7_digest_53 : decode cX7_digest 53 = .ok (.aload_n 0, 1) := by decide +kernel
theorem dX7_digest_54 : decode cX7_digest 54 = .ok (.getfield 10, 3) := by decide +kernel
theorem dX7_digest_57 : decode cX7_digest 57 = .ok (.getfield 62, 3) := by decide +kernel
theorem dX7_digest_60 : decode cX7_digest 60 = .ok (.ifCond .eq 18, 3) := by decide +kernel
theorem dX7_digest_63 : decode cX7_digest 63 = .ok (.aload_n 0, 1) := by decide +kernel
theorem dX7_digest_64 : decode cX7_digest 64 = .ok (.aload_n 3, 1) := by decide +kernel
theorem dX7_digest_65 : decode cX7_digest 65 = .ok (.aload_n 3, 1) := by decide +kernel
theorem dX7_digest_66 : decode cX7_digest 66 = .ok (.getfield 87, 3) := by decide +kernel
theorem dX7_digest_69 : decode cX7_digest 69 = .ok (.bipush 30, 2) := by decide +kernel
theorem dX7_digest_71 : decode cX7_digest 71 = .ok (.invokevirtual 259, 3) := by decide +kernel
theorem dX7_digest_74 : decode cX7_digest 74 = .ok (.i2l, 1) := by decide +kernel
theorem dX7_digest_75 : decode cX7_digest 75 = .ok (.goto 4, 3) := by decide +kernel
theorem dX7_digest_78 : decode cX7_digest 78 = .ok (.lconst 0, 1) := by decide +kernel
theorem dX7_digest_79 : decode cX7_digest 79 = .ok (.invokevirtual 313, 3) := by decide +kernel
theorem dX7_digest_82 : decode cX7_digest 82 = .ok (.iinc 2 1, 3) := by decide +kernel
theorem dX7_digest_85 : decode cX7_digest 85 = .ok (.goto (-63), 3) := by decide +kernel
theorem dX7_digest_88 : decode cX7_digest 88 = .ok (.aload_n 0, 1) := by decide +kernel
theorem dX7_digest_89 : decode cX7_digest 89 = .ok (.aload_n 1, 1) := by decide +kernel
theorem dX7_digest_90 : decode cX7_digest 90 = .ok (.invokevirtual 323, 3) := by decide +kernel
theorem dX7_digest_93 : decode cX7_digest 93 = .ok (.iconst 0, 1) := by decide +kernel
theorem dX7_digest_94 : decode cX7_digest 94 = .ok (.istore_n 2, 1) := by decide +kernel
theorem dX7_digest_95 : decode cX7_digest 95 = .ok (.iload_n 2, 1) := by decide +kernel
theorem dX7_digest_96 : decode cX7_digest 96 = .ok (.iconst 4, 1) := by decide +kernel
theorem dX7_digest_97 : decode cX7_digest 97 = .ok (.if_icmp .ge 22, 3) := by decide +kernel
theorem dX7_digest_100 : decode cX7_digest 100 = .ok (.aload_n 1, 1) := by decide +kernel
theorem dX7_digest_101 : decode cX7_digest 101 = .ok (.aload_n 0, 1) := by decide +kernel
theorem dX7_digest_102 : decode cX7_digest 102 = .ok (.getfield 10, 3) := by decide +kernel
theorem dX7_digest_105 : decode cX7_digest 105 = .ok (.iload_n 2, 1) := by decide +kernel
theorem dX7_digest_106 : decode cX7_digest 106 = .ok (.invokevirtual 115, 3) := by decide +kernel
theorem dX7_digest_109 : decode cX7_digest 109 = .ok (.i2l, 1) := by decide +kernel
theorem dX7_digest_110 : decode cX7_digest 110 = .ok (.invokevirtual 313, 3) := by decide +kernel
theorem dX7_digest_113 : decode cX7_digest 113 = .ok (.iinc 2 1, 3) := by decide +kernel
theorem dX7_digest_116 : decode cX7_digest 116 = .ok (.goto (-21), 3) := by decide +kernel
theorem dX7_digest_119 : decode cX7_digest 119 = .ok (.aload_n 0, 1) := by decide +kernel
theorem dX7_digest_120 : decode cX7_digest 120 = .ok (.invokevirtual 268, 3) := by decide +kernel
theorem dX7_digest_123 : decode cX7_digest 123 = .ok (.istore_n 2, 1) := by decide +kernel
theorem dX7_digest_124 : decode cX7_digest 124 = .ok (.aload_n 1, 1) := by decide +kernel
theorem dX7_digest_125 : decode cX7_digest 125 = .ok (.aload_n 0, 1) := by decide +kernel
theorem dX7_digest_126 : decode cX7_digest 126 = .ok (.invokevirtual 263, 3) := by decide +kernel
theorem dX7_digest_129 : decode cX7_digest 129 = .ok (.iconst 1, 1) := by decide +kernel
theorem dX7_digest_130 : decode cX7_digest 130 = .ok (.iadd, 1) := by decide +kernel
theorem dX7_digest_131 : decode cX7_digest 131 = .ok (.i2l, 1) := by decide +kernel
theorem dX7_digest_132 : decode cX7_digest 132 = .ok (.invokevirtual 313, 3) := by decide +kernel
theorem dX7_digest_135 : decode cX7_digest 135 = .ok (.aload_n 1, 1) := by decide +kernel
theorem dX7_digest_136 : decode cX7_digest 136 = .ok (.iload_n 2, 1) := by decide +kernel
theorem dX7_digest_137 : decode cX7_digest 137 = .ok (.iconst (-1), 1) := by decide +kernel
theorem dX7_digest_138 : decode cX7_digest 138 = .ok (.if_icmp .ne 7, 3) := by decide +kernel
theorem dX7_digest_141 : decode cX7_digest 141 = .ok (.lconst 0, 1) := by decide +kernel
theorem dX7_digest_142 : decode cX7_digest 142 = .ok (.goto 5, 3) := by decide +kernel
theorem dX7_digest_145 : decode cX7_digest 145 = .ok (.iload_n 2, 1) := by decide +kernel
theorem dX7_digest_146 : decode cX7_digest 146 = .ok (.i2l, 1) := by decide +kernel
theorem dX7_digest_147 : decode cX7_digest 147 = .ok (.invokevirtual 313, 3) := by decide +kernel
theorem dX7_digest_150 : decode cX7_digest 150 = .ok (.aload_n 0, 1) := by decide +kernel
theorem dX7_digest_151 : decode cX7_digest 151 = .ok (.getfield 10, 3) := by decide +kernel
theorem dX7_digest_154 : decode cX7_digest 154 = .ok (.iconst 0, 1) := by decide +kernel
theorem dX7_digest_155 : decode cX7_digest 155 = .ok (.invokevirtual 316, 3) := by decide +kernel
theorem dX7_digest_158 : decode cX7_digest 158 = .ok (.astore_n 3, 1) := by decide +kernel
theorem dX7_digest_159 : decode cX7_digest 159 = .ok (.aload_n 1, 1) := by decide +kernel
theorem dX7_digest_160 : decode cX7_digest 160 = .ok (.aload_n 3, 1) := by decide +kernel
theorem dX7_digest_161 : decode cX7_digest 161 = .ok (.ifnull 22, 3) := by decide +kernel
theorem dX7_digest_164 : decode cX7_digest 164 = .ok (.aload_n 0, 1) := by decide +kernel
theorem dX7_digest_165 : decode cX7_digest 165 = .ok (.getfield 10, 3) := by decide +kernel
theorem dX7_digest_168 : decode cX7_digest 168 = .ok (.getfield 62, 3) := by decide +kernel
theorem dX7_digest_171 : decode cX7_digest 171 = .ok (.ifCond .eq 12, 3) := by decide +kernel
theorem dX7_digest_174 : decode cX7_digest 174 = .ok (.aload_n 0, 1) := by decide +kernel
theorem dX7_digest_175 : decode cX7_digest 175 = .ok (.aload_n 3, 1) := by decide +kernel
theorem dX7_digest_176 : decode cX7_digest 176 = .ok (.invokevirtual 273, 3) := by decide +kernel
theorem dX7_digest_179 : decode cX7_digest 179 = .ok (.i2l, 1) := by decide +kernel
theorem dX7_digest_180 : decode cX7_digest 180 = .ok (.goto 4, 3) := by decide +kernel
theorem dX7_digest_183 : decode cX7_digest 183 = .ok (.lconst 0, 1) := by decide +kernel
theorem dX7_digest_184 : decode cX7_digest 184 = .ok (.invokevirtual 313, 3) := by decide +kernel
theorem dX7_digest_187 : decode cX7_digest 187 = .ok (.aload_n 0, 1) := by decide +kernel
theorem dX7_digest_188 : decode cX7_digest 188 = .ok (.aload_n 1, 1) := by decide +kernel
theorem dX7_digest_189 : decode cX7_digest 189 = .ok (.invokevirtual 327, 3) := by decide +kernel
theorem dX7_digest_192 : decode cX7_digest 192 = .ok (.iconst 0, 1) := by decide +kernel
theorem dX7_digest_193 : decode cX7_digest 193 = .ok (.istore 4, 2) := by decide +kernel
theorem dX7_digest_195 : decode cX7_digest 195 = .ok (.iload 4, 2) := by decide +kernel
theorem dX7_digest_197 : decode cX7_digest 197 = .ok (.iconst 2, 1) := by decide +kernel
theorem dX7_digest_198 : decode cX7_digest 198 = .ok (.if_icmp .ge 30, 3) := by decide +kernel
theorem dX7_digest_201 : decode cX7_digest 201 = .ok (.aload_n 1, 1) := by decide +kernel
theorem dX7_digest_202 : decode cX7_digest 202 = .ok (.aload_n 0, 1) := by decide +kernel
theorem dX7_digest_203 : decode cX7_digest 203 = .ok (.getfield 29, 3) := by decide +kernel
theorem dX7_digest_206 : decode cX7_digest 206 = .ok (.iload 4, 2) := by decide +kernel
theorem dX7_digest_208 : decode cX7_digest 208 = .ok (.invokevirtual 185, 3) := by decide +kernel
theorem dX7_digest_211 : decode cX7_digest 211 = .ok (.ifnonnull 7, 3) := by decide +kernel
theorem dX7_digest_214 : decode cX7_digest 214 = .ok (.lconst 0, 1) := by decide +kernel
theorem dX7_digest_215 : decode cX7_digest 215 = .ok (.goto 4, 3) := by decide +kernel
theorem dX7_digest_218 : decode cX7_digest 218 = .ok (.lconst 1, 1) := by decide +kernel
theorem dX7_digest_219 : decode cX7_digest 219 = .ok (.invokevirtual 313, 3) := by decide +kernel
theorem dX7_digest_222 : decode cX7_digest 222 = .ok (.iinc 4 1, 3) := by decide +kernel
theorem dX7_digest_225 : decode cX7_digest 225 = .ok (.goto (-30), 3) := by decide +kernel
theorem dX7_digest_228 : decode cX7_digest 228 = .ok (.aload_n 1, 1) := by decide +kernel
theorem dX7_digest_229 : decode cX7_digest 229 = .ok (.aload_n 0, 1) := by decide +kernel
theorem dX7_digest_230 : decode cX7_digest 230 = .ok (.getfield 36, 3) := by decide +kernel
theorem dX7_digest_233 : decode cX7_digest 233 = .ok (.getfield 159, 3) := by decide +kernel
theorem dX7_digest_236 : decode cX7_digest 236 = .ok (.i2l, 1) := by decide +kernel
theorem dX7_digest_237 : decode cX7_digest 237 = .ok (.invokevirtual 313, 3) := by decide +kernel
theorem dX7_digest_240 : decode cX7_digest 240 = .ok (.iconst 0, 1) := by decide +kernel
theorem dX7_digest_241 : decode cX7_digest 241 = .ok (.istore 4, 2) := by decide +kernel
theorem dX7_digest_243 : decode cX7_digest 243 = .ok (.iload 4, 2) := by decide +kernel
theorem dX7_digest_245 : decode cX7_digest 245 = .ok (.aload_n 0, 1) := by decide +kernel
theorem dX7_digest_246 : decode cX7_digest 246 = .ok (.getfield 36, 3) := by decide +kernel
theorem dX7_digest_249 : decode cX7_digest 249 = .ok (.getfield 159, 3) := by decide +kernel
theorem dX7_digest_252 : decode cX7_digest 252 = .ok (.if_icmp .ge 23, 3) := by decide +kernel
theorem dX7_digest_255 : decode cX7_digest 255 = .ok (.aload_n 1, 1) := by decide +kernel
theorem dX7_digest_256 : decode cX7_digest 256 = .ok (.aload_n 0, 1) := by decide +kernel
theorem dX7_digest_257 : decode cX7_digest 257 = .ok (.getfield 36, 3) := by decide +kernel
theorem dX7_digest_260 : decode cX7_digest 260 = .ok (.iload 4, 2) := by decide +kernel
theorem dX7_digest_262 : decode cX7_digest 262 = .ok (.invokevirtual 330, 3) := by decide +kernel
theorem dX7_digest_265 : decode cX7_digest 265 = .ok (.i2l, 1) := by decide +kernel
theorem dX7_digest_266 : decode cX7_digest 266 = .ok (.invokevirtual 313, 3) := by decide +kernel
theorem dX7_digest_269 : decode cX7_digest 269 = .ok (.iinc 4 1, 3) := by decide +kernel
theorem dX7_digest_272 : decode cX7_digest 272 = .ok (.goto (-29), 3) := by decide +kernel
theorem dX7_digest_275 : decode cX7_digest 275 = .ok (.aload_n 1, 1) := by decide +kernel
theorem dX7_digest_276 : decode cX7_digest 276 = .ok (.getfield 333, 3) := by decide +kernel
theorem dX7_digest_279 : decode cX7_digest 279 = .ok (.lreturn, 1) := by decide +kernel
theorem dX7_hashSparrow_0 : decode cX7_hashSparrow 0 = .ok (.aload_n 2, 1) := by decide +kernel
theorem dX7_hashSparrow_1 : decode cX7_hashSparrow 1 = .ok (.getfield 92, 3) := by decide +kernel
theorem dX7_hashSparrow_4 : decode cX7_hashSparrow 4 = .ok (.iconst 1, 1) := by decide +kernel
theorem dX7_hashSparrow_5 : decode cX7_hashSparrow 5 = .ok (.if_icmp .ne 7, 3) := by decide +kernel
theorem dX7_hashSparrow_8 : decode cX7_hashSparrow 8 = .ok (.iconst 1, 1) := by decide +kernel
theorem dX7_hashSparrow_9 : decode cX7_hashSparrow 9 = .ok (.goto 4, 3) := by decide +kernel
theorem dX7_hashSparrow_12 : decode cX7_hashSparrow 12 = .ok (.iconst 0, 1) := by decide +kernel
theorem dX7_hashSparrow_13 : decode cX7_hashSparrow 13 = .ok (.istore_n 3, 1) := by decide +kernel
theorem dX7_hashSparrow_14 : decode cX7_hashSparrow 14 = .ok (.aload_n 1, 1) := by decide +kernel
theorem dX7_hashSparrow_15 : decode cX7_hashSparrow 15 = .ok (.aload_n 2, 1) := by decide +kernel
theorem dX7_hashSparrow_16 : decode cX7_hashSparrow 16 = .ok (.getfield 198, 3) := by decide +kernel
theorem dX7_hashSparrow_19 : decode cX7_hashSparrow 19 = .ok (.i2l, 1) := by decide +kernel
theorem dX7_hashSparrow_20 : decode cX7_hashSparrow 20 = .ok (.invokevirtual 313, 3) := by decide +kernel
theorem dX7_hashSparrow_23 : decode cX7_hashSparrow 23 = .ok (.aload_n 1, 1) := by decide +kernel
theorem dX7_hashSparrow_24 : decode cX7_hashSparrow 24 = .ok (.aload_n 2, 1) := by decide +kernel
theorem dX7_hashSparrow_25 : decode cX7_hashSparrow 25 = .ok (.invokevirtual 201, 3) := by decide +kernel
theorem dX7_hashSparrow_28 : decode cX7_hashSparrow 28 = .ok (.i2l, 1) := by decide +kernel
theorem dX7_hashSparrow_29 : decode cX7_hashSparrow 29 = .ok (.invokevirtual 313, 3) := by decide +kernel
theorem dX7_hashSparrow_32 : decode cX7_hashSparrow 32 = .ok (.aload_n 1, 1) := by decide +kernel
theorem dX7_hashSparrow_33 : decode cX7_hashSparrow 33 = .ok (.aload_n 2, 1) := by decide +kernel
theorem dX7_hashSparrow_34 : decode cX7_hashSparrow 34 = .ok (.getfield 204, 3) := by decide +kernel
theorem dX7_hashSparrow_37 : decode cX7_hashSparrow 37 = .ok (.i2l, 1) := by decide +kernel
theorem dX7_hashSparrow_38 : decode cX7_hashSparrow 38 = .ok (.invokevirtual 313, 3) := by decide +kernel
theorem dX7_hashSparrow_41 : decode cX7_hashSparrow 41 = .ok (.aload_n 1, 1) := by decide +kernel
theorem dX7_hashSparrow_42 : decode cX7_hashSparrow 42 = .ok (.aload_n 2, 1) := by decide +kernel
theorem dX7_hashSparrow_43 : decode cX7_hashSparrow 43 = .ok (.getfield 207, 3) := by decide +kernel
theorem dX7_hashSparrow_46 : decode cX7_hashSparrow 46 = .ok (.i2l, 1) := by decide +kernel
theorem dX7_hashSparrow_47 : decode cX7_hashSparrow 47 = .ok (.invokevirtual 313, 3) := by decide +kernel
theorem dX7_hashSparrow_50 : decode cX7_hashSparrow 50 = .ok (.aload_n 1, 1) := by decide +kernel
theorem dX7_hashSparrow_51 : decode cX7_hashSparrow 51 = .ok (.aload_n 2, 1) := by decide +kernel
theorem dX7_hashSparrow_52 : decode cX7_hashSparrow 52 = .ok (.getfield 210, 3) := by decide +kernel
theorem dX7_hashSparrow_55 : decode cX7_hashSparrow 55 = .ok (.i2l, 1) := by decide +kernel
theorem dX7_hashSparrow_56 : decode cX7_hashSparrow 56 = .ok (.invokevirtual 313, 3) := by decide +kernel
theorem dX7_hashSparrow_59 : decode cX7_hashSparrow 59 = .ok (.aload_n 1, 1) := by decide +kernel
theorem dX7_hashSparrow_60 : decode cX7_hashSparrow 60 = .ok (.aload_n 2, 1) := by decide +kernel
theorem dX7_hashSparrow_61 : decode cX7_hashSparrow 61 = .ok (.getfield 213, 3) := by decide +kernel
theorem dX7_hashSparrow_64 : decode cX7_hashSparrow 64 = .ok (.i2l, 1) := by decide +kernel
theorem dX7_hashSparrow_65 : decode cX7_hashSparrow 65 = .ok (.invokevirtual 313, 3) := by decide +kernel
theorem dX7_hashSparrow_68 : decode cX7_hashSparrow 68 = .ok (.aload_n 1, 1) := by decide +kernel
theorem dX7_hashSparrow_69 : decode cX7_hashSparrow 69 = .ok (.aload_n 2, 1) := by decide +kernel
theorem dX7_hashSparrow_70 : decode cX7_hashSparrow 70 = .ok (.getfield 92, 3) := by decide +kernel
theorem dX7_hashSparrow_73 : decode cX7_hashSparrow 73 = .ok (.i2l, 1) := by decide +kernel
theorem dX7_hashSparrow_74 : decode cX7_hashSparrow 74 = .ok (.invokevirtual 313, 3) := by decide +kernel
theorem dX7_hashSparrow_77 : decode cX7_hashSparrow 77 = .ok (.aload_n 1, 1) := by decide +kernel
theorem dX7_hashSparrow_78 : decode cX7_hashSparrow 78 = .ok (.aload_n 2, 1) := by decide +kernel
theorem dX7_hashSparrow_79 : decode cX7_hashSparrow 79 = .ok (.getfield 87, 3) := by decide +kernel
theorem dX7_hashSparrow_82 : decode cX7_hashSparrow 82 = .ok (.i2l, 1) := by decide +kernel
theorem dX7_hashSparrow_83 : decode cX7_hashSparrow 83 = .ok (.invokevirtual 313, 3) := by decide +kernel
theorem dX7_hashSparrow_86 : decode cX7_hashSparrow 86 = .ok (.aload_n 1, 1) := by decide +kernel
theorem dX7_hashSparrow_87 : decode cX7_hashSparrow 87 = .ok (.aload_n 2, 1) := by decide +kernel
theorem dX7_hashSparrow_88 : decode cX7_hashSparrow 88 = .ok (.getfield 216, 3) := by decide +kernel
theorem dX7_hashSparrow_91 : decode cX7_hashSparrow 91 = .ok (.iconst 1, 1) := by decide +kernel
theorem dX7_hashSparrow_92 : decode cX7_hashSparrow 92 = .ok (.iadd, 1) := by decide +kernel
theorem dX7_hashSparrow_93 : decode cX7_hashSparrow 93 = .ok (.i2l, 1) := by decide +kernel
theorem dX7_hashSparrow_94 : decode cX7_hashSparrow 94 = .ok (.invokevirtual 313, 3) := by decide +kernel
theorem dX7_hashSparrow_97 : decode cX7_hashSparrow 97 = .ok (.aload_n 1, 1) := by decide +kernel
theorem dX7_hashSparrow_98 : decode cX7_hashSparrow 98 = .ok (.aload_n 2, 1) := by decide +kernel
theorem dX7_hashSparrow_99 : decode cX7_hashSparrow 99 = .ok (.getfield 97, 3) := by decide +kernel
theorem dX7_hashSparrow_102 : decode cX7_hashSparrow 102 = .ok (.ifCond .eq 7, 3) := by decide +kernel
theorem dX7_hashSparrow_105 : decode cX7_hashSparrow 105 = .ok (.lconst 1, 1) := by decide +kernel
theorem dX7_hashSparrow_106 : decode cX7_hashSparrow 106 = .ok (.goto 4, 3) := by decide +kernel
theorem dX7_hashSparrow_109 : decode cX7_hashSparrow 109 = .ok (.lconst 0, 1) := by decide +kernel
theorem dX7_hashSparrow_110 : decode cX7_hashSparrow 110 = .ok (.invokevirtual 313, 3) := by decide +kernel
theorem dX7_hashSparrow_113 : decode cX7_hashSparrow 113 = .ok (.aload_n 1, 1) := by decide +kernel
theorem dX7_hashSparrow_114 : decode cX7_hashSparrow 114 = .ok (.aload_n 0, 1) := by decide +kernel
theorem dX7_hashSparrow_115 : decode cX7_hashSparrow 115 = .ok (.getfield 10, 3) := by decide +kernel
theorem dX7_hashSparrow_118 : decode cX7_hashSparrow 118 = .ok (.aload_n 2, 1) := by decide +kernel
theorem dX7_hashSparrow_119 : decode cX7_hashSparrow 119 = .ok (.invokevirtual 221, 3) := by decide +kernel
theorem dX7_hashSparrow_122 : decode cX7_hashSparrow 122 = .ok (.i2l, 1) := by decide +kernel
theorem dX7_hashSparrow_123 : decode cX7_hashSparrow 123 = .ok (.invokevirtual 313, 3) := by decide +kernel
theorem dX7_hashSparrow_126 : decode cX7_hashSparrow 126 = .ok (.aload_n 1, 1) := by decide +kernel
theorem dX7_hashSparrow_127 : decode cX7_hashSparrow 127 = .ok (.aload_n 0, 1) := by decide +kernel
theorem dX7_hashSparrow_128 : decode cX7_hashSparrow 128 = .ok (.getfield 10, 3) := by decide +kernel
theorem dX7_hashSparrow_131 : decode cX7_hashSparrow 131 = .ok (.aload_n 2, 1) := by decide +kernel
theorem dX7_hashSparrow_132 : decode cX7_hashSparrow 132 = .ok (.invokevirtual 239, 3) := by decide +kernel
theorem dX7_hashSparrow_135 : decode cX7_hashSparrow 135 = .ok (.i2l, 1) := by decide +kernel
theorem dX7_hashSparrow_136 : decode cX7_hashSparrow 136 = .ok (.invokevirtual 313, 3) := by decide +kernel
theorem dX7_hashSparrow_139 : decode cX7_hashSparrow 139 = .ok (.aload_n 1, 1) := by decide +kernel
theorem dX7_hashSparrow_140 : decode cX7_hashSparrow 140 = .ok (.iload_n 3, 1) := by decide +kernel
theorem dX7_hashSparrow_141 : decode cX7_hashSparrow 141 = .ok (.ifCond .eq 26, 3) := by decide +kernel
theorem dX7_hashSparrow_144 : decode cX7_hashSparrow 144 = .ok (.aload_n 0, 1) := by decide +kernel
theorem dX7_hashSparrow_145 : decode cX7_hashSparrow 145 = .ok (.getfield 10, 3) := by decide +kernel
theorem dX7_hashSparrow_148 : decode cX7_hashSparrow 148 = .ok (.aload_n 2, 1) := by decide +kernel
theorem dX7_hashSparrow_149 : decode cX7_hashSparrow 149 = .ok (.aload_n 0, 1) := by decide +kernel
theorem dX7_hashSparrow_150 : decode cX7_hashSparrow 150 = .ok (.getfield 10, 3) := by decide +kernel
theorem dX7_hashSparrow_153 : decode cX7_hashSparrow 153 = .ok (.aload_n 2, 1) := by decide +kernel
theorem dX7_hashSparrow_154 : decode cX7_hashSparrow 154 = .ok (.invokevirtual 245, 3) := by decide +kernel
theorem dX7_hashSparrow_157 : decode cX7_hashSparrow 157 = .ok (.invokevirtual 249, 3) := by decide +kernel
theorem dX7_hashSparrow_160 : decode cX7_hashSparrow 160 = .ok (.ifCond .le 7, 3) := by decide +kernel
theorem dX7_hashSparrow_163 : decode cX7_hashSparrow 163 = .ok (.lconst 1, 1) := by decide +kernel
theorem dX7_hashSparrow_164 : decode cX7_hashSparrow 164 = .ok (.goto 4, 3) := by decide +kernel
theorem dX7_hashSparrow_167 : decode cX7_hashSparrow 167 = .ok (.lconst 0, 1) := by decide +kernel
theorem dX7_hashSparrow_168 : decode cX7_hashSparrow 168 = .ok (.invokevirtual 313, 3) := by decide +kernel
theorem dX7_hashSparrow_171 : decode cX7_hashSparrow 171 = .ok (.aload_n 1, 1) := by decide +kernel
theorem dX7_hashSparrow_172 : decode cX7_hashSparrow 172 = .ok (.aload_n 2, 1) := by decide +kernel
theorem dX7_hashSparrow_173 : decode cX7_hashSparrow 173 = .ok (.invokevirtual 253, 3) := by decide +kernel
theorem dX7_hashSparrow_176 : decode cX7_hashSparrow 176 = .ok (.i2l, 1) := by decide +kernel
theorem dX7_hashSparrow_177 : decode cX7_hashSparrow 177 = .ok (.invokevirtual 313, 3) := by decide +kernel
theorem dX7_hashSparrow_180 : decode cX7_hashSparrow 180 = .ok (.aload_n 1, 1) := by decide +kernel
theorem dX7_hashSparrow_181 : decode cX7_hashSparrow 181 = .ok (.iload_n 3, 1) := by decide +kernel
theorem dX7_hashSparrow_182 : decode cX7_hashSparrow 182 = .ok (.ifCond .eq 15, 3) := by decide +kernel
theorem dX7_hashSparrow_185 : decode cX7_hashSparrow 185 = .ok (.aload_n 0, 1) := by decide +kernel
theorem dX7_hashSparrow_186 : decode cX7_hashSparrow 186 = .ok (.getfield 10, 3) := by decide +kernel
theorem dX7_hashSparrow_189 : decode cX7_hashSparrow 189 = .ok (.aload_n 2, 1) := by decide +kernel
theorem dX7_hashSparrow_190 : decode cX7_hashSparrow 190 = .ok (.invokevirtual 256, 3) := by decide +kernel
theorem dX7_hashSparrow_193 : decode cX7_hashSparrow 193 = .ok (.i2l, 1) := by decide +kernel
theorem dX7_hashSparrow_194 : decode cX7_hashSparrow 194 = .ok (.goto 4, 3) := by decide +kernel
theorem dX7_hashSparrow_197 : decode cX7_hashSparrow 197 = .ok (.lconst 0, 1) := by decide +kernel
theorem dX7_hashSparrow_198 : decode cX7_hashSparrow 198 = .ok (.invokevirtual 313, 3) := by decide +kernel
theorem dX7_hashSparrow_201 : decode cX7_hashSparrow 201 = .ok (.aload_n 1, 1) := by decide +kernel
theorem dX7_hashSparrow_202 : decode cX7_hashSparrow 202 = .ok (.aload_n 2, 1) := by decide +kernel
theorem dX7_hashSparrow_203 : decode cX7_hashSparrow 203 = .ok (.getfield 92, 3) := by decide +kernel
theorem dX7_hashSparrow_206 : decode cX7_hashSparrow 206 = .ok (.iconst 3, 1) := by decide +kernel
theorem dX7_hashSparrow_207 : decode cX7_hashSparrow 207 = .ok (.if_icmp .ne 11, 3) := by decide +kernel
theorem dX7_hashSparrow_210 : decode cX7_hashSparrow 210 = .ok (.aload_n 2, 1) := by decide +kernel
theorem dX7_hashSparrow_211 : decode cX7_hashSparrow 211 = .ok (.getfield 286, 3) := by decide +kernel
theorem dX7_hashSparrow_214 : decode cX7_hashSparrow 214 = .ok (.i2l, 1) := by decide +kernel
theorem dX7_hashSparrow_215 : decode cX7_hashSparrow 215 = .ok (.goto 4, 3) := by decide +kernel
theorem dX7_hashSparrow_218 : decode cX7_hashSparrow 218 = .ok (.lconst 0, 1) := by decide +kernel
theorem dX7_hashSparrow_219 : decode cX7_hashSparrow 219 = .ok (.invokevirtual 313, 3) := by decide +kernel
theorem dX7_hashSparrow_222 : decode cX7_hashSparrow 222 = .ok (.return_, 1) := by decide +kernel
theorem dX7_hashOrder_0 : decode cX7_hashOrder 0 = .ok (.aload_n 0, 1) := by decide +kernel
theorem dX7_hashOrder_1 : decode cX7_hashOrder 1 = .ok (.getfield 10, 3) := by decide +kernel
theorem dX7_hashOrder_4 : decode cX7_hashOrder 4 = .ok (.invokevirtual 225, 3) := by decide +kernel
theorem dX7_hashOrder_7 : decode cX7_hashOrder 7 = .ok (.iconst 0, 1) := by decide +kernel
theorem dX7_hashOrder_8 : decode cX7_hashOrder 8 = .ok (.istore_n 2, 1) := by decide +kernel
theorem dX7_hashOrder_9 : decode cX7_hashOrder 9 = .ok (.iload_n 2, 1) := by decide +kernel
theorem dX7_hashOrder_10 : decode cX7_hashOrder 10 = .ok (.aload_n 0, 1) := by decide +kernel
theorem dX7_hashOrder_11 : decode cX7_hashOrder 11 = .ok (.getfield 10, 3) := by decide +kernel
theorem dX7_hashOrder_14 : decode cX7_hashOrder 14 = .ok (.getfield 58, 3) := by decide +kernel
theorem dX7_hashOrder_17 : decode cX7_hashOrder 17 = .ok (.if_icmp .ge 31, 3) := by decide +kernel
theorem dX7_hashOrder_20 : decode cX7_hashOrder 20 = .ok (.aload_n 0, 1) := by decide +kernel
theorem dX7_hashOrder_21 : decode cX7_hashOrder 21 = .ok (.getfield 10, 3) := by decide +kernel
theorem dX7_hashOrder_24 : decode cX7_hashOrder 24 = .ok (.iload_n 2, 1) := by decide +kernel
theorem dX7_hashOrder_25 : decode cX7_hashOrder 25 = .ok (.invokevirtual 228, 3) := by decide +kernel
theorem dX7_hashOrder_28 : decode cX7_hashOrder 28 = .ok (.astore_n 3, 1) := by decide +kernel
theorem dX7_hashOrder_29 : decode cX7_hashOrder 29 = .ok (.aload_n 3, 1) := by decide +kernel
theorem dX7_hashOrder_30 : decode cX7_hashOrder 30 = .ok (.ifnull 12, 3) := by decide +kernel
theorem dX7_hashOrder_33 : decode cX7_hashOrder 33 = .ok (.aload_n 1, 1) := by decide +kernel
theorem dX7_hashOrder_34 : decode cX7_hashOrder 34 = .ok (.aload_n 3, 1) := by decide +kernel
theorem dX7_hashOrder_35 : decode cX7_hashOrder 35 = .ok (.getfield 236, 3) := by decide +kernel
theorem dX7_hashOrder_38 : decode cX7_hashOrder 38 = .ok (.i2l, 1) := by decide +kernel
theorem dX7_hashOrder_39 : decode cX7_hashOrder 39 = .ok (.invokevirtual 313, 3) := by decide +kernel
theorem dX7_hashOrder_42 : decode cX7_hashOrder 42 = .ok (.iinc 2 1, 3) := by decide +kernel
theorem dX7_hashOrder_45 : decode cX7_hashOrder 45 = .ok (.goto (-36), 3) := by decide +kernel
theorem dX7_hashOrder_48 : decode cX7_hashOrder 48 = .ok (.return_, 1) := by decide +kernel
theorem dX7_hashAccounts_0 : decode cX7_hashAccounts 0 = .ok (.aload_n 1, 1) := by decide +kernel
theorem dX7_hashAccounts_1 : decode cX7_hashAccounts 1 = .ok (.aload_n 0, 1) := by decide +kernel
theorem dX7_hashAccounts_2 : decode cX7_hashAccounts 2 = .ok (.getfield 10, 3) := by decide +kernel
theorem dX7_hashAccounts_5 : decode cX7_hashAccounts 5 = .ok (.getfield 62, 3) := by decide +kernel
theorem dX7_hashAccounts_8 : decode cX7_hashAccounts 8 = .ok (.ifCond .eq 7, 3) := by decide +kernel
theorem dX7_hashAccounts_11 : decode cX7_hashAccounts 11 = .ok (.lconst 1, 1) := by decide +kernel
theorem dX7_hashAccounts_12 : decode cX7_hashAccounts 12 = .ok (.goto 4, 3) := by decide +kernel
theorem dX7_hashAccounts_15 : decode cX7_hashAccounts 15 = .ok (.lconst 0, 1) := by decide +kernel
theorem dX7_hashAccounts_16 : decode cX7_hashAccounts 16 = .ok (.invokevirtual 313, 3) := by decide +kernel
theorem dX7_hashAccounts_19 : decode cX7_hashAccounts 19 = .ok (.aload_n 1, 1) := by decide +kernel
theorem dX7_hashAccounts_20 : decode cX7_hashAccounts 20 = .ok (.aload_n 0, 1) := by decide +kernel
theorem dX7_hashAccounts_21 : decode cX7_hashAccounts 21 = .ok (.getfield 10, 3) := by decide +kernel
theorem dX7_hashAccounts_24 : decode cX7_hashAccounts 24 = .ok (.getfield 276, 3) := by decide +kernel
theorem dX7_hashAccounts_27 : decode cX7_hashAccounts 27 = .ok (.i2l, 1) := by decide +kernel
theorem dX7_hashAccounts_28 : decode cX7_hashAccounts 28 = .ok (.invokevirtual 313, 3) := by decide +kernel
theorem dX7_hashAccounts_31 : decode cX7_hashAccounts 31 = .ok (.aload_n 1, 1) := by decide +kernel
theorem dX7_hashAccounts_32 : decode cX7_hashAccounts 32 = .ok (.aload_n 0, 1) := by decide +kernel
theorem dX7_hashAccounts_33 : decode cX7_hashAccounts 33 = .ok (.getfield 10, 3) := by decide +kernel
theorem dX7_hashAccounts_36 : decode cX7_hashAccounts 36 = .ok (.getfield 141, 3) := by decide +kernel
theorem dX7_hashAccounts_39 : decode cX7_hashAccounts 39 = .ok (.i2l, 1) := by decide +kernel
theorem dX7_hashAccounts_40 : decode cX7_hashAccounts 40 = .ok (.invokevirtual 313, 3) := by decide +kernel
theorem dX7_hashAccounts_43 : decode cX7_hashAccounts 43 = .ok (.iconst 0, 1) := by decide +kernel
theorem dX7_hashAccounts_44 : decode cX7_hashAccounts 44 = .ok (.istore_n 2, 1) := by decide +kernel
theorem dX7_hashAccounts_45 : decode cX7_hashAccounts 45 = .ok (.iload_n 2, 1) := by decide +kernel
theorem dX7_hashAccounts_46 : decode cX7_hashAccounts 46 = .ok (.aload_n 0, 1) := by decide +kernel
theorem dX7_hashAccounts_47 : decode cX7_hashAccounts 47 = .ok (.getfield 10, 3) := by decide +kernel
theorem dX7_hashAccounts_50 : decode cX7_hashAccounts 50 = .ok (.getfield 141, 3) := by decide +kernel
theorem dX7_hashAccounts_53 : decode cX7_hashAccounts 53 = .ok (.if_icmp .ge 31, 3) := by decide +kernel
theorem dX7_hashAccounts_56 : decode cX7_hashAccounts 56 = .ok (.aload_n 0, 1) := by decide +kernel
theorem dX7_hashAccounts_57 : decode cX7_hashAccounts 57 = .ok (.getfield 10, 3) := by decide +kernel
theorem dX7_hashAccounts_60 : decode cX7_hashAccounts 60 = .ok (.iload_n 2, 1) := by decide +kernel
theorem dX7_hashAccounts_61 : decode cX7_hashAccounts 61 = .ok (.invokevirtual 279, 3) := by decide +kernel
theorem dX7_hashAccounts_64 : decode cX7_hashAccounts 64 = .ok (.astore_n 3, 1) := by decide +kernel
theorem dX7_hashAccounts_65 : decode cX7_hashAccounts 65 = .ok (.aload_n 3, 1) := by decide +kernel
theorem dX7_hashAccounts_66 : decode cX7_hashAccounts 66 = .ok (.ifnull 12, 3) := by decide +kernel
theorem dX7_hashAccounts_69 : decode cX7_hashAccounts 69 = .ok (.aload_n 1, 1) := by decide +kernel
theorem dX7_hashAccounts_70 : decode cX7_hashAccounts 70 = .ok (.aload_n 3, 1) := by decide +kernel
theorem dX7_hashAccounts_71 : decode cX7_hashAccounts 71 = .ok (.getfield 236, 3) := by decide +kernel
theorem dX7_hashAccounts_74 : decode cX7_hashAccounts 74 = .ok (.i2l, 1) := by decide +kernel
theorem dX7_hashAccounts_75 : decode cX7_hashAccounts 75 = .ok (.invokevirtual 313, 3) := by decide +kernel
theorem dX7_hashAccounts_78 : decode cX7_hashAccounts 78 = .ok (.iinc 2 1, 3) := by decide +kernel
theorem dX7_hashAccounts_81 : decode cX7_hashAccounts 81 = .ok (.goto (-36), 3) := by decide +kernel
theorem dX7_hashAccounts_84 : decode cX7_hashAccounts 84 = .ok (.aload_n 1, 1) := by decide +kernel
theorem dX7_hashAccounts_85 : decode cX7_hashAccounts 85 = .ok (.aload_n 0, 1) := by decide +kernel
theorem dX7_hashAccounts_86 : decode cX7_hashAccounts 86 = .ok (.getfield 10, 3) := by decide +kernel
theorem dX7_hashAccounts_89 : decode cX7_hashAccounts 89 = .ok (.invokevirtual 289, 3) := by decide +kernel
theorem dX7_hashAccounts_92 : decode cX7_hashAccounts 92 = .ok (.i2l, 1) := by decide +kernel
theorem dX7_hashAccounts_93 : decode cX7_hashAccounts 93 = .ok (.invokevirtual 313, 3) := by decide +kernel
theorem dX7_hashAccounts_96 : decode cX7_hashAccounts 96 = .ok (.aload_n 1, 1) := by decide +kernel
theorem dX7_hashAccounts_97 : decode cX7_hashAccounts 97 = .ok (.aload_n 0, 1) := by decide +kernel
theorem dX7_hashAccounts_98 : decode cX7_hashAccounts 98 = .ok (.getfield 10, 3) := by decide +kernel
theorem dX7_hashAccounts_101 : decode cX7_hashAccounts 101 = .ok (.getfield 292, 3) := by decide +kernel
theorem dX7_hashAccounts_104 : decode cX7_hashAccounts 104 = .ok (.i2l, 1) := by decide +kernel
theorem dX7_hashAccounts_105 : decode cX7_hashAccounts 105 = .ok (.invokevirtual 313, 3) := by decide +kernel
theorem dX7_hashAccounts_108 : decode cX7_hashAccounts 108 = .ok (.aload_n 1, 1) := by decide +kernel
theorem dX7_hashAccounts_109 : decode cX7_hashAccounts 109 = .ok (.aload_n 0, 1) := by decide +kernel
theorem dX7_hashAccounts_110 : decode cX7_hashAccounts 110 = .ok (.getfield 10, 3) := by decide +kernel
theorem dX7_hashAccounts_113 : decode cX7_hashAccounts 113 = .ok (.getfield 295, 3) := by decide +kernel
theorem dX7_hashAccounts_116 : decode cX7_hashAccounts 116 = .ok (.i2l, 1) := by decide +kernel
theorem dX7_hashAccounts_117 : decode cX7_hashAccounts 117 = .ok (.invokevirtual 313, 3) := by decide +kernel
theorem dX7_hashAccounts_120 : decode cX7_hashAccounts 120 = .ok (.aload_n 1, 1) := by decide +kernel
theorem dX7_hashAccounts_121 : decode cX7_hashAccounts 121 = .ok (.aload_n 0, 1) := by decide +kernel
theorem dX7_hashAccounts_122 : decode cX7_hashAccounts 122 = .ok (.getfield 10, 3) := by decide +kernel
theorem dX7_hashAccounts_125 : decode cX7_hashAccounts 125 = .ok (.getfield 298, 3) := by decide +kernel
theorem dX7_hashAccounts_128 : decode cX7_hashAccounts 128 = .ok (.i2l, 1) := by decide +kernel
theorem dX7_hashAccounts_129 : decode cX7_hashAccounts 129 = .ok (.invokevirtual 313, 3) := by decide +kernel
theorem dX7_hashAccounts_132 : decode cX7_hashAccounts 132 = .ok (.aload_n 1, 1) := by decide +kernel
theorem dX7_hashAccounts_133 : decode cX7_hashAccounts 133 = .ok (.aload_n 0, 1) := by decide +kernel
theorem dX7_hashAccounts_134 : decode cX7_hashAccounts 134 = .ok (.getfield 10, 3) := by decide +kernel
theorem dX7_hashAccounts_137 : decode cX7_hashAccounts 137 = .ok (.getfield 301, 3) := by decide +kernel
theorem dX7_hashAccounts_140 : decode cX7_hashAccounts 140 = .ok (.i2l, 1) := by decide +kernel
theorem dX7_hashAccounts_141 : decode cX7_hashAccounts 141 = .ok (.invokevirtual 313, 3) := by decide +kernel
theorem dX7_hashAccounts_144 : decode cX7_hashAccounts 144 = .ok (.aload_n 1, 1) := by decide +kernel
theorem dX7_hashAccounts_145 : decode cX7_hashAccounts 145 = .ok (.aload_n 0, 1) := by decide +kernel
theorem dX7_hashAccounts_146 : decode cX7_hashAccounts 146 = .ok (.getfield 10, 3) := by decide +kernel
theorem dX7_hashAccounts_149 : decode cX7_hashAccounts 149 = .ok (.getfield 304, 3) := by decide +kernel
theorem dX7_hashAccounts_152 : decode cX7_hashAccounts 152 = .ok (.i2l, 1) := by decide +kernel
theorem dX7_hashAccounts_153 : decode cX7_hashAccounts 153 = .ok (.invokevirtual 313, 3) := by decide +kernel
theorem dX7_hashAccounts_156 : decode cX7_hashAccounts 156 = .ok (.aload_n 1, 1) := by decide +kernel
theorem dX7_hashAccounts_157 : decode cX7_hashAccounts 157 = .ok (.aload_n 0, 1) := by decide +kernel
theorem dX7_hashAccounts_158 : decode cX7_hashAccounts 158 = .ok (.getfield 10, 3) := by decide +kernel
theorem dX7_hashAccounts_161 : decode cX7_hashAccounts 161 = .ok (.getfield 307, 3) := by decide +kernel
theorem dX7_hashAccounts_164 : decode cX7_hashAccounts 164 = .ok (.i2l, 1) := by decide +kernel
theorem dX7_hashAccounts_165 : decode cX7_hashAccounts 165 = .ok (.invokevirtual 313, 3) := by decide +kernel
theorem dX7_hashAccounts_168 : decode cX7_hashAccounts 168 = .ok (.aload_n 1, 1) := by decide +kernel
theorem dX7_hashAccounts_169 : decode cX7_hashAccounts 169 = .ok (.aload_n 0, 1) := by decide +kernel
theorem dX7_hashAccounts_170 : decode cX7_hashAccounts 170 = .ok (.getfield 22, 3) := by decide +kernel
theorem dX7_hashAccounts_173 : decode cX7_hashAccounts 173 = .ok (.getfield 197, 3) := by decide +kernel
theorem dX7_hashAccounts_176 : decode cX7_hashAccounts 176 = .ok (.i2l, 1) := by decide +kernel
theorem dX7_hashAccounts_177 : decode cX7_hashAccounts 177 = .ok (.invokevirtual 313, 3) := by decide +kernel
theorem dX7_hashAccounts_180 : decode cX7_hashAccounts 180 = .ok (.aload_n 1, 1) := by decide +kernel
theorem dX7_hashAccounts_181 : decode cX7_hashAccounts 181 = .ok (.aload_n 0, 1) := by decide +kernel
theorem dX7_hashAccounts_182 : decode cX7_hashAccounts 182 = .ok (.invokevirtual 337, 3) := by decide +kernel
theorem dX7_hashAccounts_185 : decode cX7_hashAccounts 185 = .ok (.invokestatic 341, 3) := by decide +kernel
theorem dX7_hashAccounts_188 : decode cX7_hashAccounts 188 = .ok (.invokevirtual 313, 3) := by decide +kernel
theorem dX7_hashAccounts_191 : decode cX7_hashAccounts 191 = .ok (.return_, 1) := by decide +kernel
theorem dX7_bitsOf_0 : decode cX7_bitsOf 0 = .ok (.dload_n 0, 1) := by decide +kernel
theorem dX7_bitsOf_1 : decode cX7_bitsOf 1 = .ok (.dconst 0, 1) := by decide +kernel
theorem dX7_bitsOf_2 : decode cX7_bitsOf 2 = .ok (.dcmp .g, 1) := by decide +kernel
theorem dX7_bitsOf_3 : decode cX7_bitsOf 3 = .ok (.ifCond .gt 5, 3) := by decide +kernel
theorem dX7_bitsOf_6 : decode cX7_bitsOf 6 = .ok (.lconst 0, 1) := by decide +kernel
theorem dX7_bitsOf_7 : decode cX7_bitsOf 7 = .ok (.lreturn, 1) := by decide +kernel
theorem dX7_bitsOf_8 : decode cX7_bitsOf 8 = .ok (.dload_n 0, 1) := by decide +kernel
theorem dX7_bitsOf_9 : decode cX7_bitsOf 9 = .ok (.dstore_n 2, 1) := by decide +kernel
theorem dX7_bitsOf_10 : decode cX7_bitsOf 10 = .ok (.ldc2_w 345, 3) := by decide +kernel
theorem dX7_bitsOf_13 : decode cX7_bitsOf 13 = .ok (.lstore 4, 2) := by decide +kernel
theorem dX7_bitsOf_15 : decode cX7_bitsOf 15 = .ok (.iconst 0, 1) := by decide +kernel
theorem dX7_bitsOf_16 : decode cX7_bitsOf 16 = .ok (.istore 6, 2) := by decide +kernel
theorem dX7_bitsOf_18 : decode cX7_bitsOf 18 = .ok (.iload 6, 2) := by decide +kernel
theorem dX7_bitsOf_20 : decode cX7_bitsOf 20 = .ok (.bipush 64, 2) := by decide +kernel
theorem dX7_bitsOf_22 : decode cX7_bitsOf 22 = .ok (.if_icmp .ge 29, 3) := by decide +kernel
theorem dX7_bitsOf_25 : decode cX7_bitsOf 25 = .ok (.dload_n 2, 1) := by decide +kernel
theorem dX7_bitsOf_26 : decode cX7_bitsOf 26 = .ok (.ldc2_w 347, 3) := by decide +kernel
theorem dX7_bitsOf_29 : decode cX7_bitsOf 29 = .ok (.dcmp .l, 1) := by decide +kernel
theorem dX7_bitsOf_30 : decode cX7_bitsOf 30 = .ok (.ifCond .lt 21, 3) := by decide +kernel
theorem dX7_bitsOf_33 : decode cX7_bitsOf 33 = .ok (.dload_n 2, 1) := by decide +kernel
theorem dX7_bitsOf_34 : decode cX7_bitsOf 34 = .ok (.ldc2_w 347, 3) := by decide +kernel
theorem dX7_bitsOf_37 : decode cX7_bitsOf 37 = .ok (.ddiv, 1) := by decide +kernel
theorem dX7_bitsOf_38 : decode cX7_bitsOf 38 = .ok (.dstore_n 2, 1) := by decide +kernel
theorem dX7_bitsOf_39 : decode cX7_bitsOf 39 = .ok (.lload 4, 2) := by decide +kernel
theorem dX7_bitsOf_41 : decode cX7_bitsOf 41 = .ok (.lconst 1, 1) := by decide +kernel
theorem dX7_bitsOf_42 : decode cX7_bitsOf 42 = .ok (.ladd, 1) := by decide +kernel
theorem dX7_bitsOf_43 : decode cX7_bitsOf 43 = .ok (.lstore 4, 2) := by decide +kernel
theorem dX7_bitsOf_45 : decode cX7_bitsOf 45 = .ok (.iinc 6 1, 3) := by decide +kernel
theorem dX7_bitsOf_48 : decode cX7_bitsOf 48 = .ok (.goto (-30), 3) := by decide +kernel
theorem dX7_bitsOf_51 : decode cX7_bitsOf 51 = .ok (.iconst 0, 1) := by decide +kernel
theorem dX7_bitsOf_52 : decode cX7_bitsOf 52 = .ok (.istore 6, 2) := by decide +kernel
theorem dX7_bitsOf_54 : decode cX7_bitsOf 54 = .ok (.iload 6, 2) := by decide +kernel
theorem dX7_bitsOf_56 : decode cX7_bitsOf 56 = .ok (.bipush 64, 2) := by decide +kernel
theorem dX7_bitsOf_58 : decode cX7_bitsOf 58 = .ok (.if_icmp .ge 27, 3) := by decide +kernel
theorem dX7_bitsOf_61 : decode cX7_bitsOf 61 = .ok (.dload_n 2, 1) := by decide +kernel
theorem dX7_bitsOf_62 : decode cX7_bitsOf 62 = .ok (.dconst 1, 1) := by decide +kernel
theorem dX7_bitsOf_63 : decode cX7_bitsOf 63 = .ok (.dcmp .g, 1) := by decide +kernel
theorem dX7_bitsOf_64 : decode cX7_bitsOf 64 = .ok (.ifCond .ge 21, 3) := by decide +kernel
theorem dX7_bitsOf_67 : decode cX7_bitsOf 67 = .ok (.dload_n 2, 1) := by decide +kernel
theorem dX7_bitsOf_68 : decode cX7_bitsOf 68 = .ok (.ldc2_w 347, 3) := by decide +kernel
theorem dX7_bitsOf_71 : decode cX7_bitsOf 71 = .ok (.dmul, 1) := by decide +kernel
theorem dX7_bitsOf_72 : decode cX7_bitsOf 72 = .ok (.dstore_n 2, 1) := by decide +kernel
theorem dX7_bitsOf_73 : decode cX7_bitsOf 73 = .ok (.lload 4, 2) := by decide +kernel
theorem dX7_bitsOf_75 : decode cX7_bitsOf 75 = .ok (.lconst 1, 1) := by decide +kernel
theorem dX7_bitsOf_76 : decode cX7_bitsOf 76 = .ok (.lsub, 1) := by decide +kernel
theorem dX7_bitsOf_77 : decode cX7_bitsOf 77 = .ok (.lstore 4, 2) := by decide +kernel
theorem dX7_bitsOf_79 : decode cX7_bitsOf 79 = .ok (.iinc 6 1, 3) := by decide +kernel
theorem dX7_bitsOf_82 : decode cX7_bitsOf 82 = .ok (.goto (-28), 3) := by decide +kernel
theorem dX7_bitsOf_85 : decode cX7_bitsOf 85 = .ok (.lload 4, 2) := by decide +kernel
theorem dX7_bitsOf_87 : decode cX7_bitsOf 87 = .ok (.bipush 52, 2) := by decide +kernel
theorem dX7_bitsOf_89 : decode cX7_bitsOf 89 = .ok (.lshl, 1) := by decide +kernel
theorem dX7_bitsOf_90 : decode cX7_bitsOf 90 = .ok (.dload_n 2, 1) := by decide +kernel
theorem dX7_bitsOf_91 : decode cX7_bitsOf 91 = .ok (.dconst 1, 1) := by decide +kernel
theorem dX7_bitsOf_92 : decode cX7_bitsOf 92 = .ok (.dsub, 1) := by decide +kernel
theorem dX7_bitsOf_93 : decode cX7_bitsOf 93 = .ok (.ldc2_w 349, 3) := by decide +kernel
theorem dX7_bitsOf_96 : decode cX7_bitsOf 96 = .ok (.dmul, 1) := by decide +kernel
theorem dX7_bitsOf_97 : decode cX7_bitsOf 97 = .ok (.d2l, 1) := by decide +kernel
theorem dX7_bitsOf_98 : decode cX7_bitsOf 98 = .ok (.ladd, 1) := by decide +kernel
theorem dX7_bitsOf_99 : decode cX7_bitsOf 99 = .ok (.lreturn, 1) := by decide +kernel
theorem dX7_foretell_0 : decode cX7_foretell 0 = .ok (.aload_n 0, 1) := by decide +kernel
theorem dX7_foretell_1 : decode cX7_foretell 1 = .ok (.getfield 16, 3) := by decide +kernel
theorem dX7_foretell_4 : decode cX7_foretell 4 = .ok (.aload_n 0, 1) := by decide +kernel
theorem dX7_foretell_5 : decode cX7_foretell 5 = .ok (.getfield 10, 3) := by decide +kernel
theorem dX7_foretell_8 : decode cX7_foretell 8 = .ok (.invokevirtual 175, 3) := by decide +kernel
theorem dX7_foretell_11 : decode cX7_foretell 11 = .ok (.aload_n 0, 1) := by decide +kernel
theorem dX7_foretell_12 : decode cX7_foretell 12 = .ok (.getfield 16, 3) := by decide +kernel
theorem dX7_foretell_15 : decode cX7_foretell 15 = .ok (.aload_n 1, 1) := by decide +kernel
theorem dX7_foretell_16 : decode cX7_foretell 16 = .ok (.getfield 236, 3) := by decide +kernel
theorem dX7_foretell_19 : decode cX7_foretell 19 = .ok (.invokevirtual 316, 3) := by decide +kernel
theorem dX7_foretell_22 : decode cX7_foretell 22 = .ok (.astore 4, 2) := by decide +kernel
theorem dX7_foretell_24 : decode cX7_foretell 24 = .ok (.aload 4, 2) := by decide +kernel
theorem dX7_foretell_26 : decode cX7_foretell 26 = .ok (.ifnonnull 5, 3) := by decide +kernel
theorem dX7_foretell_29 : decode cX7_foretell 29 = .ok (.iconst 0, 1) := by decide +kernel
theorem dX7_foretell_30 : decode cX7_foretell 30 = .ok (.ireturn, 1) := by decide +kernel
theorem dX7_foretell_31 : decode cX7_foretell 31 = .ok (.aload 4, 2) := by decide +kernel
theorem dX7_foretell_33 : decode cX7_foretell 33 = .ok (.iload_n 2, 1) := by decide +kernel
theorem dX7_foretell_34 : decode cX7_foretell 34 = .ok (.putfield 87, 3) := by decide +kernel
theorem dX7_foretell_37 : decode cX7_foretell 37 = .ok (.aload_n 0, 1) := by decide +kernel
theorem dX7_foretell_38 : decode cX7_foretell 38 = .ok (.getfield 16, 3) := by decide +kernel
theorem dX7_foretell_41 : decode cX7_foretell 41 = .ok (.iload_n 3, 1) := by decide +kernel
theorem dX7_foretell_42 : decode cX7_foretell 42 = .ok (.invokevirtual 144, 3) := by decide +kernel
theorem dX7_foretell_45 : decode cX7_foretell 45 = .ok (.aload 4, 2) := by decide +kernel
theorem dX7_foretell_47 : decode cX7_foretell 47 = .ok (.getfield 198, 3) := by decide +kernel
theorem dX7_foretell_50 : decode cX7_foretell 50 = .ok (.ireturn, 1) := by decide +kernel
theorem dX7_foretellBestPace_0 : decode cX7_foretellBestPace 0 = .ok (.bipush 10, 2) := by decide +kernel
theorem dX7_foretellBestPace_2 : decode cX7_foretellBestPace 2 = .ok (.istore_n 2, 1) := by decide +kernel
theorem dX7_foretellBestPace_3 : decode cX7_foretellBestPace 3 = .ok (.iconst (-1), 1) := by decide +kernel
theorem dX7_foretellBestPace_4 : decode cX7_foretellBestPace 4 = .ok (.istore_n 3, 1) := by decide +kernel
theorem dX7_foretellBestPace_5 : decode cX7_foretellBestPace 5 = .ok (.bipush 10, 2) := by decide +kernel
theorem dX7_foretellBestPace_7 : decode cX7_foretellBestPace 7 = .ok (.istore 4, 2) := by decide +kernel
theorem dX7_foretellBestPace_9 : decode cX7_foretellBestPace 9 = .ok (.iload 4, 2) := by decide +kernel
theorem dX7_foretellBestPace_11 : decode cX7_foretellBestPace 11 = .ok (.bipush 40, 2) := by decide +kernel
theorem dX7_foretellBestPace_13 : decode cX7_foretellBestPace 13 = .ok (.if_icmp .gt 32, 3) := by decide +kernel
theorem dX7_foretellBestPace_16 : decode cX7_foretellBestPace 16 = .ok (.aload_n 0, 1) := by decide +kernel
theorem dX7_foretellBestPace_17 : decode cX7_foretellBestPace 17 = .ok (.aload_n 1, 1) := by decide +kernel
theorem dX7_foretellBestPace_18 : decode cX7_foretellBestPace 18 = .ok (.iload 4, 2) := by decide +kernel
theorem dX7_foretellBestPace_20 : decode cX7_foretellBestPace 20 = .ok (.bipush 50, 2) := by decide +kernel
theorem dX7_foretellBestPace_22 : decode cX7_foretellBestPace 22 = .ok (.invokevirtual 259, 3) := by decide +kernel
theorem dX7_foretellBestPace_25 : decode cX7_foretellBestPace 25 = .ok (.istore 5, 2) := by decide +kernel
theorem dX7_foretellBestPace_27 : decode cX7_foretellBestPace 27 = .ok (.iload 5, 2) := by decide +kernel
theorem dX7_foretellBestPace_29 : decode cX7_foretellBestPace 29 = .ok (.iload_n 3, 1) := by decide +kernel
theorem dX7_foretellBestPace_30 : decode cX7_foretellBestPace 30 = .ok (.if_icmp .le 9, 3) := by decide +kernel
theorem dX7_foretellBestPace_33 : decode cX7_foretellBestPace 33 = .ok (.iload 5, 2) := by decide +kernel
theorem dX7_foretellBestPace_35 : decode cX7_foretellBestPace 35 = .ok (.istore_n 3, 1) := by decide +kernel
theorem dX7_foretellBestPace_36 : decode cX7_foretellBestPace 36 = .ok (.iload 4, 2) := by decide +kernel
theorem dX7_foretellBestPace_38 : decode cX7_foretellBestPace 38 = .ok (.istore_n 2, 1) := by decide +kernel
theorem dX7_foretellBestPace_39 : decode cX7_foretellBestPace 39 = .ok (.iinc 4 1, 3) := by decide +kernel
theorem dX7_foretellBestPace_42 : decode cX7_foretellBestPace 42 = .ok (.goto (-33), 3) := by decide +kernel
theorem dX7_foretellBestPace_45 : decode cX7_foretellBestPace 45 = .ok (.iload_n 2, 1) := by decide +kernel
theorem dX7_foretellBestPace_46 : decode cX7_foretellBestPace 46 = .ok (.ireturn, 1) := by decide +kernel
theorem dX7_foretellSeconds_0 : decode cX7_foretellSeconds 0 = .ok (.aload_n 0, 1) := by decide +kernel
theorem dX7_foretellSeconds_1 : decode cX7_foretellSeconds 1 = .ok (.getfield 16, 3) := by decide +kernel
theorem dX7_foretellSeconds_4 : decode cX7_foretellSeconds 4 = .ok (.aload_n 0, 1) := by decide +kernel
theorem dX7_foretellSeconds_5 : decode cX7_foretellSeconds 5 = .ok (.getfield 10, 3) := by decide +kernel
theorem dX7_foretellSeconds_8 : decode cX7_foretellSeconds 8 = .ok (.invokevirtual 175, 3) := by decide +kernel
theorem dX7_foretellSeconds_11 : decode cX7_foretellSeconds 11 = .ok (.iconst 1, 1) := by decide +kernel
theorem dX7_foretellSeconds_12 : decode cX7_foretellSeconds 12 = .ok (.istore_n 1, 1) := by decide +kernel
theorem dX7_foretellSeconds_13 : decode cX7_foretellSeconds 13 = .ok (.iload_n 1, 1) := by decide +kernel
theorem dX7_foretellSeconds_14 : decode cX7_foretellSeconds 14 = .ok (.sipush 2000, 3) := by decide +kernel
theorem dX7_foretellSeconds_17 : decode cX7_foretellSeconds 17 = .ok (.if_icmp .gt 46, 3) := by decide +kernel
theorem dX7_foretellSeconds_20 : decode cX7_foretellSeconds 20 = .ok (.aload_n 0, 1) := by decide +kernel
theorem dX7_foretellSeconds_21 : decode cX7_foretellSeconds 21 = .ok (.getfield 16, 3) := by decide +kernel
theorem dX7_foretellSeconds_24 : decode cX7_foretellSeconds 24 = .ok (.getfield 62, 3) := by decide +kernel
theorem dX7_foretellSeconds_27 : decode cX7_foretellSeconds 27 = .ok (.ifCond .eq 36, 3) := by decide +kernel
theorem dX7_foretellSeconds_30 : decode cX7_foretellSeconds 30 = .ok (.aload_n 0, 1) := by decide +kernel
theorem dX7_foretellSeconds_31 : decode cX7_foretellSeconds 31 = .ok (.getfield 16, 3) := by decide +kernel
theorem dX7_foretellSeconds_34 : decode cX7_foretellSeconds 34 = .ok (.iconst 1, 1) := by decide +kernel
theorem dX7_foretellSeconds_35 : decode cX7_foretellSeconds 35 = .ok (.invokevirtual 144, 3) := by decide +kernel
theorem dX7_foretellSeconds_38 : decode cX7_foretellSeconds 38 = .ok (.aload_n 0, 1) := by decide +kernel
theorem dX7_foretellSeconds_39 : decode cX7_foretellSeconds 39 = .ok (.getfield 16, 3) := by decide +kernel
theorem dX7_foretellSeconds_42 : decode cX7_foretellSeconds 42 = .ok (.getfield 141, 3) := by decide +kernel
theorem dX7_foretellSeconds_45 : decode cX7_foretellSeconds 45 = .ok (.aload_n 0, 1) := by decide +kernel
theorem dX7_foretellSeconds_46 : decode cX7_foretellSeconds 46 = .ok (.getfield 10, 3) := by decide +kernel
theorem dX7_foretellSeconds_49 : decode cX7_foretellSeconds 49 = .ok (.getfield 141, 3) := by decide +kernel
theorem dX7_foretellSeconds_52 : decode cX7_foretellSeconds 52 = .ok (.if_icmp .le 5, 3) := by decide +kernel
theorem dX7_foretellSeconds_55 : decode cX7_foretellSeconds 55 = .ok (.iload_n 1, 1) := by decide +kernel
theorem dX7_foretellSeconds_56 : decode cX7_foretellSeconds 56 = .ok (.ireturn, 1) := by decide +kernel
theorem dX7_foretellSeconds_57 : decode cX7_foretellSeconds 57 = .ok (.iinc 1 1, 3) := by decide +kernel
theorem dX7_foretellSeconds_60 : decode cX7_foretellSeconds 60 = .ok (.goto (-47), 3) := by decide +kernel
theorem dX7_foretellSeconds_63 : decode cX7_foretellSeconds 63 = .ok (.iconst (-1), 1) := by decide +kernel
theorem dX7_foretellSeconds_64 : decode cX7_foretellSeconds 64 = .ok (.ireturn, 1) := by decide +kernel
theorem dX7_foretellWinner_0 : decode cX7_foretellWinner 0 = .ok (.aload_n 0, 1) := by decide +kernel
theorem dX7_foretellWinner_1 : decode cX7_foretellWinner 1 = .ok (.getfield 10, 3) := by decide +kernel
theorem dX7_foretellWinner_4 : decode cX7_foretellWinner 4 = .ok (.getfield 141, 3) := by decide +kernel
theorem dX7_foretellWinner_7 : decode cX7_foretellWinner 7 = .ok (.ifCond .gt 11, 3) := by decide +kernel
theorem dX7_foretellWinner_10 : decode cX7_foretellWinner 10 = .ok (.aload_n 0, 1) := by decide +kernel
theorem dX7_foretellWinner_11 : decode cX7_foretellWinner 11 = .ok (.invokevirtual 268, 3) := by decide +kernel
theorem dX7_foretellWinner_14 : decode cX7_foretellWinner 14 = .ok (.iconst (-1), 1) := by decide +kernel
theorem dX7_foretellWinner_15 : decode cX7_foretellWinner 15 = .ok (.if_icmp .ne 5, 3) := by decide +kernel
theorem dX7_foretellWinner_18 : decode cX7_foretellWinner 18 = .ok (.iconst (-1), 1) := by decide +kernel
theorem dX7_foretellWinner_19 : decode cX7_foretellWinner 19 = .ok (.ireturn, 1) := by decide +kernel
theorem dX7_foretellWinner_20 : decode cX7_foretellWinner 20 = .ok (.aload_n 0, 1) := by decide +kernel
theorem dX7_foretellWinner_21 : decode cX7_foretellWinner 21 = .ok (.getfield 16, 3) := by decide +kernel
theorem dX7_foretellWinner_24 : decode cX7_foretellWinner 24 = .ok (.iconst 0, 1) := by decide +kernel
theorem dX7_foretellWinner_25 : decode cX7_foretellWinner 25 = .ok (.invokevirtual 279, 3) := by decide +kernel
theorem dX7_foretellWinner_28 : decode cX7_foretellWinner 28 = .ok (.astore_n 1, 1) := by decide +kernel
theorem dX7_foretellWinner_29 : decode cX7_foretellWinner 29 = .ok (.aload_n 1, 1) := by decide +kernel
theorem dX7_foretellWinner_30 : decode cX7_foretellWinner 30 = .ok (.ifnonnull 7, 3) := by decide +kernel
theorem dX7_foretellWinner_33 : decode cX7_foretellWinner 33 = .ok (.iconst (-1), 1) := by decide +kernel
theorem dX7_foretellWinner_34 : decode cX7_foretellWinner 34 = .ok (.goto 7, 3) := by decide +kernel
theorem dX7_foretellWinner_37 : decode cX7_foretellWinner 37 = .ok (.aload_n 1, 1) := by decide +kernel
theorem dX7_foretellWinner_38 : decode cX7_foretellWinner 38 = .ok (.getfield 236, 3) := by decide +kernel
theorem dX7_foretellWinner_41 : decode cX7_foretellWinner 41 = .ok (.ireturn, 1) := by decide +kernel
theorem dX7_readText_0 : decode cX7_readText 0 = .ok (.aload_n 0, 1) := by decide +kernel
theorem dX7_readText_1 : decode cX7_readText 1 = .ok (.getfield 43, 3) := by decide +kernel
theorem dX7_readText_4 : decode cX7_readText 4 = .ok (.invokevirtual 351, 3) := by decide +kernel
theorem dX7_readText_7 : decode cX7_readText 7 = .ok (.iconst 0, 1) := by decide +kernel
theorem dX7_readText_8 : decode cX7_readText 8 = .ok (.istore_n 1, 1) := by decide +kernel
theorem dX7_readText_9 : decode cX7_readText 9 = .ok (.iload_n 1, 1) := by decide +kernel
theorem dX7_readText_10 : decode cX7_readText 10 = .ok (.aload_n 0, 1) := by decide +kernel
theorem dX7_readText_11 : decode cX7_readText 11 = .ok (.getfield 36, 3) := by decide +kernel
theorem dX7_readText_14 : decode cX7_readText 14 = .ok (.getfield 159, 3) := by decide +kernel
theorem dX7_readText_17 : decode cX7_readText 17 = .ok (.if_icmp .ge 29, 3) := by decide +kernel
theorem dX7_readText_20 : decode cX7_readText 20 = .ok (.aload_n 0, 1) := by decide +kernel
theorem dX7_readText_21 : decode cX7_readText 21 = .ok (.getfield 43, 3) := by decide +kernel
theorem dX7_readText_24 : decode cX7_readText 24 = .ok (.aload_n 0, 1) := by decide +kernel
