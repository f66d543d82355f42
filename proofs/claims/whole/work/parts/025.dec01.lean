theorem dX3_putInOrder_44 : decode cX3_putInOrder 44 = .ok (.iinc 4 1, 3) := by decide +kernel
theorem dX3_putInOrder_47 : decode cX3_putInOrder 47 = .ok (.goto (-34), 3) := by decide +kernel
theorem dX3_putInOrder_50 : decode cX3_putInOrder 50 = .ok (.return_, 1) := by decide +kernel
theorem dX3_insertInOrder_0 : decode cX3_insertInOrder 0 = .ok (.iload_n 2, 1) := by decide +kernel
theorem dX3_insertInOrder_1 : decode cX3_insertInOrder 1 = .ok (.istore_n 3, 1) := by decide +kernel
theorem dX3_insertInOrder_2 : decode cX3_insertInOrder 2 = .ok (.iload_n 3, 1) := by decide +kernel
theorem dX3_insertInOrder_3 : decode cX3_insertInOrder 3 = .ok (.ifCond .le 53, 3) := by decide +kernel
theorem dX3_insertInOrder_6 : decode cX3_insertInOrder 6 = .ok (.iload_n 3, 1) := by decide +kernel
theorem dX3_insertInOrder_7 : decode cX3_insertInOrder 7 = .ok (.aload_n 0, 1) := by decide +kernel
theorem dX3_insertInOrder_8 : decode cX3_insertInOrder 8 = .ok (.getfield 17, 3) := by decide +kernel
theorem dX3_insertInOrder_11 : decode cX3_insertInOrder 11 = .ok (.arraylength, 1) := by decide +kernel
theorem dX3_insertInOrder_12 : decode cX3_insertInOrder 12 = .ok (.if_icmp .ge 44, 3) := by decide +kernel
theorem dX3_insertInOrder_15 : decode cX3_insertInOrder 15 = .ok (.aload_n 0, 1) := by decide +kernel
theorem dX3_insertInOrder_16 : decode cX3_insertInOrder 16 = .ok (.getfield 17, 3) := by decide +kernel
theorem dX3_insertInOrder_19 : decode cX3_insertInOrder 19 = .ok (.iload_n 3, 1) := by decide +kernel
theorem dX3_insertInOrder_20 : decode cX3_insertInOrder 20 = .ok (.iconst 1, 1) := by decide +kernel
theorem dX3_insertInOrder_21 : decode cX3_insertInOrder 21 = .ok (.isub, 1) := by decide +kernel
theorem dX3_insertInOrder_22 : decode cX3_insertInOrder 22 = .ok (.aaload, 1) := by decide +kernel
theorem dX3_insertInOrder_23 : decode cX3_insertInOrder 23 = .ok (.astore 4, 2) := by decide +kernel
theorem dX3_insertInOrder_25 : decode cX3_insertInOrder 25 = .ok (.aload 4, 2) := by decide +kernel
theorem dX3_insertInOrder_27 : decode cX3_insertInOrder 27 = .ok (.ifnull 29, 3) := by decide +kernel
theorem dX3_insertInOrder_30 : decode cX3_insertInOrder 30 = .ok (.aload 4, 2) := by decide +kernel
theorem dX3_insertInOrder_32 : decode cX3_insertInOrder 32 = .ok (.aload_n 1, 1) := by decide +kernel
theorem dX3_insertInOrder_33 : decode cX3_insertInOrder 33 = .ok (.invokevirtual 95, 3) := by decide +kernel
theorem dX3_insertInOrder_36 : decode cX3_insertInOrder 36 = .ok (.ifCond .eq 6, 3) := by decide +kernel
theorem dX3_insertInOrder_39 : decode cX3_insertInOrder 39 = .ok (.goto 17, 3) := by decide +kernel
theorem dX3_insertInOrder_42 : decode cX3_insertInOrder 42 = .ok (.aload_n 0, 1) := by decide +kernel
theorem dX3_insertInOrder_43 : decode cX3_insertInOrder 43 = .ok (.getfield 17, 3) := by decide +kernel
theorem dX3_insertInOrder_46 : decode cX3_insertInOrder 46 = .ok (.iload_n 3, 1) := by decide +kernel
theorem dX3_insertInOrder_47 : decode cX3_insertInOrder 47 = .ok (.aload 4, 2) := by decide +kernel
theorem dX3_insertInOrder_49 : decode cX3_insertInOrder 49 = .ok (.aastore, 1) := by decide +kernel
theorem dX3_insertInOrder_50 : decode cX3_insertInOrder 50 = .ok (.iinc 3 (-1), 3) := by decide +kernel
theorem dX3_insertInOrder_53 : decode cX3_insertInOrder 53 = .ok (.goto (-51), 3) := by decide +kernel
theorem dX3_insertInOrder_56 : decode cX3_insertInOrder 56 = .ok (.iload_n 3, 1) := by decide +kernel
theorem dX3_insertInOrder_57 : decode cX3_insertInOrder 57 = .ok (.ifCond .lt 19, 3) := by decide +kernel
theorem dX3_insertInOrder_60 : decode cX3_insertInOrder 60 = .ok (.iload_n 3, 1) := by decide +kernel
theorem dX3_insertInOrder_61 : decode cX3_insertInOrder 61 = .ok (.aload_n 0, 1) := by decide +kernel
theorem dX3_insertInOrder_62 : decode cX3_insertInOrder 62 = .ok (.getfield 17, 3) := by decide +kernel
theorem dX3_insertInOrder_65 : decode cX3_insertInOrder 65 = .ok (.arraylength, 1) := by decide +kernel
theorem dX3_insertInOrder_66 : decode cX3_insertInOrder 66 = .ok (.if_icmp .ge 10, 3) := by decide +kernel
theorem dX3_insertInOrder_69 : decode cX3_insertInOrder 69 = .ok (.aload_n 0, 1) := by decide +kernel
theorem dX3_insertInOrder_70 : decode cX3_insertInOrder 70 = .ok (.getfield 17, 3) := by decide +kernel
theorem dX3_insertInOrder_73 : decode cX3_insertInOrder 73 = .ok (.iload_n 3, 1) := by decide +kernel
theorem dX3_insertInOrder_74 : decode cX3_insertInOrder 74 = .ok (.aload_n 1, 1) := by decide +kernel
theorem dX3_insertInOrder_75 : decode cX3_insertInOrder 75 = .ok (.aastore, 1) := by decide +kernel
theorem dX3_insertInOrder_76 : decode cX3_insertInOrder 76 = .ok (.return_, 1) := by decide +kernel
theorem dX3_inOrder_0 : decode cX3_inOrder 0 = .ok (.iload_n 1, 1) := by decide +kernel
theorem dX3_inOrder_1 : decode cX3_inOrder 1 = .ok (.ifCond .lt 20, 3) := by decide +kernel
theorem dX3_inOrder_4 : decode cX3_inOrder 4 = .ok (.iload_n 1, 1) := by decide +kernel
theorem dX3_inOrder_5 : decode cX3_inOrder 5 = .ok (.aload_n 0, 1) := by decide +kernel
theorem dX3_inOrder_6 : decode cX3_inOrder 6 = .ok (.getfield 35, 3) := by decide +kernel
theorem dX3_inOrder_9 : decode cX3_inOrder 9 = .ok (.if_icmp .ge 12, 3) := by decide +kernel
theorem dX3_inOrder_12 : decode cX3_inOrder 12 = .ok (.iload_n 1, 1) := by decide +kernel
theorem dX3_inOrder_13 : decode cX3_inOrder 13 = .ok (.aload_n 0, 1) := by decide +kernel
theorem dX3_inOrder_14 : decode cX3_inOrder 14 = .ok (.getfield 17, 3) := by decide +kernel
theorem dX3_inOrder_17 : decode cX3_inOrder 17 = .ok (.arraylength, 1) := by decide +kernel
theorem dX3_inOrder_18 : decode cX3_inOrder 18 = .ok (.if_icmp .lt 5, 3) := by decide +kernel
theorem dX3_inOrder_21 : decode cX3_inOrder 21 = .ok (.aconst_null, 1) := by decide +kernel
theorem dX3_inOrder_22 : decode cX3_inOrder 22 = .ok (.areturn, 1) := by decide +kernel
theorem dX3_inOrder_23 : decode cX3_inOrder 23 = .ok (.aload_n 0, 1) := by decide +kernel
theorem dX3_inOrder_24 : decode cX3_inOrder 24 = .ok (.getfield 17, 3) := by decide +kernel
theorem dX3_inOrder_27 : decode cX3_inOrder 27 = .ok (.iload_n 1, 1) := by decide +kernel
theorem dX3_inOrder_28 : decode cX3_inOrder 28 = .ok (.aaload, 1) := by decide +kernel
theorem dX3_inOrder_29 : decode cX3_inOrder 29 = .ok (.areturn, 1) := by decide +kernel
theorem dX3_arrivedAs_0 : decode cX3_arrivedAs 0 = .ok (.aload_n 0, 1) := by decide +kernel
theorem dX3_arrivedAs_1 : decode cX3_arrivedAs 1 = .ok (.getfield 11, 3) := by decide +kernel
theorem dX3_arrivedAs_4 : decode cX3_arrivedAs 4 = .ok (.astore_n 2, 1) := by decide +kernel
theorem dX3_arrivedAs_5 : decode cX3_arrivedAs 5 = .ok (.aload_n 2, 1) := by decide +kernel
theorem dX3_arrivedAs_6 : decode cX3_arrivedAs 6 = .ok (.arraylength, 1) := by decide +kernel
theorem dX3_arrivedAs_7 : decode cX3_arrivedAs 7 = .ok (.istore_n 3, 1) := by decide +kernel
theorem dX3_arrivedAs_8 : decode cX3_arrivedAs 8 = .ok (.iconst 0, 1) := by decide +kernel
theorem dX3_arrivedAs_9 : decode cX3_arrivedAs 9 = .ok (.istore 4, 2) := by decide +kernel
theorem dX3_arrivedAs_11 : decode cX3_arrivedAs 11 = .ok (.iload 4, 2) := by decide +kernel
theorem dX3_arrivedAs_13 : decode cX3_arrivedAs 13 = .ok (.iload_n 3, 1) := by decide +kernel
theorem dX3_arrivedAs_14 : decode cX3_arrivedAs 14 = .ok (.if_icmp .ge 45, 3) := by decide +kernel
theorem dX3_arrivedAs_17 : decode cX3_arrivedAs 17 = .ok (.aload_n 2, 1) := by decide +kernel
theorem dX3_arrivedAs_18 : decode cX3_arrivedAs 18 = .ok (.iload 4, 2) := by decide +kernel
theorem dX3_arrivedAs_20 : decode cX3_arrivedAs 20 = .ok (.aaload, 1) := by decide +kernel
theorem dX3_arrivedAs_21 : decode cX3_arrivedAs 21 = .ok (.astore 5, 2) := by decide +kernel
theorem dX3_arrivedAs_23 : decode cX3_arrivedAs 23 = .ok (.aload_n 0, 1) := by decide +kernel
theorem dX3_arrivedAs_24 : decode cX3_arrivedAs 24 = .ok (.aload 5, 2) := by decide +kernel
theorem dX3_arrivedAs_26 : decode cX3_arrivedAs 26 = .ok (.invokevirtual 91, 3) := by decide +kernel
theorem dX3_arrivedAs_29 : decode cX3_arrivedAs 29 = .ok (.ifCond .eq 24, 3) := by decide +kernel
theorem dX3_arrivedAs_32 : decode cX3_arrivedAs 32 = .ok (.aload 5, 2) := by decide +kernel
theorem dX3_arrivedAs_34 : decode cX3_arrivedAs 34 = .ok (.getfield 102, 3) := by decide +kernel
theorem dX3_arrivedAs_37 : decode cX3_arrivedAs 37 = .ok (.iconst 3, 1) := by decide +kernel
theorem dX3_arrivedAs_38 : decode cX3_arrivedAs 38 = .ok (.if_icmp .ne 15, 3) := by decide +kernel
theorem dX3_arrivedAs_41 : decode cX3_arrivedAs 41 = .ok (.aload 5, 2) := by decide +kernel
theorem dX3_arrivedAs_43 : decode cX3_arrivedAs 43 = .ok (.getfield 105, 3) := by decide +kernel
theorem dX3_arrivedAs_46 : decode cX3_arrivedAs 46 = .ok (.iload_n 1, 1) := by decide +kernel
theorem dX3_arrivedAs_47 : decode cX3_arrivedAs 47 = .ok (.if_icmp .ne 6, 3) := by decide +kernel
theorem dX3_arrivedAs_50 : decode cX3_arrivedAs 50 = .ok (.aload 5, 2) := by decide +kernel
theorem dX3_arrivedAs_52 : decode cX3_arrivedAs 52 = .ok (.areturn, 1) := by decide +kernel
theorem dX3_arrivedAs_53 : decode cX3_arrivedAs 53 = .ok (.iinc 4 1, 3) := by decide +kernel
theorem dX3_arrivedAs_56 : decode cX3_arrivedAs 56 = .ok (.goto (-45), 3) := by decide +kernel
theorem dX3_arrivedAs_59 : decode cX3_arrivedAs 59 = .ok (.aconst_null, 1) := by decide +kernel
theorem dX3_arrivedAs_60 : decode cX3_arrivedAs 60 = .ok (.areturn, 1) := by decide +kernel
theorem dX3_sumFlown_0 : decode cX3_sumFlown 0 = .ok (.iconst 0, 1) := by decide +kernel
theorem dX3_sumFlown_1 : decode cX3_sumFlown 1 = .ok (.istore_n 1, 1) := by decide +kernel
theorem dX3_sumFlown_2 : decode cX3_sumFlown 2 = .ok (.aload_n 0, 1) := by decide +kernel
theorem dX3_sumFlown_3 : decode cX3_sumFlown 3 = .ok (.getfield 11, 3) := by decide +kernel
theorem dX3_sumFlown_6 : decode cX3_sumFlown 6 = .ok (.astore_n 2, 1) := by decide +kernel
theorem dX3_sumFlown_7 : decode cX3_sumFlown 7 = .ok (.aload_n 2, 1) := by decide +kernel
theorem dX3_sumFlown_8 : decode cX3_sumFlown 8 = .ok (.arraylength, 1) := by decide +kernel
theorem dX3_sumFlown_9 : decode cX3_sumFlown 9 = .ok (.istore_n 3, 1) := by decide +kernel
theorem dX3_sumFlown_10 : decode cX3_sumFlown 10 = .ok (.iconst 0, 1) := by decide +kernel
theorem dX3_sumFlown_11 : decode cX3_sumFlown 11 = .ok (.istore 4, 2) := by decide +kernel
theorem dX3_sumFlown_13 : decode cX3_sumFlown 13 = .ok (.iload 4, 2) := by decide +kernel
theorem dX3_sumFlown_15 : decode cX3_sumFlown 15 = .ok (.iload_n 3, 1) := by decide +kernel
theorem dX3_sumFlown_16 : decode cX3_sumFlown 16 = .ok (.if_icmp .ge 32, 3) := by decide +kernel
theorem dX3_sumFlown_19 : decode cX3_sumFlown 19 = .ok (.aload_n 2, 1) := by decide +kernel
theorem dX3_sumFlown_20 : decode cX3_sumFlown 20 = .ok (.iload 4, 2) := by decide +kernel
theorem dX3_sumFlown_22 : decode cX3_sumFlown 22 = .ok (.aaload, 1) := by decide +kernel
theorem dX3_sumFlown_23 : decode cX3_sumFlown 23 = .ok (.astore 5, 2) := by decide +kernel
theorem dX3_sumFlown_25 : decode cX3_sumFlown 25 = .ok (.aload_n 0, 1) := by decide +kernel
theorem dX3_sumFlown_26 : decode cX3_sumFlown 26 = .ok (.aload 5, 2) := by decide +kernel
theorem dX3_sumFlown_28 : decode cX3_sumFlown 28 = .ok (.invokevirtual 91, 3) := by decide +kernel
theorem dX3_sumFlown_31 : decode cX3_sumFlown 31 = .ok (.ifCond .eq 11, 3) := by decide +kernel
theorem dX3_sumFlown_34 : decode cX3_sumFlown 34 = .ok (.iload_n 1, 1) := by decide +kernel
theorem dX3_sumFlown_35 : decode cX3_sumFlown 35 = .ok (.aload 5, 2) := by decide +kernel
theorem dX3_sumFlown_37 : decode cX3_sumFlown 37 = .ok (.getfield 108, 3) := by decide +kernel
theorem dX3_sumFlown_40 : decode cX3_sumFlown 40 = .ok (.iadd, 1) := by decide +kernel
theorem dX3_sumFlown_41 : decode cX3_sumFlown 41 = .ok (.istore_n 1, 1) := by decide +kernel
theorem dX3_sumFlown_42 : decode cX3_sumFlown 42 = .ok (.iinc 4 1, 3) := by decide +kernel
theorem dX3_sumFlown_45 : decode cX3_sumFlown 45 = .ok (.goto (-32), 3) := by decide +kernel
theorem dX3_sumFlown_48 : decode cX3_sumFlown 48 = .ok (.iload_n 1, 1) := by decide +kernel
theorem dX3_sumFlown_49 : decode cX3_sumFlown 49 = .ok (.ireturn, 1) := by decide +kernel
theorem dX3_nextAhead_0 : decode cX3_nextAhead 0 = .ok (.aconst_null, 1) := by decide +kernel
theorem dX3_nextAhead_1 : decode cX3_nextAhead 1 = .ok (.astore_n 2, 1) := by decide +kernel
theorem dX3_nextAhead_2 : decode cX3_nextAhead 2 = .ok (.sipush 401, 3) := by decide +kernel
theorem dX3_nextAhead_5 : decode cX3_nextAhead 5 = .ok (.istore_n 3, 1) := by decide +kernel
theorem dX3_nextAhead_6 : decode cX3_nextAhead 6 = .ok (.aload_n 0, 1) := by decide +kernel
theorem dX3_nextAhead_7 : decode cX3_nextAhead 7 = .ok (.getfield 11, 3) := by decide +kernel
theorem dX3_nextAhead_10 : decode cX3_nextAhead 10 = .ok (.astore 4, 2) := by decide +kernel
theorem dX3_nextAhead_12 : decode cX3_nextAhead 12 = .ok (.aload 4, 2) := by decide +kernel
theorem dX3_nextAhead_14 : decode cX3_nextAhead 14 = .ok (.arraylength, 1) := by decide +kernel
theorem dX3_nextAhead_15 : decode cX3_nextAhead 15 = .ok (.istore 5, 2) := by decide +kernel
theorem dX3_nextAhead_17 : decode cX3_nextAhead 17 = .ok (.iconst 0, 1) := by decide +kernel
theorem dX3_nextAhead_18 : decode cX3_nextAhead 18 = .ok (.istore 6, 2) := by decide +kernel
theorem dX3_nextAhead_20 : decode cX3_nextAhead 20 = .ok (.iload 6, 2) := by decide +kernel
theorem dX3_nextAhead_22 : decode cX3_nextAhead 22 = .ok (.iload 5, 2) := by decide +kernel
theorem dX3_nextAhead_24 : decode cX3_nextAhead 24 = .ok (.if_icmp .ge 50, 3) := by decide +kernel
theorem dX3_nextAhead_27 : decode cX3_nextAhead 27 = .ok (.aload 4, 2) := by decide +kernel
theorem dX3_nextAhead_29 : decode cX3_nextAhead 29 = .ok (.iload 6, 2) := by decide +kernel
theorem dX3_nextAhead_31 : decode cX3_nextAhead 31 = .ok (.aaload, 1) := by decide +kernel
theorem dX3_nextAhead_32 : decode cX3_nextAhead 32 = .ok (.astore 7, 2) := by decide +kernel
theorem dX3_nextAhead_34 : decode cX3_nextAhead 34 = .ok (.aload_n 0, 1) := by decide +kernel
theorem dX3_nextAhead_35 : decode cX3_nextAhead 35 = .ok (.aload 7, 2) := by decide +kernel
theorem dX3_nextAhead_37 : decode cX3_nextAhead 37 = .ok (.aload_n 1, 1) := by decide +kernel
theorem dX3_nextAhead_38 : decode cX3_nextAhead 38 = .ok (.aload_n 1, 1) := by decide +kernel
theorem dX3_nextAhead_39 : decode cX3_nextAhead 39 = .ok (.getfield 111, 3) := by decide +kernel
theorem dX3_nextAhead_42 : decode cX3_nextAhead 42 = .ok (.invokevirtual 114, 3) := by decide +kernel
theorem dX3_nextAhead_45 : decode cX3_nextAhead 45 = .ok (.ifCond .eq 23, 3) := by decide +kernel
theorem dX3_nextAhead_48 : decode cX3_nextAhead 48 = .ok (.aload_n 1, 1) := by decide +kernel
theorem dX3_nextAhead_49 : decode cX3_nextAhead 49 = .ok (.aload 7, 2) := by decide +kernel
theorem dX3_nextAhead_51 : decode cX3_nextAhead 51 = .ok (.invokevirtual 118, 3) := by decide +kernel
theorem dX3_nextAhead_54 : decode cX3_nextAhead 54 = .ok (.istore 8, 2) := by decide +kernel
theorem dX3_nextAhead_56 : decode cX3_nextAhead 56 = .ok (.iload 8, 2) := by decide +kernel
theorem dX3_nextAhead_58 : decode cX3_nextAhead 58 = .ok (.iload_n 3, 1) := by decide +kernel
theorem dX3_nextAhead_59 : decode cX3_nextAhead 59 = .ok (.if_icmp .ge 9, 3) := by decide +kernel
theorem dX3_nextAhead_62 : decode cX3_nextAhead 62 = .ok (.iload 8, 2) := by decide +kernel
theorem dX3_nextAhead_64 : decode cX3_nextAhead 64 = .ok (.istore_n 3, 1) := by decide +kernel
theorem dX3_nextAhead_65 : decode cX3_nextAhead 65 = .ok (.aload 7, 2) := by decide +kernel
theorem dX3_nextAhead_67 : decode cX3_nextAhead 67 = .ok (.astore_n 2, 1) := by decide +kernel
theorem dX3_nextAhead_68 : decode cX3_nextAhead 68 = .ok (.iinc 6 1, 3) := by decide +kernel
theorem dX3_nextAhead_71 : decode cX3_nextAhead 71 = .ok (.goto (-51), 3) := by decide +kernel
theorem dX3_nextAhead_74 : decode cX3_nextAhead 74 = .ok (.aload_n 2, 1) := by decide +kernel
theorem dX3_nextAhead_75 : decode cX3_nextAhead 75 = .ok (.areturn, 1) := by decide +kernel
theorem dX3_isInTheWay_0 : decode cX3_isInTheWay 0 = .ok (.aload_n 1, 1) := by decide +kernel
theorem dX3_isInTheWay_1 : decode cX3_isInTheWay 1 = .ok (.ifnull 45, 3) := by decide +kernel
theorem dX3_isInTheWay_4 : decode cX3_isInTheWay 4 = .ok (.aload_n 1, 1) := by decide +kernel
theorem dX3_isInTheWay_5 : decode cX3_isInTheWay 5 = .ok (.getfield 88, 3) := by decide +kernel
theorem dX3_isInTheWay_8 : decode cX3_isInTheWay 8 = .ok (.aload_n 0, 1) := by decide +kernel
theorem dX3_isInTheWay_9 : decode cX3_isInTheWay 9 = .ok (.getfield 35, 3) := by decide +kernel
theorem dX3_isInTheWay_12 : decode cX3_isInTheWay 12 = .ok (.if_icmp .ge 34, 3) := by decide +kernel
theorem dX3_isInTheWay_15 : decode cX3_isInTheWay 15 = .ok (.aload_n 1, 1) := by decide +kernel
theorem dX3_isInTheWay_16 : decode cX3_isInTheWay 16 = .ok (.getfield 88, 3) := by decide +kernel
theorem dX3_isInTheWay_19 : decode cX3_isInTheWay 19 = .ok (.aload_n 2, 1) := by decide +kernel
theorem dX3_isInTheWay_20 : decode cX3_isInTheWay 20 = .ok (.getfield 88, 3) := by decide +kernel
theorem dX3_isInTheWay_23 : decode cX3_isInTheWay 23 = .ok (.if_icmp .eq 23, 3) := by decide +kernel
theorem dX3_isInTheWay_26 : decode cX3_isInTheWay 26 = .ok (.aload_n 1, 1) := by decide +kernel
theorem dX3_isInTheWay_27 : decode cX3_isInTheWay 27 = .ok (.getfield 102, 3) := by decide +kernel
theorem dX3_isInTheWay_30 : decode cX3_isInTheWay 30 = .ok (.iconst 1, 1) := by decide +kernel
theorem dX3_isInTheWay_31 : decode cX3_isInTheWay 31 = .ok (.if_icmp .ne 15, 3) := by decide +kernel
theorem dX3_isInTheWay_34 : decode cX3_isInTheWay 34 = .ok (.aload_n 1, 1) := by decide +kernel
theorem dX3_isInTheWay_35 : decode cX3_isInTheWay 35 = .ok (.getfield 111, 3) := by decide +kernel
theorem dX3_isInTheWay_38 : decode cX3_isInTheWay 38 = .ok (.iload_n 3, 1) := by decide +kernel
theorem dX3_isInTheWay_39 : decode cX3_isInTheWay 39 = .ok (.if_icmp .ne 7, 3) := by decide +kernel
theorem dX3_isInTheWay_42 : decode cX3_isInTheWay 42 = .ok (.iconst 1, 1) := by decide +kernel
theorem dX3_isInTheWay_43 : decode cX3_isInTheWay 43 = .ok (.goto 4, 3) := by decide +kernel
theorem dX3_isInTheWay_46 : decode cX3_isInTheWay 46 = .ok (.iconst 0, 1) := by decide +kernel
theorem dX3_isInTheWay_47 : decode cX3_isInTheWay 47 = .ok (.ireturn, 1) := by decide +kernel
theorem dX3_gapOf_0 : decode cX3_gapOf 0 = .ok (.aload_n 0, 1) := by decide +kernel
theorem dX3_gapOf_1 : decode cX3_gapOf 1 = .ok (.aload_n 1, 1) := by decide +kernel
theorem dX3_gapOf_2 : decode cX3_gapOf 2 = .ok (.invokevirtual 122, 3) := by decide +kernel
theorem dX3_gapOf_5 : decode cX3_gapOf 5 = .ok (.astore_n 2, 1) := by decide +kernel
theorem dX3_gapOf_6 : decode cX3_gapOf 6 = .ok (.aload_n 2, 1) := by decide +kernel
theorem dX3_gapOf_7 : decode cX3_gapOf 7 = .ok (.ifnonnull 7, 3) := by decide +kernel
theorem dX3_gapOf_10 : decode cX3_gapOf 10 = .ok (.iconst 0, 1) := by decide +kernel
theorem dX3_gapOf_11 : decode cX3_gapOf 11 = .ok (.goto 8, 3) := by decide +kernel
theorem dX3_gapOf_14 : decode cX3_gapOf 14 = .ok (.aload_n 1, 1) := by decide +kernel
theorem dX3_gapOf_15 : decode cX3_gapOf 15 = .ok (.aload_n 2, 1) := by decide +kernel
theorem dX3_gapOf_16 : decode cX3_gapOf 16 = .ok (.invokevirtual 118, 3) := by decide +kernel
theorem dX3_gapOf_19 : decode cX3_gapOf 19 = .ok (.ireturn, 1) := by decide +kernel
theorem dX3_allowedFeet_0 : decode cX3_allowedFeet 0 = .ok (.aload_n 1, 1) := by decide +kernel
theorem dX3_allowedFeet_1 : decode cX3_allowedFeet 1 = .ok (.getfield 70, 3) := by decide +kernel
theorem dX3_allowedFeet_4 : decode cX3_allowedFeet 4 = .ok (.istore_n 2, 1) := by decide +kernel
theorem dX3_allowedFeet_5 : decode cX3_allowedFeet 5 = .ok (.aload_n 1, 1) := by decide +kernel
theorem dX3_allowedFeet_6 : decode cX3_allowedFeet 6 = .ok (.invokevirtual 126, 3) := by decide +kernel
theorem dX3_allowedFeet_9 : decode cX3_allowedFeet 9 = .ok (.iconst 4, 1) := by decide +kernel
theorem dX3_allowedFeet_10 : decode cX3_allowedFeet 10 = .ok (.isub, 1) := by decide +kernel
theorem dX3_allowedFeet_11 : decode cX3_allowedFeet 11 = .ok (.istore_n 3, 1) := by decide +kernel
theorem dX3_allowedFeet_12 : decode cX3_allowedFeet 12 = .ok (.iload_n 3, 1) := by decide +kernel
theorem dX3_allowedFeet_13 : decode cX3_allowedFeet 13 = .ok (.ifCond .lt 37, 3) := by decide +kernel
theorem dX3_allowedFeet_16 : decode cX3_allowedFeet 16 = .ok (.aload_n 0, 1) := by decide +kernel
theorem dX3_allowedFeet_17 : decode cX3_allowedFeet 17 = .ok (.iload_n 3, 1) := by decide +kernel
theorem dX3_allowedFeet_18 : decode cX3_allowedFeet 18 = .ok (.invokevirtual 130, 3) := by decide +kernel
theorem dX3_allowedFeet_21 : decode cX3_allowedFeet 21 = .ok (.aload_n 1, 1) := by decide +kernel
theorem dX3_allowedFeet_22 : decode cX3_allowedFeet 22 = .ok (.getfield 111, 3) := by decide +kernel
theorem dX3_allowedFeet_25 : decode cX3_allowedFeet 25 = .ok (.iconst 1, 1) := by decide +kernel
theorem dX3_allowedFeet_26 : decode cX3_allowedFeet 26 = .ok (.if_icmp .ne 7, 3) := by decide +kernel
theorem dX3_allowedFeet_29 : decode cX3_allowedFeet 29 = .ok (.iconst 2, 1) := by decide +kernel
theorem dX3_allowedFeet_30 : decode cX3_allowedFeet 30 = .ok (.goto 4, 3) := by decide +kernel
theorem dX3_allowedFeet_33 : decode cX3_allowedFeet 33 = .ok (.iconst 0, 1) := by decide +kernel
theorem dX3_allowedFeet_34 : decode cX3_allowedFeet 34 = .ok (.iadd, 1) := by decide +kernel
theorem dX3_allowedFeet_35 : decode cX3_allowedFeet 35 = .ok (.istore 4, 2) := by decide +kernel
theorem dX3_allowedFeet_37 : decode cX3_allowedFeet 37 = .ok (.iload 4, 2) := by decide +kernel
theorem dX3_allowedFeet_39 : decode cX3_allowedFeet 39 = .ok (.iload_n 2, 1) := by decide +kernel
theorem dX3_allowedFeet_40 : decode cX3_allowedFeet 40 = .ok (.if_icmp .ge 8, 3) := by decide +kernel
theorem dX3_allowedFeet_43 : decode cX3_allowedFeet 43 = .ok (.iload 4, 2) := by decide +kernel
theorem dX3_allowedFeet_45 : decode cX3_allowedFeet 45 = .ok (.goto 4, 3) := by decide +kernel
theorem dX3_allowedFeet_48 : decode cX3_allowedFeet 48 = .ok (.iload_n 2, 1) := by decide +kernel
theorem dX3_allowedFeet_49 : decode cX3_allowedFeet 49 = .ok (.istore_n 2, 1) := by decide +kernel
theorem dX3_allowedFeet_50 : decode cX3_allowedFeet 50 = .ok (.iload_n 2, 1) := by decide +kernel
theorem dX3_allowedFeet_51 : decode cX3_allowedFeet 51 = .ok (.aload_n 1, 1) := by decide +kernel
theorem dX3_allowedFeet_52 : decode cX3_allowedFeet 52 = .ok (.getfield 134, 3) := by decide +kernel
theorem dX3_allowedFeet_55 : decode cX3_allowedFeet 55 = .ok (.bipush 10, 2) := by decide +kernel
theorem dX3_allowedFeet_57 : decode cX3_allowedFeet 57 = .ok (.idiv, 1) := by decide +kernel
theorem dX3_allowedFeet_58 : decode cX3_allowedFeet 58 = .ok (.isub, 1) := by decide +kernel
theorem dX3_allowedFeet_59 : decode cX3_allowedFeet 59 = .ok (.istore_n 2, 1) := by decide +kernel
theorem dX3_allowedFeet_60 : decode cX3_allowedFeet 60 = .ok (.iload_n 2, 1) := by decide +kernel
theorem dX3_allowedFeet_61 : decode cX3_allowedFeet 61 = .ok (.iconst 4, 1) := by decide +kernel
theorem dX3_allowedFeet_62 : decode cX3_allowedFeet 62 = .ok (.if_icmp .ge 7, 3) := by decide +kernel
theorem dX3_allowedFeet_65 : decode cX3_allowedFeet 65 = .ok (.iconst 4, 1) := by decide +kernel
theorem dX3_allowedFeet_66 : decode cX3_allowedFeet 66 = .ok (.goto 4, 3) := by decide +kernel
theorem dX3_allowedFeet_69 : decode cX3_allowedFeet 69 = .ok (.iload_n 2, 1) := by decide +kernel
theorem dX3_allowedFeet_70 : decode cX3_allowedFeet 70 = .ok (.ireturn, 1) := by decide +kernel
theorem dX3_draftFeet_0 : decode cX3_draftFeet 0 = .ok (.aload_n 2, 1) := by decide +kernel
theorem dX3_draftFeet_1 : decode cX3_draftFeet 1 = .ok (.ifnull 13, 3) := by decide +kernel
theorem dX3_draftFeet_4 : decode cX3_draftFeet 4 = .ok (.aload_n 1, 1) := by decide +kernel
theorem dX3_draftFeet_5 : decode cX3_draftFeet 5 = .ok (.aload_n 2, 1) := by decide +kernel
theorem dX3_draftFeet_6 : decode cX3_draftFeet 6 = .ok (.invokevirtual 118, 3) := by decide +kernel
theorem dX3_draftFeet_9 : decode cX3_draftFeet 9 = .ok (.bipush 8, 2) := by decide +kernel
theorem dX3_draftFeet_11 : decode cX3_draftFeet 11 = .ok (.if_icmp .le 5, 3) := by decide +kernel
theorem dX3_draftFeet_14 : decode cX3_draftFeet 14 = .ok (.iconst 0, 1) := by decide +kernel
theorem dX3_draftFeet_15 : decode cX3_draftFeet 15 = .ok (.ireturn, 1) := by decide +kernel
theorem dX3_draftFeet_16 : decode cX3_draftFeet 16 = .ok (.aload_n 2, 1) := by decide +kernel
theorem dX3_draftFeet_17 : decode cX3_draftFeet 17 = .ok (.getfield 88, 3) := by decide +kernel
theorem dX3_draftFeet_20 : decode cX3_draftFeet 20 = .ok (.aload_n 1, 1) := by decide +kernel
theorem dX3_draftFeet_21 : decode cX3_draftFeet 21 = .ok (.getfield 79, 3) := by decide +kernel
theorem dX3_draftFeet_24 : decode cX3_draftFeet 24 = .ok (.if_icmp .ne 7, 3) := by decide +kernel
theorem dX3_draftFeet_27 : decode cX3_draftFeet 27 = .ok (.iconst 2, 1) := by decide +kernel
theorem dX3_draftFeet_28 : decode cX3_draftFeet 28 = .ok (.goto 4, 3) := by decide +kernel
theorem dX3_draftFeet_31 : decode cX3_draftFeet 31 = .ok (.iconst 1, 1) := by decide +kernel
theorem dX3_draftFeet_32 : decode cX3_draftFeet 32 = .ok (.ireturn, 1) := by decide +kernel
theorem dX3_mayChangeLane_0 : decode cX3_mayChangeLane 0 = .ok (.aload_n 1, 1) := by decide +kernel
theorem dX3_mayChangeLane_1 : decode cX3_mayChangeLane 1 = .ok (.invokevirtual 126, 3) := by decide +kernel
theorem dX3_mayChangeLane_4 : decode cX3_mayChangeLane 4 = .ok (.iconst 4, 1) := by decide +kernel
theorem dX3_mayChangeLane_5 : decode cX3_mayChangeLane 5 = .ok (.if_icmp .lt 5, 3) := by decide +kernel
theorem dX3_mayChangeLane_8 : decode cX3_mayChangeLane 8 = .ok (.iconst 0, 1) := by decide +kernel
theorem dX3_mayChangeLane_9 : decode cX3_mayChangeLane 9 = .ok (.ireturn, 1) := by decide +kernel
theorem dX3_mayChangeLane_10 : decode cX3_mayChangeLane 10 = .ok (.aload_n 0, 1) := by decide +kernel
theorem dX3_mayChangeLane_11 : decode cX3_mayChangeLane 11 = .ok (.getfield 11, 3) := by decide +kernel
theorem dX3_mayChangeLane_14 : decode cX3_mayChangeLane 14 = .ok (.astore_n 2, 1) := by decide +kernel
theorem dX3_mayChangeLane_15 : decode cX3_mayChangeLane 15 = .ok (.aload_n 2, 1) := by decide +kernel
theorem dX3_mayChangeLane_16 : decode cX3_mayChangeLane 16 = .ok (.arraylength, 1) := by decide +kernel
theorem dX3_mayChangeLane_17 : decode cX3_mayChangeLane 17 = .ok (.istore_n 3, 1) := by decide +kernel
theorem dX3_mayChangeLane_18 : decode cX3_mayChangeLane 18 = .ok (.iconst 0, 1) := by decide +kernel
theorem dX3_mayChangeLane_19 : decode cX3_mayChangeLane 19 = .ok (.istore 4, 2) := by decide +kernel
theorem dX3_mayChangeLane_21 : decode cX3_mayChangeLane 21 = .ok (.iload 4, 2) := by decide +kernel
theorem dX3_mayChangeLane_23 : decode cX3_mayChangeLane 23 = .ok (.iload_n 3, 1) := by decide +kernel
theorem dX3_mayChangeLane_24 : decode cX3_mayChangeLane 24 = .ok (.if_icmp .ge 55, 3) := by decide +kernel
theorem dX3_mayChangeLane_27 : decode cX3_mayChangeLane 27 = .ok (.aload_n 2, 1) := by decide +kernel
theorem dX3_mayChangeLane_28 : decode cX3_mayChangeLane 28 = .ok (.iload 4, 2) := by decide +kernel
theorem dX3_mayChangeLane_30 : decode cX3_mayChangeLane 30 = .ok (.aaload, 1) := by decide +kernel
theorem dX3_mayChangeLane_31 : decode cX3_mayChangeLane 31 = .ok (.astore 5, 2) := by decide +kernel
theorem dX3_mayChangeLane_33 : decode cX3_mayChangeLane 33 = .ok (.aload_n 0, 1) := by decide +kernel
theorem dX3_mayChangeLane_34 : decode cX3_mayChangeLane 34 = .ok (.aload 5, 2) := by decide +kernel
theorem dX3_mayChangeLane_36 : decode cX3_mayChangeLane 36 = .ok (.aload_n 1, 1) := by decide +kernel
theorem dX3_mayChangeLane_37 : decode cX3_mayChangeLane 37 = .ok (.iconst 1, 1) := by decide +kernel
theorem dX3_mayChangeLane_38 : decode cX3_mayChangeLane 38 = .ok (.aload_n 1, 1) := by decide +kernel
theorem dX3_mayChangeLane_39 : decode cX3_mayChangeLane 39 = .ok (.getfield 111, 3) := by decide +kernel
theorem dX3_mayChangeLane_42 : decode cX3_mayChangeLane 42 = .ok (.isub, 1) := by decide +kernel
theorem dX3_mayChangeLane_43 : decode cX3_mayChangeLane 43 = .ok (.invokevirtual 114, 3) := by decide +kernel
theorem dX3_mayChangeLane_46 : decode cX3_mayChangeLane 46 = .ok (.ifCond .eq 27, 3) := by decide +kernel
theorem dX3_mayChangeLane_49 : decode cX3_mayChangeLane 49 = .ok (.aload_n 1, 1) := by decide +kernel
theorem dX3_mayChangeLane_50 : decode cX3_mayChangeLane 50 = .ok (.aload 5, 2) := by decide +kernel
theorem dX3_mayChangeLane_52 : decode cX3_mayChangeLane 52 = .ok (.invokevirtual 118, 3) := by decide +kernel
theorem dX3_mayChangeLane_55 : decode cX3_mayChangeLane 55 = .ok (.istore 6, 2) := by decide +kernel
theorem dX3_mayChangeLane_57 : decode cX3_mayChangeLane 57 = .ok (.iload 6, 2) := by decide +kernel
theorem dX3_mayChangeLane_59 : decode cX3_mayChangeLane 59 = .ok (.iconst 3, 1) := by decide +kernel
theorem dX3_mayChangeLane_60 : decode cX3_mayChangeLane 60 = .ok (.if_icmp .le 11, 3) := by decide +kernel
theorem dX3_mayChangeLane_63 : decode cX3_mayChangeLane 63 = .ok (.iload 6, 2) := by decide +kernel
theorem dX3_mayChangeLane_65 : decode cX3_mayChangeLane 65 = .ok (.sipush 397, 3) := by decide +kernel
theorem dX3_mayChangeLane_68 : decode cX3_mayChangeLane 68 = .ok (.if_icmp .lt 5, 3) := by decide +kernel
theorem dX3_mayChangeLane_71 : decode cX3_mayChangeLane 71 = .ok (.iconst 0, 1) := by decide +kernel
theorem dX3_mayChangeLane_72 : decode cX3_mayChangeLane 72 = .ok (.ireturn, 1) := by decide +kernel
theorem dX3_mayChangeLane_73 : decode cX3_mayChangeLane 73 = .ok (.iinc 4 1, 3) := by decide +kernel
theorem dX3_mayChangeLane_76 : decode cX3_mayChangeLane 76 = .ok (.goto (-55), 3) := by decide +kernel
theorem dX3_mayChangeLane_79 : decode cX3_mayChangeLane 79 = .ok (.iconst 1, 1) := by decide +kernel
theorem dX3_mayChangeLane_80 : decode cX3_mayChangeLane 80 = .ok (.ireturn, 1) := by decide +kernel
theorem dX3_letGoBy_0 : decode cX3_letGoBy 0 = .ok (.iconst 0, 1) := by decide +kernel
theorem dX3_letGoBy_1 : decode cX3_letGoBy 1 = .ok (.istore_n 2, 1) := by decide +kernel
theorem dX3_letGoBy_2 : decode cX3_letGoBy 2 = .ok (.iload_n 2, 1) := by decide +kernel
theorem dX3_letGoBy_3 : decode cX3_letGoBy 3 = .ok (.iload_n 1, 1) := by decide +kernel
theorem dX3_letGoBy_4 : decode cX3_letGoBy 4 = .ok (.if_icmp .ge 92, 3) := by decide +kernel
theorem dX3_letGoBy_7 : decode cX3_letGoBy 7 = .ok (.aload_n 0, 1) := by decide +kernel
theorem dX3_letGoBy_8 : decode cX3_letGoBy 8 = .ok (.getfield 38, 3) := by decide +kernel
theorem dX3_letGoBy_11 : decode cX3_letGoBy 11 = .ok (.ifCond .eq 85, 3) := by decide +kernel
theorem dX3_letGoBy_14 : decode cX3_letGoBy 14 = .ok (.aload_n 0, 1) := by decide +kernel
theorem dX3_letGoBy_15 : decode cX3_letGoBy 15 = .ok (.dup, 1) := by decide +kernel
theorem dX3_letGoBy_16 : decode cX3_letGoBy 16 = .ok (.getfield 42, 3) := by decide +kernel
theorem dX3_letGoBy_19 : decode cX3_letGoBy 19 = .ok (.iconst 1, 1) := by decide +kernel
theorem dX3_letGoBy_20 : decode cX3_letGoBy 20 = .ok (.iadd, 1) := by decide +kernel
theorem dX3_letGoBy_21 : decode cX3_letGoBy 21 = .ok (.putfield 42, 3) := by decide +kernel
theorem dX3_letGoBy_24 : decode cX3_letGoBy 24 = .ok (.aload_n 0, 1) := by decide +kernel
theorem dX3_letGoBy_25 : decode cX3_letGoBy 25 = .ok (.invokevirtual 137, 3) := by decide +kernel
theorem dX3_letGoBy_28 : decode cX3_letGoBy 28 = .ok (.iconst 0, 1) := by decide +kernel
theorem dX3_letGoBy_29 : decode cX3_letGoBy 29 = .ok (.istore_n 3, 1) := by decide +kernel
theorem dX3_letGoBy_30 : decode cX3_letGoBy 30 = .ok (.iload_n 3, 1) := by decide +kernel
theorem dX3_letGoBy_31 : decode cX3_letGoBy 31 = .ok (.aload_n 0, 1) := by decide +kernel
theorem dX3_letGoBy_32 : decode cX3_letGoBy 32 = .ok (.getfield 35, 3) := by decide +kernel
theorem dX3_letGoBy_35 : decode cX3_letGoBy 35 = .ok (.if_icmp .ge 35, 3) := by decide +kernel
theorem dX3_letGoBy_38 : decode cX3_letGoBy 38 = .ok (.aload_n 0, 1) := by decide +kernel
theorem dX3_letGoBy_39 : decode cX3_letGoBy 39 = .ok (.iload_n 3, 1) := by decide +kernel
theorem dX3_letGoBy_40 : decode cX3_letGoBy 40 = .ok (.invokevirtual 140, 3) := by decide +kernel
theorem dX3_letGoBy_43 : decode cX3_letGoBy 43 = .ok (.astore 4, 2) := by decide +kernel
theorem dX3_letGoBy_45 : decode cX3_letGoBy 45 = .ok (.aload 4, 2) := by decide +kernel
theorem dX3_letGoBy_47 : decode cX3_letGoBy 47 = .ok (.ifnull 17, 3) := by decide +kernel
theorem dX3_letGoBy_50 : decode cX3_letGoBy 50 = .ok (.aload 4, 2) := by decide +kernel
theorem dX3_letGoBy_52 : decode cX3_letGoBy 52 = .ok (.invokevirtual 143, 3) := by decide +kernel
theorem dX3_letGoBy_55 : decode cX3_letGoBy 55 = .ok (.ifCond .eq 9, 3) := by decide +kernel
theorem dX3_letGoBy_58 : decode cX3_letGoBy 58 = .ok (.aload_n 0, 1) := by decide +kernel
theorem dX3_letGoBy_59 : decode cX3_letGoBy 59 = .ok (.aload 4, 2) := by decide +kernel
theorem dX3_letGoBy_61 : decode cX3_letGoBy 61 = .ok (.invokevirtual 147, 3) := by decide +kernel
theorem dX3_letGoBy_64 : decode cX3_letGoBy 64 = .ok (.iinc 3 1, 3) := by decide +kernel
theorem dX3_letGoBy_67 : decode cX3_letGoBy 67 = .ok (.goto (-37), 3) := by decide +kernel
theorem dX3_letGoBy_70 : decode cX3_letGoBy 70 = .ok (.aload_n 0, 1) := by decide +kernel
theorem dX3_letGoBy_71 : decode cX3_letGoBy 71 = .ok (.aload_n 0, 1) := by decide +kernel
theorem dX3_letGoBy_72 : decode cX3_letGoBy 72 = .ok (.getfield 45, 3) := by decide +kernel
theorem dX3_letGoBy_75 : decode cX3_letGoBy 75 = .ok (.aload_n 0, 1) := by decide +kernel
theorem dX3_letGoBy_76 : decode cX3_letGoBy 76 = .ok (.getfield 35, 3) := by decide +kernel
theorem dX3_letGoBy_79 : decode cX3_letGoBy 79 = .ok (.if_icmp .ge 7, 3) := by decide +kernel
theorem dX3_letGoBy_82 : decode cX3_letGoBy 82 = .ok (.iconst 1, 1) := by decide +kernel
theorem dX3_letGoBy_83 : decode cX3_letGoBy 83 = .ok (.goto 4, 3) := by decide +kernel
theorem dX3_letGoBy_86 : decode cX3_letGoBy 86 = .ok (.iconst 0, 1) := by decide +kernel
theorem dX3_letGoBy_87 : decode cX3_letGoBy 87 = .ok (.putfield 38, 3) := by decide +kernel
theorem dX3_letGoBy_90 : decode cX3_letGoBy 90 = .ok (.iinc 2 1, 3) := by decide +kernel
theorem dX3_letGoBy_93 : decode cX3_letGoBy 93 = .ok (.goto (-91), 3) := by decide +kernel
theorem dX3_letGoBy_96 : decode cX3_letGoBy 96 = .ok (.return_, 1) := by decide +kernel
theorem dX3_fly_0 : decode cX3_fly 0 = .ok (.aload_n 0, 1) := by decide +kernel
theorem dX3_fly_1 : decode cX3_fly 1 = .ok (.aload_n 1, 1) := by decide +kernel
theorem dX3_fly_2 : decode cX3_fly 2 = .ok (.invokevirtual 122, 3) := by decide +kernel
theorem dX3_fly_5 : decode cX3_fly 5 = .ok (.astore_n 2, 1) := by decide +kernel
theorem dX3_fly_6 : decode cX3_fly 6 = .ok (.aload_n 0, 1) := by decide +kernel
theorem dX3_fly_7 : decode cX3_fly 7 = .ok (.aload_n 1, 1) := by decide +kernel
theorem dX3_fly_8 : decode cX3_fly 8 = .ok (.aload_n 2, 1) := by decide +kernel
theorem dX3_fly_9 : decode cX3_fly 9 = .ok (.invokevirtual 150, 3) := by decide +kernel
theorem dX3_fly_12 : decode cX3_fly 12 = .ok (.istore_n 3, 1) := by decide +kernel
theorem dX3_fly_13 : decode cX3_fly 13 = .ok (.iload_n 3, 1) := by decide +kernel
theorem dX3_fly_14 : decode cX3_fly 14 = .ok (.ifCond .le 13, 3) := by decide +kernel
theorem dX3_fly_17 : decode cX3_fly 17 = .ok (.aload_n 0, 1) := by decide +kernel
theorem dX3_fly_18 : decode cX3_fly 18 = .ok (.dup, 1) := by decide +kernel
theorem dX3_fly_19 : decode cX3_fly 19 = .ok (.getfield 51, 3) := by decide +kernel
theorem dX3_fly_22 : decode cX3_fly 22 = .ok (.iconst 1, 1) := by decide +kernel
theorem dX3_fly_23 : decode cX3_fly 23 = .ok (.iadd, 1) := by decide +kernel
theorem dX3_fly_24 : decode cX3_fly 24 = .ok (.putfield 51, 3) := by decide +kernel
theorem dX3_fly_27 : decode cX3_fly 27 = .ok (.aload_n 0, 1) := by decide +kernel
theorem dX3_fly_28 : decode cX3_fly 28 = .ok (.aload_n 1, 1) := by decide +kernel
theorem dX3_fly_29 : decode cX3_fly 29 = .ok (.invokevirtual 154, 3) := by decide +kernel
theorem dX3_fly_32 : decode cX3_fly 32 = .ok (.iload_n 3, 1) := by decide +kernel
theorem dX3_fly_33 : decode cX3_fly 33 = .ok (.iadd, 1) := by decide +kernel
theorem dX3_fly_34 : decode cX3_fly 34 = .ok (.istore 4, 2) := by decide +kernel
theorem dX3_fly_36 : decode cX3_fly 36 = .ok (.aload_n 2, 1) := by decide +kernel
theorem dX3_fly_37 : decode cX3_fly 37 = .ok (.ifnull 49, 3) := by decide +kernel
theorem dX3_fly_40 : decode cX3_fly 40 = .ok (.iload 4, 2) := by decide +kernel
theorem dX3_fly_42 : decode cX3_fly 42 = .ok (.aload_n 1, 1) := by decide +kernel
theorem dX3_fly_43 : decode cX3_fly 43 = .ok (.aload_n 2, 1) := by decide +kernel
theorem dX3_fly_44 : decode cX3_fly 44 = .ok (.invokevirtual 118, 3) := by decide +kernel
theorem dX3_fly_47 : decode cX3_fly 47 = .ok (.iconst 1, 1) := by decide +kernel
theorem dX3_fly_48 : decode cX3_fly 48 = .ok (.isub, 1) := by decide +kernel
theorem dX3_fly_49 : decode cX3_fly 49 = .ok (.if_icmp .lt 37, 3) := by decide +kernel
theorem dX3_fly_52 : decode cX3_fly 52 = .ok (.aload_n 0, 1) := by decide +kernel
theorem dX3_fly_53 : decode cX3_fly 53 = .ok (.aload_n 1, 1) := by decide +kernel
theorem dX3_fly_54 : decode cX3_fly 54 = .ok (.invokevirtual 157, 3) := by decide +kernel
theorem dX3_fly_57 : decode cX3_fly 57 = .ok (.ifCond .eq 29, 3) := by decide +kernel
theorem dX3_fly_60 : decode cX3_fly 60 = .ok (.aload_n 1, 1) := by decide +kernel
theorem dX3_fly_61 : decode cX3_fly 61 = .ok (.iconst 1, 1) := by decide +kernel
theorem dX3_fly_62 : decode cX3_fly 62 = .ok (.aload_n 1, 1) := by decide +kernel
theorem dX3_fly_63 : decode cX3_fly 63 = .ok (.getfield 111, 3) := by decide +kernel
theorem dX3_fly_66 : decode cX3_fly 66 = .ok (.isub, 1) := by decide +kernel
theorem dX3_fly_67 : decode cX3_fly 67 = .ok (.putfield 111, 3) := by decide +kernel
theorem dX3_fly_70 : decode cX3_fly 70 = .ok (.aload_n 0, 1) := by decide +kernel
theorem dX3_fly_71 : decode cX3_fly 71 = .ok (.dup, 1) := by decide +kernel
theorem dX3_fly_72 : decode cX3_fly 72 = .ok (.getfield 54, 3) := by decide +kernel
theorem dX3_fly_75 : decode cX3_fly 75 = .ok (.iconst 1, 1) := by decide +kernel
theorem dX3_fly_76 : decode cX3_fly 76 = .ok (.iadd, 1) := by decide +kernel
theorem dX3_fly_77 : decode cX3_fly 77 = .ok (.putfield 54, 3) := by decide +kernel
theorem dX3_fly_80 : decode cX3_fly 80 = .ok (.aload_n 0, 1) := by decide +kernel
theorem dX3_fly_81 : decode cX3_fly 81 = .ok (.aload_n 1, 1) := by decide +kernel
theorem dX3_fly_82 : decode cX3_fly 82 = .ok (.invokevirtual 122, 3) := by decide +kernel
theorem dX3_fly_85 : decode cX3_fly 85 = .ok (.astore_n 2, 1) := by decide +kernel
theorem dX3_fly_86 : decode cX3_fly 86 = .ok (.aload_n 2, 1) := by decide +kernel
theorem dX3_fly_87 : decode cX3_fly 87 = .ok (.ifnull 28, 3) := by decide +kernel
theorem dX3_fly_90 : decode cX3_fly 90 = .ok (.aload_n 1, 1) := by decide +kernel
theorem dX3_fly_91 : decode cX3_fly 91 = .ok (.aload_n 2, 1) := by decide +kernel
theorem dX3_fly_92 : decode cX3_fly 92 = .ok (.invokevirtual 118, 3) := by decide +kernel
theorem dX3_fly_95 : decode cX3_fly 95 = .ok (.iconst 1, 1) := by decide +kernel
theorem dX3_fly_96 : decode cX3_fly 96 = .ok (.isub, 1) := by decide +kernel
theorem dX3_fly_97 : decode cX3_fly 97 = .ok (.istore 5, 2) := by decide +kernel
theorem dX3_fly_99 : decode cX3_fly 99 = .ok (.iload 5, 2) := by decide +kernel
theorem dX3_fly_101 : decode cX3_fly 101 = .ok (.iload 4, 2) := by decide +kernel
theorem dX3_fly_103 : decode cX3_fly 103 = .ok (.if_icmp .ge 8, 3) := by decide +kernel
theorem dX3_fly_106 : decode cX3_fly 106 = .ok (.iload 5, 2) := by decide +kernel
theorem dX3_fly_108 : decode cX3_fly 108 = .ok (.goto 5, 3) := by decide +kernel
theorem dX3_fly_111 : decode cX3_fly 111 = .ok (.iload 4, 2) := by decide +kernel
theorem dX3_fly_113 : decode cX3_fly 113 = .ok (.istore 4, 2) := by decide +kernel
theorem dX3_fly_115 : decode cX3_fly 115 = .ok (.aload_n 1, 1) := by decide +kernel
theorem dX3_fly_116 : decode cX3_fly 116 = .ok (.iload 4, 2) := by decide +kernel
theorem dX3_fly_118 : decode cX3_fly 118 = .ok (.iload_n 3, 1) := by decide +kernel
theorem dX3_fly_119 : decode cX3_fly 119 = .ok (.ifCond .le 7, 3) := by decide +kernel
theorem dX3_fly_122 : decode cX3_fly 122 = .ok (.iconst 1, 1) := by decide +kernel
theorem dX3_fly_123 : decode cX3_fly 123 = .ok (.goto 4, 3) := by decide +kernel
theorem dX3_fly_126 : decode cX3_fly 126 = .ok (.iconst 0, 1) := by decide +kernel
theorem dX3_fly_127 : decode cX3_fly 127 = .ok (.invokevirtual 160, 3) := by decide +kernel
theorem dX3_fly_130 : decode cX3_fly 130 = .ok (.istore 4, 2) := by decide +kernel
theorem dX3_fly_132 : decode cX3_fly 132 = .ok (.iload 4, 2) := by decide +kernel
theorem dX3_fly_134 : decode cX3_fly 134 = .ok (.bipush 15, 2) := by decide +kernel
theorem dX3_fly_136 : decode cX3_fly 136 = .ok (.if_icmp .lt 22, 3) := by decide +kernel
theorem dX3_fly_139 : decode cX3_fly 139 = .ok (.aload_n 1, 1) := by decide +kernel
theorem dX3_fly_140 : decode cX3_fly 140 = .ok (.getfield 134, 3) := by decide +kernel
theorem dX3_fly_143 : decode cX3_fly 143 = .ok (.bipush 100, 2) := by decide +kernel
theorem dX3_fly_145 : decode cX3_fly 145 = .ok (.if_icmp .ge 13, 3) := by decide +kernel
theorem dX3_fly_148 : decode cX3_fly 148 = .ok (.aload_n 1, 1) := by decide +kernel
theorem dX3_fly_149 : decode cX3_fly 149 = .ok (.dup, 1) := by decide +kernel
theorem dX3_fly_150 : decode cX3_fly 150 = .ok (.getfield 134, 3) := by decide +kernel
theorem dX3_fly_153 : decode cX3_fly 153 = .ok (.iconst 1, 1) := by decide +kernel
theorem dX3_fly_154 : decode cX3_fly 154 = .ok (.iadd, 1) := by decide +kernel
theorem dX3_fly_155 : decode cX3_fly 155 = .ok (.putfield 134, 3) := by decide +kernel
theorem dX3_fly_158 : decode cX3_fly 158 = .ok (.aload_n 0, 1) := by decide +kernel
theorem dX3_fly_159 : decode cX3_fly 159 = .ok (.aload_n 1, 1) := by decide +kernel
theorem dX3_fly_160 : decode cX3_fly 160 = .ok (.iload 4, 2) := by decide +kernel
theorem dX3_fly_162 : decode cX3_fly 162 = .ok (.invokevirtual 164, 3) := by decide +kernel
theorem dX3_fly_165 : decode cX3_fly 165 = .ok (.return_, 1) := by decide +kernel
theorem dX3_flyOn_0 : decode cX3_flyOn 0 = .ok (.aload_n 1, 1) := by decide +kernel
theorem dX3_flyOn_1 : decode cX3_flyOn 1 = .ok (.invokevirtual 167, 3) := by decide +kernel
theorem dX3_flyOn_4 : decode cX3_flyOn 4 = .ok (.iconst 1, 1) := by decide +kernel
theorem dX3_flyOn_5 : decode cX3_flyOn 5 = .ok (.iadd, 1) := by decide +kernel
theorem dX3_flyOn_6 : decode cX3_flyOn 6 = .ok (.sipush 400, 3) := by decide +kernel
theorem dX3_flyOn_9 : decode cX3_flyOn 9 = .ok (.imul, 1) := by decide +kernel
theorem dX3_flyOn_10 : decode cX3_flyOn 10 = .ok (.istore_n 3, 1) := by decide +kernel
theorem dX3_flyOn_11 : decode cX3_flyOn 11 = .ok (.aload_n 1, 1) := by decide +kernel
theorem dX3_flyOn_12 : decode cX3_flyOn 12 = .ok (.getfield 108, 3) := by decide +kernel
theorem dX3_flyOn_15 : decode cX3_flyOn 15 = .ok (.iload_n 2, 1) := by decide +kernel
theorem dX3_flyOn_16 : decode cX3_flyOn 16 = .ok (.iadd, 1) := by decide +kernel
theorem dX3_flyOn_17 : decode cX3_flyOn 17 = .ok (.istore 4, 2) := by decide +kernel
theorem dX3_flyOn_19 : decode cX3_flyOn 19 = .ok (.iload 4, 2) := by decide +kernel
theorem dX3_flyOn_21 : decode cX3_flyOn 21 = .ok (.iload_n 3, 1) := by decide +kernel
theorem dX3_flyOn_22 : decode cX3_flyOn 22 = .ok (.if_icmp .lt 7, 3) := by decide +kernel
theorem dX3_flyOn_25 : decode cX3_flyOn 25 = .ok (.iconst 1, 1) := by decide +kernel
theorem dX3_flyOn_26 : decode cX3_flyOn 26 = .ok (.goto 4, 3) := by decide +kernel
theorem dX3_flyOn_29 : decode cX3_flyOn 29 = .ok (.iconst 0, 1) := by decide +kernel
theorem dX3_flyOn_30 : decode cX3_flyOn 30 = .ok (.istore 5, 2) := by decide +kernel
theorem dX3_flyOn_32 : decode cX3_flyOn 32 = .ok (.iload 5, 2) := by decide +kernel
theorem dX3_flyOn_34 : decode cX3_flyOn 34 = .ok (.ifCond .eq 19, 3) := by decide +kernel
theorem dX3_flyOn_37 : decode cX3_flyOn 37 = .ok (.iload_n 3, 1) := by decide +kernel
theorem dX3_flyOn_38 : decode cX3_flyOn 38 = .ok (.aload_n 0, 1) := by decide +kernel
theorem dX3_flyOn_39 : decode cX3_flyOn 39 = .ok (.getfield 24, 3) := by decide +kernel
theorem dX3_flyOn_42 : decode cX3_flyOn 42 = .ok (.sipush 400, 3) := by decide +kernel
theorem dX3_flyOn_45 : decode cX3_flyOn 45 = .ok (.imul, 1) := by decide +kernel
theorem dX3_flyOn_46 : decode cX3_flyOn 46 = .ok (.if_icmp .lt 7, 3) := by decide +kernel
theorem dX3_flyOn_49 : decode cX3_flyOn 49 = .ok (.iconst 1, 1) := by decide +kernel
theorem dX3_flyOn_50 : decode cX3_flyOn 50 = .ok (.goto 4, 3) := by decide +kernel
theorem dX3_flyOn_53 : decode cX3_flyOn 53 = .ok (.iconst 0, 1) := by decide +kernel
theorem dX3_flyOn_54 : decode cX3_flyOn 54 = .ok (.istore 6, 2) := by decide +kernel
theorem dX3_flyOn_56 : decode cX3_flyOn 56 = .ok (.iload 5, 2) := by decide +kernel
theorem dX3_flyOn_58 : decode cX3_flyOn 58 = .ok (.ifCond .eq 19, 3) := by decide +kernel
theorem dX3_flyOn_61 : decode cX3_flyOn 61 = .ok (.iload 6, 2) := by decide +kernel
theorem dX3_flyOn_63 : decode cX3_flyOn 63 = .ok (.ifCond .ne 14, 3) := by decide +kernel
theorem dX3_flyOn_66 : decode cX3_flyOn 66 = .ok (.aload_n 1, 1) := by decide +kernel
theorem dX3_flyOn_67 : decode cX3_flyOn 67 = .ok (.getfield 170, 3) := by decide +kernel
theorem dX3_flyOn_70 : decode cX3_flyOn 70 = .ok (.ifCond .eq 7, 3) := by decide +kernel
theorem dX3_flyOn_73 : decode cX3_flyOn 73 = .ok (.iconst 1, 1) := by decide +kernel
theorem dX3_flyOn_74 : decode cX3_flyOn 74 = .ok (.goto 4, 3) := by decide +kernel
theorem dX3_flyOn_77 : decode cX3_flyOn 77 = .ok (.iconst 0, 1) := by decide +kernel
theorem dX3_flyOn_78 : decode cX3_flyOn 78 = .ok (.istore 7, 2) := by decide +kernel
theorem dX3_flyOn_80 : decode cX3_flyOn 80 = .ok (.iload 6, 2) := by decide +kernel
theorem dX3_flyOn_82 : decode cX3_flyOn 82 = .ok (.ifCond .ne 8, 3) := by decide +kernel
theorem dX3_flyOn_85 : decode cX3_flyOn 85 = .ok (.iload 7, 2) := by decide +kernel
theorem dX3_flyOn_87 : decode cX3_flyOn 87 = .ok (.ifCond .eq 6, 3) := by decide +kernel
theorem dX3_flyOn_90 : decode cX3_flyOn 90 = .ok (.iload_n 3, 1) := by decide +kernel
theorem dX3_flyOn_91 : decode cX3_flyOn 91 = .ok (.istore 4, 2) := by decide +kernel
theorem dX3_flyOn_93 : decode cX3_flyOn 93 = .ok (.aload_n 1, 1) := by decide +kernel
theorem dX3_flyOn_94 : decode cX3_flyOn 94 = .ok (.iload 4, 2) := by decide +kernel
theorem dX3_flyOn_96 : decode cX3_flyOn 96 = .ok (.aload_n 1, 1) := by decide +kernel
theorem dX3_flyOn_97 : decode cX3_flyOn 97 = .ok (.getfield 108, 3) := by decide +kernel
theorem dX3_flyOn_100 : decode cX3_flyOn 100 = .ok (.isub, 1) := by decide +kernel
theorem dX3_flyOn_101 : decode cX3_flyOn 101 = .ok (.putfield 173, 3) := by decide +kernel
theorem dX3_flyOn_104 : decode cX3_flyOn 104 = .ok (.aload_n 1, 1) := by decide +kernel
theorem dX3_flyOn_105 : decode cX3_flyOn 105 = .ok (.iload 4, 2) := by decide +kernel
theorem dX3_flyOn_107 : decode cX3_flyOn 107 = .ok (.putfield 108, 3) := by decide +kernel
theorem dX3_flyOn_110 : decode cX3_flyOn 110 = .ok (.aload_n 0, 1) := by decide +kernel
theorem dX3_flyOn_111 : decode cX3_flyOn 111 = .ok (.dup, 1) := by decide +kernel
theorem dX3_flyOn_112 : decode cX3_flyOn 112 = .ok (.getfield 48, 3) := by decide +kernel
theorem dX3_flyOn_115 : decode cX3_flyOn 115 = .ok (.aload_n 1, 1) := by decide +kernel
theorem dX3_flyOn_116 : decode cX3_flyOn 116 = .ok (.getfield 173, 3) := by decide +kernel
theorem dX3_flyOn_119 : decode cX3_flyOn 119 = .ok (.iadd, 1) := by decide +kernel
theorem dX3_flyOn_120 : decode cX3_flyOn 120 = .ok (.putfield 48, 3) := by decide +kernel
theorem dX3_flyOn_123 : decode cX3_flyOn 123 = .ok (.iload 6, 2) := by decide +kernel
theorem dX3_flyOn_125 : decode cX3_flyOn 125 = .ok (.ifCond .eq 11, 3) := by decide +kernel
theorem dX3_flyOn_128 : decode cX3_flyOn 128 = .ok (.aload_n 0, 1) := by decide +kernel
theorem dX3_flyOn_129 : decode cX3_flyOn 129 = .ok (.aload_n 1, 1) := by decide +kernel
theorem dX3_flyOn_130 : decode cX3_flyOn 130 = .ok (.invokevirtual 176, 3) := by decide +kernel
theorem dX3_flyOn_133 : decode cX3_flyOn 133 = .ok (.goto 22, 3) := by decide +kernel
theorem dX3_flyOn_136 : decode cX3_flyOn 136 = .ok (.iload 7, 2) := by decide +kernel
theorem dX3_flyOn_138 : decode cX3_flyOn 138 = .ok (.ifCond .eq 17, 3) := by decide +kernel
theorem dX3_flyOn_141 : decode cX3_flyOn 141 = .ok (.aload_n 1, 1) := by decide +kernel
theorem dX3_flyOn_142 : decode cX3_flyOn 142 = .ok (.invokevirtual 179, 3) := by decide +kernel
theorem dX3_flyOn_145 : decode cX3_flyOn 145 = .ok (.aload_n 0, 1) := by decide +kernel
theorem dX3_flyOn_146 : decode cX3_flyOn 146 = .ok (.dup, 1) := by decide +kernel
theorem dX3_flyOn_147 : decode cX3_flyOn 147 = .ok (.getfield 57, 3) := by decide +kernel
theorem dX3_flyOn_150 : decode cX3_flyOn 150 = .ok (.iconst 1, 1) := by decide +kernel
theorem dX3_flyOn_151 : decode cX3_flyOn 151 = .ok (.iadd, 1) := by decide +kernel
theorem dX3_flyOn_152 : decode cX3_flyOn 152 = .ok (.putfield 57, 3) := by decide +kernel
theorem dX3_flyOn_155 : decode cX3_flyOn 155 = .ok (.return_, 1) := by decide +kernel
theorem dX3_noteArrival_0 : decode cX3_noteArrival 0 = .ok (.aload_n 1, 1) := by decide +kernel
theorem dX3_noteArrival_1 : decode cX3_noteArrival 1 = .ok (.iconst 3, 1) := by decide +kernel
theorem dX3_noteArrival_2 : decode cX3_noteArrival 2 = .ok (.putfield 102, 3) := by decide +kernel
theorem dX3_noteArrival_5 : decode cX3_noteArrival 5 = .ok (.aload_n 1, 1) := by decide +kernel
theorem dX3_noteArrival_6 : decode cX3_noteArrival 6 = .ok (.aload_n 0, 1) := by decide +kernel
theorem dX3_noteArrival_7 : decode cX3_noteArrival 7 = .ok (.getfield 45, 3) := by decide +kernel
theorem dX3_noteArrival_10 : decode cX3_noteArrival 10 = .ok (.putfield 105, 3) := by decide +kernel
theorem dX3_noteArrival_13 : decode cX3_noteArrival 13 = .ok (.aload_n 1, 1) := by decide +kernel
theorem dX3_noteArrival_14 : decode cX3_noteArrival 14 = .ok (.aload_n 0, 1) := by decide +kernel
theorem dX3_noteArrival_15 : decode cX3_noteArrival 15 = .ok (.getfield 42, 3) := by decide +kernel
theorem dX3_noteArrival_18 : decode cX3_noteArrival 18 = .ok (.putfield 182, 3) := by decide +kernel
theorem dX3_noteArrival_21 : decode cX3_noteArrival 21 = .ok (.aload_n 0, 1) := by decide +kernel
theorem dX3_noteArrival_22 : decode cX3_noteArrival 22 = .ok (.getfield 45, 3) := by decide +kernel
theorem dX3_noteArrival_25 : decode cX3_noteArrival 25 = .ok (.ifCond .ne 21, 3) := by decide +kernel
theorem dX3_noteArrival_28 : decode cX3_noteArrival 28 = .ok (.aload_n 1, 1) := by decide +kernel
theorem dX3_noteArrival_29 : decode cX3_noteArrival 29 = .ok (.getfield 79, 3) := by decide +kernel
theorem dX3_noteArrival_32 : decode cX3_noteArrival 32 = .ok (.iconst (-1), 1) := by decide +kernel
theorem dX3_noteArrival_33 : decode cX3_noteArrival 33 = .ok (.if_icmp .eq 13, 3) := by decide +kernel
theorem dX3_noteArrival_36 : decode cX3_noteArrival 36 = .ok (.aload_n 0, 1) := by decide +kernel
theorem dX3_noteArrival_37 : decode cX3_noteArrival 37 = .ok (.dup, 1) := by decide +kernel
theorem dX3_noteArrival_38 : decode cX3_noteArrival 38 = .ok (.getfield 63, 3) := by decide +kernel
theorem dX3_noteArrival_41 : decode cX3_noteArrival 41 = .ok (.iconst 1, 1) := by decide +kernel
theorem dX3_noteArrival_42 : decode cX3_noteArrival 42 = .ok (.iadd, 1) := by decide +kernel
theorem dX3_noteArrival_43 : decode cX3_noteArrival 43 = .ok (.putfield 63, 3) := by decide +kernel
theorem dX3_noteArrival_46 : decode cX3_noteArrival 46 = .ok (.aload_n 0, 1) := by decide +kernel
theorem dX3_noteArrival_47 : decode cX3_noteArrival 47 = .ok (.dup, 1) := by decide +kernel
theorem dX3_noteArrival_48 : decode cX3_noteArrival 48 = .ok (.getfield 45, 3) := by decide +kernel
theorem dX3_noteArrival_51 : decode cX3_noteArrival 51 = .ok (.iconst 1, 1) := by decide +kernel
theorem dX3_noteArrival_52 : decode cX3_noteArrival 52 = .ok (.iadd, 1) := by decide +kernel
theorem dX3_noteArrival_53 : decode cX3_noteArrival 53 = .ok (.putfield 45, 3) := by decide +kernel
theorem dX3_noteArrival_56 : decode cX3_noteArrival 56 = .ok (.return_, 1) := by decide +kernel
theorem dX4_init_0 : decode cX4_init 0 = .ok (.aload_n 0, 1) := by decide +kernel
theorem dX4_init_1 : decode cX4_init 1 = .ok (.invokespecial 3, 3) := by decide +kernel
theorem dX4_init_4 : decode cX4_init 4 = .ok (.aload_n 0, 1) := by decide +kernel
theorem dX4_init_5 : decode cX4_init 5 = .ok (.bipush 6, 2) := by decide +kernel
theorem dX4_init_7 : decode cX4_init 7 = .ok (.anewarray 9, 3) := by decide +kernel
theorem dX4_init_10 : decode cX4_init 10 = .ok (.putfield 11, 3) := by decide +kernel
theorem dX4_init_13 : decode cX4_init 13 = .ok (.iconst 0, 1) := by decide +kernel
theorem dX4_init_14 : decode cX4_init 14 = .ok (.istore_n 1, 1) := by decide +kernel
theorem dX4_init_15 : decode cX4_init 15 = .ok (.iload_n 1, 1) := by decide +kernel
theorem dX4_init_16 : decode cX4_init 16 = .ok (.aload_n 0, 1) := by decide +kernel
theorem dX4_init_17 : decode cX4_init 17 = .ok (.getfield 11, 3) := by decide +kernel
theorem dX4_init_20 : decode cX4_init 20 = .ok (.arraylength, 1) := by decide +kernel
theorem dX4_init_21 : decode cX4_init 21 = .ok (.if_icmp .ge 22, 3) := by decide +kernel
theorem dX4_init_24 : decode cX4_init 24 = .ok (.aload_n 0, 1) := by decide +kernel
theorem dX4_init_25 : decode cX4_init 25 = .ok (.getfield 11, 3) := by decide +kernel
theorem dX4_init_28 : decode cX4_init 28 = .ok (.iload_n 1, 1) := by decide +kernel
theorem dX4_init_29 : decode cX4_init 29 = .ok (.new 9, 3) := by decide +kernel
theorem dX4_init_32 : decode cX4_init 32 = .ok (.dup, 1) := by decide +kernel
theorem dX4_init_33 : decode cX4_init 33 = .ok (.invokespecial 17, 3) := by decide +kernel
theorem dX4_init_36 : decode cX4_init 36 = .ok (.aastore, 1) := by decide +kernel
theorem dX4_init_37 : decode cX4_init 37 = .ok (.iinc 1 1, 3) := by decide +kernel
theorem dX4_init_40 : decode cX4_init 40 = .ok (.goto (-25), 3) := by decide +kernel
theorem dX4_init_43 : decode cX4_init 43 = .ok (.return_, 1) := by decide +kernel
theorem dX4_save_0 : decode cX4_save 0 = .ok (.aload_n 0, 1) := by decide +kernel
theorem dX4_save_1 : decode cX4_save 1 = .ok (.getfield 18, 3) := by decide +kernel
theorem dX4_save_4 : decode cX4_save 4 = .ok (.aload_n 0, 1) := by decide +kernel
theorem dX4_save_5 : decode cX4_save 5 = .ok (.getfield 11, 3) := by decide +kernel
theorem dX4_save_8 : decode cX4_save 8 = .ok (.arraylength, 1) := by decide +kernel
theorem dX4_save_9 : decode cX4_save 9 = .ok (.if_icmp .lt 7, 3) := by decide +kernel
theorem dX4_save_12 : decode cX4_save 12 = .ok (.aload_n 0, 1) := by decide +kernel
theorem dX4_save_13 : decode cX4_save 13 = .ok (.invokevirtual 22, 3) := by decide +kernel
theorem dX4_save_16 : decode cX4_save 16 = .ok (.aload_n 0, 1) := by decide +kernel
theorem dX4_save_17 : decode cX4_save 17 = .ok (.getfield 18, 3) := by decide +kernel
theorem dX4_save_20 : decode cX4_save 20 = .ok (.ifCond .lt 44, 3) := by decide +kernel
theorem dX4_save_23 : decode cX4_save 23 = .ok (.aload_n 0, 1) := by decide +kernel
theorem dX4_save_24 : decode cX4_save 24 = .ok (.getfield 18, 3) := by decide +kernel
theorem dX4_save_27 : decode cX4_save 27 = .ok (.aload_n 0, 1) := by decide +kernel
theorem dX4_save_28 : decode cX4_save 28 = .ok (.getfield 11, 3) := by decide +kernel
theorem dX4_save_31 : decode cX4_save 31 = .ok (.arraylength, 1) := by decide +kernel
theorem dX4_save_32 : decode cX4_save 32 = .ok (.if_icmp .ge 32, 3) := by decide +kernel
theorem dX4_save_35 : decode cX4_save 35 = .ok (.aload_n 0, 1) := by decide +kernel
theorem dX4_save_36 : decode cX4_save 36 = .ok (.getfield 11, 3) := by decide +kernel
theorem dX4_save_39 : decode cX4_save 39 = .ok (.aload_n 0, 1) := by decide +kernel
theorem dX4_save_40 : decode cX4_save 40 = .ok (.getfield 18, 3) := by decide +kernel
theorem dX4_save_43 : decode cX4_save 43 = .ok (.aaload, 1) := by decide +kernel
theorem dX4_save_44 : decode cX4_save 44 = .ok (.astore_n 2, 1) := by decide +kernel
theorem dX4_save_45 : decode cX4_save 45 = .ok (.aload_n 2, 1) := by decide +kernel
theorem dX4_save_46 : decode cX4_save 46 = .ok (.ifnull 18, 3) := by decide +kernel
theorem dX4_save_49 : decode cX4_save 49 = .ok (.aload_n 2, 1) := by decide +kernel
theorem dX4_save_50 : decode cX4_save 50 = .ok (.aload_n 1, 1) := by decide +kernel
theorem dX4_save_51 : decode cX4_save 51 = .ok (.invokevirtual 25, 3) := by decide +kernel
theorem dX4_save_54 : decode cX4_save 54 = .ok (.aload_n 0, 1) := by decide +kernel
theorem dX4_save_55 : decode cX4_save 55 = .ok (.dup, 1) := by decide +kernel
theorem dX4_save_56 : decode cX4_save 56 = .ok (.getfield 18, 3) := by decide +kernel
theorem dX4_save_59 : decode cX4_save 59 = .ok (.iconst 1, 1) := by decide +kernel
theorem dX4_save_60 : decode cX4_save 60 = .ok (.iadd, 1) := by decide +kernel
theorem dX4_save_61 : decode cX4_save 61 = .ok (.putfield 18, 3) := by decide +kernel
theorem dX4_save_64 : decode cX4_save 64 = .ok (.return_, 1) := by decide +kernel
theorem dX4_dropOldest_0 : decode cX4_dropOldest 0 = .ok (.iconst 1, 1) := by decide +kernel
theorem dX4_dropOldest_1 : decode cX4_dropOldest 1 = .ok (.istore_n 1, 1) := by decide +kernel
theorem dX4_dropOldest_2 : decode cX4_dropOldest 2 = .ok (.iload_n 1, 1) := by decide +kernel
theorem dX4_dropOldest_3 : decode cX4_dropOldest 3 = .ok (.aload_n 0, 1) := by decide +kernel
theorem dX4_dropOldest_4 : decode cX4_dropOldest 4 = .ok (.getfield 11, 3) := by decide +kernel
theorem dX4_dropOldest_7 : decode cX4_dropOldest 7 = .ok (.arraylength, 1) := by decide +kernel
theorem dX4_dropOldest_8 : decode cX4_dropOldest 8 = .ok (.if_icmp .ge 39, 3) := by decide +kernel
theorem dX4_dropOldest_11 : decode cX4_dropOldest 11 = .ok (.aload_n 0, 1) := by decide +kernel
theorem dX4_dropOldest_12 : decode cX4_dropOldest 12 = .ok (.getfield 11, 3) := by decide +kernel
theorem dX4_dropOldest_15 : decode cX4_dropOldest 15 = .ok (.iload_n 1, 1) := by decide +kernel
theorem dX4_dropOldest_16 : decode cX4_dropOldest 16 = .ok (.iconst 1, 1) := by decide +kernel
theorem dX4_dropOldest_17 : decode cX4_dropOldest 17 = .ok (.isub, 1) := by decide +kernel
theorem dX4_dropOldest_18 : decode cX4_dropOldest 18 = .ok (.aaload, 1) := by decide +kernel
theorem dX4_dropOldest_19 : decode cX4_dropOldest 19 = .ok (.astore_n 2, 1) := by decide +kernel
theorem dX4_dropOldest_20 : decode cX4_dropOldest 20 = .ok (.aload_n 0, 1) := by decide +kernel
theorem dX4_dropOldest_21 : decode cX4_dropOldest 21 = .ok (.getfield 11, 3) := by decide +kernel
theorem dX4_dropOldest_24 : decode cX4_dropOldest 24 = .ok (.iload_n 1, 1) := by decide +kernel
theorem dX4_dropOldest_25 : decode cX4_dropOldest 25 = .ok (.iconst 1, 1) := by decide +kernel
theorem dX4_dropOldest_26 : decode cX4_dropOldest 26 = .ok (.isub, 1) := by decide +kernel
theorem dX4_dropOldest_27 : decode cX4_dropOldest 27 = .ok (.aload_n 0, 1) := by decide +kernel
theorem dX4_dropOldest_28 : decode cX4_dropOldest 28 = .ok (.getfield 11, 3) := by decide +kernel
theorem dX4_dropOldest_31 : decode cX4_dropOldest 31 = .ok (.iload_n 1, 1) := by decide +kernel
theorem dX4_dropOldest_32 : decode cX4_dropOldest 32 = .ok (.aaload, 1) := by decide +kernel
theorem dX4_dropOldest_33 : decode cX4_dropOldest 33 = .ok (.aastore, 1) := by decide +kernel
theorem dX4_dropOldest_34 : decode cX4_dropOldest 34 = .ok (.aload_n 0, 1) := by decide +kernel
theorem dX4_dropOldest_35 : decode cX4_dropOldest 35 = .ok (.getfield 11, 3) := by decide +kernel
theorem dX4_dropOldest_38 : decode cX4_dropOldest 38 = .ok (.iload_n 1, 1) := by decide +kernel
theorem dX4_dropOldest_39 : decode cX4_dropOldest 39 = .ok (.aload_n 2, 1) := by decide +kernel
theorem dX4_dropOldest_40 : decode cX4_dropOldest 40 = .ok (.aastore, 1) := by decide +kernel
theorem dX4_dropOldest_41 : decode cX4_dropOldest 41 = .ok (.iinc 1 1, 3) := by decide +kernel
theorem dX4_dropOldest_44 : decode cX4_dropOldest 44 = .ok (.goto (-42), 3) := by decide +kernel
theorem dX4_dropOldest_47 : decode cX4_dropOldest 47 = .ok (.aload_n 0, 1) := by decide +kernel
theorem dX4_dropOldest_48 : decode cX4_dropOldest 48 = .ok (.dup, 1) := by decide +kernel
theorem dX4_dropOldest_49 : decode cX4_dropOldest 49 = .ok (.getfield 18, 3) := by decide +kernel
theorem dX4_dropOldest_52 : decode cX4_dropOldest 52 = .ok (.iconst 1, 1) := by decide +kernel
theorem dX4_dropOldest_53 : decode cX4_dropOldest 53 = .ok (.isub, 1) := by decide +kernel
theorem dX4_dropOldest_54 : decode cX4_dropOldest 54 = .ok (.putfield 18, 3) := by decide +kernel
theorem dX4_dropOldest_57 : decode cX4_dropOldest 57 = .ok (.return_, 1) := by decide +kernel
theorem dX4_dropLatest_0 : decode cX4_dropLatest 0 = .ok (.aload_n 0, 1) := by decide +kernel
theorem dX4_dropLatest_1 : decode cX4_dropLatest 1 = .ok (.getfield 18, 3) := by decide +kernel
theorem dX4_dropLatest_4 : decode cX4_dropLatest 4 = .ok (.ifCond .le 15, 3) := by decide +kernel
theorem dX4_dropLatest_7 : decode cX4_dropLatest 7 = .ok (.aload_n 0, 1) := by decide +kernel
theorem dX4_dropLatest_8 : decode cX4_dropLatest 8 = .ok (.getfield 18, 3) := by decide +kernel
theorem dX4_dropLatest_11 : decode cX4_dropLatest 11 = .ok (.aload_n 0, 1) := by decide +kernel
theorem dX4_dropLatest_12 : decode cX4_dropLatest 12 = .ok (.getfield 11, 3) := by decide +kernel
theorem dX4_dropLatest_15 : decode cX4_dropLatest 15 = .ok (.arraylength, 1) := by decide +kernel
theorem dX4_dropLatest_16 : decode cX4_dropLatest 16 = .ok (.if_icmp .le 5, 3) := by decide +kernel
theorem dX4_dropLatest_19 : decode cX4_dropLatest 19 = .ok (.aconst_null, 1) := by decide +kernel
theorem dX4_dropLatest_20 : decode cX4_dropLatest 20 = .ok (.areturn, 1) := by decide +kernel
theorem dX4_dropLatest_21 : decode cX4_dropLatest 21 = .ok (.aload_n 0, 1) := by decide +kernel
theorem dX4_dropLatest_22 : decode cX4_dropLatest 22 = .ok (.dup, 1) := by decide +kernel
theorem dX4_dropLatest_23 : decode cX4_dropLatest 23 = .ok (.getfield 18, 3) := by decide +kernel
theorem dX4_dropLatest_26 : decode cX4_dropLatest 26 = .ok (.iconst 1, 1) := by decide +kernel
theorem dX4_dropLatest_27 : decode cX4_dropLatest 27 = .ok (.isub, 1) := by decide +kernel
theorem dX4_dropLatest_28 : decode cX4_dropLatest 28 = .ok (.putfield 18, 3) := by decide +kernel
theorem dX4_dropLatest_31 : decode cX4_dropLatest 31 = .ok (.aload_n 0, 1) := by decide +kernel
theorem dX4_dropLatest_32 : decode cX4_dropLatest 32 = .ok (.getfield 11, 3) := by decide +kernel
theorem dX4_dropLatest_35 : decode cX4_dropLatest 35 = .ok (.aload_n 0, 1) := by decide +kernel
theorem dX4_dropLatest_36 : decode cX4_dropLatest 36 = .ok (.getfield 18, 3) := by decide +kernel
theorem dX4_dropLatest_39 : decode cX4_dropLatest 39 = .ok (.aaload, 1) := by decide +kernel
theorem dX4_dropLatest_40 : decode cX4_dropLatest 40 = .ok (.areturn, 1) := by decide +kernel
theorem dX5_init_0 : decode cX5_init 0 = .ok (.aload_n 0, 1) := by decide +kernel
theorem dX5_init_1 : decode cX5_init 1 = .ok (.invokespecial 3, 3) := by decide +kernel
theorem dX5_init_4 : decode cX5_init 4 = .ok (.aload_n 0, 1) := by decide +kernel
theorem dX5_init_5 : decode cX5_init 5 = .ok (.iconst 2, 1) := by decide +kernel
theorem dX5_init_6 : decode cX5_init 6 = .ok (.anewarray 9, 3) := by decide +kernel
theorem dX5_init_9 : decode cX5_init 9 = .ok (.putfield 11, 3) := by decide +kernel
theorem dX5_init_12 : decode cX5_init 12 = .ok (.aload_n 0, 1) := by decide +kernel
theorem dX5_init_13 : decode cX5_init 13 = .ok (.iconst 2, 1) := by decide +kernel
theorem dX5_init_14 : decode cX5_init 14 = .ok (.newarray .boolean, 2) := by decide +kernel
theorem dX5_init_16 : decode cX5_init 16 = .ok (.putfield 17, 3) := by decide +kernel
theorem dX5_init_19 : decode cX5_init 19 = .ok (.iconst 0, 1) := by decide +kernel
theorem dX5_init_20 : decode cX5_init 20 = .ok (.istore_n 1, 1) := by decide +kernel
theorem dX5_init_21 : decode cX5_init 21 = .ok (.iload_n 1, 1) := by decide +kernel
theorem dX5_init_22 : decode cX5_init 22 = .ok (.aload_n 0, 1) := by decide +kernel
theorem dX5_init_23 : decode cX5_init 23 = .ok (.getfield 11, 3) := by decide +kernel
