theorem dX5_init_26 : decode cX5_init 26 = .ok (.arraylength, 1) := by decide +kernel
theorem dX5_init_27 : decode cX5_init 27 = .ok (.if_icmp .ge 22, 3) := by decide +kernel
theorem dX5_init_30 : decode cX5_init 30 = .ok (.aload_n 0, 1) := by decide +kernel
theorem dX5_init_31 : decode cX5_init 31 = .ok (.getfield 11, 3) := by decide +kernel
theorem dX5_init_34 : decode cX5_init 34 = .ok (.iload_n 1, 1) := by decide +kernel
theorem dX5_init_35 : decode cX5_init 35 = .ok (.new 9, 3) := by decide +kernel
theorem dX5_init_38 : decode cX5_init 38 = .ok (.dup, 1) := by decide +kernel
theorem dX5_init_39 : decode cX5_init 39 = .ok (.invokespecial 21, 3) := by decide +kernel
theorem dX5_init_42 : decode cX5_init 42 = .ok (.aastore, 1) := by decide +kernel
theorem dX5_init_43 : decode cX5_init 43 = .ok (.iinc 1 1, 3) := by decide +kernel
theorem dX5_init_46 : decode cX5_init 46 = .ok (.goto (-25), 3) := by decide +kernel
theorem dX5_init_49 : decode cX5_init 49 = .ok (.return_, 1) := by decide +kernel
theorem dX5_put_0 : decode cX5_put 0 = .ok (.iload_n 1, 1) := by decide +kernel
theorem dX5_put_1 : decode cX5_put 1 = .ok (.ifCond .lt 44, 3) := by decide +kernel
theorem dX5_put_4 : decode cX5_put 4 = .ok (.iload_n 1, 1) := by decide +kernel
theorem dX5_put_5 : decode cX5_put 5 = .ok (.aload_n 0, 1) := by decide +kernel
theorem dX5_put_6 : decode cX5_put 6 = .ok (.getfield 11, 3) := by decide +kernel
theorem dX5_put_9 : decode cX5_put 9 = .ok (.arraylength, 1) := by decide +kernel
theorem dX5_put_10 : decode cX5_put 10 = .ok (.if_icmp .ge 35, 3) := by decide +kernel
theorem dX5_put_13 : decode cX5_put 13 = .ok (.iload_n 1, 1) := by decide +kernel
theorem dX5_put_14 : decode cX5_put 14 = .ok (.aload_n 0, 1) := by decide +kernel
theorem dX5_put_15 : decode cX5_put 15 = .ok (.getfield 17, 3) := by decide +kernel
theorem dX5_put_18 : decode cX5_put 18 = .ok (.arraylength, 1) := by decide +kernel
theorem dX5_put_19 : decode cX5_put 19 = .ok (.if_icmp .ge 26, 3) := by decide +kernel
theorem dX5_put_22 : decode cX5_put 22 = .ok (.aload_n 0, 1) := by decide +kernel
theorem dX5_put_23 : decode cX5_put 23 = .ok (.getfield 11, 3) := by decide +kernel
theorem dX5_put_26 : decode cX5_put 26 = .ok (.iload_n 1, 1) := by decide +kernel
theorem dX5_put_27 : decode cX5_put 27 = .ok (.aaload, 1) := by decide +kernel
theorem dX5_put_28 : decode cX5_put 28 = .ok (.astore_n 3, 1) := by decide +kernel
theorem dX5_put_29 : decode cX5_put 29 = .ok (.aload_n 3, 1) := by decide +kernel
theorem dX5_put_30 : decode cX5_put 30 = .ok (.ifnull 15, 3) := by decide +kernel
theorem dX5_put_33 : decode cX5_put 33 = .ok (.aload_n 3, 1) := by decide +kernel
theorem dX5_put_34 : decode cX5_put 34 = .ok (.aload_n 2, 1) := by decide +kernel
theorem dX5_put_35 : decode cX5_put 35 = .ok (.invokevirtual 22, 3) := by decide +kernel
theorem dX5_put_38 : decode cX5_put 38 = .ok (.aload_n 0, 1) := by decide +kernel
theorem dX5_put_39 : decode cX5_put 39 = .ok (.getfield 17, 3) := by decide +kernel
theorem dX5_put_42 : decode cX5_put 42 = .ok (.iload_n 1, 1) := by decide +kernel
theorem dX5_put_43 : decode cX5_put 43 = .ok (.iconst 1, 1) := by decide +kernel
theorem dX5_put_44 : decode cX5_put 44 = .ok (.bastore, 1) := by decide +kernel
theorem dX5_put_45 : decode cX5_put 45 = .ok (.return_, 1) := by decide +kernel
theorem dX5_kept_0 : decode cX5_kept 0 = .ok (.iload_n 1, 1) := by decide +kernel
theorem dX5_kept_1 : decode cX5_kept 1 = .ok (.ifCond .lt 30, 3) := by decide +kernel
theorem dX5_kept_4 : decode cX5_kept 4 = .ok (.iload_n 1, 1) := by decide +kernel
theorem dX5_kept_5 : decode cX5_kept 5 = .ok (.aload_n 0, 1) := by decide +kernel
theorem dX5_kept_6 : decode cX5_kept 6 = .ok (.getfield 11, 3) := by decide +kernel
theorem dX5_kept_9 : decode cX5_kept 9 = .ok (.arraylength, 1) := by decide +kernel
theorem dX5_kept_10 : decode cX5_kept 10 = .ok (.if_icmp .ge 21, 3) := by decide +kernel
theorem dX5_kept_13 : decode cX5_kept 13 = .ok (.iload_n 1, 1) := by decide +kernel
theorem dX5_kept_14 : decode cX5_kept 14 = .ok (.aload_n 0, 1) := by decide +kernel
theorem dX5_kept_15 : decode cX5_kept 15 = .ok (.getfield 17, 3) := by decide +kernel
theorem dX5_kept_18 : decode cX5_kept 18 = .ok (.arraylength, 1) := by decide +kernel
theorem dX5_kept_19 : decode cX5_kept 19 = .ok (.if_icmp .ge 12, 3) := by decide +kernel
theorem dX5_kept_22 : decode cX5_kept 22 = .ok (.aload_n 0, 1) := by decide +kernel
theorem dX5_kept_23 : decode cX5_kept 23 = .ok (.getfield 17, 3) := by decide +kernel
theorem dX5_kept_26 : decode cX5_kept 26 = .ok (.iload_n 1, 1) := by decide +kernel
theorem dX5_kept_27 : decode cX5_kept 27 = .ok (.baload, 1) := by decide +kernel
theorem dX5_kept_28 : decode cX5_kept 28 = .ok (.ifCond .ne 5, 3) := by decide +kernel
theorem dX5_kept_31 : decode cX5_kept 31 = .ok (.aconst_null, 1) := by decide +kernel
theorem dX5_kept_32 : decode cX5_kept 32 = .ok (.areturn, 1) := by decide +kernel
theorem dX5_kept_33 : decode cX5_kept 33 = .ok (.aload_n 0, 1) := by decide +kernel
theorem dX5_kept_34 : decode cX5_kept 34 = .ok (.getfield 11, 3) := by decide +kernel
theorem dX5_kept_37 : decode cX5_kept 37 = .ok (.iload_n 1, 1) := by decide +kernel
theorem dX5_kept_38 : decode cX5_kept 38 = .ok (.aaload, 1) := by decide +kernel
theorem dX5_kept_39 : decode cX5_kept 39 = .ok (.areturn, 1) := by decide +kernel
theorem dX6_init_0 : decode cX6_init 0 = .ok (.aload_n 0, 1) := by decide +kernel
theorem dX6_init_1 : decode cX6_init 1 = .ok (.invokespecial 3, 3) := by decide +kernel
theorem dX6_init_4 : decode cX6_init 4 = .ok (.aload_n 0, 1) := by decide +kernel
theorem dX6_init_5 : decode cX6_init 5 = .ok (.iload_n 1, 1) := by decide +kernel
theorem dX6_init_6 : decode cX6_init 6 = .ok (.putfield 9, 3) := by decide +kernel
theorem dX6_init_9 : decode cX6_init 9 = .ok (.aload_n 0, 1) := by decide +kernel
theorem dX6_init_10 : decode cX6_init 10 = .ok (.iconst (-1), 1) := by decide +kernel
theorem dX6_init_11 : decode cX6_init 11 = .ok (.putfield 15, 3) := by decide +kernel
theorem dX6_init_14 : decode cX6_init 14 = .ok (.return_, 1) := by decide +kernel
theorem dX6_takeFrom_0 : decode cX6_takeFrom 0 = .ok (.aload_n 0, 1) := by decide +kernel
theorem dX6_takeFrom_1 : decode cX6_takeFrom 1 = .ok (.aload_n 1, 1) := by decide +kernel
theorem dX6_takeFrom_2 : decode cX6_takeFrom 2 = .ok (.getfield 18, 3) := by decide +kernel
theorem dX6_takeFrom_5 : decode cX6_takeFrom 5 = .ok (.putfield 18, 3) := by decide +kernel
theorem dX6_takeFrom_8 : decode cX6_takeFrom 8 = .ok (.aload_n 0, 1) := by decide +kernel
theorem dX6_takeFrom_9 : decode cX6_takeFrom 9 = .ok (.aload_n 1, 1) := by decide +kernel
theorem dX6_takeFrom_10 : decode cX6_takeFrom 10 = .ok (.getfield 21, 3) := by decide +kernel
theorem dX6_takeFrom_13 : decode cX6_takeFrom 13 = .ok (.putfield 21, 3) := by decide +kernel
theorem dX6_takeFrom_16 : decode cX6_takeFrom 16 = .ok (.aload_n 0, 1) := by decide +kernel
theorem dX6_takeFrom_17 : decode cX6_takeFrom 17 = .ok (.aload_n 1, 1) := by decide +kernel
theorem dX6_takeFrom_18 : decode cX6_takeFrom 18 = .ok (.getfield 24, 3) := by decide +kernel
theorem dX6_takeFrom_21 : decode cX6_takeFrom 21 = .ok (.putfield 24, 3) := by decide +kernel
theorem dX6_takeFrom_24 : decode cX6_takeFrom 24 = .ok (.aload_n 0, 1) := by decide +kernel
theorem dX6_takeFrom_25 : decode cX6_takeFrom 25 = .ok (.aload_n 1, 1) := by decide +kernel
theorem dX6_takeFrom_26 : decode cX6_takeFrom 26 = .ok (.getfield 27, 3) := by decide +kernel
theorem dX6_takeFrom_29 : decode cX6_takeFrom 29 = .ok (.putfield 27, 3) := by decide +kernel
theorem dX6_takeFrom_32 : decode cX6_takeFrom 32 = .ok (.aload_n 0, 1) := by decide +kernel
theorem dX6_takeFrom_33 : decode cX6_takeFrom 33 = .ok (.aload_n 1, 1) := by decide +kernel
theorem dX6_takeFrom_34 : decode cX6_takeFrom 34 = .ok (.getfield 30, 3) := by decide +kernel
theorem dX6_takeFrom_37 : decode cX6_takeFrom 37 = .ok (.putfield 30, 3) := by decide +kernel
theorem dX6_takeFrom_40 : decode cX6_takeFrom 40 = .ok (.aload_n 0, 1) := by decide +kernel
theorem dX6_takeFrom_41 : decode cX6_takeFrom 41 = .ok (.aload_n 1, 1) := by decide +kernel
theorem dX6_takeFrom_42 : decode cX6_takeFrom 42 = .ok (.getfield 33, 3) := by decide +kernel
theorem dX6_takeFrom_45 : decode cX6_takeFrom 45 = .ok (.putfield 33, 3) := by decide +kernel
theorem dX6_takeFrom_48 : decode cX6_takeFrom 48 = .ok (.aload_n 0, 1) := by decide +kernel
theorem dX6_takeFrom_49 : decode cX6_takeFrom 49 = .ok (.aload_n 1, 1) := by decide +kernel
theorem dX6_takeFrom_50 : decode cX6_takeFrom 50 = .ok (.getfield 36, 3) := by decide +kernel
theorem dX6_takeFrom_53 : decode cX6_takeFrom 53 = .ok (.putfield 36, 3) := by decide +kernel
theorem dX6_takeFrom_56 : decode cX6_takeFrom 56 = .ok (.aload_n 0, 1) := by decide +kernel
theorem dX6_takeFrom_57 : decode cX6_takeFrom 57 = .ok (.aload_n 1, 1) := by decide +kernel
theorem dX6_takeFrom_58 : decode cX6_takeFrom 58 = .ok (.getfield 39, 3) := by decide +kernel
theorem dX6_takeFrom_61 : decode cX6_takeFrom 61 = .ok (.putfield 39, 3) := by decide +kernel
theorem dX6_takeFrom_64 : decode cX6_takeFrom 64 = .ok (.aload_n 0, 1) := by decide +kernel
theorem dX6_takeFrom_65 : decode cX6_takeFrom 65 = .ok (.aload_n 1, 1) := by decide +kernel
theorem dX6_takeFrom_66 : decode cX6_takeFrom 66 = .ok (.getfield 42, 3) := by decide +kernel
theorem dX6_takeFrom_69 : decode cX6_takeFrom 69 = .ok (.putfield 42, 3) := by decide +kernel
theorem dX6_takeFrom_72 : decode cX6_takeFrom 72 = .ok (.aload_n 0, 1) := by decide +kernel
theorem dX6_takeFrom_73 : decode cX6_takeFrom 73 = .ok (.aload_n 1, 1) := by decide +kernel
theorem dX6_takeFrom_74 : decode cX6_takeFrom 74 = .ok (.getfield 45, 3) := by decide +kernel
theorem dX6_takeFrom_77 : decode cX6_takeFrom 77 = .ok (.putfield 45, 3) := by decide +kernel
theorem dX6_takeFrom_80 : decode cX6_takeFrom 80 = .ok (.aload_n 0, 1) := by decide +kernel
theorem dX6_takeFrom_81 : decode cX6_takeFrom 81 = .ok (.aload_n 1, 1) := by decide +kernel
theorem dX6_takeFrom_82 : decode cX6_takeFrom 82 = .ok (.getfield 48, 3) := by decide +kernel
theorem dX6_takeFrom_85 : decode cX6_takeFrom 85 = .ok (.putfield 48, 3) := by decide +kernel
theorem dX6_takeFrom_88 : decode cX6_takeFrom 88 = .ok (.aload_n 0, 1) := by decide +kernel
theorem dX6_takeFrom_89 : decode cX6_takeFrom 89 = .ok (.aload_n 1, 1) := by decide +kernel
theorem dX6_takeFrom_90 : decode cX6_takeFrom 90 = .ok (.getfield 15, 3) := by decide +kernel
theorem dX6_takeFrom_93 : decode cX6_takeFrom 93 = .ok (.putfield 15, 3) := by decide +kernel
theorem dX6_takeFrom_96 : decode cX6_takeFrom 96 = .ok (.aload_n 0, 1) := by decide +kernel
theorem dX6_takeFrom_97 : decode cX6_takeFrom 97 = .ok (.aload_n 1, 1) := by decide +kernel
theorem dX6_takeFrom_98 : decode cX6_takeFrom 98 = .ok (.getfield 52, 3) := by decide +kernel
theorem dX6_takeFrom_101 : decode cX6_takeFrom 101 = .ok (.putfield 52, 3) := by decide +kernel
theorem dX6_takeFrom_104 : decode cX6_takeFrom 104 = .ok (.aload_n 0, 1) := by decide +kernel
theorem dX6_takeFrom_105 : decode cX6_takeFrom 105 = .ok (.aload_n 1, 1) := by decide +kernel
theorem dX6_takeFrom_106 : decode cX6_takeFrom 106 = .ok (.getfield 55, 3) := by decide +kernel
theorem dX6_takeFrom_109 : decode cX6_takeFrom 109 = .ok (.putfield 55, 3) := by decide +kernel
theorem dX6_takeFrom_112 : decode cX6_takeFrom 112 = .ok (.return_, 1) := by decide +kernel
theorem dX6_goToStart_0 : decode cX6_goToStart 0 = .ok (.aload_n 0, 1) := by decide +kernel
theorem dX6_goToStart_1 : decode cX6_goToStart 1 = .ok (.iconst 0, 1) := by decide +kernel
theorem dX6_goToStart_2 : decode cX6_goToStart 2 = .ok (.putfield 27, 3) := by decide +kernel
theorem dX6_goToStart_5 : decode cX6_goToStart 5 = .ok (.aload_n 0, 1) := by decide +kernel
theorem dX6_goToStart_6 : decode cX6_goToStart 6 = .ok (.iconst 0, 1) := by decide +kernel
theorem dX6_goToStart_7 : decode cX6_goToStart 7 = .ok (.putfield 30, 3) := by decide +kernel
theorem dX6_goToStart_10 : decode cX6_goToStart 10 = .ok (.aload_n 0, 1) := by decide +kernel
theorem dX6_goToStart_11 : decode cX6_goToStart 11 = .ok (.aload_n 0, 1) := by decide +kernel
theorem dX6_goToStart_12 : decode cX6_goToStart 12 = .ok (.getfield 21, 3) := by decide +kernel
theorem dX6_goToStart_15 : decode cX6_goToStart 15 = .ok (.putfield 33, 3) := by decide +kernel
theorem dX6_goToStart_18 : decode cX6_goToStart 18 = .ok (.aload_n 0, 1) := by decide +kernel
theorem dX6_goToStart_19 : decode cX6_goToStart 19 = .ok (.iconst 0, 1) := by decide +kernel
theorem dX6_goToStart_20 : decode cX6_goToStart 20 = .ok (.putfield 36, 3) := by decide +kernel
theorem dX6_goToStart_23 : decode cX6_goToStart 23 = .ok (.aload_n 0, 1) := by decide +kernel
theorem dX6_goToStart_24 : decode cX6_goToStart 24 = .ok (.aload_n 0, 1) := by decide +kernel
theorem dX6_goToStart_25 : decode cX6_goToStart 25 = .ok (.getfield 24, 3) := by decide +kernel
theorem dX6_goToStart_28 : decode cX6_goToStart 28 = .ok (.putfield 39, 3) := by decide +kernel
theorem dX6_goToStart_31 : decode cX6_goToStart 31 = .ok (.aload_n 0, 1) := by decide +kernel
theorem dX6_goToStart_32 : decode cX6_goToStart 32 = .ok (.iload_n 1, 1) := by decide +kernel
theorem dX6_goToStart_33 : decode cX6_goToStart 33 = .ok (.putfield 42, 3) := by decide +kernel
theorem dX6_goToStart_36 : decode cX6_goToStart 36 = .ok (.aload_n 0, 1) := by decide +kernel
theorem dX6_goToStart_37 : decode cX6_goToStart 37 = .ok (.iconst 0, 1) := by decide +kernel
theorem dX6_goToStart_38 : decode cX6_goToStart 38 = .ok (.putfield 45, 3) := by decide +kernel
theorem dX6_goToStart_41 : decode cX6_goToStart 41 = .ok (.aload_n 0, 1) := by decide +kernel
theorem dX6_goToStart_42 : decode cX6_goToStart 42 = .ok (.iconst 0, 1) := by decide +kernel
theorem dX6_goToStart_43 : decode cX6_goToStart 43 = .ok (.putfield 48, 3) := by decide +kernel
theorem dX6_goToStart_46 : decode cX6_goToStart 46 = .ok (.aload_n 0, 1) := by decide +kernel
theorem dX6_goToStart_47 : decode cX6_goToStart 47 = .ok (.iconst 0, 1) := by decide +kernel
theorem dX6_goToStart_48 : decode cX6_goToStart 48 = .ok (.putfield 52, 3) := by decide +kernel
theorem dX6_goToStart_51 : decode cX6_goToStart 51 = .ok (.aload_n 0, 1) := by decide +kernel
theorem dX6_goToStart_52 : decode cX6_goToStart 52 = .ok (.iconst 0, 1) := by decide +kernel
theorem dX6_goToStart_53 : decode cX6_goToStart 53 = .ok (.putfield 55, 3) := by decide +kernel
theorem dX6_goToStart_56 : decode cX6_goToStart 56 = .ok (.return_, 1) := by decide +kernel
theorem dX6_lapsOver_0 : decode cX6_lapsOver 0 = .ok (.aload_n 0, 1) := by decide +kernel
theorem dX6_lapsOver_1 : decode cX6_lapsOver 1 = .ok (.getfield 27, 3) := by decide +kernel
theorem dX6_lapsOver_4 : decode cX6_lapsOver 4 = .ok (.sipush 400, 3) := by decide +kernel
theorem dX6_lapsOver_7 : decode cX6_lapsOver 7 = .ok (.idiv, 1) := by decide +kernel
theorem dX6_lapsOver_8 : decode cX6_lapsOver 8 = .ok (.ireturn, 1) := by decide +kernel
theorem dX6_partOfCourse_0 : decode cX6_partOfCourse 0 = .ok (.aload_n 0, 1) := by decide +kernel
theorem dX6_partOfCourse_1 : decode cX6_partOfCourse 1 = .ok (.getfield 27, 3) := by decide +kernel
theorem dX6_partOfCourse_4 : decode cX6_partOfCourse 4 = .ok (.sipush 400, 3) := by decide +kernel
theorem dX6_partOfCourse_7 : decode cX6_partOfCourse 7 = .ok (.irem, 1) := by decide +kernel
theorem dX6_partOfCourse_8 : decode cX6_partOfCourse 8 = .ok (.bipush 100, 2) := by decide +kernel
theorem dX6_partOfCourse_10 : decode cX6_partOfCourse 10 = .ok (.idiv, 1) := by decide +kernel
theorem dX6_partOfCourse_11 : decode cX6_partOfCourse 11 = .ok (.istore_n 1, 1) := by decide +kernel
theorem dX6_partOfCourse_12 : decode cX6_partOfCourse 12 = .ok (.aload_n 0, 1) := by decide +kernel
theorem dX6_partOfCourse_13 : decode cX6_partOfCourse 13 = .ok (.getfield 27, 3) := by decide +kernel
theorem dX6_partOfCourse_16 : decode cX6_partOfCourse 16 = .ok (.bipush 100, 2) := by decide +kernel
theorem dX6_partOfCourse_18 : decode cX6_partOfCourse 18 = .ok (.irem, 1) := by decide +kernel
theorem dX6_partOfCourse_19 : decode cX6_partOfCourse 19 = .ok (.bipush 70, 2) := by decide +kernel
theorem dX6_partOfCourse_21 : decode cX6_partOfCourse 21 = .ok (.if_icmp .ge 7, 3) := by decide +kernel
theorem dX6_partOfCourse_24 : decode cX6_partOfCourse 24 = .ok (.iload_n 1, 1) := by decide +kernel
theorem dX6_partOfCourse_25 : decode cX6_partOfCourse 25 = .ok (.goto 6, 3) := by decide +kernel
theorem dX6_partOfCourse_28 : decode cX6_partOfCourse 28 = .ok (.iload_n 1, 1) := by decide +kernel
theorem dX6_partOfCourse_29 : decode cX6_partOfCourse 29 = .ok (.iconst 4, 1) := by decide +kernel
theorem dX6_partOfCourse_30 : decode cX6_partOfCourse 30 = .ok (.iadd, 1) := by decide +kernel
theorem dX6_partOfCourse_31 : decode cX6_partOfCourse 31 = .ok (.ireturn, 1) := by decide +kernel
theorem dX6_isAheadOf_0 : decode cX6_isAheadOf 0 = .ok (.aload_n 0, 1) := by decide +kernel
theorem dX6_isAheadOf_1 : decode cX6_isAheadOf 1 = .ok (.getfield 42, 3) := by decide +kernel
theorem dX6_isAheadOf_4 : decode cX6_isAheadOf 4 = .ok (.iconst 3, 1) := by decide +kernel
theorem dX6_isAheadOf_5 : decode cX6_isAheadOf 5 = .ok (.if_icmp .ne 7, 3) := by decide +kernel
theorem dX6_isAheadOf_8 : decode cX6_isAheadOf 8 = .ok (.iconst 1, 1) := by decide +kernel
theorem dX6_isAheadOf_9 : decode cX6_isAheadOf 9 = .ok (.goto 4, 3) := by decide +kernel
theorem dX6_isAheadOf_12 : decode cX6_isAheadOf 12 = .ok (.iconst 0, 1) := by decide +kernel
theorem dX6_isAheadOf_13 : decode cX6_isAheadOf 13 = .ok (.istore_n 2, 1) := by decide +kernel
theorem dX6_isAheadOf_14 : decode cX6_isAheadOf 14 = .ok (.aload_n 1, 1) := by decide +kernel
theorem dX6_isAheadOf_15 : decode cX6_isAheadOf 15 = .ok (.getfield 42, 3) := by decide +kernel
theorem dX6_isAheadOf_18 : decode cX6_isAheadOf 18 = .ok (.iconst 3, 1) := by decide +kernel
theorem dX6_isAheadOf_19 : decode cX6_isAheadOf 19 = .ok (.if_icmp .ne 7, 3) := by decide +kernel
theorem dX6_isAheadOf_22 : decode cX6_isAheadOf 22 = .ok (.iconst 1, 1) := by decide +kernel
theorem dX6_isAheadOf_23 : decode cX6_isAheadOf 23 = .ok (.goto 4, 3) := by decide +kernel
theorem dX6_isAheadOf_26 : decode cX6_isAheadOf 26 = .ok (.iconst 0, 1) := by decide +kernel
theorem dX6_isAheadOf_27 : decode cX6_isAheadOf 27 = .ok (.istore_n 3, 1) := by decide +kernel
theorem dX6_isAheadOf_28 : decode cX6_isAheadOf 28 = .ok (.iload_n 2, 1) := by decide +kernel
theorem dX6_isAheadOf_29 : decode cX6_isAheadOf 29 = .ok (.ifCond .eq 24, 3) := by decide +kernel
theorem dX6_isAheadOf_32 : decode cX6_isAheadOf 32 = .ok (.iload_n 3, 1) := by decide +kernel
theorem dX6_isAheadOf_33 : decode cX6_isAheadOf 33 = .ok (.ifCond .eq 20, 3) := by decide +kernel
theorem dX6_isAheadOf_36 : decode cX6_isAheadOf 36 = .ok (.aload_n 0, 1) := by decide +kernel
theorem dX6_isAheadOf_37 : decode cX6_isAheadOf 37 = .ok (.getfield 52, 3) := by decide +kernel
theorem dX6_isAheadOf_40 : decode cX6_isAheadOf 40 = .ok (.aload_n 1, 1) := by decide +kernel
theorem dX6_isAheadOf_41 : decode cX6_isAheadOf 41 = .ok (.getfield 52, 3) := by decide +kernel
theorem dX6_isAheadOf_44 : decode cX6_isAheadOf 44 = .ok (.if_icmp .ge 7, 3) := by decide +kernel
theorem dX6_isAheadOf_47 : decode cX6_isAheadOf 47 = .ok (.iconst 1, 1) := by decide +kernel
theorem dX6_isAheadOf_48 : decode cX6_isAheadOf 48 = .ok (.goto 4, 3) := by decide +kernel
theorem dX6_isAheadOf_51 : decode cX6_isAheadOf 51 = .ok (.iconst 0, 1) := by decide +kernel
theorem dX6_isAheadOf_52 : decode cX6_isAheadOf 52 = .ok (.ireturn, 1) := by decide +kernel
theorem dX6_isAheadOf_53 : decode cX6_isAheadOf 53 = .ok (.iload_n 2, 1) := by decide +kernel
theorem dX6_isAheadOf_54 : decode cX6_isAheadOf 54 = .ok (.ifCond .ne 7, 3) := by decide +kernel
theorem dX6_isAheadOf_57 : decode cX6_isAheadOf 57 = .ok (.iload_n 3, 1) := by decide +kernel
theorem dX6_isAheadOf_58 : decode cX6_isAheadOf 58 = .ok (.ifCond .eq 5, 3) := by decide +kernel
theorem dX6_isAheadOf_61 : decode cX6_isAheadOf 61 = .ok (.iload_n 2, 1) := by decide +kernel
theorem dX6_isAheadOf_62 : decode cX6_isAheadOf 62 = .ok (.ireturn, 1) := by decide +kernel
theorem dX6_isAheadOf_63 : decode cX6_isAheadOf 63 = .ok (.aload_n 0, 1) := by decide +kernel
theorem dX6_isAheadOf_64 : decode cX6_isAheadOf 64 = .ok (.getfield 27, 3) := by decide +kernel
theorem dX6_isAheadOf_67 : decode cX6_isAheadOf 67 = .ok (.aload_n 1, 1) := by decide +kernel
theorem dX6_isAheadOf_68 : decode cX6_isAheadOf 68 = .ok (.getfield 27, 3) := by decide +kernel
theorem dX6_isAheadOf_71 : decode cX6_isAheadOf 71 = .ok (.if_icmp .gt 25, 3) := by decide +kernel
theorem dX6_isAheadOf_74 : decode cX6_isAheadOf 74 = .ok (.aload_n 0, 1) := by decide +kernel
theorem dX6_isAheadOf_75 : decode cX6_isAheadOf 75 = .ok (.getfield 27, 3) := by decide +kernel
theorem dX6_isAheadOf_78 : decode cX6_isAheadOf 78 = .ok (.aload_n 1, 1) := by decide +kernel
theorem dX6_isAheadOf_79 : decode cX6_isAheadOf 79 = .ok (.getfield 27, 3) := by decide +kernel
theorem dX6_isAheadOf_82 : decode cX6_isAheadOf 82 = .ok (.if_icmp .ne 18, 3) := by decide +kernel
theorem dX6_isAheadOf_85 : decode cX6_isAheadOf 85 = .ok (.aload_n 0, 1) := by decide +kernel
theorem dX6_isAheadOf_86 : decode cX6_isAheadOf 86 = .ok (.getfield 9, 3) := by decide +kernel
theorem dX6_isAheadOf_89 : decode cX6_isAheadOf 89 = .ok (.aload_n 1, 1) := by decide +kernel
theorem dX6_isAheadOf_90 : decode cX6_isAheadOf 90 = .ok (.getfield 9, 3) := by decide +kernel
theorem dX6_isAheadOf_93 : decode cX6_isAheadOf 93 = .ok (.if_icmp .ge 7, 3) := by decide +kernel
theorem dX6_isAheadOf_96 : decode cX6_isAheadOf 96 = .ok (.iconst 1, 1) := by decide +kernel
theorem dX6_isAheadOf_97 : decode cX6_isAheadOf 97 = .ok (.goto 4, 3) := by decide +kernel
theorem dX6_isAheadOf_100 : decode cX6_isAheadOf 100 = .ok (.iconst 0, 1) := by decide +kernel
theorem dX6_isAheadOf_101 : decode cX6_isAheadOf 101 = .ok (.ireturn, 1) := by decide +kernel
theorem dX6_feetBehind_0 : decode cX6_feetBehind 0 = .ok (.aload_n 1, 1) := by decide +kernel
theorem dX6_feetBehind_1 : decode cX6_feetBehind 1 = .ok (.getfield 27, 3) := by decide +kernel
theorem dX6_feetBehind_4 : decode cX6_feetBehind 4 = .ok (.aload_n 0, 1) := by decide +kernel
theorem dX6_feetBehind_5 : decode cX6_feetBehind 5 = .ok (.getfield 27, 3) := by decide +kernel
theorem dX6_feetBehind_8 : decode cX6_feetBehind 8 = .ok (.isub, 1) := by decide +kernel
theorem dX6_feetBehind_9 : decode cX6_feetBehind 9 = .ok (.sipush 400, 3) := by decide +kernel
theorem dX6_feetBehind_12 : decode cX6_feetBehind 12 = .ok (.irem, 1) := by decide +kernel
theorem dX6_feetBehind_13 : decode cX6_feetBehind 13 = .ok (.istore_n 2, 1) := by decide +kernel
theorem dX6_feetBehind_14 : decode cX6_feetBehind 14 = .ok (.iload_n 2, 1) := by decide +kernel
theorem dX6_feetBehind_15 : decode cX6_feetBehind 15 = .ok (.ifCond .le 7, 3) := by decide +kernel
theorem dX6_feetBehind_18 : decode cX6_feetBehind 18 = .ok (.iload_n 2, 1) := by decide +kernel
theorem dX6_feetBehind_19 : decode cX6_feetBehind 19 = .ok (.goto 8, 3) := by decide +kernel
theorem dX6_feetBehind_22 : decode cX6_feetBehind 22 = .ok (.iload_n 2, 1) := by decide +kernel
theorem dX6_feetBehind_23 : decode cX6_feetBehind 23 = .ok (.sipush 400, 3) := by decide +kernel
theorem dX6_feetBehind_26 : decode cX6_feetBehind 26 = .ok (.iadd, 1) := by decide +kernel
theorem dX6_feetBehind_27 : decode cX6_feetBehind 27 = .ok (.ireturn, 1) := by decide +kernel
theorem dX6_flyWithStrength_0 : decode cX6_flyWithStrength 0 = .ok (.iload_n 1, 1) := by decide +kernel
theorem dX6_flyWithStrength_1 : decode cX6_flyWithStrength 1 = .ok (.iload_n 1, 1) := by decide +kernel
theorem dX6_flyWithStrength_2 : decode cX6_flyWithStrength 2 = .ok (.imul, 1) := by decide +kernel
theorem dX6_flyWithStrength_3 : decode cX6_flyWithStrength 3 = .ok (.bipush 40, 2) := by decide +kernel
theorem dX6_flyWithStrength_5 : decode cX6_flyWithStrength 5 = .ok (.idiv, 1) := by decide +kernel
theorem dX6_flyWithStrength_6 : decode cX6_flyWithStrength 6 = .ok (.iconst 1, 1) := by decide +kernel
theorem dX6_flyWithStrength_7 : decode cX6_flyWithStrength 7 = .ok (.iadd, 1) := by decide +kernel
theorem dX6_flyWithStrength_8 : decode cX6_flyWithStrength 8 = .ok (.istore_n 3, 1) := by decide +kernel
theorem dX6_flyWithStrength_9 : decode cX6_flyWithStrength 9 = .ok (.iload_n 2, 1) := by decide +kernel
theorem dX6_flyWithStrength_10 : decode cX6_flyWithStrength 10 = .ok (.ifCond .eq 9, 3) := by decide +kernel
theorem dX6_flyWithStrength_13 : decode cX6_flyWithStrength 13 = .ok (.iload_n 3, 1) := by decide +kernel
theorem dX6_flyWithStrength_14 : decode cX6_flyWithStrength 14 = .ok (.iconst 3, 1) := by decide +kernel
theorem dX6_flyWithStrength_15 : decode cX6_flyWithStrength 15 = .ok (.imul, 1) := by decide +kernel
theorem dX6_flyWithStrength_16 : decode cX6_flyWithStrength 16 = .ok (.iconst 5, 1) := by decide +kernel
theorem dX6_flyWithStrength_17 : decode cX6_flyWithStrength 17 = .ok (.idiv, 1) := by decide +kernel
theorem dX6_flyWithStrength_18 : decode cX6_flyWithStrength 18 = .ok (.istore_n 3, 1) := by decide +kernel
theorem dX6_flyWithStrength_19 : decode cX6_flyWithStrength 19 = .ok (.aload_n 0, 1) := by decide +kernel
theorem dX6_flyWithStrength_20 : decode cX6_flyWithStrength 20 = .ok (.getfield 33, 3) := by decide +kernel
theorem dX6_flyWithStrength_23 : decode cX6_flyWithStrength 23 = .ok (.iload_n 3, 1) := by decide +kernel
theorem dX6_flyWithStrength_24 : decode cX6_flyWithStrength 24 = .ok (.if_icmp .ge 14, 3) := by decide +kernel
theorem dX6_flyWithStrength_27 : decode cX6_flyWithStrength 27 = .ok (.iload_n 1, 1) := by decide +kernel
theorem dX6_flyWithStrength_28 : decode cX6_flyWithStrength 28 = .ok (.iconst 4, 1) := by decide +kernel
theorem dX6_flyWithStrength_29 : decode cX6_flyWithStrength 29 = .ok (.if_icmp .ge 7, 3) := by decide +kernel
theorem dX6_flyWithStrength_32 : decode cX6_flyWithStrength 32 = .ok (.iload_n 1, 1) := by decide +kernel
theorem dX6_flyWithStrength_33 : decode cX6_flyWithStrength 33 = .ok (.goto 4, 3) := by decide +kernel
theorem dX6_flyWithStrength_36 : decode cX6_flyWithStrength 36 = .ok (.iconst 4, 1) := by decide +kernel
theorem dX6_flyWithStrength_37 : decode cX6_flyWithStrength 37 = .ok (.ireturn, 1) := by decide +kernel
theorem dX6_flyWithStrength_38 : decode cX6_flyWithStrength 38 = .ok (.aload_n 0, 1) := by decide +kernel
theorem dX6_flyWithStrength_39 : decode cX6_flyWithStrength 39 = .ok (.dup, 1) := by decide +kernel
theorem dX6_flyWithStrength_40 : decode cX6_flyWithStrength 40 = .ok (.getfield 33, 3) := by decide +kernel
theorem dX6_flyWithStrength_43 : decode cX6_flyWithStrength 43 = .ok (.iload_n 3, 1) := by decide +kernel
theorem dX6_flyWithStrength_44 : decode cX6_flyWithStrength 44 = .ok (.isub, 1) := by decide +kernel
theorem dX6_flyWithStrength_45 : decode cX6_flyWithStrength 45 = .ok (.putfield 33, 3) := by decide +kernel
theorem dX6_flyWithStrength_48 : decode cX6_flyWithStrength 48 = .ok (.iload_n 1, 1) := by decide +kernel
theorem dX6_flyWithStrength_49 : decode cX6_flyWithStrength 49 = .ok (.ireturn, 1) := by decide +kernel
theorem dX6_goToNest_0 : decode cX6_goToNest 0 = .ok (.aload_n 0, 1) := by decide +kernel
theorem dX6_goToNest_1 : decode cX6_goToNest 1 = .ok (.iconst 2, 1) := by decide +kernel
theorem dX6_goToNest_2 : decode cX6_goToNest 2 = .ok (.putfield 42, 3) := by decide +kernel
theorem dX6_goToNest_5 : decode cX6_goToNest 5 = .ok (.aload_n 0, 1) := by decide +kernel
theorem dX6_goToNest_6 : decode cX6_goToNest 6 = .ok (.bipush 12, 2) := by decide +kernel
theorem dX6_goToNest_8 : decode cX6_goToNest 8 = .ok (.putfield 45, 3) := by decide +kernel
theorem dX6_goToNest_11 : decode cX6_goToNest 11 = .ok (.aload_n 0, 1) := by decide +kernel
theorem dX6_goToNest_12 : decode cX6_goToNest 12 = .ok (.iconst 0, 1) := by decide +kernel
theorem dX6_goToNest_13 : decode cX6_goToNest 13 = .ok (.putfield 48, 3) := by decide +kernel
theorem dX6_goToNest_16 : decode cX6_goToNest 16 = .ok (.aload_n 0, 1) := by decide +kernel
theorem dX6_goToNest_17 : decode cX6_goToNest 17 = .ok (.iconst 0, 1) := by decide +kernel
theorem dX6_goToNest_18 : decode cX6_goToNest 18 = .ok (.putfield 36, 3) := by decide +kernel
theorem dX6_goToNest_21 : decode cX6_goToNest 21 = .ok (.aload_n 0, 1) := by decide +kernel
theorem dX6_goToNest_22 : decode cX6_goToNest 22 = .ok (.aload_n 0, 1) := by decide +kernel
theorem dX6_goToNest_23 : decode cX6_goToNest 23 = .ok (.getfield 33, 3) := by decide +kernel
theorem dX6_goToNest_26 : decode cX6_goToNest 26 = .ok (.sipush 300, 3) := by decide +kernel
theorem dX6_goToNest_29 : decode cX6_goToNest 29 = .ok (.iadd, 1) := by decide +kernel
theorem dX6_goToNest_30 : decode cX6_goToNest 30 = .ok (.sipush 999, 3) := by decide +kernel
theorem dX6_goToNest_33 : decode cX6_goToNest 33 = .ok (.if_icmp .ge 14, 3) := by decide +kernel
theorem dX6_goToNest_36 : decode cX6_goToNest 36 = .ok (.aload_n 0, 1) := by decide +kernel
theorem dX6_goToNest_37 : decode cX6_goToNest 37 = .ok (.getfield 33, 3) := by decide +kernel
theorem dX6_goToNest_40 : decode cX6_goToNest 40 = .ok (.sipush 300, 3) := by decide +kernel
theorem dX6_goToNest_43 : decode cX6_goToNest 43 = .ok (.iadd, 1) := by decide +kernel
theorem dX6_goToNest_44 : decode cX6_goToNest 44 = .ok (.goto 6, 3) := by decide +kernel
theorem dX6_goToNest_47 : decode cX6_goToNest 47 = .ok (.sipush 999, 3) := by decide +kernel
theorem dX6_goToNest_50 : decode cX6_goToNest 50 = .ok (.putfield 33, 3) := by decide +kernel
theorem dX6_goToNest_53 : decode cX6_goToNest 53 = .ok (.return_, 1) := by decide +kernel
theorem dX6_startsTurnFlying_0 : decode cX6_startsTurnFlying 0 = .ok (.aload_n 0, 1) := by decide +kernel
theorem dX6_startsTurnFlying_1 : decode cX6_startsTurnFlying 1 = .ok (.iconst 0, 1) := by decide +kernel
theorem dX6_startsTurnFlying_2 : decode cX6_startsTurnFlying 2 = .ok (.putfield 30, 3) := by decide +kernel
theorem dX6_startsTurnFlying_5 : decode cX6_startsTurnFlying 5 = .ok (.aload_n 0, 1) := by decide +kernel
theorem dX6_startsTurnFlying_6 : decode cX6_startsTurnFlying 6 = .ok (.getfield 42, 3) := by decide +kernel
theorem dX6_startsTurnFlying_9 : decode cX6_startsTurnFlying 9 = .ok (.iconst 1, 1) := by decide +kernel
theorem dX6_startsTurnFlying_10 : decode cX6_startsTurnFlying 10 = .ok (.if_icmp .ne 7, 3) := by decide +kernel
theorem dX6_startsTurnFlying_13 : decode cX6_startsTurnFlying 13 = .ok (.iconst 1, 1) := by decide +kernel
theorem dX6_startsTurnFlying_14 : decode cX6_startsTurnFlying 14 = .ok (.goto 4, 3) := by decide +kernel
theorem dX6_startsTurnFlying_17 : decode cX6_startsTurnFlying 17 = .ok (.iconst 0, 1) := by decide +kernel
theorem dX6_startsTurnFlying_18 : decode cX6_startsTurnFlying 18 = .ok (.istore_n 1, 1) := by decide +kernel
theorem dX6_startsTurnFlying_19 : decode cX6_startsTurnFlying 19 = .ok (.aload_n 0, 1) := by decide +kernel
theorem dX6_startsTurnFlying_20 : decode cX6_startsTurnFlying 20 = .ok (.getfield 42, 3) := by decide +kernel
theorem dX6_startsTurnFlying_23 : decode cX6_startsTurnFlying 23 = .ok (.iconst 2, 1) := by decide +kernel
theorem dX6_startsTurnFlying_24 : decode cX6_startsTurnFlying 24 = .ok (.if_icmp .ne 29, 3) := by decide +kernel
theorem dX6_startsTurnFlying_27 : decode cX6_startsTurnFlying 27 = .ok (.aload_n 0, 1) := by decide +kernel
theorem dX6_startsTurnFlying_28 : decode cX6_startsTurnFlying 28 = .ok (.dup, 1) := by decide +kernel
theorem dX6_startsTurnFlying_29 : decode cX6_startsTurnFlying 29 = .ok (.getfield 45, 3) := by decide +kernel
theorem dX6_startsTurnFlying_32 : decode cX6_startsTurnFlying 32 = .ok (.iconst 1, 1) := by decide +kernel
theorem dX6_startsTurnFlying_33 : decode cX6_startsTurnFlying 33 = .ok (.isub, 1) := by decide +kernel
theorem dX6_startsTurnFlying_34 : decode cX6_startsTurnFlying 34 = .ok (.putfield 45, 3) := by decide +kernel
theorem dX6_startsTurnFlying_37 : decode cX6_startsTurnFlying 37 = .ok (.aload_n 0, 1) := by decide +kernel
theorem dX6_startsTurnFlying_38 : decode cX6_startsTurnFlying 38 = .ok (.aload_n 0, 1) := by decide +kernel
theorem dX6_startsTurnFlying_39 : decode cX6_startsTurnFlying 39 = .ok (.getfield 45, 3) := by decide +kernel
theorem dX6_startsTurnFlying_42 : decode cX6_startsTurnFlying 42 = .ok (.ifCond .le 7, 3) := by decide +kernel
theorem dX6_startsTurnFlying_45 : decode cX6_startsTurnFlying 45 = .ok (.iconst 2, 1) := by decide +kernel
theorem dX6_startsTurnFlying_46 : decode cX6_startsTurnFlying 46 = .ok (.goto 4, 3) := by decide +kernel
theorem dX6_startsTurnFlying_49 : decode cX6_startsTurnFlying 49 = .ok (.iconst 1, 1) := by decide +kernel
theorem dX6_startsTurnFlying_50 : decode cX6_startsTurnFlying 50 = .ok (.putfield 42, 3) := by decide +kernel
theorem dX6_startsTurnFlying_53 : decode cX6_startsTurnFlying 53 = .ok (.iload_n 1, 1) := by decide +kernel
theorem dX6_startsTurnFlying_54 : decode cX6_startsTurnFlying 54 = .ok (.ireturn, 1) := by decide +kernel
theorem dX7_init_0 : decode cX7_init 0 = .ok (.aload_n 0, 1) := by decide +kernel
theorem dX7_init_1 : decode cX7_init 1 = .ok (.invokespecial 1, 3) := by decide +kernel
theorem dX7_init_4 : decode cX7_init 4 = .ok (.aload_n 0, 1) := by decide +kernel
theorem dX7_init_5 : decode cX7_init 5 = .ok (.new 7, 3) := by decide +kernel
theorem dX7_init_8 : decode cX7_init 8 = .ok (.dup, 1) := by decide +kernel
theorem dX7_init_9 : decode cX7_init 9 = .ok (.invokespecial 9, 3) := by decide +kernel
theorem dX7_init_12 : decode cX7_init 12 = .ok (.putfield 10, 3) := by decide +kernel
theorem dX7_init_15 : decode cX7_init 15 = .ok (.aload_n 0, 1) := by decide +kernel
theorem dX7_init_16 : decode cX7_init 16 = .ok (.new 7, 3) := by decide +kernel
theorem dX7_init_19 : decode cX7_init 19 = .ok (.dup, 1) := by decide +kernel
theorem dX7_init_20 : decode cX7_init 20 = .ok (.invokespecial 9, 3) := by decide +kernel
theorem dX7_init_23 : decode cX7_init 23 = .ok (.putfield 16, 3) := by decide +kernel
theorem dX7_init_26 : decode cX7_init 26 = .ok (.aload_n 0, 1) := by decide +kernel
theorem dX7_init_27 : decode cX7_init 27 = .ok (.new 19, 3) := by decide +kernel
theorem dX7_init_30 : decode cX7_init 30 = .ok (.dup, 1) := by decide +kernel
theorem dX7_init_31 : decode cX7_init 31 = .ok (.invokespecial 21, 3) := by decide +kernel
theorem dX7_init_34 : decode cX7_init 34 = .ok (.putfield 22, 3) := by decide +kernel
theorem dX7_init_37 : decode cX7_init 37 = .ok (.aload_n 0, 1) := by decide +kernel
theorem dX7_init_38 : decode cX7_init 38 = .ok (.new 26, 3) := by decide +kernel
theorem dX7_init_41 : decode cX7_init 41 = .ok (.dup, 1) := by decide +kernel
theorem dX7_init_42 : decode cX7_init 42 = .ok (.invokespecial 28, 3) := by decide +kernel
theorem dX7_init_45 : decode cX7_init 45 = .ok (.putfield 29, 3) := by decide +kernel
theorem dX7_init_48 : decode cX7_init 48 = .ok (.aload_n 0, 1) := by decide +kernel
theorem dX7_init_49 : decode cX7_init 49 = .ok (.new 33, 3) := by decide +kernel
theorem dX7_init_52 : decode cX7_init 52 = .ok (.dup, 1) := by decide +kernel
theorem dX7_init_53 : decode cX7_init 53 = .ok (.invokespecial 35, 3) := by decide +kernel
theorem dX7_init_56 : decode cX7_init 56 = .ok (.putfield 36, 3) := by decide +kernel
theorem dX7_init_59 : decode cX7_init 59 = .ok (.aload_n 0, 1) := by decide +kernel
theorem dX7_init_60 : decode cX7_init 60 = .ok (.new 40, 3) := by decide +kernel
theorem dX7_init_63 : decode cX7_init 63 = .ok (.dup, 1) := by decide +kernel
theorem dX7_init_64 : decode cX7_init 64 = .ok (.invokespecial 42, 3) := by decide +kernel
theorem dX7_init_67 : decode cX7_init 67 = .ok (.putfield 43, 3) := by decide +kernel
theorem dX7_init_70 : decode cX7_init 70 = .ok (.return_, 1) := by decide +kernel
theorem dX7_enter_0 : decode cX7_enter 0 = .ok (.iload_n 1, 1) := by decide +kernel
theorem dX7_enter_1 : decode cX7_enter 1 = .ok (.invokestatic 47, 3) := by decide +kernel
theorem dX7_enter_4 : decode cX7_enter 4 = .ok (.ifCond .eq 25, 3) := by decide +kernel
theorem dX7_enter_7 : decode cX7_enter 7 = .ok (.iload_n 2, 1) := by decide +kernel
theorem dX7_enter_8 : decode cX7_enter 8 = .ok (.bipush 100, 2) := by decide +kernel
theorem dX7_enter_10 : decode cX7_enter 10 = .ok (.if_icmp .lt 19, 3) := by decide +kernel
theorem dX7_enter_13 : decode cX7_enter 13 = .ok (.iload_n 2, 1) := by decide +kernel
theorem dX7_enter_14 : decode cX7_enter 14 = .ok (.sipush 999, 3) := by decide +kernel
theorem dX7_enter_17 : decode cX7_enter 17 = .ok (.if_icmp .gt 12, 3) := by decide +kernel
theorem dX7_enter_20 : decode cX7_enter 20 = .ok (.iload_n 3, 1) := by decide +kernel
theorem dX7_enter_21 : decode cX7_enter 21 = .ok (.ifCond .lt 8, 3) := by decide +kernel
theorem dX7_enter_24 : decode cX7_enter 24 = .ok (.iload_n 3, 1) := by decide +kernel
theorem dX7_enter_25 : decode cX7_enter 25 = .ok (.iconst 1, 1) := by decide +kernel
theorem dX7_enter_26 : decode cX7_enter 26 = .ok (.if_icmp .le 13, 3) := by decide +kernel
theorem dX7_enter_29 : decode cX7_enter 29 = .ok (.new 51, 3) := by decide +kernel
theorem dX7_enter_32 : decode cX7_enter 32 = .ok (.dup, 1) := by decide +kernel
theorem dX7_enter_33 : decode cX7_enter 33 = .ok (.ldc 53, 2) := by decide +kernel
theorem dX7_enter_35 : decode cX7_enter 35 = .ok (.invokespecial 55, 3) := by decide +kernel
theorem dX7_enter_38 : decode cX7_enter 38 = .ok (.athrow, 1) := by decide +kernel
theorem dX7_enter_39 : decode cX7_enter 39 = .ok (.aload_n 0, 1) := by decide +kernel
theorem dX7_enter_40 : decode cX7_enter 40 = .ok (.getfield 10, 3) := by decide +kernel
theorem dX7_enter_43 : decode cX7_enter 43 = .ok (.getfield 58, 3) := by decide +kernel
theorem dX7_enter_46 : decode cX7_enter 46 = .ok (.bipush 8, 2) := by decide +kernel
theorem dX7_enter_48 : decode cX7_enter 48 = .ok (.if_icmp .ge 13, 3) := by decide +kernel
theorem dX7_enter_51 : decode cX7_enter 51 = .ok (.aload_n 0, 1) := by decide +kernel
theorem dX7_enter_52 : decode cX7_enter 52 = .ok (.getfield 10, 3) := by decide +kernel
theorem dX7_enter_55 : decode cX7_enter 55 = .ok (.getfield 62, 3) := by decide +kernel
theorem dX7_enter_58 : decode cX7_enter 58 = .ok (.ifCond .eq 13, 3) := by decide +kernel
theorem dX7_enter_61 : decode cX7_enter 61 = .ok (.new 66, 3) := by decide +kernel
theorem dX7_enter_64 : decode cX7_enter 64 = .ok (.dup, 1) := by decide +kernel
theorem dX7_enter_65 : decode cX7_enter 65 = .ok (.ldc 68, 2) := by decide +kernel
theorem dX7_enter_67 : decode cX7_enter 67 = .ok (.invokespecial 70, 3) := by decide +kernel
theorem dX7_enter_70 : decode cX7_enter 70 = .ok (.athrow, 1) := by decide +kernel
theorem dX7_enter_71 : decode cX7_enter 71 = .ok (.aload_n 0, 1) := by decide +kernel
theorem dX7_enter_72 : decode cX7_enter 72 = .ok (.getfield 22, 3) := by decide +kernel
theorem dX7_enter_75 : decode cX7_enter 75 = .ok (.aload_n 0, 1) := by decide +kernel
theorem dX7_enter_76 : decode cX7_enter 76 = .ok (.getfield 10, 3) := by decide +kernel
theorem dX7_enter_79 : decode cX7_enter 79 = .ok (.invokevirtual 71, 3) := by decide +kernel
theorem dX7_enter_82 : decode cX7_enter 82 = .ok (.aload_n 0, 1) := by decide +kernel
theorem dX7_enter_83 : decode cX7_enter 83 = .ok (.getfield 10, 3) := by decide +kernel
theorem dX7_enter_86 : decode cX7_enter 86 = .ok (.iload_n 1, 1) := by decide +kernel
theorem dX7_enter_87 : decode cX7_enter 87 = .ok (.iload_n 2, 1) := by decide +kernel
theorem dX7_enter_88 : decode cX7_enter 88 = .ok (.iload_n 3, 1) := by decide +kernel
theorem dX7_enter_89 : decode cX7_enter 89 = .ok (.invokevirtual 75, 3) := by decide +kernel
theorem dX7_enter_92 : decode cX7_enter 92 = .ok (.ireturn, 1) := by decide +kernel
theorem dX7_setPace_0 : decode cX7_setPace 0 = .ok (.aload_n 0, 1) := by decide +kernel
theorem dX7_setPace_1 : decode cX7_setPace 1 = .ok (.iload_n 1, 1) := by decide +kernel
theorem dX7_setPace_2 : decode cX7_setPace 2 = .ok (.invokevirtual 79, 3) := by decide +kernel
theorem dX7_setPace_5 : decode cX7_setPace 5 = .ok (.astore_n 3, 1) := by decide +kernel
theorem dX7_setPace_6 : decode cX7_setPace 6 = .ok (.iload_n 2, 1) := by decide +kernel
theorem dX7_setPace_7 : decode cX7_setPace 7 = .ok (.invokestatic 83, 3) := by decide +kernel
theorem dX7_setPace_10 : decode cX7_setPace 10 = .ok (.aload_n 0, 1) := by decide +kernel
theorem dX7_setPace_11 : decode cX7_setPace 11 = .ok (.getfield 22, 3) := by decide +kernel
theorem dX7_setPace_14 : decode cX7_setPace 14 = .ok (.aload_n 0, 1) := by decide +kernel
theorem dX7_setPace_15 : decode cX7_setPace 15 = .ok (.getfield 10, 3) := by decide +kernel
theorem dX7_setPace_18 : decode cX7_setPace 18 = .ok (.invokevirtual 71, 3) := by decide +kernel
theorem dX7_setPace_21 : decode cX7_setPace 21 = .ok (.aload_n 3, 1) := by decide +kernel
theorem dX7_setPace_22 : decode cX7_setPace 22 = .ok (.getfield 87, 3) := by decide +kernel
theorem dX7_setPace_25 : decode cX7_setPace 25 = .ok (.istore 4, 2) := by decide +kernel
theorem dX7_setPace_27 : decode cX7_setPace 27 = .ok (.aload_n 3, 1) := by decide +kernel
theorem dX7_setPace_28 : decode cX7_setPace 28 = .ok (.iload_n 2, 1) := by decide +kernel
theorem dX7_setPace_29 : decode cX7_setPace 29 = .ok (.putfield 87, 3) := by decide +kernel
theorem dX7_setPace_32 : decode cX7_setPace 32 = .ok (.iload 4, 2) := by decide +kernel
theorem dX7_setPace_34 : decode cX7_setPace 34 = .ok (.ireturn, 1) := by decide +kernel
theorem dX7_callIn_0 : decode cX7_callIn 0 = .ok (.aload_n 0, 1) := by decide +kernel
theorem dX7_callIn_1 : decode cX7_callIn 1 = .ok (.iload_n 1, 1) := by decide +kernel
theorem dX7_callIn_2 : decode cX7_callIn 2 = .ok (.invokevirtual 79, 3) := by decide +kernel
theorem dX7_callIn_5 : decode cX7_callIn 5 = .ok (.astore_n 2, 1) := by decide +kernel
theorem dX7_callIn_6 : decode cX7_callIn 6 = .ok (.aload_n 2, 1) := by decide +kernel
theorem dX7_callIn_7 : decode cX7_callIn 7 = .ok (.getfield 92, 3) := by decide +kernel
theorem dX7_callIn_10 : decode cX7_callIn 10 = .ok (.iconst 3, 1) := by decide +kernel
theorem dX7_callIn_11 : decode cX7_callIn 11 = .ok (.if_icmp .ne 13, 3) := by decide +kernel
theorem dX7_callIn_14 : decode cX7_callIn 14 = .ok (.new 66, 3) := by decide +kernel
theorem dX7_callIn_17 : decode cX7_callIn 17 = .ok (.dup, 1) := by decide +kernel
theorem dX7_callIn_18 : decode cX7_callIn 18 = .ok (.ldc 95, 2) := by decide +kernel
theorem dX7_callIn_20 : decode cX7_callIn 20 = .ok (.invokespecial 70, 3) := by decide +kernel
theorem dX7_callIn_23 : decode cX7_callIn 23 = .ok (.athrow, 1) := by decide +kernel
theorem dX7_callIn_24 : decode cX7_callIn 24 = .ok (.aload_n 0, 1) := by decide +kernel
theorem dX7_callIn_25 : decode cX7_callIn 25 = .ok (.getfield 22, 3) := by decide +kernel
theorem dX7_callIn_28 : decode cX7_callIn 28 = .ok (.aload_n 0, 1) := by decide +kernel
theorem dX7_callIn_29 : decode cX7_callIn 29 = .ok (.getfield 10, 3) := by decide +kernel
theorem dX7_callIn_32 : decode cX7_callIn 32 = .ok (.invokevirtual 71, 3) := by decide +kernel
theorem dX7_callIn_35 : decode cX7_callIn 35 = .ok (.aload_n 2, 1) := by decide +kernel
theorem dX7_callIn_36 : decode cX7_callIn 36 = .ok (.aload_n 2, 1) := by decide +kernel
theorem dX7_callIn_37 : decode cX7_callIn 37 = .ok (.getfield 97, 3) := by decide +kernel
theorem dX7_callIn_40 : decode cX7_callIn 40 = .ok (.ifCond .ne 7, 3) := by decide +kernel
theorem dX7_callIn_43 : decode cX7_callIn 43 = .ok (.iconst 1, 1) := by decide +kernel
theorem dX7_callIn_44 : decode cX7_callIn 44 = .ok (.goto 4, 3) := by decide +kernel
theorem dX7_callIn_47 : decode cX7_callIn 47 = .ok (.iconst 0, 1) := by decide +kernel
theorem dX7_callIn_48 : decode cX7_callIn 48 = .ok (.putfield 97, 3) := by decide +kernel
theorem dX7_callIn_51 : decode cX7_callIn 51 = .ok (.aload_n 2, 1) := by decide +kernel
theorem dX7_callIn_52 : decode cX7_callIn 52 = .ok (.getfield 97, 3) := by decide +kernel
theorem dX7_callIn_55 : decode cX7_callIn 55 = .ok (.ireturn, 1) := by decide +kernel
theorem dX7_pair_0 : decode cX7_pair 0 = .ok (.aload_n 0, 1) := by decide +kernel
theorem dX7_pair_1 : decode cX7_pair 1 = .ok (.iload_n 1, 1) := by decide +kernel
theorem dX7_pair_2 : decode cX7_pair 2 = .ok (.invokevirtual 79, 3) := by decide +kernel
theorem dX7_pair_5 : decode cX7_pair 5 = .ok (.astore_n 3, 1) := by decide +kernel
theorem dX7_pair_6 : decode cX7_pair 6 = .ok (.aload_n 0, 1) := by decide +kernel
theorem dX7_pair_7 : decode cX7_pair 7 = .ok (.iload_n 2, 1) := by decide +kernel
theorem dX7_pair_8 : decode cX7_pair 8 = .ok (.invokevirtual 79, 3) := by decide +kernel
theorem dX7_pair_11 : decode cX7_pair 11 = .ok (.astore 4, 2) := by decide +kernel
theorem dX7_pair_13 : decode cX7_pair 13 = .ok (.iload_n 1, 1) := by decide +kernel
theorem dX7_pair_14 : decode cX7_pair 14 = .ok (.iload_n 2, 1) := by decide +kernel
theorem dX7_pair_15 : decode cX7_pair 15 = .ok (.if_icmp .ne 13, 3) := by decide +kernel
theorem dX7_pair_18 : decode cX7_pair 18 = .ok (.new 51, 3) := by decide +kernel
theorem dX7_pair_21 : decode cX7_pair 21 = .ok (.dup, 1) := by decide +kernel
theorem dX7_pair_22 : decode cX7_pair 22 = .ok (.ldc 100, 2) := by decide +kernel
theorem dX7_pair_24 : decode cX7_pair 24 = .ok (.invokespecial 55, 3) := by decide +kernel
theorem dX7_pair_27 : decode cX7_pair 27 = .ok (.athrow, 1) := by decide +kernel
theorem dX7_pair_28 : decode cX7_pair 28 = .ok (.aload_n 0, 1) := by decide +kernel
theorem dX7_pair_29 : decode cX7_pair 29 = .ok (.getfield 22, 3) := by decide +kernel
theorem dX7_pair_32 : decode cX7_pair 32 = .ok (.aload_n 0, 1) := by decide +kernel
theorem dX7_pair_33 : decode cX7_pair 33 = .ok (.getfield 10, 3) := by decide +kernel
theorem dX7_pair_36 : decode cX7_pair 36 = .ok (.invokevirtual 71, 3) := by decide +kernel
theorem dX7_pair_39 : decode cX7_pair 39 = .ok (.aload_n 0, 1) := by decide +kernel
theorem dX7_pair_40 : decode cX7_pair 40 = .ok (.getfield 10, 3) := by decide +kernel
theorem dX7_pair_43 : decode cX7_pair 43 = .ok (.aload_n 3, 1) := by decide +kernel
theorem dX7_pair_44 : decode cX7_pair 44 = .ok (.aload 4, 2) := by decide +kernel
theorem dX7_pair_46 : decode cX7_pair 46 = .ok (.invokevirtual 102, 3) := by decide +kernel
theorem dX7_pair_49 : decode cX7_pair 49 = .ok (.aload_n 0, 1) := by decide +kernel
theorem dX7_pair_50 : decode cX7_pair 50 = .ok (.getfield 10, 3) := by decide +kernel
theorem dX7_pair_53 : decode cX7_pair 53 = .ok (.invokevirtual 106, 3) := by decide +kernel
theorem dX7_pair_56 : decode cX7_pair 56 = .ok (.ireturn, 1) := by decide +kernel
theorem dX7_setLimit_0 : decode cX7_setLimit 0 = .ok (.iload_n 1, 1) := by decide +kernel
theorem dX7_setLimit_1 : decode cX7_setLimit 1 = .ok (.invokestatic 110, 3) := by decide +kernel
theorem dX7_setLimit_4 : decode cX7_setLimit 4 = .ok (.iload_n 2, 1) := by decide +kernel
theorem dX7_setLimit_5 : decode cX7_setLimit 5 = .ok (.bipush 8, 2) := by decide +kernel
theorem dX7_setLimit_7 : decode cX7_setLimit 7 = .ok (.if_icmp .lt 9, 3) := by decide +kernel
theorem dX7_setLimit_10 : decode cX7_setLimit 10 = .ok (.iload_n 2, 1) := by decide +kernel
theorem dX7_setLimit_11 : decode cX7_setLimit 11 = .ok (.bipush 40, 2) := by decide +kernel
theorem dX7_setLimit_13 : decode cX7_setLimit 13 = .ok (.if_icmp .le 13, 3) := by decide +kernel
theorem dX7_setLimit_16 : decode cX7_setLimit 16 = .ok (.new 51, 3) := by decide +kernel
theorem dX7_setLimit_19 : decode cX7_setLimit 19 = .ok (.dup, 1) := by decide +kernel
theorem dX7_setLimit_20 : decode cX7_setLimit 20 = .ok (.ldc 113, 2) := by decide +kernel
theorem dX7_setLimit_22 : decode cX7_setLimit 22 = .ok (.invokespecial 55, 3) := by decide +kernel
theorem dX7_setLimit_25 : decode cX7_setLimit 25 = .ok (.athrow, 1) := by decide +kernel
theorem dX7_setLimit_26 : decode cX7_setLimit 26 = .ok (.aload_n 0, 1) := by decide +kernel
theorem dX7_setLimit_27 : decode cX7_setLimit 27 = .ok (.getfield 22, 3) := by decide +kernel
theorem dX7_setLimit_30 : decode cX7_setLimit 30 = .ok (.aload_n 0, 1) := by decide +kernel
theorem dX7_setLimit_31 : decode cX7_setLimit 31 = .ok (.getfield 10, 3) := by decide +kernel
theorem dX7_setLimit_34 : decode cX7_setLimit 34 = .ok (.invokevirtual 71, 3) := by decide +kernel
theorem dX7_setLimit_37 : decode cX7_setLimit 37 = .ok (.aload_n 0, 1) := by decide +kernel
theorem dX7_setLimit_38 : decode cX7_setLimit 38 = .ok (.getfield 10, 3) := by decide +kernel
theorem dX7_setLimit_41 : decode cX7_setLimit 41 = .ok (.iload_n 1, 1) := by decide +kernel
theorem dX7_setLimit_42 : decode cX7_setLimit 42 = .ok (.invokevirtual 115, 3) := by decide +kernel
theorem dX7_setLimit_45 : decode cX7_setLimit 45 = .ok (.istore_n 3, 1) := by decide +kernel
theorem dX7_setLimit_46 : decode cX7_setLimit 46 = .ok (.aload_n 0, 1) := by decide +kernel
theorem dX7_setLimit_47 : decode cX7_setLimit 47 = .ok (.getfield 10, 3) := by decide +kernel
theorem dX7_setLimit_50 : decode cX7_setLimit 50 = .ok (.iload_n 1, 1) := by decide +kernel
theorem dX7_setLimit_51 : decode cX7_setLimit 51 = .ok (.iload_n 2, 1) := by decide +kernel
theorem dX7_setLimit_52 : decode cX7_setLimit 52 = .ok (.invokevirtual 119, 3) := by decide +kernel
theorem dX7_setLimit_55 : decode cX7_setLimit 55 = .ok (.iload_n 3, 1) := by decide +kernel
theorem dX7_setLimit_56 : decode cX7_setLimit 56 = .ok (.ireturn, 1) := by decide +kernel
theorem dX7_setLaps_0 : decode cX7_setLaps 0 = .ok (.iload_n 1, 1) := by decide +kernel
theorem dX7_setLaps_1 : decode cX7_setLaps 1 = .ok (.iconst 1, 1) := by decide +kernel
theorem dX7_setLaps_2 : decode cX7_setLaps 2 = .ok (.if_icmp .lt 9, 3) := by decide +kernel
theorem dX7_setLaps_5 : decode cX7_setLaps 5 = .ok (.iload_n 1, 1) := by decide +kernel
theorem dX7_setLaps_6 : decode cX7_setLaps 6 = .ok (.bipush 9, 2) := by decide +kernel
theorem dX7_setLaps_8 : decode cX7_setLaps 8 = .ok (.if_icmp .le 13, 3) := by decide +kernel
theorem dX7_setLaps_11 : decode cX7_setLaps 11 = .ok (.new 51, 3) := by decide +kernel
theorem dX7_setLaps_14 : decode cX7_setLaps 14 = .ok (.dup, 1) := by decide +kernel
theorem dX7_setLaps_15 : decode cX7_setLaps 15 = .ok (.ldc 123, 2) := by decide +kernel
theorem dX7_setLaps_17 : decode cX7_setLaps 17 = .ok (.invokespecial 55, 3) := by decide +kernel
theorem dX7_setLaps_20 : decode cX7_setLaps 20 = .ok (.athrow, 1) := by decide +kernel
theorem dX7_setLaps_21 : decode cX7_setLaps 21 = .ok (.aload_n 0, 1) := by decide +kernel
theorem dX7_setLaps_22 : decode cX7_setLaps 22 = .ok (.getfield 10, 3) := by decide +kernel
theorem dX7_setLaps_25 : decode cX7_setLaps 25 = .ok (.getfield 62, 3) := by decide +kernel
theorem dX7_setLaps_28 : decode cX7_setLaps 28 = .ok (.ifCond .eq 13, 3) := by decide +kernel
theorem dX7_setLaps_31 : decode cX7_setLaps 31 = .ok (.new 66, 3) := by decide +kernel
theorem dX7_setLaps_34 : decode cX7_setLaps 34 = .ok (.dup, 1) := by decide +kernel
theorem dX7_setLaps_35 : decode cX7_setLaps 35 = .ok (.ldc 125, 2) := by decide +kernel
theorem dX7_setLaps_37 : decode cX7_setLaps 37 = .ok (.invokespecial 70, 3) := by decide +kernel
theorem dX7_setLaps_40 : decode cX7_setLaps 40 = .ok (.athrow, 1) := by decide +kernel
theorem dX7_setLaps_41 : decode cX7_setLaps 41 = .ok (.aload_n 0, 1) := by decide +kernel
theorem dX7_setLaps_42 : decode cX7_setLaps 42 = .ok (.getfield 22, 3) := by decide +kernel
theorem dX7_setLaps_45 : decode cX7_setLaps 45 = .ok (.aload_n 0, 1) := by decide +kernel
theorem dX7_setLaps_46 : decode cX7_setLaps 46 = .ok (.getfield 10, 3) := by decide +kernel
theorem dX7_setLaps_49 : decode cX7_setLaps 49 = .ok (.invokevirtual 71, 3) := by decide +kernel
theorem dX7_setLaps_52 : decode cX7_setLaps 52 = .ok (.aload_n 0, 1) := by decide +kernel
theorem dX7_setLaps_53 : decode cX7_setLaps 53 = .ok (.getfield 10, 3) := by decide +kernel
theorem dX7_setLaps_56 : decode cX7_setLaps 56 = .ok (.getfield 127, 3) := by decide +kernel
theorem dX7_setLaps_59 : decode cX7_setLaps 59 = .ok (.istore_n 2, 1) := by decide +kernel
theorem dX7_setLaps_60 : decode cX7_setLaps 60 = .ok (.aload_n 0, 1) := by decide +kernel
theorem dX7_setLaps_61 : decode cX7_setLaps 61 = .ok (.getfield 10, 3) := by decide +kernel
theorem dX7_setLaps_64 : decode cX7_setLaps 64 = .ok (.iload_n 1, 1) := by decide +kernel
theorem dX7_setLaps_65 : decode cX7_setLaps 65 = .ok (.putfield 127, 3) := by decide +kernel
theorem dX7_setLaps_68 : decode cX7_setLaps 68 = .ok (.iload_n 2, 1) := by decide +kernel
theorem dX7_setLaps_69 : decode cX7_setLaps 69 = .ok (.ireturn, 1) := by decide +kernel
theorem dX7_begin_0 : decode cX7_begin 0 = .ok (.aload_n 0, 1) := by decide +kernel
theorem dX7_begin_1 : decode cX7_begin 1 = .ok (.getfield 10, 3) := by decide +kernel
theorem dX7_begin_4 : decode cX7_begin 4 = .ok (.getfield 58, 3) := by decide +kernel
theorem dX7_begin_7 : decode cX7_begin 7 = .ok (.ifCond .ne 13, 3) := by decide +kernel
theorem dX7_begin_10 : decode cX7_begin 10 = .ok (.new 66, 3) := by decide +kernel
theorem dX7_begin_13 : decode cX7_begin 13 = .ok (.dup, 1) := by decide +kernel
theorem dX7_begin_14 : decode cX7_begin 14 = .ok (.ldc 130, 2) := by decide +kernel
theorem dX7_begin_16 : decode cX7_begin 16 = .ok (.invokespecial 70, 3) := by decide +kernel
theorem dX7_begin_19 : decode cX7_begin 19 = .ok (.athrow, 1) := by decide +kernel
theorem dX7_begin_20 : decode cX7_begin 20 = .ok (.aload_n 0, 1) := by decide +kernel
theorem dX7_begin_21 : decode cX7_begin 21 = .ok (.getfield 22, 3) := by decide +kernel
theorem dX7_begin_24 : decode cX7_begin 24 = .ok (.aload_n 0, 1) := by decide +kernel
theorem dX7_begin_25 : decode cX7_begin 25 = .ok (.getfield 10, 3) := by decide +kernel
theorem dX7_begin_28 : decode cX7_begin 28 = .ok (.invokevirtual 71, 3) := by decide +kernel
theorem dX7_begin_31 : decode cX7_begin 31 = .ok (.aload_n 0, 1) := by decide +kernel
theorem dX7_begin_32 : decode cX7_begin 32 = .ok (.getfield 10, 3) := by decide +kernel
theorem dX7_begin_35 : decode cX7_begin 35 = .ok (.invokevirtual 132, 3) := by decide +kernel
theorem dX7_begin_38 : decode cX7_begin 38 = .ok (.aload_n 0, 1) := by decide +kernel
theorem dX7_begin_39 : decode cX7_begin 39 = .ok (.getfield 10, 3) := by decide +kernel
theorem dX7_begin_42 : decode cX7_begin 42 = .ok (.getfield 58, 3) := by decide +kernel
theorem dX7_begin_45 : decode cX7_begin 45 = .ok (.ireturn, 1) := by decide +kernel
theorem dX7_pass_0 : decode cX7_pass 0 = .ok (.iload_n 1, 1) := by decide +kernel
theorem dX7_pass_1 : decode cX7_pass 1 = .ok (.invokestatic 135, 3) := by decide +kernel
theorem dX7_pass_4 : decode cX7_pass 4 = .ok (.aload_n 0, 1) := by decide +kernel
theorem dX7_pass_5 : decode cX7_pass 5 = .ok (.invokevirtual 138, 3) := by decide +kernel
theorem dX7_pass_8 : decode cX7_pass 8 = .ok (.aload_n 0, 1) := by decide +kernel
theorem dX7_pass_9 : decode cX7_pass 9 = .ok (.getfield 22, 3) := by decide +kernel
theorem dX7_pass_12 : decode cX7_pass 12 = .ok (.aload_n 0, 1) := by decide +kernel
theorem dX7_pass_13 : decode cX7_pass 13 = .ok (.getfield 10, 3) := by decide +kernel
theorem dX7_pass_16 : decode cX7_pass 16 = .ok (.invokevirtual 71, 3) := by decide +kernel
theorem dX7_pass_19 : decode cX7_pass 19 = .ok (.aload_n 0, 1) := by decide +kernel
theorem dX7_pass_20 : decode cX7_pass 20 = .ok (.getfield 10, 3) := by decide +kernel
theorem dX7_pass_23 : decode cX7_pass 23 = .ok (.getfield 141, 3) := by decide +kernel
theorem dX7_pass_26 : decode cX7_pass 26 = .ok (.istore_n 2, 1) := by decide +kernel
theorem dX7_pass_27 : decode cX7_pass 27 = .ok (.aload_n 0, 1) := by decide +kernel
theorem dX7_pass_28 : decode cX7_pass 28 = .ok (.getfield 10, 3) := by decide +kernel
theorem dX7_pass_31 : decode cX7_pass 31 = .ok (.iload_n 1, 1) := by decide +kernel
theorem dX7_pass_32 : decode cX7_pass 32 = .ok (.invokevirtual 144, 3) := by decide +kernel
theorem dX7_pass_35 : decode cX7_pass 35 = .ok (.aload_n 0, 1) := by decide +kernel
theorem dX7_pass_36 : decode cX7_pass 36 = .ok (.getfield 10, 3) := by decide +kernel
theorem dX7_pass_39 : decode cX7_pass 39 = .ok (.getfield 141, 3) := by decide +kernel
theorem dX7_pass_42 : decode cX7_pass 42 = .ok (.iload_n 2, 1) := by decide +kernel
theorem dX7_pass_43 : decode cX7_pass 43 = .ok (.isub, 1) := by decide +kernel
theorem dX7_pass_44 : decode cX7_pass 44 = .ok (.ireturn, 1) := by decide +kernel
theorem dX7_append_0 : decode cX7_append 0 = .ok (.iload_n 1, 1) := by decide +kernel
theorem dX7_append_1 : decode cX7_append 1 = .ok (.bipush 33, 2) := by decide +kernel
theorem dX7_append_3 : decode cX7_append 3 = .ok (.if_icmp .lt 9, 3) := by decide +kernel
theorem dX7_append_6 : decode cX7_append 6 = .ok (.iload_n 1, 1) := by decide +kernel
theorem dX7_append_7 : decode cX7_append 7 = .ok (.bipush 126, 2) := by decide +kernel
theorem dX7_append_9 : decode cX7_append 9 = .ok (.if_icmp .le 13, 3) := by decide +kernel
theorem dX7_append_12 : decode cX7_append 12 = .ok (.new 51, 3) := by decide +kernel
theorem dX7_append_15 : decode cX7_append 15 = .ok (.dup, 1) := by decide +kernel
theorem dX7_append_16 : decode cX7_append 16 = .ok (.ldc 147, 2) := by decide +kernel
theorem dX7_append_18 : decode cX7_append 18 = .ok (.invokespecial 55, 3) := by decide +kernel
theorem dX7_append_21 : decode cX7_append 21 = .ok (.athrow, 1) := by decide +kernel
theorem dX7_append_22 : decode cX7_append 22 = .ok (.aload_n 0, 1) := by decide +kernel
theorem dX7_append_23 : decode cX7_append 23 = .ok (.getfield 36, 3) := by decide +kernel
theorem dX7_append_26 : decode cX7_append 26 = .ok (.invokevirtual 149, 3) := by decide +kernel
theorem dX7_append_29 : decode cX7_append 29 = .ok (.ifCond .eq 13, 3) := by decide +kernel
theorem dX7_append_32 : decode cX7_append 32 = .ok (.new 66, 3) := by decide +kernel
theorem dX7_append_35 : decode cX7_append 35 = .ok (.dup, 1) := by decide +kernel
theorem dX7_append_36 : decode cX7_append 36 = .ok (.ldc 153, 2) := by decide +kernel
theorem dX7_append_38 : decode cX7_append 38 = .ok (.invokespecial 70, 3) := by decide +kernel
theorem dX7_append_41 : decode cX7_append 41 = .ok (.athrow, 1) := by decide +kernel
theorem dX7_append_42 : decode cX7_append 42 = .ok (.aload_n 0, 1) := by decide +kernel
theorem dX7_append_43 : decode cX7_append 43 = .ok (.getfield 36, 3) := by decide +kernel
theorem dX7_append_46 : decode cX7_append 46 = .ok (.iload_n 1, 1) := by decide +kernel
theorem dX7_append_47 : decode cX7_append 47 = .ok (.i2c, 1) := by decide +kernel
theorem dX7_append_48 : decode cX7_append 48 = .ok (.invokevirtual 155, 3) := by decide +kernel
theorem dX7_append_51 : decode cX7_append 51 = .ok (.aload_n 0, 1) := by decide +kernel
theorem dX7_append_52 : decode cX7_append 52 = .ok (.getfield 36, 3) := by decide +kernel
theorem dX7_append_55 : decode cX7_append 55 = .ok (.getfield 159, 3) := by decide +kernel
theorem dX7_append_58 : decode cX7_append 58 = .ok (.ireturn, 1) := by decide +kernel
theorem dX7_clearBuffer_0 : decode cX7_clearBuffer 0 = .ok (.aload_n 0, 1) := by decide +kernel
theorem dX7_clearBuffer_1 : decode cX7_clearBuffer 1 = .ok (.getfield 36, 3) := by decide +kernel
theorem dX7_clearBuffer_4 : decode cX7_clearBuffer 4 = .ok (.getfield 159, 3) := by decide +kernel
theorem dX7_clearBuffer_7 : decode cX7_clearBuffer 7 = .ok (.istore_n 1, 1) := by decide +kernel
theorem dX7_clearBuffer_8 : decode cX7_clearBuffer 8 = .ok (.aload_n 0, 1) := by decide +kernel
theorem dX7_clearBuffer_9 : decode cX7_clearBuffer 9 = .ok (.getfield 36, 3) := by decide +kernel
theorem dX7_clearBuffer_12 : decode cX7_clearBuffer 12 = .ok (.iconst 0, 1) := by decide +kernel
theorem dX7_clearBuffer_13 : decode cX7_clearBuffer 13 = .ok (.putfield 159, 3) := by decide +kernel
theorem dX7_clearBuffer_16 : decode cX7_clearBuffer 16 = .ok (.iload_n 1, 1) := by decide +kernel
theorem dX7_clearBuffer_17 : decode cX7_clearBuffer 17 = .ok (.ireturn, 1) := by decide +kernel
theorem dX7_firstError_0 : decode cX7_firstError 0 = .ok (.aload_n 0, 1) := by decide +kernel
theorem dX7_firstError_1 : decode cX7_firstError 1 = .ok (.invokevirtual 162, 3) := by decide +kernel
theorem dX7_firstError_4 : decode cX7_firstError 4 = .ok (.ireturn, 1) := by decide +kernel
theorem dX7_follow_0 : decode cX7_follow 0 = .ok (.aload_n 0, 1) := by decide +kernel
theorem dX7_follow_1 : decode cX7_follow 1 = .ok (.invokevirtual 162, 3) := by decide +kernel
theorem dX7_follow_4 : decode cX7_follow 4 = .ok (.aload_n 0, 1) := by decide +kernel
theorem dX7_follow_5 : decode cX7_follow 5 = .ok (.getfield 36, 3) := by decide +kernel
theorem dX7_follow_8 : decode cX7_follow 8 = .ok (.getfield 159, 3) := by decide +kernel
theorem dX7_follow_11 : decode cX7_follow 11 = .ok (.if_icmp .lt 13, 3) := by decide +kernel
theorem dX7_follow_14 : decode cX7_follow 14 = .ok (.aload_n 0, 1) := by decide +kernel
theorem dX7_follow_15 : decode cX7_follow 15 = .ok (.getfield 43, 3) := by decide +kernel
theorem dX7_follow_18 : decode cX7_follow 18 = .ok (.invokevirtual 165, 3) := by decide +kernel
theorem dX7_follow_21 : decode cX7_follow 21 = .ok (.ifCond .ne 13, 3) := by decide +kernel
theorem dX7_follow_24 : decode cX7_follow 24 = .ok (.new 51, 3) := by decide +kernel
theorem dX7_follow_27 : decode cX7_follow 27 = .ok (.dup, 1) := by decide +kernel
theorem dX7_follow_28 : decode cX7_follow 28 = .ok (.ldc 168, 2) := by decide +kernel
theorem dX7_follow_30 : decode cX7_follow 30 = .ok (.invokespecial 55, 3) := by decide +kernel
theorem dX7_follow_33 : decode cX7_follow 33 = .ok (.athrow, 1) := by decide +kernel
theorem dX7_follow_34 : decode cX7_follow 34 = .ok (.aload_n 0, 1) := by decide +kernel
theorem dX7_follow_35 : decode cX7_follow 35 = .ok (.invokevirtual 170, 3) := by decide +kernel
theorem dX7_follow_38 : decode cX7_follow 38 = .ok (.istore_n 1, 1) := by decide +kernel
theorem dX7_follow_39 : decode cX7_follow 39 = .ok (.iload_n 1, 1) := by decide +kernel
theorem dX7_follow_40 : decode cX7_follow 40 = .ok (.iconst (-1), 1) := by decide +kernel
theorem dX7_follow_41 : decode cX7_follow 41 = .ok (.if_icmp .ne 13, 3) := by decide +kernel
theorem dX7_follow_44 : decode cX7_follow 44 = .ok (.new 66, 3) := by decide +kernel
theorem dX7_follow_47 : decode cX7_follow 47 = .ok (.dup, 1) := by decide +kernel
theorem dX7_follow_48 : decode cX7_follow 48 = .ok (.ldc 173, 2) := by decide +kernel
theorem dX7_follow_50 : decode cX7_follow 50 = .ok (.invokespecial 70, 3) := by decide +kernel
theorem dX7_follow_53 : decode cX7_follow 53 = .ok (.athrow, 1) := by decide +kernel
theorem dX7_follow_54 : decode cX7_follow 54 = .ok (.aload_n 0, 1) := by decide +kernel
theorem dX7_follow_55 : decode cX7_follow 55 = .ok (.getfield 22, 3) := by decide +kernel
theorem dX7_follow_58 : decode cX7_follow 58 = .ok (.aload_n 0, 1) := by decide +kernel
theorem dX7_follow_59 : decode cX7_follow 59 = .ok (.getfield 10, 3) := by decide +kernel
theorem dX7_follow_62 : decode cX7_follow 62 = .ok (.invokevirtual 71, 3) := by decide +kernel
theorem dX7_follow_65 : decode cX7_follow 65 = .ok (.aload_n 0, 1) := by decide +kernel
theorem dX7_follow_66 : decode cX7_follow 66 = .ok (.getfield 10, 3) := by decide +kernel
theorem dX7_follow_69 : decode cX7_follow 69 = .ok (.aload_n 0, 1) := by decide +kernel
theorem dX7_follow_70 : decode cX7_follow 70 = .ok (.getfield 16, 3) := by decide +kernel
theorem dX7_follow_73 : decode cX7_follow 73 = .ok (.invokevirtual 175, 3) := by decide +kernel
theorem dX7_follow_76 : decode cX7_follow 76 = .ok (.aload_n 0, 1) := by decide +kernel
theorem dX7_follow_77 : decode cX7_follow 77 = .ok (.getfield 36, 3) := by decide +kernel
theorem dX7_follow_80 : decode cX7_follow 80 = .ok (.iconst 0, 1) := by decide +kernel
theorem dX7_follow_81 : decode cX7_follow 81 = .ok (.putfield 159, 3) := by decide +kernel
theorem dX7_follow_84 : decode cX7_follow 84 = .ok (.iload_n 1, 1) := by decide +kernel
theorem dX7_follow_85 : decode cX7_follow 85 = .ok (.ireturn, 1) := by decide +kernel
theorem dX7_keep_0 : decode cX7_keep 0 = .ok (.iload_n 1, 1) := by decide +kernel
