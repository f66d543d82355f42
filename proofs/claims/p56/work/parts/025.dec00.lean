theorem dX0_init_0 : decode cX0_init 0 = .ok (.aload_n 0, 1) := by decide +kernel
theorem dX0_init_1 : decode cX0_init 1 = .ok (.invokespecial 1, 3) := by decide +kernel
theorem dX0_init_4 : decode cX0_init 4 = .ok (.aload_n 0, 1) := by decide +kernel
theorem dX0_init_5 : decode cX0_init 5 = .ok (.ldc2_w 7, 3) := by decide +kernel
theorem dX0_init_8 : decode cX0_init 8 = .ok (.putfield 9, 3) := by decide +kernel
theorem dX0_init_11 : decode cX0_init 11 = .ok (.return_, 1) := by decide +kernel
theorem dX0_add_0 : decode cX0_add 0 = .ok (.aload_n 0, 1) := by decide +kernel
theorem dX0_add_1 : decode cX0_add 1 = .ok (.ldc2_w 15, 3) := by decide +kernel
theorem dX0_add_4 : decode cX0_add 4 = .ok (.aload_n 0, 1) := by decide +kernel
theorem dX0_add_5 : decode cX0_add 5 = .ok (.getfield 9, 3) := by decide +kernel
theorem dX0_add_8 : decode cX0_add 8 = .ok (.lmul, 1) := by decide +kernel
theorem dX0_add_9 : decode cX0_add 9 = .ok (.lload_n 1, 1) := by decide +kernel
theorem dX0_add_10 : decode cX0_add 10 = .ok (.ladd, 1) := by decide +kernel
theorem dX0_add_11 : decode cX0_add 11 = .ok (.putfield 9, 3) := by decide +kernel
theorem dX0_add_14 : decode cX0_add 14 = .ok (.return_, 1) := by decide +kernel
theorem dX1_init_0 : decode cX1_init 0 = .ok (.aload_n 0, 1) := by decide +kernel
theorem dX1_init_1 : decode cX1_init 1 = .ok (.invokespecial 3, 3) := by decide +kernel
theorem dX1_init_4 : decode cX1_init 4 = .ok (.return_, 1) := by decide +kernel
theorem dX1_start_0 : decode cX1_start 0 = .ok (.aload_n 0, 1) := by decide +kernel
theorem dX1_start_1 : decode cX1_start 1 = .ok (.iconst 0, 1) := by decide +kernel
theorem dX1_start_2 : decode cX1_start 2 = .ok (.putfield 11, 3) := by decide +kernel
theorem dX1_start_5 : decode cX1_start 5 = .ok (.aload_n 0, 1) := by decide +kernel
theorem dX1_start_6 : decode cX1_start 6 = .ok (.bipush 32, 2) := by decide +kernel
theorem dX1_start_8 : decode cX1_start 8 = .ok (.putfield 15, 3) := by decide +kernel
theorem dX1_start_11 : decode cX1_start 11 = .ok (.aload_n 0, 1) := by decide +kernel
theorem dX1_start_12 : decode cX1_start 12 = .ok (.iconst (-1), 1) := by decide +kernel
theorem dX1_start_13 : decode cX1_start 13 = .ok (.putfield 19, 3) := by decide +kernel
theorem dX1_start_16 : decode cX1_start 16 = .ok (.aload_n 0, 1) := by decide +kernel
theorem dX1_start_17 : decode cX1_start 17 = .ok (.iconst 0, 1) := by decide +kernel
theorem dX1_start_18 : decode cX1_start 18 = .ok (.putfield 22, 3) := by decide +kernel
theorem dX1_start_21 : decode cX1_start 21 = .ok (.return_, 1) := by decide +kernel
theorem dX1_accepts_0 : decode cX1_accepts 0 = .ok (.iload_n 1, 1) := by decide +kernel
theorem dX1_accepts_1 : decode cX1_accepts 1 = .ok (.bipush 59, 2) := by decide +kernel
theorem dX1_accepts_3 : decode cX1_accepts 3 = .ok (.if_icmp .ne 18, 3) := by decide +kernel
theorem dX1_accepts_6 : decode cX1_accepts 6 = .ok (.aload_n 0, 1) := by decide +kernel
theorem dX1_accepts_7 : decode cX1_accepts 7 = .ok (.invokevirtual 25, 3) := by decide +kernel
theorem dX1_accepts_10 : decode cX1_accepts 10 = .ok (.ifCond .ne 5, 3) := by decide +kernel
theorem dX1_accepts_13 : decode cX1_accepts 13 = .ok (.iconst 0, 1) := by decide +kernel
theorem dX1_accepts_14 : decode cX1_accepts 14 = .ok (.ireturn, 1) := by decide +kernel
theorem dX1_accepts_15 : decode cX1_accepts 15 = .ok (.aload_n 0, 1) := by decide +kernel
theorem dX1_accepts_16 : decode cX1_accepts 16 = .ok (.invokevirtual 29, 3) := by decide +kernel
theorem dX1_accepts_19 : decode cX1_accepts 19 = .ok (.iconst 1, 1) := by decide +kernel
theorem dX1_accepts_20 : decode cX1_accepts 20 = .ok (.ireturn, 1) := by decide +kernel
theorem dX1_accepts_21 : decode cX1_accepts 21 = .ok (.aload_n 0, 1) := by decide +kernel
theorem dX1_accepts_22 : decode cX1_accepts 22 = .ok (.getfield 11, 3) := by decide +kernel
theorem dX1_accepts_25 : decode cX1_accepts 25 = .ok (.tableswitch 66 0 3 #[31, 37, 43, 60], 31) := by decide +kernel
theorem dX1_accepts_56 : decode cX1_accepts 56 = .ok (.aload_n 0, 1) := by decide +kernel
theorem dX1_accepts_57 : decode cX1_accepts 57 = .ok (.iload_n 1, 1) := by decide +kernel
theorem dX1_accepts_58 : decode cX1_accepts 58 = .ok (.invokevirtual 32, 3) := by decide +kernel
theorem dX1_accepts_61 : decode cX1_accepts 61 = .ok (.ireturn, 1) := by decide +kernel
theorem dX1_accepts_62 : decode cX1_accepts 62 = .ok (.aload_n 0, 1) := by decide +kernel
theorem dX1_accepts_63 : decode cX1_accepts 63 = .ok (.iload_n 1, 1) := by decide +kernel
theorem dX1_accepts_64 : decode cX1_accepts 64 = .ok (.invokevirtual 36, 3) := by decide +kernel
theorem dX1_accepts_67 : decode cX1_accepts 67 = .ok (.ireturn, 1) := by decide +kernel
theorem dX1_accepts_68 : decode cX1_accepts 68 = .ok (.aload_n 0, 1) := by decide +kernel
theorem dX1_accepts_69 : decode cX1_accepts 69 = .ok (.iconst 3, 1) := by decide +kernel
theorem dX1_accepts_70 : decode cX1_accepts 70 = .ok (.putfield 11, 3) := by decide +kernel
theorem dX1_accepts_73 : decode cX1_accepts 73 = .ok (.iload_n 1, 1) := by decide +kernel
theorem dX1_accepts_74 : decode cX1_accepts 74 = .ok (.bipush 61, 2) := by decide +kernel
theorem dX1_accepts_76 : decode cX1_accepts 76 = .ok (.if_icmp .ne 7, 3) := by decide +kernel
theorem dX1_accepts_79 : decode cX1_accepts 79 = .ok (.iconst 1, 1) := by decide +kernel
theorem dX1_accepts_80 : decode cX1_accepts 80 = .ok (.goto 4, 3) := by decide +kernel
theorem dX1_accepts_83 : decode cX1_accepts 83 = .ok (.iconst 0, 1) := by decide +kernel
theorem dX1_accepts_84 : decode cX1_accepts 84 = .ok (.ireturn, 1) := by decide +kernel
theorem dX1_accepts_85 : decode cX1_accepts 85 = .ok (.aload_n 0, 1) := by decide +kernel
theorem dX1_accepts_86 : decode cX1_accepts 86 = .ok (.iload_n 1, 1) := by decide +kernel
theorem dX1_accepts_87 : decode cX1_accepts 87 = .ok (.invokevirtual 39, 3) := by decide +kernel
theorem dX1_accepts_90 : decode cX1_accepts 90 = .ok (.ireturn, 1) := by decide +kernel
theorem dX1_accepts_91 : decode cX1_accepts 91 = .ok (.iconst 0, 1) := by decide +kernel
theorem dX1_accepts_92 : decode cX1_accepts 92 = .ok (.ireturn, 1) := by decide +kernel
theorem dX1_isWhole_0 : decode cX1_isWhole 0 = .ok (.aload_n 0, 1) := by decide +kernel
theorem dX1_isWhole_1 : decode cX1_isWhole 1 = .ok (.getfield 11, 3) := by decide +kernel
theorem dX1_isWhole_4 : decode cX1_isWhole 4 = .ok (.iconst 4, 1) := by decide +kernel
theorem dX1_isWhole_5 : decode cX1_isWhole 5 = .ok (.if_icmp .eq 33, 3) := by decide +kernel
theorem dX1_isWhole_8 : decode cX1_isWhole 8 = .ok (.aload_n 0, 1) := by decide +kernel
theorem dX1_isWhole_9 : decode cX1_isWhole 9 = .ok (.getfield 11, 3) := by decide +kernel
theorem dX1_isWhole_12 : decode cX1_isWhole 12 = .ok (.iconst 3, 1) := by decide +kernel
theorem dX1_isWhole_13 : decode cX1_isWhole 13 = .ok (.if_icmp .ne 29, 3) := by decide +kernel
theorem dX1_isWhole_16 : decode cX1_isWhole 16 = .ok (.aload_n 0, 1) := by decide +kernel
theorem dX1_isWhole_17 : decode cX1_isWhole 17 = .ok (.getfield 22, 3) := by decide +kernel
theorem dX1_isWhole_20 : decode cX1_isWhole 20 = .ok (.aload_n 0, 1) := by decide +kernel
theorem dX1_isWhole_21 : decode cX1_isWhole 21 = .ok (.invokevirtual 42, 3) := by decide +kernel
theorem dX1_isWhole_24 : decode cX1_isWhole 24 = .ok (.if_icmp .lt 18, 3) := by decide +kernel
theorem dX1_isWhole_27 : decode cX1_isWhole 27 = .ok (.aload_n 0, 1) := by decide +kernel
theorem dX1_isWhole_28 : decode cX1_isWhole 28 = .ok (.getfield 22, 3) := by decide +kernel
theorem dX1_isWhole_31 : decode cX1_isWhole 31 = .ok (.aload_n 0, 1) := by decide +kernel
theorem dX1_isWhole_32 : decode cX1_isWhole 32 = .ok (.invokevirtual 46, 3) := by decide +kernel
theorem dX1_isWhole_35 : decode cX1_isWhole 35 = .ok (.if_icmp .gt 7, 3) := by decide +kernel
theorem dX1_isWhole_38 : decode cX1_isWhole 38 = .ok (.iconst 1, 1) := by decide +kernel
theorem dX1_isWhole_39 : decode cX1_isWhole 39 = .ok (.goto 4, 3) := by decide +kernel
theorem dX1_isWhole_42 : decode cX1_isWhole 42 = .ok (.iconst 0, 1) := by decide +kernel
theorem dX1_isWhole_43 : decode cX1_isWhole 43 = .ok (.ireturn, 1) := by decide +kernel
theorem dX1_acceptsKind_0 : decode cX1_acceptsKind 0 = .ok (.aload_n 0, 1) := by decide +kernel
theorem dX1_acceptsKind_1 : decode cX1_acceptsKind 1 = .ok (.iload_n 1, 1) := by decide +kernel
theorem dX1_acceptsKind_2 : decode cX1_acceptsKind 2 = .ok (.putfield 15, 3) := by decide +kernel
theorem dX1_acceptsKind_5 : decode cX1_acceptsKind 5 = .ok (.aload_n 0, 1) := by decide +kernel
theorem dX1_acceptsKind_6 : decode cX1_acceptsKind 6 = .ok (.iload_n 1, 1) := by decide +kernel
theorem dX1_acceptsKind_7 : decode cX1_acceptsKind 7 = .ok (.bipush 116, 2) := by decide +kernel
theorem dX1_acceptsKind_9 : decode cX1_acceptsKind 9 = .ok (.if_icmp .ne 7, 3) := by decide +kernel
theorem dX1_acceptsKind_12 : decode cX1_acceptsKind 12 = .ok (.iconst 3, 1) := by decide +kernel
theorem dX1_acceptsKind_13 : decode cX1_acceptsKind 13 = .ok (.goto 4, 3) := by decide +kernel
theorem dX1_acceptsKind_16 : decode cX1_acceptsKind 16 = .ok (.iconst 1, 1) := by decide +kernel
theorem dX1_acceptsKind_17 : decode cX1_acceptsKind 17 = .ok (.putfield 11, 3) := by decide +kernel
theorem dX1_acceptsKind_20 : decode cX1_acceptsKind 20 = .ok (.iload_n 1, 1) := by decide +kernel
theorem dX1_acceptsKind_21 : decode cX1_acceptsKind 21 = .ok (.bipush 112, 2) := by decide +kernel
theorem dX1_acceptsKind_23 : decode cX1_acceptsKind 23 = .ok (.if_icmp .eq 21, 3) := by decide +kernel
theorem dX1_acceptsKind_26 : decode cX1_acceptsKind 26 = .ok (.iload_n 1, 1) := by decide +kernel
theorem dX1_acceptsKind_27 : decode cX1_acceptsKind 27 = .ok (.bipush 110, 2) := by decide +kernel
theorem dX1_acceptsKind_29 : decode cX1_acceptsKind 29 = .ok (.if_icmp .eq 15, 3) := by decide +kernel
theorem dX1_acceptsKind_32 : decode cX1_acceptsKind 32 = .ok (.iload_n 1, 1) := by decide +kernel
theorem dX1_acceptsKind_33 : decode cX1_acceptsKind 33 = .ok (.bipush 99, 2) := by decide +kernel
theorem dX1_acceptsKind_35 : decode cX1_acceptsKind 35 = .ok (.if_icmp .eq 9, 3) := by decide +kernel
theorem dX1_acceptsKind_38 : decode cX1_acceptsKind 38 = .ok (.iload_n 1, 1) := by decide +kernel
theorem dX1_acceptsKind_39 : decode cX1_acceptsKind 39 = .ok (.bipush 116, 2) := by decide +kernel
theorem dX1_acceptsKind_41 : decode cX1_acceptsKind 41 = .ok (.if_icmp .ne 7, 3) := by decide +kernel
theorem dX1_acceptsKind_44 : decode cX1_acceptsKind 44 = .ok (.iconst 1, 1) := by decide +kernel
theorem dX1_acceptsKind_45 : decode cX1_acceptsKind 45 = .ok (.goto 4, 3) := by decide +kernel
theorem dX1_acceptsKind_48 : decode cX1_acceptsKind 48 = .ok (.iconst 0, 1) := by decide +kernel
theorem dX1_acceptsKind_49 : decode cX1_acceptsKind 49 = .ok (.ireturn, 1) := by decide +kernel
theorem dX1_acceptsTarget_0 : decode cX1_acceptsTarget 0 = .ok (.aload_n 0, 1) := by decide +kernel
theorem dX1_acceptsTarget_1 : decode cX1_acceptsTarget 1 = .ok (.iload_n 1, 1) := by decide +kernel
theorem dX1_acceptsTarget_2 : decode cX1_acceptsTarget 2 = .ok (.bipush 48, 2) := by decide +kernel
theorem dX1_acceptsTarget_4 : decode cX1_acceptsTarget 4 = .ok (.isub, 1) := by decide +kernel
theorem dX1_acceptsTarget_5 : decode cX1_acceptsTarget 5 = .ok (.putfield 19, 3) := by decide +kernel
theorem dX1_acceptsTarget_8 : decode cX1_acceptsTarget 8 = .ok (.aload_n 0, 1) := by decide +kernel
theorem dX1_acceptsTarget_9 : decode cX1_acceptsTarget 9 = .ok (.aload_n 0, 1) := by decide +kernel
theorem dX1_acceptsTarget_10 : decode cX1_acceptsTarget 10 = .ok (.getfield 15, 3) := by decide +kernel
theorem dX1_acceptsTarget_13 : decode cX1_acceptsTarget 13 = .ok (.bipush 110, 2) := by decide +kernel
theorem dX1_acceptsTarget_15 : decode cX1_acceptsTarget 15 = .ok (.if_icmp .ne 7, 3) := by decide +kernel
theorem dX1_acceptsTarget_18 : decode cX1_acceptsTarget 18 = .ok (.iconst 4, 1) := by decide +kernel
theorem dX1_acceptsTarget_19 : decode cX1_acceptsTarget 19 = .ok (.goto 4, 3) := by decide +kernel
theorem dX1_acceptsTarget_22 : decode cX1_acceptsTarget 22 = .ok (.iconst 2, 1) := by decide +kernel
theorem dX1_acceptsTarget_23 : decode cX1_acceptsTarget 23 = .ok (.putfield 11, 3) := by decide +kernel
theorem dX1_acceptsTarget_26 : decode cX1_acceptsTarget 26 = .ok (.aload_n 0, 1) := by decide +kernel
theorem dX1_acceptsTarget_27 : decode cX1_acceptsTarget 27 = .ok (.getfield 19, 3) := by decide +kernel
theorem dX1_acceptsTarget_30 : decode cX1_acceptsTarget 30 = .ok (.ifCond .lt 29, 3) := by decide +kernel
theorem dX1_acceptsTarget_33 : decode cX1_acceptsTarget 33 = .ok (.aload_n 0, 1) := by decide +kernel
theorem dX1_acceptsTarget_34 : decode cX1_acceptsTarget 34 = .ok (.getfield 19, 3) := by decide +kernel
theorem dX1_acceptsTarget_37 : decode cX1_acceptsTarget 37 = .ok (.aload_n 0, 1) := by decide +kernel
theorem dX1_acceptsTarget_38 : decode cX1_acceptsTarget 38 = .ok (.getfield 15, 3) := by decide +kernel
theorem dX1_acceptsTarget_41 : decode cX1_acceptsTarget 41 = .ok (.bipush 99, 2) := by decide +kernel
theorem dX1_acceptsTarget_43 : decode cX1_acceptsTarget 43 = .ok (.if_icmp .ne 7, 3) := by decide +kernel
theorem dX1_acceptsTarget_46 : decode cX1_acceptsTarget 46 = .ok (.iconst 4, 1) := by decide +kernel
theorem dX1_acceptsTarget_47 : decode cX1_acceptsTarget 47 = .ok (.goto 5, 3) := by decide +kernel
theorem dX1_acceptsTarget_50 : decode cX1_acceptsTarget 50 = .ok (.bipush 8, 2) := by decide +kernel
theorem dX1_acceptsTarget_52 : decode cX1_acceptsTarget 52 = .ok (.if_icmp .ge 7, 3) := by decide +kernel
theorem dX1_acceptsTarget_55 : decode cX1_acceptsTarget 55 = .ok (.iconst 1, 1) := by decide +kernel
theorem dX1_acceptsTarget_56 : decode cX1_acceptsTarget 56 = .ok (.goto 4, 3) := by decide +kernel
theorem dX1_acceptsTarget_59 : decode cX1_acceptsTarget 59 = .ok (.iconst 0, 1) := by decide +kernel
theorem dX1_acceptsTarget_60 : decode cX1_acceptsTarget 60 = .ok (.ireturn, 1) := by decide +kernel
theorem dX1_acceptsDigit_0 : decode cX1_acceptsDigit 0 = .ok (.iload_n 1, 1) := by decide +kernel
theorem dX1_acceptsDigit_1 : decode cX1_acceptsDigit 1 = .ok (.bipush 48, 2) := by decide +kernel
theorem dX1_acceptsDigit_3 : decode cX1_acceptsDigit 3 = .ok (.if_icmp .lt 9, 3) := by decide +kernel
theorem dX1_acceptsDigit_6 : decode cX1_acceptsDigit 6 = .ok (.iload_n 1, 1) := by decide +kernel
theorem dX1_acceptsDigit_7 : decode cX1_acceptsDigit 7 = .ok (.bipush 57, 2) := by decide +kernel
theorem dX1_acceptsDigit_9 : decode cX1_acceptsDigit 9 = .ok (.if_icmp .le 5, 3) := by decide +kernel
theorem dX1_acceptsDigit_12 : decode cX1_acceptsDigit 12 = .ok (.iconst 0, 1) := by decide +kernel
theorem dX1_acceptsDigit_13 : decode cX1_acceptsDigit 13 = .ok (.ireturn, 1) := by decide +kernel
theorem dX1_acceptsDigit_14 : decode cX1_acceptsDigit 14 = .ok (.aload_n 0, 1) := by decide +kernel
theorem dX1_acceptsDigit_15 : decode cX1_acceptsDigit 15 = .ok (.aload_n 0, 1) := by decide +kernel
theorem dX1_acceptsDigit_16 : decode cX1_acceptsDigit 16 = .ok (.getfield 22, 3) := by decide +kernel
theorem dX1_acceptsDigit_19 : decode cX1_acceptsDigit 19 = .ok (.bipush 10, 2) := by decide +kernel
theorem dX1_acceptsDigit_21 : decode cX1_acceptsDigit 21 = .ok (.imul, 1) := by decide +kernel
theorem dX1_acceptsDigit_22 : decode cX1_acceptsDigit 22 = .ok (.iload_n 1, 1) := by decide +kernel
theorem dX1_acceptsDigit_23 : decode cX1_acceptsDigit 23 = .ok (.bipush 48, 2) := by decide +kernel
theorem dX1_acceptsDigit_25 : decode cX1_acceptsDigit 25 = .ok (.isub, 1) := by decide +kernel
theorem dX1_acceptsDigit_26 : decode cX1_acceptsDigit 26 = .ok (.iadd, 1) := by decide +kernel
theorem dX1_acceptsDigit_27 : decode cX1_acceptsDigit 27 = .ok (.putfield 22, 3) := by decide +kernel
theorem dX1_acceptsDigit_30 : decode cX1_acceptsDigit 30 = .ok (.aload_n 0, 1) := by decide +kernel
theorem dX1_acceptsDigit_31 : decode cX1_acceptsDigit 31 = .ok (.getfield 22, 3) := by decide +kernel
theorem dX1_acceptsDigit_34 : decode cX1_acceptsDigit 34 = .ok (.ifCond .le 14, 3) := by decide +kernel
theorem dX1_acceptsDigit_37 : decode cX1_acceptsDigit 37 = .ok (.aload_n 0, 1) := by decide +kernel
theorem dX1_acceptsDigit_38 : decode cX1_acceptsDigit 38 = .ok (.invokevirtual 49, 3) := by decide +kernel
theorem dX1_acceptsDigit_41 : decode cX1_acceptsDigit 41 = .ok (.ifCond .eq 7, 3) := by decide +kernel
theorem dX1_acceptsDigit_44 : decode cX1_acceptsDigit 44 = .ok (.iconst 1, 1) := by decide +kernel
theorem dX1_acceptsDigit_45 : decode cX1_acceptsDigit 45 = .ok (.goto 4, 3) := by decide +kernel
theorem dX1_acceptsDigit_48 : decode cX1_acceptsDigit 48 = .ok (.iconst 0, 1) := by decide +kernel
theorem dX1_acceptsDigit_49 : decode cX1_acceptsDigit 49 = .ok (.ireturn, 1) := by decide +kernel
theorem dX1_canBecomeNumber_0 : decode cX1_canBecomeNumber 0 = .ok (.aload_n 0, 1) := by decide +kernel
theorem dX1_canBecomeNumber_1 : decode cX1_canBecomeNumber 1 = .ok (.getfield 22, 3) := by decide +kernel
theorem dX1_canBecomeNumber_4 : decode cX1_canBecomeNumber 4 = .ok (.istore_n 1, 1) := by decide +kernel
theorem dX1_canBecomeNumber_5 : decode cX1_canBecomeNumber 5 = .ok (.aload_n 0, 1) := by decide +kernel
theorem dX1_canBecomeNumber_6 : decode cX1_canBecomeNumber 6 = .ok (.getfield 22, 3) := by decide +kernel
theorem dX1_canBecomeNumber_9 : decode cX1_canBecomeNumber 9 = .ok (.istore_n 2, 1) := by decide +kernel
theorem dX1_canBecomeNumber_10 : decode cX1_canBecomeNumber 10 = .ok (.iconst 0, 1) := by decide +kernel
theorem dX1_canBecomeNumber_11 : decode cX1_canBecomeNumber 11 = .ok (.istore_n 3, 1) := by decide +kernel
theorem dX1_canBecomeNumber_12 : decode cX1_canBecomeNumber 12 = .ok (.iload_n 3, 1) := by decide +kernel
theorem dX1_canBecomeNumber_13 : decode cX1_canBecomeNumber 13 = .ok (.iconst 3, 1) := by decide +kernel
theorem dX1_canBecomeNumber_14 : decode cX1_canBecomeNumber 14 = .ok (.if_icmp .ge 40, 3) := by decide +kernel
theorem dX1_canBecomeNumber_17 : decode cX1_canBecomeNumber 17 = .ok (.iload_n 1, 1) := by decide +kernel
theorem dX1_canBecomeNumber_18 : decode cX1_canBecomeNumber 18 = .ok (.aload_n 0, 1) := by decide +kernel
theorem dX1_canBecomeNumber_19 : decode cX1_canBecomeNumber 19 = .ok (.invokevirtual 46, 3) := by decide +kernel
theorem dX1_canBecomeNumber_22 : decode cX1_canBecomeNumber 22 = .ok (.if_icmp .gt 13, 3) := by decide +kernel
theorem dX1_canBecomeNumber_25 : decode cX1_canBecomeNumber 25 = .ok (.iload_n 2, 1) := by decide +kernel
theorem dX1_canBecomeNumber_26 : decode cX1_canBecomeNumber 26 = .ok (.aload_n 0, 1) := by decide +kernel
theorem dX1_canBecomeNumber_27 : decode cX1_canBecomeNumber 27 = .ok (.invokevirtual 42, 3) := by decide +kernel
theorem dX1_canBecomeNumber_30 : decode cX1_canBecomeNumber 30 = .ok (.if_icmp .lt 5, 3) := by decide +kernel
theorem dX1_canBecomeNumber_33 : decode cX1_canBecomeNumber 33 = .ok (.iconst 1, 1) := by decide +kernel
theorem dX1_canBecomeNumber_34 : decode cX1_canBecomeNumber 34 = .ok (.ireturn, 1) := by decide +kernel
theorem dX1_canBecomeNumber_35 : decode cX1_canBecomeNumber 35 = .ok (.iload_n 1, 1) := by decide +kernel
theorem dX1_canBecomeNumber_36 : decode cX1_canBecomeNumber 36 = .ok (.bipush 10, 2) := by decide +kernel
theorem dX1_canBecomeNumber_38 : decode cX1_canBecomeNumber 38 = .ok (.imul, 1) := by decide +kernel
theorem dX1_canBecomeNumber_39 : decode cX1_canBecomeNumber 39 = .ok (.istore_n 1, 1) := by decide +kernel
theorem dX1_canBecomeNumber_40 : decode cX1_canBecomeNumber 40 = .ok (.iload_n 2, 1) := by decide +kernel
theorem dX1_canBecomeNumber_41 : decode cX1_canBecomeNumber 41 = .ok (.bipush 10, 2) := by decide +kernel
theorem dX1_canBecomeNumber_43 : decode cX1_canBecomeNumber 43 = .ok (.imul, 1) := by decide +kernel
theorem dX1_canBecomeNumber_44 : decode cX1_canBecomeNumber 44 = .ok (.bipush 9, 2) := by decide +kernel
theorem dX1_canBecomeNumber_46 : decode cX1_canBecomeNumber 46 = .ok (.iadd, 1) := by decide +kernel
theorem dX1_canBecomeNumber_47 : decode cX1_canBecomeNumber 47 = .ok (.istore_n 2, 1) := by decide +kernel
theorem dX1_canBecomeNumber_48 : decode cX1_canBecomeNumber 48 = .ok (.iinc 3 1, 3) := by decide +kernel
theorem dX1_canBecomeNumber_51 : decode cX1_canBecomeNumber 51 = .ok (.goto (-39), 3) := by decide +kernel
theorem dX1_canBecomeNumber_54 : decode cX1_canBecomeNumber 54 = .ok (.iconst 0, 1) := by decide +kernel
theorem dX1_canBecomeNumber_55 : decode cX1_canBecomeNumber 55 = .ok (.ireturn, 1) := by decide +kernel
theorem dX1_least_0 : decode cX1_least 0 = .ok (.aload_n 0, 1) := by decide +kernel
theorem dX1_least_1 : decode cX1_least 1 = .ok (.getfield 15, 3) := by decide +kernel
theorem dX1_least_4 : decode cX1_least 4 = .ok (.bipush 112, 2) := by decide +kernel
theorem dX1_least_6 : decode cX1_least 6 = .ok (.if_icmp .ne 8, 3) := by decide +kernel
theorem dX1_least_9 : decode cX1_least 9 = .ok (.bipush 10, 2) := by decide +kernel
theorem dX1_least_11 : decode cX1_least 11 = .ok (.goto 18, 3) := by decide +kernel
theorem dX1_least_14 : decode cX1_least 14 = .ok (.aload_n 0, 1) := by decide +kernel
theorem dX1_least_15 : decode cX1_least 15 = .ok (.getfield 15, 3) := by decide +kernel
theorem dX1_least_18 : decode cX1_least 18 = .ok (.bipush 99, 2) := by decide +kernel
theorem dX1_least_20 : decode cX1_least 20 = .ok (.if_icmp .ne 8, 3) := by decide +kernel
theorem dX1_least_23 : decode cX1_least 23 = .ok (.bipush 8, 2) := by decide +kernel
theorem dX1_least_25 : decode cX1_least 25 = .ok (.goto 4, 3) := by decide +kernel
theorem dX1_least_28 : decode cX1_least 28 = .ok (.iconst 1, 1) := by decide +kernel
theorem dX1_least_29 : decode cX1_least 29 = .ok (.ireturn, 1) := by decide +kernel
theorem dX1_most_0 : decode cX1_most 0 = .ok (.aload_n 0, 1) := by decide +kernel
theorem dX1_most_1 : decode cX1_most 1 = .ok (.getfield 15, 3) := by decide +kernel
theorem dX1_most_4 : decode cX1_most 4 = .ok (.bipush 112, 2) := by decide +kernel
theorem dX1_most_6 : decode cX1_most 6 = .ok (.if_icmp .ne 8, 3) := by decide +kernel
theorem dX1_most_9 : decode cX1_most 9 = .ok (.bipush 40, 2) := by decide +kernel
theorem dX1_most_11 : decode cX1_most 11 = .ok (.goto 20, 3) := by decide +kernel
theorem dX1_most_14 : decode cX1_most 14 = .ok (.aload_n 0, 1) := by decide +kernel
theorem dX1_most_15 : decode cX1_most 15 = .ok (.getfield 15, 3) := by decide +kernel
theorem dX1_most_18 : decode cX1_most 18 = .ok (.bipush 99, 2) := by decide +kernel
theorem dX1_most_20 : decode cX1_most 20 = .ok (.if_icmp .ne 8, 3) := by decide +kernel
theorem dX1_most_23 : decode cX1_most 23 = .ok (.bipush 40, 2) := by decide +kernel
theorem dX1_most_25 : decode cX1_most 25 = .ok (.goto 6, 3) := by decide +kernel
theorem dX1_most_28 : decode cX1_most 28 = .ok (.sipush 200, 3) := by decide +kernel
theorem dX1_most_31 : decode cX1_most 31 = .ok (.ireturn, 1) := by decide +kernel
theorem dX2_init_0 : decode cX2_init 0 = .ok (.aload_n 0, 1) := by decide +kernel
theorem dX2_init_1 : decode cX2_init 1 = .ok (.invokespecial 1, 3) := by decide +kernel
theorem dX2_init_4 : decode cX2_init 4 = .ok (.aload_n 0, 1) := by decide +kernel
theorem dX2_init_5 : decode cX2_init 5 = .ok (.bipush 60, 2) := by decide +kernel
theorem dX2_init_7 : decode cX2_init 7 = .ok (.newarray .char, 2) := by decide +kernel
theorem dX2_init_9 : decode cX2_init 9 = .ok (.putfield 7, 3) := by decide +kernel
theorem dX2_init_12 : decode cX2_init 12 = .ok (.return_, 1) := by decide +kernel
theorem dX2_isFull_0 : decode cX2_isFull 0 = .ok (.aload_n 0, 1) := by decide +kernel
theorem dX2_isFull_1 : decode cX2_isFull 1 = .ok (.getfield 13, 3) := by decide +kernel
theorem dX2_isFull_4 : decode cX2_isFull 4 = .ok (.aload_n 0, 1) := by decide +kernel
theorem dX2_isFull_5 : decode cX2_isFull 5 = .ok (.getfield 7, 3) := by decide +kernel
theorem dX2_isFull_8 : decode cX2_isFull 8 = .ok (.arraylength, 1) := by decide +kernel
theorem dX2_isFull_9 : decode cX2_isFull 9 = .ok (.if_icmp .lt 7, 3) := by decide +kernel
theorem dX2_isFull_12 : decode cX2_isFull 12 = .ok (.iconst 1, 1) := by decide +kernel
theorem dX2_isFull_13 : decode cX2_isFull 13 = .ok (.goto 4, 3) := by decide +kernel
theorem dX2_isFull_16 : decode cX2_isFull 16 = .ok (.iconst 0, 1) := by decide +kernel
theorem dX2_isFull_17 : decode cX2_isFull 17 = .ok (.ireturn, 1) := by decide +kernel
theorem dX2_add_0 : decode cX2_add 0 = .ok (.aload_n 0, 1) := by decide +kernel
theorem dX2_add_1 : decode cX2_add 1 = .ok (.getfield 13, 3) := by decide +kernel
theorem dX2_add_4 : decode cX2_add 4 = .ok (.ifCond .lt 35, 3) := by decide +kernel
theorem dX2_add_7 : decode cX2_add 7 = .ok (.aload_n 0, 1) := by decide +kernel
theorem dX2_add_8 : decode cX2_add 8 = .ok (.getfield 13, 3) := by decide +kernel
theorem dX2_add_11 : decode cX2_add 11 = .ok (.aload_n 0, 1) := by decide +kernel
theorem dX2_add_12 : decode cX2_add 12 = .ok (.getfield 7, 3) := by decide +kernel
theorem dX2_add_15 : decode cX2_add 15 = .ok (.arraylength, 1) := by decide +kernel
theorem dX2_add_16 : decode cX2_add 16 = .ok (.if_icmp .ge 23, 3) := by decide +kernel
theorem dX2_add_19 : decode cX2_add 19 = .ok (.aload_n 0, 1) := by decide +kernel
theorem dX2_add_20 : decode cX2_add 20 = .ok (.getfield 7, 3) := by decide +kernel
theorem dX2_add_23 : decode cX2_add 23 = .ok (.aload_n 0, 1) := by decide +kernel
theorem dX2_add_24 : decode cX2_add 24 = .ok (.getfield 13, 3) := by decide +kernel
theorem dX2_add_27 : decode cX2_add 27 = .ok (.iload_n 1, 1) := by decide +kernel
theorem dX2_add_28 : decode cX2_add 28 = .ok (.castore, 1) := by decide +kernel
theorem dX2_add_29 : decode cX2_add 29 = .ok (.aload_n 0, 1) := by decide +kernel
theorem dX2_add_30 : decode cX2_add 30 = .ok (.dup, 1) := by decide +kernel
theorem dX2_add_31 : decode cX2_add 31 = .ok (.getfield 13, 3) := by decide +kernel
theorem dX2_add_34 : decode cX2_add 34 = .ok (.iconst 1, 1) := by decide +kernel
theorem dX2_add_35 : decode cX2_add 35 = .ok (.iadd, 1) := by decide +kernel
theorem dX2_add_36 : decode cX2_add 36 = .ok (.putfield 13, 3) := by decide +kernel
theorem dX2_add_39 : decode cX2_add 39 = .ok (.return_, 1) := by decide +kernel
theorem dX2_at_0 : decode cX2_at 0 = .ok (.iload_n 1, 1) := by decide +kernel
theorem dX2_at_1 : decode cX2_at 1 = .ok (.ifCond .lt 21, 3) := by decide +kernel
theorem dX2_at_4 : decode cX2_at 4 = .ok (.iload_n 1, 1) := by decide +kernel
theorem dX2_at_5 : decode cX2_at 5 = .ok (.aload_n 0, 1) := by decide +kernel
theorem dX2_at_6 : decode cX2_at 6 = .ok (.getfield 7, 3) := by decide +kernel
theorem dX2_at_9 : decode cX2_at 9 = .ok (.arraylength, 1) := by decide +kernel
theorem dX2_at_10 : decode cX2_at 10 = .ok (.if_icmp .ge 12, 3) := by decide +kernel
theorem dX2_at_13 : decode cX2_at 13 = .ok (.aload_n 0, 1) := by decide +kernel
theorem dX2_at_14 : decode cX2_at 14 = .ok (.getfield 7, 3) := by decide +kernel
theorem dX2_at_17 : decode cX2_at 17 = .ok (.iload_n 1, 1) := by decide +kernel
theorem dX2_at_18 : decode cX2_at 18 = .ok (.caload, 1) := by decide +kernel
theorem dX2_at_19 : decode cX2_at 19 = .ok (.goto 5, 3) := by decide +kernel
theorem dX2_at_22 : decode cX2_at 22 = .ok (.bipush 32, 2) := by decide +kernel
theorem dX2_at_24 : decode cX2_at 24 = .ok (.ireturn, 1) := by decide +kernel
theorem dX3_init_0 : decode cX3_init 0 = .ok (.aload_n 0, 1) := by decide +kernel
theorem dX3_init_1 : decode cX3_init 1 = .ok (.invokespecial 3, 3) := by decide +kernel
theorem dX3_init_4 : decode cX3_init 4 = .ok (.aload_n 0, 1) := by decide +kernel
theorem dX3_init_5 : decode cX3_init 5 = .ok (.bipush 8, 2) := by decide +kernel
theorem dX3_init_7 : decode cX3_init 7 = .ok (.anewarray 9, 3) := by decide +kernel
theorem dX3_init_10 : decode cX3_init 10 = .ok (.putfield 11, 3) := by decide +kernel
theorem dX3_init_13 : decode cX3_init 13 = .ok (.aload_n 0, 1) := by decide +kernel
theorem dX3_init_14 : decode cX3_init 14 = .ok (.bipush 8, 2) := by decide +kernel
theorem dX3_init_16 : decode cX3_init 16 = .ok (.anewarray 9, 3) := by decide +kernel
theorem dX3_init_19 : decode cX3_init 19 = .ok (.putfield 17, 3) := by decide +kernel
theorem dX3_init_22 : decode cX3_init 22 = .ok (.aload_n 0, 1) := by decide +kernel
theorem dX3_init_23 : decode cX3_init 23 = .ok (.iconst 4, 1) := by decide +kernel
theorem dX3_init_24 : decode cX3_init 24 = .ok (.newarray .int, 2) := by decide +kernel
theorem dX3_init_26 : decode cX3_init 26 = .ok (.putfield 20, 3) := by decide +kernel
theorem dX3_init_29 : decode cX3_init 29 = .ok (.aload_n 0, 1) := by decide +kernel
theorem dX3_init_30 : decode cX3_init 30 = .ok (.iconst 2, 1) := by decide +kernel
theorem dX3_init_31 : decode cX3_init 31 = .ok (.putfield 24, 3) := by decide +kernel
theorem dX3_init_34 : decode cX3_init 34 = .ok (.iconst 0, 1) := by decide +kernel
theorem dX3_init_35 : decode cX3_init 35 = .ok (.istore_n 1, 1) := by decide +kernel
theorem dX3_init_36 : decode cX3_init 36 = .ok (.iload_n 1, 1) := by decide +kernel
theorem dX3_init_37 : decode cX3_init 37 = .ok (.aload_n 0, 1) := by decide +kernel
theorem dX3_init_38 : decode cX3_init 38 = .ok (.getfield 11, 3) := by decide +kernel
theorem dX3_init_41 : decode cX3_init 41 = .ok (.arraylength, 1) := by decide +kernel
theorem dX3_init_42 : decode cX3_init 42 = .ok (.if_icmp .ge 23, 3) := by decide +kernel
theorem dX3_init_45 : decode cX3_init 45 = .ok (.aload_n 0, 1) := by decide +kernel
theorem dX3_init_46 : decode cX3_init 46 = .ok (.getfield 11, 3) := by decide +kernel
theorem dX3_init_49 : decode cX3_init 49 = .ok (.iload_n 1, 1) := by decide +kernel
theorem dX3_init_50 : decode cX3_init 50 = .ok (.new 9, 3) := by decide +kernel
theorem dX3_init_53 : decode cX3_init 53 = .ok (.dup, 1) := by decide +kernel
theorem dX3_init_54 : decode cX3_init 54 = .ok (.iload_n 1, 1) := by decide +kernel
theorem dX3_init_55 : decode cX3_init 55 = .ok (.invokespecial 28, 3) := by decide +kernel
theorem dX3_init_58 : decode cX3_init 58 = .ok (.aastore, 1) := by decide +kernel
theorem dX3_init_59 : decode cX3_init 59 = .ok (.iinc 1 1, 3) := by decide +kernel
theorem dX3_init_62 : decode cX3_init 62 = .ok (.goto (-26), 3) := by decide +kernel
theorem dX3_init_65 : decode cX3_init 65 = .ok (.iconst 0, 1) := by decide +kernel
theorem dX3_init_66 : decode cX3_init 66 = .ok (.istore_n 1, 1) := by decide +kernel
theorem dX3_init_67 : decode cX3_init 67 = .ok (.iload_n 1, 1) := by decide +kernel
theorem dX3_init_68 : decode cX3_init 68 = .ok (.aload_n 0, 1) := by decide +kernel
theorem dX3_init_69 : decode cX3_init 69 = .ok (.getfield 20, 3) := by decide +kernel
theorem dX3_init_72 : decode cX3_init 72 = .ok (.arraylength, 1) := by decide +kernel
theorem dX3_init_73 : decode cX3_init 73 = .ok (.if_icmp .ge 17, 3) := by decide +kernel
theorem dX3_init_76 : decode cX3_init 76 = .ok (.aload_n 0, 1) := by decide +kernel
theorem dX3_init_77 : decode cX3_init 77 = .ok (.getfield 20, 3) := by decide +kernel
theorem dX3_init_80 : decode cX3_init 80 = .ok (.iload_n 1, 1) := by decide +kernel
theorem dX3_init_81 : decode cX3_init 81 = .ok (.bipush 20, 2) := by decide +kernel
theorem dX3_init_83 : decode cX3_init 83 = .ok (.iastore, 1) := by decide +kernel
theorem dX3_init_84 : decode cX3_init 84 = .ok (.iinc 1 1, 3) := by decide +kernel
theorem dX3_init_87 : decode cX3_init 87 = .ok (.goto (-20), 3) := by decide +kernel
theorem dX3_init_90 : decode cX3_init 90 = .ok (.return_, 1) := by decide +kernel
theorem dX3_takeFrom_0 : decode cX3_takeFrom 0 = .ok (.iconst 0, 1) := by decide +kernel
theorem dX3_takeFrom_1 : decode cX3_takeFrom 1 = .ok (.istore_n 2, 1) := by decide +kernel
theorem dX3_takeFrom_2 : decode cX3_takeFrom 2 = .ok (.iload_n 2, 1) := by decide +kernel
theorem dX3_takeFrom_3 : decode cX3_takeFrom 3 = .ok (.aload_n 0, 1) := by decide +kernel
theorem dX3_takeFrom_4 : decode cX3_takeFrom 4 = .ok (.getfield 11, 3) := by decide +kernel
theorem dX3_takeFrom_7 : decode cX3_takeFrom 7 = .ok (.arraylength, 1) := by decide +kernel
theorem dX3_takeFrom_8 : decode cX3_takeFrom 8 = .ok (.if_icmp .ge 48, 3) := by decide +kernel
theorem dX3_takeFrom_11 : decode cX3_takeFrom 11 = .ok (.iload_n 2, 1) := by decide +kernel
theorem dX3_takeFrom_12 : decode cX3_takeFrom 12 = .ok (.aload_n 1, 1) := by decide +kernel
theorem dX3_takeFrom_13 : decode cX3_takeFrom 13 = .ok (.getfield 11, 3) := by decide +kernel
theorem dX3_takeFrom_16 : decode cX3_takeFrom 16 = .ok (.arraylength, 1) := by decide +kernel
theorem dX3_takeFrom_17 : decode cX3_takeFrom 17 = .ok (.if_icmp .ge 39, 3) := by decide +kernel
theorem dX3_takeFrom_20 : decode cX3_takeFrom 20 = .ok (.aload_n 0, 1) := by decide +kernel
theorem dX3_takeFrom_21 : decode cX3_takeFrom 21 = .ok (.getfield 11, 3) := by decide +kernel
theorem dX3_takeFrom_24 : decode cX3_takeFrom 24 = .ok (.iload_n 2, 1) := by decide +kernel
theorem dX3_takeFrom_25 : decode cX3_takeFrom 25 = .ok (.aaload, 1) := by decide +kernel
theorem dX3_takeFrom_26 : decode cX3_takeFrom 26 = .ok (.astore_n 3, 1) := by decide +kernel
theorem dX3_takeFrom_27 : decode cX3_takeFrom 27 = .ok (.aload_n 1, 1) := by decide +kernel
theorem dX3_takeFrom_28 : decode cX3_takeFrom 28 = .ok (.getfield 11, 3) := by decide +kernel
theorem dX3_takeFrom_31 : decode cX3_takeFrom 31 = .ok (.iload_n 2, 1) := by decide +kernel
theorem dX3_takeFrom_32 : decode cX3_takeFrom 32 = .ok (.aaload, 1) := by decide +kernel
theorem dX3_takeFrom_33 : decode cX3_takeFrom 33 = .ok (.astore 4, 2) := by decide +kernel
theorem dX3_takeFrom_35 : decode cX3_takeFrom 35 = .ok (.aload_n 3, 1) := by decide +kernel
theorem dX3_takeFrom_36 : decode cX3_takeFrom 36 = .ok (.ifnull 14, 3) := by decide +kernel
theorem dX3_takeFrom_39 : decode cX3_takeFrom 39 = .ok (.aload 4, 2) := by decide +kernel
theorem dX3_takeFrom_41 : decode cX3_takeFrom 41 = .ok (.ifnull 9, 3) := by decide +kernel
theorem dX3_takeFrom_44 : decode cX3_takeFrom 44 = .ok (.aload_n 3, 1) := by decide +kernel
theorem dX3_takeFrom_45 : decode cX3_takeFrom 45 = .ok (.aload 4, 2) := by decide +kernel
theorem dX3_takeFrom_47 : decode cX3_takeFrom 47 = .ok (.invokevirtual 31, 3) := by decide +kernel
theorem dX3_takeFrom_50 : decode cX3_takeFrom 50 = .ok (.iinc 2 1, 3) := by decide +kernel
theorem dX3_takeFrom_53 : decode cX3_takeFrom 53 = .ok (.goto (-51), 3) := by decide +kernel
theorem dX3_takeFrom_56 : decode cX3_takeFrom 56 = .ok (.iconst 0, 1) := by decide +kernel
theorem dX3_takeFrom_57 : decode cX3_takeFrom 57 = .ok (.istore_n 2, 1) := by decide +kernel
theorem dX3_takeFrom_58 : decode cX3_takeFrom 58 = .ok (.iload_n 2, 1) := by decide +kernel
theorem dX3_takeFrom_59 : decode cX3_takeFrom 59 = .ok (.aload_n 0, 1) := by decide +kernel
theorem dX3_takeFrom_60 : decode cX3_takeFrom 60 = .ok (.getfield 20, 3) := by decide +kernel
theorem dX3_takeFrom_63 : decode cX3_takeFrom 63 = .ok (.arraylength, 1) := by decide +kernel
theorem dX3_takeFrom_64 : decode cX3_takeFrom 64 = .ok (.if_icmp .ge 30, 3) := by decide +kernel
theorem dX3_takeFrom_67 : decode cX3_takeFrom 67 = .ok (.iload_n 2, 1) := by decide +kernel
theorem dX3_takeFrom_68 : decode cX3_takeFrom 68 = .ok (.aload_n 1, 1) := by decide +kernel
theorem dX3_takeFrom_69 : decode cX3_takeFrom 69 = .ok (.getfield 20, 3) := by decide +kernel
theorem dX3_takeFrom_72 : decode cX3_takeFrom 72 = .ok (.arraylength, 1) := by decide +kernel
theorem dX3_takeFrom_73 : decode cX3_takeFrom 73 = .ok (.if_icmp .ge 21, 3) := by decide +kernel
theorem dX3_takeFrom_76 : decode cX3_takeFrom 76 = .ok (.aload_n 0, 1) := by decide +kernel
theorem dX3_takeFrom_77 : decode cX3_takeFrom 77 = .ok (.getfield 20, 3) := by decide +kernel
theorem dX3_takeFrom_80 : decode cX3_takeFrom 80 = .ok (.iload_n 2, 1) := by decide +kernel
theorem dX3_takeFrom_81 : decode cX3_takeFrom 81 = .ok (.aload_n 1, 1) := by decide +kernel
theorem dX3_takeFrom_82 : decode cX3_takeFrom 82 = .ok (.getfield 20, 3) := by decide +kernel
theorem dX3_takeFrom_85 : decode cX3_takeFrom 85 = .ok (.iload_n 2, 1) := by decide +kernel
theorem dX3_takeFrom_86 : decode cX3_takeFrom 86 = .ok (.iaload, 1) := by decide +kernel
theorem dX3_takeFrom_87 : decode cX3_takeFrom 87 = .ok (.iastore, 1) := by decide +kernel
theorem dX3_takeFrom_88 : decode cX3_takeFrom 88 = .ok (.iinc 2 1, 3) := by decide +kernel
theorem dX3_takeFrom_91 : decode cX3_takeFrom 91 = .ok (.goto (-33), 3) := by decide +kernel
theorem dX3_takeFrom_94 : decode cX3_takeFrom 94 = .ok (.aload_n 0, 1) := by decide +kernel
theorem dX3_takeFrom_95 : decode cX3_takeFrom 95 = .ok (.aload_n 1, 1) := by decide +kernel
theorem dX3_takeFrom_96 : decode cX3_takeFrom 96 = .ok (.getfield 35, 3) := by decide +kernel
theorem dX3_takeFrom_99 : decode cX3_takeFrom 99 = .ok (.putfield 35, 3) := by decide +kernel
theorem dX3_takeFrom_102 : decode cX3_takeFrom 102 = .ok (.aload_n 0, 1) := by decide +kernel
theorem dX3_takeFrom_103 : decode cX3_takeFrom 103 = .ok (.aload_n 1, 1) := by decide +kernel
theorem dX3_takeFrom_104 : decode cX3_takeFrom 104 = .ok (.getfield 24, 3) := by decide +kernel
theorem dX3_takeFrom_107 : decode cX3_takeFrom 107 = .ok (.putfield 24, 3) := by decide +kernel
theorem dX3_takeFrom_110 : decode cX3_takeFrom 110 = .ok (.aload_n 0, 1) := by decide +kernel
theorem dX3_takeFrom_111 : decode cX3_takeFrom 111 = .ok (.aload_n 1, 1) := by decide +kernel
theorem dX3_takeFrom_112 : decode cX3_takeFrom 112 = .ok (.getfield 38, 3) := by decide +kernel
theorem dX3_takeFrom_115 : decode cX3_takeFrom 115 = .ok (.putfield 38, 3) := by decide +kernel
theorem dX3_takeFrom_118 : decode cX3_takeFrom 118 = .ok (.aload_n 0, 1) := by decide +kernel
theorem dX3_takeFrom_119 : decode cX3_takeFrom 119 = .ok (.aload_n 1, 1) := by decide +kernel
theorem dX3_takeFrom_120 : decode cX3_takeFrom 120 = .ok (.getfield 42, 3) := by decide +kernel
theorem dX3_takeFrom_123 : decode cX3_takeFrom 123 = .ok (.putfield 42, 3) := by decide +kernel
theorem dX3_takeFrom_126 : decode cX3_takeFrom 126 = .ok (.aload_n 0, 1) := by decide +kernel
theorem dX3_takeFrom_127 : decode cX3_takeFrom 127 = .ok (.aload_n 1, 1) := by decide +kernel
theorem dX3_takeFrom_128 : decode cX3_takeFrom 128 = .ok (.getfield 45, 3) := by decide +kernel
theorem dX3_takeFrom_131 : decode cX3_takeFrom 131 = .ok (.putfield 45, 3) := by decide +kernel
theorem dX3_takeFrom_134 : decode cX3_takeFrom 134 = .ok (.aload_n 0, 1) := by decide +kernel
theorem dX3_takeFrom_135 : decode cX3_takeFrom 135 = .ok (.aload_n 1, 1) := by decide +kernel
theorem dX3_takeFrom_136 : decode cX3_takeFrom 136 = .ok (.getfield 48, 3) := by decide +kernel
theorem dX3_takeFrom_139 : decode cX3_takeFrom 139 = .ok (.putfield 48, 3) := by decide +kernel
theorem dX3_takeFrom_142 : decode cX3_takeFrom 142 = .ok (.aload_n 0, 1) := by decide +kernel
theorem dX3_takeFrom_143 : decode cX3_takeFrom 143 = .ok (.aload_n 1, 1) := by decide +kernel
theorem dX3_takeFrom_144 : decode cX3_takeFrom 144 = .ok (.getfield 51, 3) := by decide +kernel
theorem dX3_takeFrom_147 : decode cX3_takeFrom 147 = .ok (.putfield 51, 3) := by decide +kernel
theorem dX3_takeFrom_150 : decode cX3_takeFrom 150 = .ok (.aload_n 0, 1) := by decide +kernel
theorem dX3_takeFrom_151 : decode cX3_takeFrom 151 = .ok (.aload_n 1, 1) := by decide +kernel
theorem dX3_takeFrom_152 : decode cX3_takeFrom 152 = .ok (.getfield 54, 3) := by decide +kernel
theorem dX3_takeFrom_155 : decode cX3_takeFrom 155 = .ok (.putfield 54, 3) := by decide +kernel
theorem dX3_takeFrom_158 : decode cX3_takeFrom 158 = .ok (.aload_n 0, 1) := by decide +kernel
theorem dX3_takeFrom_159 : decode cX3_takeFrom 159 = .ok (.aload_n 1, 1) := by decide +kernel
theorem dX3_takeFrom_160 : decode cX3_takeFrom 160 = .ok (.getfield 57, 3) := by decide +kernel
theorem dX3_takeFrom_163 : decode cX3_takeFrom 163 = .ok (.putfield 57, 3) := by decide +kernel
theorem dX3_takeFrom_166 : decode cX3_takeFrom 166 = .ok (.aload_n 0, 1) := by decide +kernel
theorem dX3_takeFrom_167 : decode cX3_takeFrom 167 = .ok (.aload_n 1, 1) := by decide +kernel
theorem dX3_takeFrom_168 : decode cX3_takeFrom 168 = .ok (.getfield 60, 3) := by decide +kernel
theorem dX3_takeFrom_171 : decode cX3_takeFrom 171 = .ok (.putfield 60, 3) := by decide +kernel
theorem dX3_takeFrom_174 : decode cX3_takeFrom 174 = .ok (.aload_n 0, 1) := by decide +kernel
theorem dX3_takeFrom_175 : decode cX3_takeFrom 175 = .ok (.aload_n 1, 1) := by decide +kernel
theorem dX3_takeFrom_176 : decode cX3_takeFrom 176 = .ok (.getfield 63, 3) := by decide +kernel
theorem dX3_takeFrom_179 : decode cX3_takeFrom 179 = .ok (.putfield 63, 3) := by decide +kernel
theorem dX3_takeFrom_182 : decode cX3_takeFrom 182 = .ok (.return_, 1) := by decide +kernel
theorem dX3_at_0 : decode cX3_at 0 = .ok (.iload_n 1, 1) := by decide +kernel
theorem dX3_at_1 : decode cX3_at 1 = .ok (.ifCond .lt 20, 3) := by decide +kernel
theorem dX3_at_4 : decode cX3_at 4 = .ok (.iload_n 1, 1) := by decide +kernel
theorem dX3_at_5 : decode cX3_at 5 = .ok (.aload_n 0, 1) := by decide +kernel
theorem dX3_at_6 : decode cX3_at 6 = .ok (.getfield 35, 3) := by decide +kernel
theorem dX3_at_9 : decode cX3_at 9 = .ok (.if_icmp .ge 12, 3) := by decide +kernel
theorem dX3_at_12 : decode cX3_at 12 = .ok (.iload_n 1, 1) := by decide +kernel
theorem dX3_at_13 : decode cX3_at 13 = .ok (.aload_n 0, 1) := by decide +kernel
theorem dX3_at_14 : decode cX3_at 14 = .ok (.getfield 11, 3) := by decide +kernel
theorem dX3_at_17 : decode cX3_at 17 = .ok (.arraylength, 1) := by decide +kernel
theorem dX3_at_18 : decode cX3_at 18 = .ok (.if_icmp .lt 5, 3) := by decide +kernel
theorem dX3_at_21 : decode cX3_at 21 = .ok (.aconst_null, 1) := by decide +kernel
theorem dX3_at_22 : decode cX3_at 22 = .ok (.areturn, 1) := by decide +kernel
theorem dX3_at_23 : decode cX3_at 23 = .ok (.aload_n 0, 1) := by decide +kernel
theorem dX3_at_24 : decode cX3_at 24 = .ok (.getfield 11, 3) := by decide +kernel
theorem dX3_at_27 : decode cX3_at 27 = .ok (.iload_n 1, 1) := by decide +kernel
theorem dX3_at_28 : decode cX3_at 28 = .ok (.aaload, 1) := by decide +kernel
theorem dX3_at_29 : decode cX3_at 29 = .ok (.areturn, 1) := by decide +kernel
theorem dX3_limitAt_0 : decode cX3_limitAt 0 = .ok (.iload_n 1, 1) := by decide +kernel
theorem dX3_limitAt_1 : decode cX3_limitAt 1 = .ok (.ifCond .lt 21, 3) := by decide +kernel
theorem dX3_limitAt_4 : decode cX3_limitAt 4 = .ok (.iload_n 1, 1) := by decide +kernel
theorem dX3_limitAt_5 : decode cX3_limitAt 5 = .ok (.aload_n 0, 1) := by decide +kernel
theorem dX3_limitAt_6 : decode cX3_limitAt 6 = .ok (.getfield 20, 3) := by decide +kernel
theorem dX3_limitAt_9 : decode cX3_limitAt 9 = .ok (.arraylength, 1) := by decide +kernel
theorem dX3_limitAt_10 : decode cX3_limitAt 10 = .ok (.if_icmp .ge 12, 3) := by decide +kernel
theorem dX3_limitAt_13 : decode cX3_limitAt 13 = .ok (.aload_n 0, 1) := by decide +kernel
theorem dX3_limitAt_14 : decode cX3_limitAt 14 = .ok (.getfield 20, 3) := by decide +kernel
theorem dX3_limitAt_17 : decode cX3_limitAt 17 = .ok (.iload_n 1, 1) := by decide +kernel
theorem dX3_limitAt_18 : decode cX3_limitAt 18 = .ok (.iaload, 1) := by decide +kernel
theorem dX3_limitAt_19 : decode cX3_limitAt 19 = .ok (.goto 4, 3) := by decide +kernel
theorem dX3_limitAt_22 : decode cX3_limitAt 22 = .ok (.iconst 0, 1) := by decide +kernel
theorem dX3_limitAt_23 : decode cX3_limitAt 23 = .ok (.ireturn, 1) := by decide +kernel
theorem dX3_changeLimit_0 : decode cX3_changeLimit 0 = .ok (.iload_n 1, 1) := by decide +kernel
theorem dX3_changeLimit_1 : decode cX3_changeLimit 1 = .ok (.ifCond .lt 19, 3) := by decide +kernel
theorem dX3_changeLimit_4 : decode cX3_changeLimit 4 = .ok (.iload_n 1, 1) := by decide +kernel
theorem dX3_changeLimit_5 : decode cX3_changeLimit 5 = .ok (.aload_n 0, 1) := by decide +kernel
theorem dX3_changeLimit_6 : decode cX3_changeLimit 6 = .ok (.getfield 20, 3) := by decide +kernel
theorem dX3_changeLimit_9 : decode cX3_changeLimit 9 = .ok (.arraylength, 1) := by decide +kernel
theorem dX3_changeLimit_10 : decode cX3_changeLimit 10 = .ok (.if_icmp .ge 10, 3) := by decide +kernel
theorem dX3_changeLimit_13 : decode cX3_changeLimit 13 = .ok (.aload_n 0, 1) := by decide +kernel
theorem dX3_changeLimit_14 : decode cX3_changeLimit 14 = .ok (.getfield 20, 3) := by decide +kernel
theorem dX3_changeLimit_17 : decode cX3_changeLimit 17 = .ok (.iload_n 1, 1) := by decide +kernel
theorem dX3_changeLimit_18 : decode cX3_changeLimit 18 = .ok (.iload_n 2, 1) := by decide +kernel
theorem dX3_changeLimit_19 : decode cX3_changeLimit 19 = .ok (.iastore, 1) := by decide +kernel
theorem dX3_changeLimit_20 : decode cX3_changeLimit 20 = .ok (.return_, 1) := by decide +kernel
theorem dX3_addSparrow_0 : decode cX3_addSparrow 0 = .ok (.aload_n 0, 1) := by decide +kernel
theorem dX3_addSparrow_1 : decode cX3_addSparrow 1 = .ok (.dup, 1) := by decide +kernel
theorem dX3_addSparrow_2 : decode cX3_addSparrow 2 = .ok (.getfield 35, 3) := by decide +kernel
theorem dX3_addSparrow_5 : decode cX3_addSparrow 5 = .ok (.iconst 1, 1) := by decide +kernel
theorem dX3_addSparrow_6 : decode cX3_addSparrow 6 = .ok (.iadd, 1) := by decide +kernel
theorem dX3_addSparrow_7 : decode cX3_addSparrow 7 = .ok (.putfield 35, 3) := by decide +kernel
theorem dX3_addSparrow_10 : decode cX3_addSparrow 10 = .ok (.aload_n 0, 1) := by decide +kernel
theorem dX3_addSparrow_11 : decode cX3_addSparrow 11 = .ok (.aload_n 0, 1) := by decide +kernel
theorem dX3_addSparrow_12 : decode cX3_addSparrow 12 = .ok (.getfield 35, 3) := by decide +kernel
theorem dX3_addSparrow_15 : decode cX3_addSparrow 15 = .ok (.iconst 1, 1) := by decide +kernel
theorem dX3_addSparrow_16 : decode cX3_addSparrow 16 = .ok (.isub, 1) := by decide +kernel
theorem dX3_addSparrow_17 : decode cX3_addSparrow 17 = .ok (.invokevirtual 66, 3) := by decide +kernel
theorem dX3_addSparrow_20 : decode cX3_addSparrow 20 = .ok (.astore 4, 2) := by decide +kernel
theorem dX3_addSparrow_22 : decode cX3_addSparrow 22 = .ok (.aload 4, 2) := by decide +kernel
theorem dX3_addSparrow_24 : decode cX3_addSparrow 24 = .ok (.ifnull 33, 3) := by decide +kernel
theorem dX3_addSparrow_27 : decode cX3_addSparrow 27 = .ok (.aload 4, 2) := by decide +kernel
theorem dX3_addSparrow_29 : decode cX3_addSparrow 29 = .ok (.iload_n 1, 1) := by decide +kernel
theorem dX3_addSparrow_30 : decode cX3_addSparrow 30 = .ok (.putfield 70, 3) := by decide +kernel
theorem dX3_addSparrow_33 : decode cX3_addSparrow 33 = .ok (.aload 4, 2) := by decide +kernel
theorem dX3_addSparrow_35 : decode cX3_addSparrow 35 = .ok (.iload_n 2, 1) := by decide +kernel
theorem dX3_addSparrow_36 : decode cX3_addSparrow 36 = .ok (.putfield 73, 3) := by decide +kernel
theorem dX3_addSparrow_39 : decode cX3_addSparrow 39 = .ok (.aload 4, 2) := by decide +kernel
theorem dX3_addSparrow_41 : decode cX3_addSparrow 41 = .ok (.iload_n 3, 1) := by decide +kernel
theorem dX3_addSparrow_42 : decode cX3_addSparrow 42 = .ok (.putfield 76, 3) := by decide +kernel
theorem dX3_addSparrow_45 : decode cX3_addSparrow 45 = .ok (.aload 4, 2) := by decide +kernel
theorem dX3_addSparrow_47 : decode cX3_addSparrow 47 = .ok (.iconst (-1), 1) := by decide +kernel
theorem dX3_addSparrow_48 : decode cX3_addSparrow 48 = .ok (.putfield 79, 3) := by decide +kernel
theorem dX3_addSparrow_51 : decode cX3_addSparrow 51 = .ok (.aload 4, 2) := by decide +kernel
theorem dX3_addSparrow_53 : decode cX3_addSparrow 53 = .ok (.iconst 0, 1) := by decide +kernel
theorem dX3_addSparrow_54 : decode cX3_addSparrow 54 = .ok (.invokevirtual 82, 3) := by decide +kernel
theorem dX3_addSparrow_57 : decode cX3_addSparrow 57 = .ok (.aload_n 0, 1) := by decide +kernel
theorem dX3_addSparrow_58 : decode cX3_addSparrow 58 = .ok (.getfield 35, 3) := by decide +kernel
theorem dX3_addSparrow_61 : decode cX3_addSparrow 61 = .ok (.iconst 1, 1) := by decide +kernel
theorem dX3_addSparrow_62 : decode cX3_addSparrow 62 = .ok (.isub, 1) := by decide +kernel
theorem dX3_addSparrow_63 : decode cX3_addSparrow 63 = .ok (.ireturn, 1) := by decide +kernel
theorem dX3_makePair_0 : decode cX3_makePair 0 = .ok (.aload_n 0, 1) := by decide +kernel
theorem dX3_makePair_1 : decode cX3_makePair 1 = .ok (.aload_n 1, 1) := by decide +kernel
theorem dX3_makePair_2 : decode cX3_makePair 2 = .ok (.invokevirtual 85, 3) := by decide +kernel
theorem dX3_makePair_5 : decode cX3_makePair 5 = .ok (.aload_n 0, 1) := by decide +kernel
theorem dX3_makePair_6 : decode cX3_makePair 6 = .ok (.aload_n 2, 1) := by decide +kernel
theorem dX3_makePair_7 : decode cX3_makePair 7 = .ok (.invokevirtual 85, 3) := by decide +kernel
theorem dX3_makePair_10 : decode cX3_makePair 10 = .ok (.aload_n 1, 1) := by decide +kernel
theorem dX3_makePair_11 : decode cX3_makePair 11 = .ok (.aload_n 2, 1) := by decide +kernel
theorem dX3_makePair_12 : decode cX3_makePair 12 = .ok (.getfield 88, 3) := by decide +kernel
theorem dX3_makePair_15 : decode cX3_makePair 15 = .ok (.putfield 79, 3) := by decide +kernel
theorem dX3_makePair_18 : decode cX3_makePair 18 = .ok (.aload_n 2, 1) := by decide +kernel
theorem dX3_makePair_19 : decode cX3_makePair 19 = .ok (.aload_n 1, 1) := by decide +kernel
theorem dX3_makePair_20 : decode cX3_makePair 20 = .ok (.getfield 88, 3) := by decide +kernel
theorem dX3_makePair_23 : decode cX3_makePair 23 = .ok (.putfield 79, 3) := by decide +kernel
theorem dX3_makePair_26 : decode cX3_makePair 26 = .ok (.return_, 1) := by decide +kernel
theorem dX3_partFromPartner_0 : decode cX3_partFromPartner 0 = .ok (.aload_n 0, 1) := by decide +kernel
theorem dX3_partFromPartner_1 : decode cX3_partFromPartner 1 = .ok (.aload_n 1, 1) := by decide +kernel
theorem dX3_partFromPartner_2 : decode cX3_partFromPartner 2 = .ok (.getfield 79, 3) := by decide +kernel
theorem dX3_partFromPartner_5 : decode cX3_partFromPartner 5 = .ok (.invokevirtual 66, 3) := by decide +kernel
theorem dX3_partFromPartner_8 : decode cX3_partFromPartner 8 = .ok (.astore_n 2, 1) := by decide +kernel
theorem dX3_partFromPartner_9 : decode cX3_partFromPartner 9 = .ok (.aload_n 2, 1) := by decide +kernel
theorem dX3_partFromPartner_10 : decode cX3_partFromPartner 10 = .ok (.ifnull 8, 3) := by decide +kernel
theorem dX3_partFromPartner_13 : decode cX3_partFromPartner 13 = .ok (.aload_n 2, 1) := by decide +kernel
theorem dX3_partFromPartner_14 : decode cX3_partFromPartner 14 = .ok (.iconst (-1), 1) := by decide +kernel
theorem dX3_partFromPartner_15 : decode cX3_partFromPartner 15 = .ok (.putfield 79, 3) := by decide +kernel
theorem dX3_partFromPartner_18 : decode cX3_partFromPartner 18 = .ok (.aload_n 1, 1) := by decide +kernel
theorem dX3_partFromPartner_19 : decode cX3_partFromPartner 19 = .ok (.iconst (-1), 1) := by decide +kernel
theorem dX3_partFromPartner_20 : decode cX3_partFromPartner 20 = .ok (.putfield 79, 3) := by decide +kernel
theorem dX3_partFromPartner_23 : decode cX3_partFromPartner 23 = .ok (.return_, 1) := by decide +kernel
theorem dX3_countPairs_0 : decode cX3_countPairs 0 = .ok (.iconst 0, 1) := by decide +kernel
theorem dX3_countPairs_1 : decode cX3_countPairs 1 = .ok (.istore_n 1, 1) := by decide +kernel
theorem dX3_countPairs_2 : decode cX3_countPairs 2 = .ok (.aload_n 0, 1) := by decide +kernel
theorem dX3_countPairs_3 : decode cX3_countPairs 3 = .ok (.getfield 11, 3) := by decide +kernel
theorem dX3_countPairs_6 : decode cX3_countPairs 6 = .ok (.astore_n 2, 1) := by decide +kernel
theorem dX3_countPairs_7 : decode cX3_countPairs 7 = .ok (.aload_n 2, 1) := by decide +kernel
theorem dX3_countPairs_8 : decode cX3_countPairs 8 = .ok (.arraylength, 1) := by decide +kernel
theorem dX3_countPairs_9 : decode cX3_countPairs 9 = .ok (.istore_n 3, 1) := by decide +kernel
theorem dX3_countPairs_10 : decode cX3_countPairs 10 = .ok (.iconst 0, 1) := by decide +kernel
theorem dX3_countPairs_11 : decode cX3_countPairs 11 = .ok (.istore 4, 2) := by decide +kernel
theorem dX3_countPairs_13 : decode cX3_countPairs 13 = .ok (.iload 4, 2) := by decide +kernel
theorem dX3_countPairs_15 : decode cX3_countPairs 15 = .ok (.iload_n 3, 1) := by decide +kernel
theorem dX3_countPairs_16 : decode cX3_countPairs 16 = .ok (.if_icmp .ge 40, 3) := by decide +kernel
theorem dX3_countPairs_19 : decode cX3_countPairs 19 = .ok (.aload_n 2, 1) := by decide +kernel
theorem dX3_countPairs_20 : decode cX3_countPairs 20 = .ok (.iload 4, 2) := by decide +kernel
theorem dX3_countPairs_22 : decode cX3_countPairs 22 = .ok (.aaload, 1) := by decide +kernel
theorem dX3_countPairs_23 : decode cX3_countPairs 23 = .ok (.astore 5, 2) := by decide +kernel
theorem dX3_countPairs_25 : decode cX3_countPairs 25 = .ok (.aload_n 0, 1) := by decide +kernel
theorem dX3_countPairs_26 : decode cX3_countPairs 26 = .ok (.aload 5, 2) := by decide +kernel
theorem dX3_countPairs_28 : decode cX3_countPairs 28 = .ok (.invokevirtual 91, 3) := by decide +kernel
theorem dX3_countPairs_31 : decode cX3_countPairs 31 = .ok (.ifCond .eq 19, 3) := by decide +kernel
theorem dX3_countPairs_34 : decode cX3_countPairs 34 = .ok (.aload 5, 2) := by decide +kernel
theorem dX3_countPairs_36 : decode cX3_countPairs 36 = .ok (.getfield 79, 3) := by decide +kernel
theorem dX3_countPairs_39 : decode cX3_countPairs 39 = .ok (.aload 5, 2) := by decide +kernel
theorem dX3_countPairs_41 : decode cX3_countPairs 41 = .ok (.getfield 88, 3) := by decide +kernel
theorem dX3_countPairs_44 : decode cX3_countPairs 44 = .ok (.if_icmp .le 6, 3) := by decide +kernel
theorem dX3_countPairs_47 : decode cX3_countPairs 47 = .ok (.iinc 1 1, 3) := by decide +kernel
theorem dX3_countPairs_50 : decode cX3_countPairs 50 = .ok (.iinc 4 1, 3) := by decide +kernel
theorem dX3_countPairs_53 : decode cX3_countPairs 53 = .ok (.goto (-40), 3) := by decide +kernel
theorem dX3_countPairs_56 : decode cX3_countPairs 56 = .ok (.iload_n 1, 1) := by decide +kernel
theorem dX3_countPairs_57 : decode cX3_countPairs 57 = .ok (.ireturn, 1) := by decide +kernel
theorem dX3_startRace_0 : decode cX3_startRace 0 = .ok (.aload_n 0, 1) := by decide +kernel
theorem dX3_startRace_1 : decode cX3_startRace 1 = .ok (.getfield 11, 3) := by decide +kernel
theorem dX3_startRace_4 : decode cX3_startRace 4 = .ok (.astore_n 1, 1) := by decide +kernel
theorem dX3_startRace_5 : decode cX3_startRace 5 = .ok (.aload_n 1, 1) := by decide +kernel
theorem dX3_startRace_6 : decode cX3_startRace 6 = .ok (.arraylength, 1) := by decide +kernel
theorem dX3_startRace_7 : decode cX3_startRace 7 = .ok (.istore_n 2, 1) := by decide +kernel
theorem dX3_startRace_8 : decode cX3_startRace 8 = .ok (.iconst 0, 1) := by decide +kernel
theorem dX3_startRace_9 : decode cX3_startRace 9 = .ok (.istore_n 3, 1) := by decide +kernel
theorem dX3_startRace_10 : decode cX3_startRace 10 = .ok (.iload_n 3, 1) := by decide +kernel
theorem dX3_startRace_11 : decode cX3_startRace 11 = .ok (.iload_n 2, 1) := by decide +kernel
theorem dX3_startRace_12 : decode cX3_startRace 12 = .ok (.if_icmp .ge 29, 3) := by decide +kernel
theorem dX3_startRace_15 : decode cX3_startRace 15 = .ok (.aload_n 1, 1) := by decide +kernel
theorem dX3_startRace_16 : decode cX3_startRace 16 = .ok (.iload_n 3, 1) := by decide +kernel
theorem dX3_startRace_17 : decode cX3_startRace 17 = .ok (.aaload, 1) := by decide +kernel
theorem dX3_startRace_18 : decode cX3_startRace 18 = .ok (.astore 4, 2) := by decide +kernel
theorem dX3_startRace_20 : decode cX3_startRace 20 = .ok (.aload_n 0, 1) := by decide +kernel
theorem dX3_startRace_21 : decode cX3_startRace 21 = .ok (.aload 4, 2) := by decide +kernel
theorem dX3_startRace_23 : decode cX3_startRace 23 = .ok (.invokevirtual 91, 3) := by decide +kernel
theorem dX3_startRace_26 : decode cX3_startRace 26 = .ok (.ifCond .eq 9, 3) := by decide +kernel
theorem dX3_startRace_29 : decode cX3_startRace 29 = .ok (.aload 4, 2) := by decide +kernel
theorem dX3_startRace_31 : decode cX3_startRace 31 = .ok (.iconst 1, 1) := by decide +kernel
theorem dX3_startRace_32 : decode cX3_startRace 32 = .ok (.invokevirtual 82, 3) := by decide +kernel
theorem dX3_startRace_35 : decode cX3_startRace 35 = .ok (.iinc 3 1, 3) := by decide +kernel
theorem dX3_startRace_38 : decode cX3_startRace 38 = .ok (.goto (-28), 3) := by decide +kernel
theorem dX3_startRace_41 : decode cX3_startRace 41 = .ok (.aload_n 0, 1) := by decide +kernel
theorem dX3_startRace_42 : decode cX3_startRace 42 = .ok (.iconst 1, 1) := by decide +kernel
theorem dX3_startRace_43 : decode cX3_startRace 43 = .ok (.putfield 38, 3) := by decide +kernel
theorem dX3_startRace_46 : decode cX3_startRace 46 = .ok (.aload_n 0, 1) := by decide +kernel
theorem dX3_startRace_47 : decode cX3_startRace 47 = .ok (.iconst 0, 1) := by decide +kernel
theorem dX3_startRace_48 : decode cX3_startRace 48 = .ok (.putfield 42, 3) := by decide +kernel
theorem dX3_startRace_51 : decode cX3_startRace 51 = .ok (.aload_n 0, 1) := by decide +kernel
theorem dX3_startRace_52 : decode cX3_startRace 52 = .ok (.iconst 0, 1) := by decide +kernel
theorem dX3_startRace_53 : decode cX3_startRace 53 = .ok (.putfield 45, 3) := by decide +kernel
theorem dX3_startRace_56 : decode cX3_startRace 56 = .ok (.aload_n 0, 1) := by decide +kernel
theorem dX3_startRace_57 : decode cX3_startRace 57 = .ok (.iconst 0, 1) := by decide +kernel
theorem dX3_startRace_58 : decode cX3_startRace 58 = .ok (.putfield 48, 3) := by decide +kernel
theorem dX3_startRace_61 : decode cX3_startRace 61 = .ok (.aload_n 0, 1) := by decide +kernel
theorem dX3_startRace_62 : decode cX3_startRace 62 = .ok (.iconst 0, 1) := by decide +kernel
theorem dX3_startRace_63 : decode cX3_startRace 63 = .ok (.putfield 51, 3) := by decide +kernel
theorem dX3_startRace_66 : decode cX3_startRace 66 = .ok (.aload_n 0, 1) := by decide +kernel
theorem dX3_startRace_67 : decode cX3_startRace 67 = .ok (.iconst 0, 1) := by decide +kernel
theorem dX3_startRace_68 : decode cX3_startRace 68 = .ok (.putfield 54, 3) := by decide +kernel
theorem dX3_startRace_71 : decode cX3_startRace 71 = .ok (.aload_n 0, 1) := by decide +kernel
theorem dX3_startRace_72 : decode cX3_startRace 72 = .ok (.iconst 0, 1) := by decide +kernel
theorem dX3_startRace_73 : decode cX3_startRace 73 = .ok (.putfield 57, 3) := by decide +kernel
theorem dX3_startRace_76 : decode cX3_startRace 76 = .ok (.aload_n 0, 1) := by decide +kernel
theorem dX3_startRace_77 : decode cX3_startRace 77 = .ok (.dup, 1) := by decide +kernel
theorem dX3_startRace_78 : decode cX3_startRace 78 = .ok (.getfield 60, 3) := by decide +kernel
theorem dX3_startRace_81 : decode cX3_startRace 81 = .ok (.iconst 1, 1) := by decide +kernel
theorem dX3_startRace_82 : decode cX3_startRace 82 = .ok (.iadd, 1) := by decide +kernel
theorem dX3_startRace_83 : decode cX3_startRace 83 = .ok (.putfield 60, 3) := by decide +kernel
theorem dX3_startRace_86 : decode cX3_startRace 86 = .ok (.return_, 1) := by decide +kernel
theorem dX3_isThere_0 : decode cX3_isThere 0 = .ok (.aload_n 1, 1) := by decide +kernel
theorem dX3_isThere_1 : decode cX3_isThere 1 = .ok (.ifnull 18, 3) := by decide +kernel
theorem dX3_isThere_4 : decode cX3_isThere 4 = .ok (.aload_n 1, 1) := by decide +kernel
theorem dX3_isThere_5 : decode cX3_isThere 5 = .ok (.getfield 88, 3) := by decide +kernel
theorem dX3_isThere_8 : decode cX3_isThere 8 = .ok (.aload_n 0, 1) := by decide +kernel
theorem dX3_isThere_9 : decode cX3_isThere 9 = .ok (.getfield 35, 3) := by decide +kernel
theorem dX3_isThere_12 : decode cX3_isThere 12 = .ok (.if_icmp .ge 7, 3) := by decide +kernel
theorem dX3_isThere_15 : decode cX3_isThere 15 = .ok (.iconst 1, 1) := by decide +kernel
theorem dX3_isThere_16 : decode cX3_isThere 16 = .ok (.goto 4, 3) := by decide +kernel
theorem dX3_isThere_19 : decode cX3_isThere 19 = .ok (.iconst 0, 1) := by decide +kernel
theorem dX3_isThere_20 : decode cX3_isThere 20 = .ok (.ireturn, 1) := by decide +kernel
theorem dX3_countAheadOf_0 : decode cX3_countAheadOf 0 = .ok (.iconst 0, 1) := by decide +kernel
theorem dX3_countAheadOf_1 : decode cX3_countAheadOf 1 = .ok (.istore_n 2, 1) := by decide +kernel
theorem dX3_countAheadOf_2 : decode cX3_countAheadOf 2 = .ok (.aload_n 0, 1) := by decide +kernel
theorem dX3_countAheadOf_3 : decode cX3_countAheadOf 3 = .ok (.getfield 11, 3) := by decide +kernel
theorem dX3_countAheadOf_6 : decode cX3_countAheadOf 6 = .ok (.astore_n 3, 1) := by decide +kernel
theorem dX3_countAheadOf_7 : decode cX3_countAheadOf 7 = .ok (.aload_n 3, 1) := by decide +kernel
theorem dX3_countAheadOf_8 : decode cX3_countAheadOf 8 = .ok (.arraylength, 1) := by decide +kernel
theorem dX3_countAheadOf_9 : decode cX3_countAheadOf 9 = .ok (.istore 4, 2) := by decide +kernel
theorem dX3_countAheadOf_11 : decode cX3_countAheadOf 11 = .ok (.iconst 0, 1) := by decide +kernel
theorem dX3_countAheadOf_12 : decode cX3_countAheadOf 12 = .ok (.istore 5, 2) := by decide +kernel
theorem dX3_countAheadOf_14 : decode cX3_countAheadOf 14 = .ok (.iload 5, 2) := by decide +kernel
theorem dX3_countAheadOf_16 : decode cX3_countAheadOf 16 = .ok (.iload 4, 2) := by decide +kernel
theorem dX3_countAheadOf_18 : decode cX3_countAheadOf 18 = .ok (.if_icmp .ge 36, 3) := by decide +kernel
theorem dX3_countAheadOf_21 : decode cX3_countAheadOf 21 = .ok (.aload_n 3, 1) := by decide +kernel
theorem dX3_countAheadOf_22 : decode cX3_countAheadOf 22 = .ok (.iload 5, 2) := by decide +kernel
theorem dX3_countAheadOf_24 : decode cX3_countAheadOf 24 = .ok (.aaload, 1) := by decide +kernel
theorem dX3_countAheadOf_25 : decode cX3_countAheadOf 25 = .ok (.astore 6, 2) := by decide +kernel
theorem dX3_countAheadOf_27 : decode cX3_countAheadOf 27 = .ok (.aload_n 0, 1) := by decide +kernel
theorem dX3_countAheadOf_28 : decode cX3_countAheadOf 28 = .ok (.aload 6, 2) := by decide +kernel
theorem dX3_countAheadOf_30 : decode cX3_countAheadOf 30 = .ok (.invokevirtual 91, 3) := by decide +kernel
theorem dX3_countAheadOf_33 : decode cX3_countAheadOf 33 = .ok (.ifCond .eq 15, 3) := by decide +kernel
theorem dX3_countAheadOf_36 : decode cX3_countAheadOf 36 = .ok (.aload 6, 2) := by decide +kernel
theorem dX3_countAheadOf_38 : decode cX3_countAheadOf 38 = .ok (.aload_n 1, 1) := by decide +kernel
theorem dX3_countAheadOf_39 : decode cX3_countAheadOf 39 = .ok (.invokevirtual 95, 3) := by decide +kernel
theorem dX3_countAheadOf_42 : decode cX3_countAheadOf 42 = .ok (.ifCond .eq 6, 3) := by decide +kernel
theorem dX3_countAheadOf_45 : decode cX3_countAheadOf 45 = .ok (.iinc 2 1, 3) := by decide +kernel
theorem dX3_countAheadOf_48 : decode cX3_countAheadOf 48 = .ok (.iinc 5 1, 3) := by decide +kernel
theorem dX3_countAheadOf_51 : decode cX3_countAheadOf 51 = .ok (.goto (-37), 3) := by decide +kernel
theorem dX3_countAheadOf_54 : decode cX3_countAheadOf 54 = .ok (.iload_n 2, 1) := by decide +kernel
theorem dX3_countAheadOf_55 : decode cX3_countAheadOf 55 = .ok (.ireturn, 1) := by decide +kernel
theorem dX3_putInOrder_0 : decode cX3_putInOrder 0 = .ok (.iconst 0, 1) := by decide +kernel
theorem dX3_putInOrder_1 : decode cX3_putInOrder 1 = .ok (.istore_n 1, 1) := by decide +kernel
theorem dX3_putInOrder_2 : decode cX3_putInOrder 2 = .ok (.aload_n 0, 1) := by decide +kernel
theorem dX3_putInOrder_3 : decode cX3_putInOrder 3 = .ok (.getfield 11, 3) := by decide +kernel
theorem dX3_putInOrder_6 : decode cX3_putInOrder 6 = .ok (.astore_n 2, 1) := by decide +kernel
theorem dX3_putInOrder_7 : decode cX3_putInOrder 7 = .ok (.aload_n 2, 1) := by decide +kernel
theorem dX3_putInOrder_8 : decode cX3_putInOrder 8 = .ok (.arraylength, 1) := by decide +kernel
theorem dX3_putInOrder_9 : decode cX3_putInOrder 9 = .ok (.istore_n 3, 1) := by decide +kernel
theorem dX3_putInOrder_10 : decode cX3_putInOrder 10 = .ok (.iconst 0, 1) := by decide +kernel
theorem dX3_putInOrder_11 : decode cX3_putInOrder 11 = .ok (.istore 4, 2) := by decide +kernel
theorem dX3_putInOrder_13 : decode cX3_putInOrder 13 = .ok (.iload 4, 2) := by decide +kernel
theorem dX3_putInOrder_15 : decode cX3_putInOrder 15 = .ok (.iload_n 3, 1) := by decide +kernel
theorem dX3_putInOrder_16 : decode cX3_putInOrder 16 = .ok (.if_icmp .ge 34, 3) := by decide +kernel
theorem dX3_putInOrder_19 : decode cX3_putInOrder 19 = .ok (.aload_n 2, 1) := by decide +kernel
theorem dX3_putInOrder_20 : decode cX3_putInOrder 20 = .ok (.iload 4, 2) := by decide +kernel
theorem dX3_putInOrder_22 : decode cX3_putInOrder 22 = .ok (.aaload, 1) := by decide +kernel
theorem dX3_putInOrder_23 : decode cX3_putInOrder 23 = .ok (.astore 5, 2) := by decide +kernel
theorem dX3_putInOrder_25 : decode cX3_putInOrder 25 = .ok (.aload_n 0, 1) := by decide +kernel
theorem dX3_putInOrder_26 : decode cX3_putInOrder 26 = .ok (.aload 5, 2) := by decide +kernel
theorem dX3_putInOrder_28 : decode cX3_putInOrder 28 = .ok (.invokevirtual 91, 3) := by decide +kernel
theorem dX3_putInOrder_31 : decode cX3_putInOrder 31 = .ok (.ifCond .eq 13, 3) := by decide +kernel
theorem dX3_putInOrder_34 : decode cX3_putInOrder 34 = .ok (.aload_n 0, 1) := by decide +kernel
theorem dX3_putInOrder_35 : decode cX3_putInOrder 35 = .ok (.aload 5, 2) := by decide +kernel
theorem dX3_putInOrder_37 : decode cX3_putInOrder 37 = .ok (.iload_n 1, 1) := by decide +kernel
theorem dX3_putInOrder_38 : decode cX3_putInOrder 38 = .ok (.invokevirtual 98, 3) := by decide +kernel
theorem dX3_putInOrder_41 : decode cX3_putInOrder 41 = .ok (.iinc 1 1, 3) := by decide +kernel
theorem dX3_putInOrder_44 : decode cX3_putInOrder 44 = .ok (.iinc 4 1, 3) := by decide +kernel
theorem dX3_putInOrder_47 : decode cX3_putInOrder 47 = .ok (.goto (-34), 3) := by decide +kernel
theorem dX3_putInOrder_50 : decode cX3_putInOrder 50 = .ok (.return_, 1) := by decide +kernel
theorem dX3_insertInOrder_0 : decode cX3_insertInOrder 0 = .ok (.iload_n 2, 1) := by decide +kernel
theorem dX3_insertInOrder_1 : decode cX3_insertInOrder 1 = .ok (.istore_n 3, 1) := by decide +kernel
theorem dX3_insertInOrder_2 : decode cX3_insertInOrder 2 = .ok (.iload_n 3, 1) := by decide +kernel
theorem dX3_insertInOrder_3 : decode cX3_insertInOrder 3 = .ok (.ifCond .le 53, 3) := by decide +kernel
theorem dX3_insertInOrder_6 : decode cX3_insertInOrder 6 = .ok (.iload_n 3, 1) := by decide +kernel
theorem dX3_insertInOrder_7 : decode cX3_insertInOrder 7 = .ok (.aload_n 0, 1) := by decide +kernel
theorem dX3_insertInOrder_8 : decode cX3_insertInOrder 8 = .ok (.getfield 17, 3) := by decide +kernel
theorem dX3_insertInOrder_11 : decode cX3_insertInOrder 11 = .ok (.arraylength, 1) := by decide +kernel
theorem dX3_insertInOrder_12 : decode cX3_insertInOrder 12 = .ok (.if_icmp .ge 44, 3) := by decide +kernel
theorem dX3_insertInOrder_15 : decode cX3_insertInOrder 15 = .ok (.aload_n 0, 1) := by decide +kernel
theorem dX3_insertInOrder_16 : decode cX3_insertInOrder 16 = .ok (.getfield 17, 3) := by decide +kernel
theorem dX3_insertInOrder_19 : decode cX3_insertInOrder 19 = .ok (.iload_n 3, 1) := by decide +kernel
theorem dX3_insertInOrder_20 : decode cX3_insertInOrder 20 = .ok (.iconst 1, 1) := by decide +kernel
theorem dX3_insertInOrder_21 : decode cX3_insertInOrder 21 = .ok (.isub, 1) := by decide +kernel
theorem dX3_insertInOrder_22 : decode cX3_insertInOrder 22 = .ok (.aaload, 1) := by decide +kernel
theorem dX3_insertInOrder_23 : decode cX3_insertInOrder 23 = .ok (.astore 4, 2) := by decide +kernel
theorem dX3_insertInOrder_25 : decode cX3_insertInOrder 25 = .ok (.aload 4, 2) := by decide +kernel
theorem dX3_insertInOrder_27 : decode cX3_insertInOrder 27 = .ok (.ifnull 29, 3) := by decide +kernel
theorem dX3_insertInOrder_30 : decode cX3_insertInOrder 30 = .ok (.aload 4, 2) := by decide +kernel
theorem dX3_insertInOrder_32 : decode cX3_insertInOrder 32 = .ok (.aload_n 1, 1) := by decide +kernel
theorem dX3_insertInOrder_33 : decode cX3_insertInOrder 33 = .ok (.invokevirtual 95, 3) := by decide +kernel
theorem dX3_insertInOrder_36 : decode cX3_insertInOrder 36 = .ok (.ifCond .eq 6, 3) := by decide +kernel
theorem dX3_insertInOrder_39 : decode cX3_insertInOrder 39 = .ok (.goto 17, 3) := by decide +kernel
theorem dX3_insertInOrder_42 : decode cX3_insertInOrder 42 = .ok (.aload_n 0, 1) := by decide +kernel
theorem dX3_insertInOrder_43 : decode cX3_insertInOrder 43 = .ok (.getfield 17, 3) := by decide +kernel
theorem dX3_insertInOrder_46 : decode cX3_insertInOrder 46 = .ok (.iload_n 3, 1) := by decide +kernel
theorem dX3_insertInOrder_47 : decode cX3_insertInOrder 47 = .ok (.aload 4, 2) := by decide +kernel
theorem dX3_insertInOrder_49 : decode cX3_insertInOrder 49 = .ok (.aastore, 1) := by decide +kernel
theorem dX3_insertInOrder_50 : decode cX3_insertInOrder 50 = .ok (.iinc 3 (-1), 3) := by decide +kernel
theorem dX3_insertInOrder_53 : decode cX3_insertInOrder 53 = .ok (.goto (-51), 3) := by decide +kernel
theorem dX3_insertInOrder_56 : decode cX3_insertInOrder 56 = .ok (.iload_n 3, 1) := by decide +kernel
theorem dX3_insertInOrder_57 : decode cX3_insertInOrder 57 = .ok (.ifCond .lt 19, 3) := by decide +kernel
theorem dX3_insertInOrder_60 : decode cX3_insertInOrder 60 = .ok (.iload_n 3, 1) := by decide +kernel
theorem dX3_insertInOrder_61 : decode cX3_insertInOrder 61 = .ok (.aload_n 0, 1) := by decide +kernel
theorem dX3_insertInOrder_62 : decode cX3_insertInOrder 62 = .ok (.getfield 17, 3) := by decide +kernel
theorem dX3_insertInOrder_65 : decode cX3_insertInOrder 65 = .ok (.arraylength, 1) := by decide +kernel
theorem dX3_insertInOrder_66 : decode cX3_insertInOrder 66 = .ok (.if_icmp .ge 10, 3) := by decide +kernel
theorem dX3_insertInOrder_69 : decode cX3_insertInOrder 69 = .ok (.aload_n 0, 1) := by decide +kernel
theorem dX3_insertInOrder_70 : decode cX3_insertInOrder 70 = .ok (.getfield 17, 3) := by decide +kernel
theorem dX3_insertInOrder_73 : decode cX3_insertInOrder 73 = .ok (.iload_n 3, 1) := by decide +kernel
theorem dX3_insertInOrder_74 : decode cX3_insertInOrder 74 = .ok (.aload_n 1, 1) := by decide +kernel
theorem dX3_insertInOrder_75 : decode cX3_insertInOrder 75 = .ok (.aastore, 1) := by decide +kernel
theorem dX3_insertInOrder_76 : decode cX3_insertInOrder 76 = .ok (.return_, 1) := by decide +kernel
theorem dX3_inOrder_0 : decode cX3_inOrder 0 = .ok (.iload_n 1, 1) := by decide +kernel
theorem dX3_inOrder_1 : decode cX3_inOrder 1 = .ok (.ifCond .lt 20, 3) := by decide +kernel
theorem dX3_inOrder_4 : decode cX3_inOrder 4 = .ok (.iload_n 1, 1) := by decide +kernel
theorem dX3_inOrder_5 : decode cX3_inOrder 5 = .ok (.aload_n 0, 1) := by decide +kernel
theorem dX3_inOrder_6 : decode cX3_inOrder 6 = .ok (.getfield 35, 3) := by decide +kernel
theorem dX3_inOrder_9 : decode cX3_inOrder 9 = .ok (.if_icmp .ge 12, 3) := by decide +kernel
theorem dX3_inOrder_12 : decode cX3_inOrder 12 = .ok (.iload_n 1, 1) := by decide +kernel
theorem dX3_inOrder_13 : decode cX3_inOrder 13 = .ok (.aload_n 0, 1) := by decide +kernel
theorem dX3_inOrder_14 : decode cX3_inOrder 14 = .ok (.getfield 17, 3) := by decide +kernel
theorem dX3_inOrder_17 : decode cX3_inOrder 17 = .ok (.arraylength, 1) := by decide +kernel
theorem dX3_inOrder_18 : decode cX3_inOrder 18 = .ok (.if_icmp .lt 5, 3) := by decide +kernel
theorem dX3_inOrder_21 : decode cX3_inOrder 21 = .ok (.aconst_null, 1) := by decide +kernel
theorem dX3_inOrder_22 : decode cX3_inOrder 22 = .ok (.areturn, 1) := by decide +kernel
theorem dX3_inOrder_23 : decode cX3_inOrder 23 = .ok (.aload_n 0, 1) := by decide +kernel
theorem dX3_inOrder_24 : decode cX3_inOrder 24 = .ok (.getfield 17, 3) := by decide +kernel
theorem dX3_inOrder_27 : decode cX3_inOrder 27 = .ok (.iload_n 1, 1) := by decide +kernel
theorem dX3_inOrder_28 : decode cX3_inOrder 28 = .ok (.aaload, 1) := by decide +kernel
theorem dX3_inOrder_29 : decode cX3_inOrder 29 = .ok (.areturn, 1) := by decide +kernel
theorem dX3_arrivedAs_0 : decode cX3_arrivedAs 0 = .ok (.aload_n 0, 1) := by decide +kernel
theorem dX3_arrivedAs_1 : decode cX3_arrivedAs 1 = .ok (.getfield 11, 3) := by decide +kernel
theorem dX3_arrivedAs_4 : decode cX3_arrivedAs 4 = .ok (.astore_n 2, 1) := by decide +kernel
theorem dX3_arrivedAs_5 : decode cX3_arrivedAs 5 = .ok (.aload_n 2, 1) := by decide +kernel
theorem dX3_arrivedAs_6 : decode cX3_arrivedAs 6 = .ok (.arraylength, 1) := by decide +kernel
theorem dX3_arrivedAs_7 : decode cX3_arrivedAs 7 = .ok (.istore_n 3, 1) := by decide +kernel
theorem dX3_arrivedAs_8 : decode cX3_arrivedAs 8 = .ok (.iconst 0, 1) := by decide +kernel
theorem dX3_arrivedAs_9 : decode cX3_arrivedAs 9 = .ok (.istore 4, 2) := by decide +kernel
theorem dX3_arrivedAs_11 : decode cX3_arrivedAs 11 = .ok (.iload 4, 2) := by decide +kernel
theorem dX3_arrivedAs_13 : decode cX3_arrivedAs 13 = .ok (.iload_n 3, 1) := by decide +kernel
theorem dX3_arrivedAs_14 : decode cX3_arrivedAs 14 = .ok (.if_icmp .ge 45, 3) := by decide +kernel
theorem dX3_arrivedAs_17 : decode cX3_arrivedAs 17 = .ok (.aload_n 2, 1) := by decide +kernel
theorem dX3_arrivedAs_18 : decode cX3_arrivedAs 18 = .ok (.iload 4, 2) := by decide +kernel
theorem dX3_arrivedAs_20 : decode cX3_arrivedAs 20 = .ok (.aaload, 1) := by decide +kernel
theorem dX3_arrivedAs_21 : decode cX3_arrivedAs 21 = .ok (.astore 5, 2) := by decide +kernel
theorem dX3_arrivedAs_23 : decode cX3_arrivedAs 23 = .ok (.aload_n 0, 1) := by decide +kernel
theorem dX3_arrivedAs_24 : decode cX3_arrivedAs 24 = .ok (.aload 5, 2) := by decide +kernel
theorem dX3_arrivedAs_26 : decode cX3_arrivedAs 26 = .ok (.invokevirtual 91, 3) := by decide +kernel
theorem dX3_arrivedAs_29 : decode cX3_arrivedAs 29 = .ok (.ifCond .eq 24, 3) := by decide +kernel
theorem dX3_arrivedAs_32 : decode cX3_arrivedAs 32 = .ok (.aload 5, 2) := by decide +kernel
theorem dX3_arrivedAs_34 : decode cX3_arrivedAs 34 = .ok (.getfield 102, 3) := by decide +kernel
theorem dX3_arrivedAs_37 : decode cX3_arrivedAs 37 = .ok (.iconst 3, 1) := by decide +kernel
theorem dX3_arrivedAs_38 : decode cX3_arrivedAs 38 = .ok (.if_icmp .ne 15, 3) := by decide +kernel
theorem dX3_arrivedAs_41 : decode cX3_arrivedAs 41 = .ok (.aload 5, 2) := by decide +kernel
theorem dX3_arrivedAs_43 : decode cX3_arrivedAs 43 = .ok (.getfield 105, 3) := by decide +kernel
theorem dX3_arrivedAs_46 : decode cX3_arrivedAs 46 = .ok (.iload_n 1, 1) := by decide +kernel
theorem dX3_arrivedAs_47 : decode cX3_arrivedAs 47 = .ok (.if_icmp .ne 6, 3) := by decide +kernel
theorem dX3_arrivedAs_50 : decode cX3_arrivedAs 50 = .ok (.aload 5, 2) := by decide +kernel
theorem dX3_arrivedAs_52 : decode cX3_arrivedAs 52 = .ok (.areturn, 1) := by decide +kernel
theorem dX3_arrivedAs_53 : decode cX3_arrivedAs 53 = .ok (.iinc 4 1, 3) := by decide +kernel
theorem dX3_arrivedAs_56 : decode cX3_arrivedAs 56 = .ok (.goto (-45), 3) := by decide +kernel
theorem dX3_arrivedAs_59 : decode cX3_arrivedAs 59 = .ok (.aconst_null, 1) := by decide +kernel
theorem dX3_arrivedAs_60 : decode cX3_arrivedAs 60 = .ok (.areturn, 1) := by decide +kernel
theorem dX3_sumFlown_0 : decode cX3_sumFlown 0 = .ok (.iconst 0, 1) := by decide +kernel
theorem dX3_sumFlown_1 : decode cX3_sumFlown 1 = .ok (.istore_n 1, 1) := by decide +kernel
theorem dX3_sumFlown_2 : decode cX3_sumFlown 2 = .ok (.aload_n 0, 1) := by decide +kernel
theorem dX3_sumFlown_3 : decode cX3_sumFlown 3 = .ok (.getfield 11, 3) := by decide +kernel
theorem dX3_sumFlown_6 : decode cX3_sumFlown 6 = .ok (.astore_n 2, 1) := by decide +kernel
theorem dX3_sumFlown_7 : decode cX3_sumFlown 7 = .ok (.aload_n 2, 1) := by decide +kernel
theorem dX3_sumFlown_8 : decode cX3_sumFlown 8 = .ok (.arraylength, 1) := by decide +kernel
theorem dX3_sumFlown_9 : decode cX3_sumFlown 9 = .ok (.istore_n 3, 1) := by decide +kernel
theorem dX3_sumFlown_10 : decode cX3_sumFlown 10 = .ok (.iconst 0, 1) := by decide +kernel
theorem dX3_sumFlown_11 : decode cX3_sumFlown 11 = .ok (.istore 4, 2) := by decide +kernel
theorem dX3_sumFlown_13 : decode cX3_sumFlown 13 = .ok (.iload 4, 2) := by decide +kernel
theorem dX3_sumFlown_15 : decode cX3_sumFlown 15 = .ok (.iload_n 3, 1) := by decide +kernel
theorem dX3_sumFlown_16 : decode cX3_sumFlown 16 = .ok (.if_icmp .ge 32, 3) := by decide +kernel
theorem dX3_sumFlown_19 : decode cX3_sumFlown 19 = .ok (.aload_n 2, 1) := by decide +kernel
theorem dX3_sumFlown_20 : decode cX3_sumFlown 20 = .ok (.iload 4, 2) := by decide +kernel
theorem dX3_sumFlown_22 : decode cX3_sumFlown 22 = .ok (.aaload, 1) := by decide +kernel
theorem dX3_sumFlown_23 : decode cX3_sumFlown 23 = .ok (.astore 5, 2) := by decide +kernel
theorem dX3_sumFlown_25 : decode cX3_sumFlown 25 = .ok (.aload_n 0, 1) := by decide +kernel
theorem dX3_sumFlown_26 : decode cX3_sumFlown 26 = .ok (.aload 5, 2) := by decide +kernel
theorem dX3_sumFlown_28 : decode cX3_sumFlown 28 = .ok (.invokevirtual 91, 3) := by decide +kernel
theorem dX3_sumFlown_31 : decode cX3_sumFlown 31 = .ok (.ifCond .eq 11, 3) := by decide +kernel
theorem dX3_sumFlown_34 : decode cX3_sumFlown 34 = .ok (.iload_n 1, 1) := by decide +kernel
theorem dX3_sumFlown_35 : decode cX3_sumFlown 35 = .ok (.aload 5, 2) := by decide +kernel
theorem dX3_sumFlown_37 : decode cX3_sumFlown 37 = .ok (.getfield 108, 3) := by decide +kernel
theorem dX3_sumFlown_40 : decode cX3_sumFlown 40 = .ok (.iadd, 1) := by decide +kernel
theorem dX3_sumFlown_41 : decode cX3_sumFlown 41 = .ok (.istore_n 1, 1) := by decide +kernel
theorem dX3_sumFlown_42 : decode cX3_sumFlown 42 = .ok (.iinc 4 1, 3) := by decide +kernel
theorem dX3_sumFlown_45 : decode cX3_sumFlown 45 = .ok (.goto (-32), 3) := by decide +kernel
theorem dX3_sumFlown_48 : decode cX3_sumFlown 48 = .ok (.iload_n 1, 1) := by decide +kernel
theorem dX3_sumFlown_49 : decode cX3_sumFlown 49 = .ok (.ireturn, 1) := by decide +kernel
theorem dX3_nextAhead_0 : decode cX3_nextAhead 0 = .ok (.aconst_null, 1) := by decide +kernel
theorem dX3_nextAhead_1 : decode cX3_nextAhead 1 = .ok (.astore_n 2, 1) := by decide +kernel
theorem dX3_nextAhead_2 : decode cX3_nextAhead 2 = .ok (.sipush 401, 3) := by decide +kernel
theorem dX3_nextAhead_5 : decode cX3_nextAhead 5 = .ok (.istore_n 3, 1) := by decide +kernel
theorem dX3_nextAhead_6 : decode cX3_nextAhead 6 = .ok (.aload_n 0, 1) := by decide +kernel
theorem dX3_nextAhead_7 : decode cX3_nextAhead 7 = .ok (.getfield 11, 3) := by decide +kernel
theorem dX3_nextAhead_10 : decode cX3_nextAhead 10 = .ok (.astore 4, 2) := by decide +kernel
theorem dX3_nextAhead_12 : decode cX3_nextAhead 12 = .ok (.aload 4, 2) := by decide +kernel
theorem dX3_nextAhead_14 : decode cX3_nextAhead 14 = .ok (.arraylength, 1) := by decide +kernel
theorem dX3_nextAhead_15 : decode cX3_nextAhead 15 = .ok (.istore 5, 2) := by decide +kernel
theorem dX3_nextAhead_17 : decode cX3_nextAhead 17 = .ok (.iconst 0, 1) := by decide +kernel
theorem dX3_nextAhead_18 : decode cX3_nextAhead 18 = .ok (.istore 6, 2) := by decide +kernel
theorem dX3_nextAhead_20 : decode cX3_nextAhead 20 = .ok (.iload 6, 2) := by decide +kernel
theorem dX3_nextAhead_22 : decode cX3_nextAhead 22 = .ok (.iload 5, 2) := by decide +kernel
theorem dX3_nextAhead_24 : decode cX3_nextAhead 24 = .ok (.if_icmp .ge 50, 3) := by decide +kernel
theorem dX3_nextAhead_27 : decode cX3_nextAhead 27 = .ok (.aload 4, 2) := by decide +kernel
theorem dX3_nextAhead_29 : decode cX3_nextAhead 29 = .ok (.iload 6, 2) := by decide +kernel
theorem dX3_nextAhead_31 : decode cX3_nextAhead 31 = .ok (.aaload, 1) := by decide +kernel
theorem dX3_nextAhead_32 : decode cX3_nextAhead 32 = .ok (.astore 7, 2) := by decide +kernel
theorem dX3_nextAhead_34 : decode cX3_nextAhead 34 = .ok (.aload_n 0, 1) := by decide +kernel
theorem dX3_nextAhead_35 : decode cX3_nextAhead 35 = .ok (.aload 7, 2) := by decide +kernel
theorem dX3_nextAhead_37 : decode cX3_nextAhead 37 = .ok (.aload_n 1, 1) := by decide +kernel
theorem dX3_nextAhead_38 : decode cX3_nextAhead 38 = .ok (.aload_n 1, 1) := by decide +kernel
theorem dX3_nextAhead_39 : decode cX3_nextAhead 39 = .ok (.getfield 111, 3) := by decide +kernel
theorem dX3_nextAhead_42 : decode cX3_nextAhead 42 = .ok (.invokevirtual 114, 3) := by decide +kernel
theorem dX3_nextAhead_45 : decode cX3_nextAhead 45 = .ok (.ifCond .eq 23, 3) := by decide +kernel
theorem dX3_nextAhead_48 : decode cX3_nextAhead 48 = .ok (.aload_n 1, 1) := by decide +kernel
theorem dX3_nextAhead_49 : decode cX3_nextAhead 49 = .ok (.aload 7, 2) := by decide +kernel
theorem dX3_nextAhead_51 : decode cX3_nextAhead 51 = .ok (.invokevirtual 118, 3) := by decide +kernel
theorem dX3_nextAhead_54 : decode cX3_nextAhead 54 = .ok (.istore 8, 2) := by decide +kernel
theorem dX3_nextAhead_56 : decode cX3_nextAhead 56 = .ok (.iload 8, 2) := by decide +kernel
theorem dX3_nextAhead_58 : decode cX3_nextAhead 58 = .ok (.iload_n 3, 1) := by decide +kernel
theorem dX3_nextAhead_59 : decode cX3_nextAhead 59 = .ok (.if_icmp .ge 9, 3) := by decide +kernel
theorem dX3_nextAhead_62 : decode cX3_nextAhead 62 = .ok (.iload 8, 2) := by decide +kernel
theorem dX3_nextAhead_64 : decode cX3_nextAhead 64 = .ok (.istore_n 3, 1) := by decide +kernel
theorem dX3_nextAhead_65 : decode cX3_nextAhead 65 = .ok (.aload 7, 2) := by decide +kernel
theorem dX3_nextAhead_67 : decode cX3_nextAhead 67 = .ok (.astore_n 2, 1) := by decide +kernel
theorem dX3_nextAhead_68 : decode cX3_nextAhead 68 = .ok (.iinc 6 1, 3) := by decide +kernel
theorem dX3_nextAhead_71 : decode cX3_nextAhead 71 = .ok (.goto (-51), 3) := by decide +kernel
theorem dX3_nextAhead_74 : decode cX3_nextAhead 74 = .ok (.aload_n 2, 1) := by decide +kernel
theorem dX3_nextAhead_75 : decode cX3_nextAhead 75 = .ok (.areturn, 1) := by decide +kernel
theorem dX3_isInTheWay_0 : decode cX3_isInTheWay 0 = .ok (.aload_n 1, 1) := by decide +kernel
theorem dX3_isInTheWay_1 : decode cX3_isInTheWay 1 = .ok (.ifnull 45, 3) := by decide +kernel
theorem dX3_isInTheWay_4 : decode cX3_isInTheWay 4 = .ok (.aload_n 1, 1) := by decide +kernel
theorem dX3_isInTheWay_5 : decode cX3_isInTheWay 5 = .ok (.getfield 88, 3) := by decide +kernel
theorem dX3_isInTheWay_8 : decode cX3_isInTheWay 8 = .ok (.aload_n 0, 1) := by decide +kernel
theorem dX3_isInTheWay_9 : decode cX3_isInTheWay 9 = .ok (.getfield 35, 3) := by decide +kernel
theorem dX3_isInTheWay_12 : decode cX3_isInTheWay 12 = .ok (.if_icmp .ge 34, 3) := by decide +kernel
theorem dX3_isInTheWay_15 : decode cX3_isInTheWay 15 = .ok (.aload_n 1, 1) := by decide +kernel
theorem dX3_isInTheWay_16 : decode cX3_isInTheWay 16 = .ok (.getfield 88, 3) := by decide +kernel
theorem dX3_isInTheWay_19 : decode cX3_isInTheWay 19 = .ok (.aload_n 2, 1) := by decide +kernel
theorem dX3_isInTheWay_20 : decode cX3_isInTheWay 20 = .ok (.getfield 88, 3) := by decide +kernel
theorem dX3_isInTheWay_23 : decode cX3_isInTheWay 23 = .ok (.if_icmp .eq 23, 3) := by decide +kernel
theorem dX3_isInTheWay_26 : decode cX3_isInTheWay 26 = .ok (.aload_n 1, 1) := by decide +kernel
theorem dX3_isInTheWay_27 : decode cX3_isInTheWay 27 = .ok (.getfield 102, 3) := by decide +kernel
theorem dX3_isInTheWay_30 : decode cX3_isInTheWay 30 = .ok (.iconst 1, 1) := by decide +kernel
theorem dX3_isInTheWay_31 : decode cX3_isInTheWay 31 = .ok (.if_icmp .ne 15, 3) := by decide +kernel
theorem dX3_isInTheWay_34 : decode cX3_isInTheWay 34 = .ok (.aload_n 1, 1) := by decide +kernel
theorem dX3_isInTheWay_35 : decode cX3_isInTheWay 35 = .ok (.getfield 111, 3) := by decide +kernel
theorem dX3_isInTheWay_38 : decode cX3_isInTheWay 38 = .ok (.iload_n 3, 1) := by decide +kernel
theorem dX3_isInTheWay_39 : decode cX3_isInTheWay 39 = .ok (.if_icmp .ne 7, 3) := by decide +kernel
theorem dX3_isInTheWay_42 : decode cX3_isInTheWay 42 = .ok (.iconst 1, 1) := by decide +kernel
theorem dX3_isInTheWay_43 : decode cX3_isInTheWay 43 = .ok (.goto 4, 3) := by decide +kernel
theorem dX3_isInTheWay_46 : decode cX3_isInTheWay 46 = .ok (.iconst 0, 1) := by decide +kernel
theorem dX3_isInTheWay_47 : decode cX3_isInTheWay 47 = .ok (.ireturn, 1) := by decide +kernel
theorem dX3_gapOf_0 : decode cX3_gapOf 0 = .ok (.aload_n 0, 1) := by decide +kernel
theorem dX3_gapOf_1 : decode cX3_gapOf 1 = .ok (.aload_n 1, 1) := by decide +kernel
theorem dX3_gapOf_2 : decode cX3_gapOf 2 = .ok (.invokevirtual 122, 3) := by decide +kernel
theorem dX3_gapOf_5 : decode cX3_gapOf 5 = .ok (.astore_n 2, 1) := by decide +kernel
theorem dX3_gapOf_6 : decode cX3_gapOf 6 = .ok (.aload_n 2, 1) := by decide +kernel
theorem dX3_gapOf_7 : decode cX3_gapOf 7 = .ok (.ifnonnull 7, 3) := by decide +kernel
theorem dX3_gapOf_10 : decode cX3_gapOf 10 = .ok (.iconst 0, 1) := by decide +kernel
theorem dX3_gapOf_11 : decode cX3_gapOf 11 = .ok (.goto 8, 3) := by decide +kernel
theorem dX3_gapOf_14 : decode cX3_gapOf 14 = .ok (.aload_n 1, 1) := by decide +kernel
theorem dX3_gapOf_15 : decode cX3_gapOf 15 = .ok (.aload_n 2, 1) := by decide +kernel
theorem dX3_gapOf_16 : decode cX3_gapOf 16 = .ok (.invokevirtual 118, 3) := by decide +kernel
theorem dX3_gapOf_19 : decode cX3_gapOf 19 = .ok (.ireturn, 1) := by decide +kernel
theorem dX3_allowedFeet_0 : decode cX3_allowedFeet 0 = .ok (.aload_n 1, 1) := by decide +kernel
theorem dX3_allowedFeet_1 : decode cX3_allowedFeet 1 = .ok (.getfield 70, 3) := by decide +kernel
theorem dX3_allowedFeet_4 : decode cX3_allowedFeet 4 = .ok (.istore_n 2, 1) := by decide +kernel
theorem dX3_allowedFeet_5 : decode cX3_allowedFeet 5 = .ok (.aload_n 1, 1) := by decide +kernel
theorem dX3_allowedFeet_6 : decode cX3_allowedFeet 6 = .ok (.invokevirtual 126, 3) := by decide +kernel
theorem dX3_allowedFeet_9 : decode cX3_allowedFeet 9 = .ok (.iconst 4, 1) := by decide +kernel
theorem dX3_allowedFeet_10 : decode cX3_allowedFeet 10 = .ok (.isub, 1) := by decide +kernel
theorem dX3_allowedFeet_11 : decode cX3_allowedFeet 11 = .ok (.istore_n 3, 1) := by decide +kernel
theorem dX3_allowedFeet_12 : decode cX3_allowedFeet 12 = .ok (.iload_n 3, 1) := by decide +kernel
theorem dX3_allowedFeet_13 : decode cX3_allowedFeet 13 = .ok (.ifCond .lt 37, 3) := by decide +kernel
theorem dX3_allowedFeet_16 : decode cX3_allowedFeet 16 = .ok (.aload_n 0, 1) := by decide +kernel
theorem dX3_allowedFeet_17 : decode cX3_allowedFeet 17 = .ok (.iload_n 3, 1) := by decide +kernel
theorem dX3_allowedFeet_18 : decode cX3_allowedFeet 18 = .ok (.invokevirtual 130, 3) := by decide +kernel
theorem dX3_allowedFeet_21 : decode cX3_allowedFeet 21 = .ok (.aload_n 1, 1) := by decide +kernel
theorem dX3_allowedFeet_22 : decode cX3_allowedFeet 22 = .ok (.getfield 111, 3) := by decide +kernel
theorem dX3_allowedFeet_25 : decode cX3_allowedFeet 25 = .ok (.iconst 1, 1) := by decide +kernel
theorem dX3_allowedFeet_26 : decode cX3_allowedFeet 26 = .ok (.if_icmp .ne 7, 3) := by decide +kernel
theorem dX3_allowedFeet_29 : decode cX3_allowedFeet 29 = .ok (.iconst 2, 1) := by decide +kernel
theorem dX3_allowedFeet_30 : decode cX3_allowedFeet 30 = .ok (.goto 4, 3) := by decide +kernel
theorem dX3_allowedFeet_33 : decode cX3_allowedFeet 33 = .ok (.iconst 0, 1) := by decide +kernel
theorem dX3_allowedFeet_34 : decode cX3_allowedFeet 34 = .ok (.iadd, 1) := by decide +kernel
theorem dX3_allowedFeet_35 : decode cX3_allowedFeet 35 = .ok (.istore 4, 2) := by decide +kernel
theorem dX3_allowedFeet_37 : decode cX3_allowedFeet 37 = .ok (.iload 4, 2) := by decide +kernel
theorem dX3_allowedFeet_39 : decode cX3_allowedFeet 39 = .ok (.iload_n 2, 1) := by decide +kernel
theorem dX3_allowedFeet_40 : decode cX3_allowedFeet 40 = .ok (.if_icmp .ge 8, 3) := by decide +kernel
theorem dX3_allowedFeet_43 : decode cX3_allowedFeet 43 = .ok (.iload 4, 2) := by decide +kernel
theorem dX3_allowedFeet_45 : decode cX3_allowedFeet 45 = .ok (.goto 4, 3) := by decide +kernel
theorem dX3_allowedFeet_48 : decode cX3_allowedFeet 48 = .ok (.iload_n 2, 1) := by decide +kernel
theorem dX3_allowedFeet_49 : decode cX3_allowedFeet 49 = .ok (.istore_n 2, 1) := by decide +kernel
theorem dX3_allowedFeet_50 : decode cX3_allowedFeet 50 = .ok (.iload_n 2, 1) := by decide +kernel
theorem dX3_allowedFeet_51 : decode cX3_allowedFeet 51 = .ok (.aload_n 1, 1) := by decide +kernel
theorem dX3_allowedFeet_52 : decode cX3_allowedFeet 52 = .ok (.getfield 134, 3) := by decide +kernel
theorem dX3_allowedFeet_55 : decode cX3_allowedFeet 55 = .ok (.bipush 10, 2) := by decide +kernel
theorem dX3_allowedFeet_57 : decode cX3_allowedFeet 57 = .ok (.idiv, 1) := by decide +kernel
theorem dX3_allowedFeet_58 : decode cX3_allowedFeet 58 = .ok (.isub, 1) := by decide +kernel
theorem dX3_allowedFeet_59 : decode cX3_allowedFeet 59 = .ok (.istore_n 2, 1) := by decide +kernel
theorem dX3_allowedFeet_60 : decode cX3_allowedFeet 60 = .ok (.iload_n 2, 1) := by decide +kernel
theorem dX3_allowedFeet_61 : decode cX3_allowedFeet 61 = .ok (.iconst 4, 1) := by decide +kernel
theorem dX3_allowedFeet_62 : decode cX3_allowedFeet 62 = .ok (.if_icmp .ge 7, 3) := by decide +kernel
theorem dX3_allowedFeet_65 : decode cX3_allowedFeet 65 = .ok (.iconst 4, 1) := by decide +kernel
theorem dX3_allowedFeet_66 : decode cX3_allowedFeet 66 = .ok (.goto 4, 3) := by decide +kernel
theorem dX3_allowedFeet_69 : decode cX3_allowedFeet 69 = .ok (.iload_n 2, 1) := by decide +kernel
theorem dX3_allowedFeet_70 : decode cX3_allowedFeet 70 = .ok (.ireturn, 1) := by decide +kernel
theorem dX3_draftFeet_0 : decode cX3_draftFeet 0 = .ok (.aload_n 2, 1) := by decide +kernel
theorem dX3_draftFeet_1 : decode cX3_draftFeet 1 = .ok (.ifnull 13, 3) := by decide +kernel
theorem dX3_draftFeet_4 : decode cX3_draftFeet 4 = .ok (.aload_n 1, 1) := by decide +kernel
theorem dX3_draftFeet_5 : decode cX3_draftFeet 5 = .ok (.aload_n 2, 1) := by decide +kernel
theorem dX3_draftFeet_6 : decode cX3_draftFeet 6 = .ok (.invokevirtual 118, 3) := by decide +kernel
theorem dX3_draftFeet_9 : decode cX3_draftFeet 9 = .ok (.bipush 8, 2) := by decide +kernel
theorem dX3_draftFeet_11 : decode cX3_draftFeet 11 = .ok (.if_icmp .le 5, 3) := by decide +kernel
theorem dX3_draftFeet_14 : decode cX3_draftFeet 14 = .ok (.iconst 0, 1) := by decide +kernel
theorem dX3_draftFeet_15 : decode cX3_draftFeet 15 = .ok (.ireturn, 1) := by decide +kernel
theorem dX3_draftFeet_16 : decode cX3_draftFeet 16 = .ok (.aload_n 2, 1) := by decide +kernel
theorem dX3_draftFeet_17 : decode cX3_draftFeet 17 = .ok (.getfield 88, 3) := by decide +kernel
theorem dX3_draftFeet_20 : decode cX3_draftFeet 20 = .ok (.aload_n 1, 1) := by decide +kernel
theorem dX3_draftFeet_21 : decode cX3_draftFeet 21 = .ok (.getfield 79, 3) := by decide +kernel
theorem dX3_draftFeet_24 : decode cX3_draftFeet 24 = .ok (.if_icmp .ne 7, 3) := by decide +kernel
theorem dX3_draftFeet_27 : decode cX3_draftFeet 27 = .ok (.iconst 2, 1) := by decide +kernel
theorem dX3_draftFeet_28 : decode cX3_draftFeet 28 = .ok (.goto 4, 3) := by decide +kernel
theorem dX3_draftFeet_31 : decode cX3_draftFeet 31 = .ok (.iconst 1, 1) := by decide +kernel
theorem dX3_draftFeet_32 : decode cX3_draftFeet 32 = .ok (.ireturn, 1) := by decide +kernel
theorem dX3_mayChangeLane_0 : decode cX3_mayChangeLane 0 = .ok (.aload_n 1, 1) := by decide +kernel
theorem dX3_mayChangeLane_1 : decode cX3_mayChangeLane 1 = .ok (.invokevirtual 126, 3) := by decide +kernel
theorem dX3_mayChangeLane_4 : decode cX3_mayChangeLane 4 = .ok (.iconst 4, 1) := by decide +kernel
theorem dX3_mayChangeLane_5 : decode cX3_mayChangeLane 5 = .ok (.if_icmp .lt 5, 3) := by decide +kernel
theorem dX3_mayChangeLane_8 : decode cX3_mayChangeLane 8 = .ok (.iconst 0, 1) := by decide +kernel
theorem dX3_mayChangeLane_9 : decode cX3_mayChangeLane 9 = .ok (.ireturn, 1) := by decide +kernel
theorem dX3_mayChangeLane_10 : decode cX3_mayChangeLane 10 = .ok (.aload_n 0, 1) := by decide +kernel
theorem dX3_mayChangeLane_11 : decode cX3_mayChangeLane 11 = .ok (.getfield 11, 3) := by decide +kernel
theorem dX3_mayChangeLane_14 : decode cX3_mayChangeLane 14 = .ok (.astore_n 2, 1) := by decide +kernel
theorem dX3_mayChangeLane_15 : decode cX3_mayChangeLane 15 = .ok (.aload_n 2, 1) := by decide +kernel
theorem dX3_mayChangeLane_16 : decode cX3_mayChangeLane 16 = .ok (.arraylength, 1) := by decide +kernel
theorem dX3_mayChangeLane_17 : decode cX3_mayChangeLane 17 = .ok (.istore_n 3, 1) := by decide +kernel
theorem dX3_mayChangeLane_18 : decode cX3_mayChangeLane 18 = .ok (.iconst 0, 1) := by decide +kernel
theorem dX3_mayChangeLane_19 : decode cX3_mayChangeLane 19 = .ok (.istore 4, 2) := by decide +kernel
theorem dX3_mayChangeLane_21 : decode cX3_mayChangeLane 21 = .ok (.iload 4, 2) := by decide +kernel
theorem dX3_mayChangeLane_23 : decode cX3_mayChangeLane 23 = .ok (.iload_n 3, 1) := by decide +kernel
theorem dX3_mayChangeLane_24 : decode cX3_mayChangeLane 24 = .ok (.if_icmp .ge 55, 3) := by decide +kernel
theorem dX3_mayChangeLane_27 : decode cX3_mayChangeLane 27 = .ok (.aload_n 2, 1) := by decide +kernel
theorem dX3_mayChangeLane_28 : decode cX3_mayChangeLane 28 = .ok (.iload 4, 2) := by decide +kernel
theorem dX3_mayChangeLane_30 : decode cX3_mayChangeLane 30 = .ok (.aaload, 1) := by decide +kernel
theorem dX3_mayChangeLane_31 : decode cX3_mayChangeLane 31 = .ok (.astore 5, 2) := by decide +kernel
theorem dX3_mayChangeLane_33 : decode cX3_mayChangeLane 33 = .ok (.aload_n 0, 1) := by decide +kernel
theorem dX3_mayChangeLane_34 : decode cX3_mayChangeLane 34 = .ok (.aload 5, 2) := by decide +kernel
theorem dX3_mayChangeLane_36 : decode cX3_mayChangeLane 36 = .ok (.aload_n 1, 1) := by decide +kernel
theorem dX3_mayChangeLane_37 : decode cX3_mayChangeLane 37 = .ok (.iconst 1, 1) := by decide +kernel
theorem dX3_mayChangeLane_38 : decode cX3_mayChangeLane 38 = .ok (.aload_n 1, 1) := by decide +kernel
theorem dX3_mayChangeLane_39 : decode cX3_mayChangeLane 39 = .ok (.getfield 111, 3) := by decide +kernel
theorem dX3_mayChangeLane_42 : decode cX3_mayChangeLane 42 = .ok (.isub, 1) := by decide +kernel
theorem dX3_mayChangeLane_43 : decode cX3_mayChangeLane 43 = .ok (.invokevirtual 114, 3) := by decide +kernel
theorem dX3_mayChangeLane_46 : decode cX3_mayChangeLane 46 = .ok (.ifCond .eq 27, 3) := by decide +kernel
theorem dX3_mayChangeLane_49 : decode cX3_mayChangeLane 49 = .ok (.aload_n 1, 1) := by decide +kernel
theorem dX3_mayChangeLane_50 : decode cX3_mayChangeLane 50 = .ok (.aload 5, 2) := by decide +kernel
theorem dX3_mayChangeLane_52 : decode cX3_mayChangeLane 52 = .ok (.invokevirtual 118, 3) := by decide +kernel
theorem dX3_mayChangeLane_55 : decode cX3_mayChangeLane 55 = .ok (.istore 6, 2) := by decide +kernel
theorem dX3_mayChangeLane_57 : decode cX3_mayChangeLane 57 = .ok (.iload 6, 2) := by decide +kernel
