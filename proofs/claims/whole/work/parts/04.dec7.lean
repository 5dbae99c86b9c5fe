theorem dX7_init_0 : decode cX7_init 0 = .ok (.aload_n 0, 1) := by decide +kernel
theorem dX7_init_1 : decode cX7_init 1 = .ok (.invokespecial 3, 3) := by decide +kernel
theorem dX7_init_4 : decode cX7_init 4 = .ok (.aload_n 0, 1) := by decide +kernel
theorem dX7_init_5 : decode cX7_init 5 = .ok (.sipush 550, 3) := by decide +kernel
theorem dX7_init_8 : decode cX7_init 8 = .ok (.newarray .int, 2) := by decide +kernel
theorem dX7_init_10 : decode cX7_init 10 = .ok (.putfield 9, 3) := by decide +kernel
theorem dX7_init_13 : decode cX7_init 13 = .ok (.aload_n 0, 1) := by decide +kernel
theorem dX7_init_14 : decode cX7_init 14 = .ok (.sipush 550, 3) := by decide +kernel
theorem dX7_init_17 : decode cX7_init 17 = .ok (.newarray .int, 2) := by decide +kernel
theorem dX7_init_19 : decode cX7_init 19 = .ok (.putfield 13, 3) := by decide +kernel
theorem dX7_init_22 : decode cX7_init 22 = .ok (.aload_n 0, 1) := by decide +kernel
theorem dX7_init_23 : decode cX7_init 23 = .ok (.sipush 4400, 3) := by decide +kernel
theorem dX7_init_26 : decode cX7_init 26 = .ok (.newarray .int, 2) := by decide +kernel
theorem dX7_init_28 : decode cX7_init 28 = .ok (.putfield 16, 3) := by decide +kernel
theorem dX7_init_31 : decode cX7_init 31 = .ok (.aload_n 0, 1) := by decide +kernel
theorem dX7_init_32 : decode cX7_init 32 = .ok (.sipush 1100, 3) := by decide +kernel
theorem dX7_init_35 : decode cX7_init 35 = .ok (.newarray .int, 2) := by decide +kernel
theorem dX7_init_37 : decode cX7_init 37 = .ok (.putfield 19, 3) := by decide +kernel
theorem dX7_init_40 : decode cX7_init 40 = .ok (.aload_n 0, 1) := by decide +kernel
theorem dX7_init_41 : decode cX7_init 41 = .ok (.sipush 550, 3) := by decide +kernel
theorem dX7_init_44 : decode cX7_init 44 = .ok (.newarray .int, 2) := by decide +kernel
theorem dX7_init_46 : decode cX7_init 46 = .ok (.putfield 22, 3) := by decide +kernel
theorem dX7_init_49 : decode cX7_init 49 = .ok (.aload_n 0, 1) := by decide +kernel
theorem dX7_init_50 : decode cX7_init 50 = .ok (.iconst 2, 1) := by decide +kernel
theorem dX7_init_51 : decode cX7_init 51 = .ok (.newarray .boolean, 2) := by decide +kernel
theorem dX7_init_53 : decode cX7_init 53 = .ok (.putfield 25, 3) := by decide +kernel
theorem dX7_init_56 : decode cX7_init 56 = .ok (.aload_n 0, 1) := by decide +kernel
theorem dX7_init_57 : decode cX7_init 57 = .ok (.sipush 700, 3) := by decide +kernel
theorem dX7_init_60 : decode cX7_init 60 = .ok (.newarray .int, 2) := by decide +kernel
theorem dX7_init_62 : decode cX7_init 62 = .ok (.putfield 29, 3) := by decide +kernel
theorem dX7_init_65 : decode cX7_init 65 = .ok (.aload_n 0, 1) := by decide +kernel
theorem dX7_init_66 : decode cX7_init 66 = .ok (.sipush 700, 3) := by decide +kernel
theorem dX7_init_69 : decode cX7_init 69 = .ok (.newarray .int, 2) := by decide +kernel
theorem dX7_init_71 : decode cX7_init 71 = .ok (.putfield 32, 3) := by decide +kernel
theorem dX7_init_74 : decode cX7_init 74 = .ok (.aload_n 0, 1) := by decide +kernel
theorem dX7_init_75 : decode cX7_init 75 = .ok (.iconst (-1), 1) := by decide +kernel
theorem dX7_init_76 : decode cX7_init 76 = .ok (.putfield 35, 3) := by decide +kernel
theorem dX7_init_79 : decode cX7_init 79 = .ok (.aload_n 0, 1) := by decide +kernel
theorem dX7_init_80 : decode cX7_init 80 = .ok (.bipush 6, 2) := by decide +kernel
theorem dX7_init_82 : decode cX7_init 82 = .ok (.newarray .int, 2) := by decide +kernel
theorem dX7_init_84 : decode cX7_init 84 = .ok (.putfield 39, 3) := by decide +kernel
theorem dX7_init_87 : decode cX7_init 87 = .ok (.aload_n 0, 1) := by decide +kernel
theorem dX7_init_88 : decode cX7_init 88 = .ok (.ldc 42, 2) := by decide +kernel
theorem dX7_init_90 : decode cX7_init 90 = .ok (.invokevirtual 44, 3) := by decide +kernel
theorem dX7_init_93 : decode cX7_init 93 = .ok (.return_, 1) := by decide +kernel
theorem dX7_lays_0 : decode cX7_lays 0 = .ok (.aload_n 0, 1) := by decide +kernel
theorem dX7_lays_1 : decode cX7_lays 1 = .ok (.aload_n 1, 1) := by decide +kernel
theorem dX7_lays_2 : decode cX7_lays 2 = .ok (.invokevirtual 48, 3) := by decide +kernel
theorem dX7_lays_5 : decode cX7_lays 5 = .ok (.putfield 54, 3) := by decide +kernel
theorem dX7_lays_8 : decode cX7_lays 8 = .ok (.iconst 0, 1) := by decide +kernel
theorem dX7_lays_9 : decode cX7_lays 9 = .ok (.istore_n 2, 1) := by decide +kernel
theorem dX7_lays_10 : decode cX7_lays 10 = .ok (.iload_n 2, 1) := by decide +kernel
theorem dX7_lays_11 : decode cX7_lays 11 = .ok (.aload_n 0, 1) := by decide +kernel
theorem dX7_lays_12 : decode cX7_lays 12 = .ok (.getfield 54, 3) := by decide +kernel
theorem dX7_lays_15 : decode cX7_lays 15 = .ok (.if_icmp .ge 20, 3) := by decide +kernel
theorem dX7_lays_18 : decode cX7_lays 18 = .ok (.aload_n 0, 1) := by decide +kernel
theorem dX7_lays_19 : decode cX7_lays 19 = .ok (.getfield 29, 3) := by decide +kernel
theorem dX7_lays_22 : decode cX7_lays 22 = .ok (.iload_n 2, 1) := by decide +kernel
theorem dX7_lays_23 : decode cX7_lays 23 = .ok (.aload_n 1, 1) := by decide +kernel
theorem dX7_lays_24 : decode cX7_lays 24 = .ok (.iload_n 2, 1) := by decide +kernel
theorem dX7_lays_25 : decode cX7_lays 25 = .ok (.invokevirtual 57, 3) := by decide +kernel
theorem dX7_lays_28 : decode cX7_lays 28 = .ok (.iastore, 1) := by decide +kernel
theorem dX7_lays_29 : decode cX7_lays 29 = .ok (.iinc 2 1, 3) := by decide +kernel
theorem dX7_lays_32 : decode cX7_lays 32 = .ok (.goto (-22), 3) := by decide +kernel
theorem dX7_lays_35 : decode cX7_lays 35 = .ok (.aload_n 0, 1) := by decide +kernel
theorem dX7_lays_36 : decode cX7_lays 36 = .ok (.invokevirtual 61, 3) := by decide +kernel
theorem dX7_lays_39 : decode cX7_lays 39 = .ok (.istore_n 2, 1) := by decide +kernel
theorem dX7_lays_40 : decode cX7_lays 40 = .ok (.aload_n 0, 1) := by decide +kernel
theorem dX7_lays_41 : decode cX7_lays 41 = .ok (.iconst 0, 1) := by decide +kernel
theorem dX7_lays_42 : decode cX7_lays 42 = .ok (.putfield 64, 3) := by decide +kernel
theorem dX7_lays_45 : decode cX7_lays 45 = .ok (.return_, 1) := by decide +kernel
theorem dX7_thrown_0 : decode cX7_thrown 0 = .ok (.aload_n 0, 1) := by decide +kernel
theorem dX7_thrown_1 : decode cX7_thrown 1 = .ok (.getfield 67, 3) := by decide +kernel
theorem dX7_thrown_4 : decode cX7_thrown 4 = .ok (.ireturn, 1) := by decide +kernel
theorem dX7_fails_0 : decode cX7_fails 0 = .ok (.aload_n 0, 1) := by decide +kernel
theorem dX7_fails_1 : decode cX7_fails 1 = .ok (.iload_n 1, 1) := by decide +kernel
theorem dX7_fails_2 : decode cX7_fails 2 = .ok (.ifCond .eq 7, 3) := by decide +kernel
theorem dX7_fails_5 : decode cX7_fails 5 = .ok (.iconst 1, 1) := by decide +kernel
theorem dX7_fails_6 : decode cX7_fails 6 = .ok (.goto 20, 3) := by decide +kernel
theorem dX7_fails_9 : decode cX7_fails 9 = .ok (.iload_n 2, 1) := by decide +kernel
theorem dX7_fails_10 : decode cX7_fails 10 = .ok (.ifCond .eq 7, 3) := by decide +kernel
theorem dX7_fails_13 : decode cX7_fails 13 = .ok (.iconst 2, 1) := by decide +kernel
theorem dX7_fails_14 : decode cX7_fails 14 = .ok (.goto 12, 3) := by decide +kernel
theorem dX7_fails_17 : decode cX7_fails 17 = .ok (.iload_n 3, 1) := by decide +kernel
theorem dX7_fails_18 : decode cX7_fails 18 = .ok (.ifCond .eq 7, 3) := by decide +kernel
theorem dX7_fails_21 : decode cX7_fails 21 = .ok (.iconst 3, 1) := by decide +kernel
theorem dX7_fails_22 : decode cX7_fails 22 = .ok (.goto 4, 3) := by decide +kernel
theorem dX7_fails_25 : decode cX7_fails 25 = .ok (.iconst 0, 1) := by decide +kernel
theorem dX7_fails_26 : decode cX7_fails 26 = .ok (.putfield 67, 3) := by decide +kernel
theorem dX7_fails_29 : decode cX7_fails 29 = .ok (.aload_n 0, 1) := by decide +kernel
theorem dX7_fails_30 : decode cX7_fails 30 = .ok (.getfield 67, 3) := by decide +kernel
theorem dX7_fails_33 : decode cX7_fails 33 = .ok (.ifCond .le 7, 3) := by decide +kernel
theorem dX7_fails_36 : decode cX7_fails 36 = .ok (.iconst 1, 1) := by decide +kernel
theorem dX7_fails_37 : decode cX7_fails 37 = .ok (.goto 4, 3) := by decide +kernel
theorem dX7_fails_40 : decode cX7_fails 40 = .ok (.iconst 0, 1) := by decide +kernel
theorem dX7_fails_41 : decode cX7_fails 41 = .ok (.ireturn, 1) := by decide +kernel
theorem dX7_told_0 : decode cX7_told 0 = .ok (.aload_n 0, 1) := by decide +kernel
theorem dX7_told_1 : decode cX7_told 1 = .ok (.iconst 0, 1) := by decide +kernel
theorem dX7_told_2 : decode cX7_told 2 = .ok (.putfield 67, 3) := by decide +kernel
theorem dX7_told_5 : decode cX7_told 5 = .ok (.iload_n 1, 1) := by decide +kernel
theorem dX7_told_6 : decode cX7_told 6 = .ok (.ireturn, 1) := by decide +kernel
theorem dX7_isIn_0 : decode cX7_isIn 0 = .ok (.iload_n 0, 1) := by decide +kernel
theorem dX7_isIn_1 : decode cX7_isIn 1 = .ok (.iload_n 1, 1) := by decide +kernel
theorem dX7_isIn_2 : decode cX7_isIn 2 = .ok (.if_icmp .lt 12, 3) := by decide +kernel
theorem dX7_isIn_5 : decode cX7_isIn 5 = .ok (.iload_n 0, 1) := by decide +kernel
theorem dX7_isIn_6 : decode cX7_isIn 6 = .ok (.iload_n 2, 1) := by decide +kernel
theorem dX7_isIn_7 : decode cX7_isIn 7 = .ok (.if_icmp .gt 7, 3) := by decide +kernel
theorem dX7_isIn_10 : decode cX7_isIn 10 = .ok (.iconst 1, 1) := by decide +kernel
theorem dX7_isIn_11 : decode cX7_isIn 11 = .ok (.goto 4, 3) := by decide +kernel
theorem dX7_isIn_14 : decode cX7_isIn 14 = .ok (.iconst 0, 1) := by decide +kernel
theorem dX7_isIn_15 : decode cX7_isIn 15 = .ok (.ireturn, 1) := by decide +kernel
theorem dX7_copy_0 : decode cX7_copy 0 = .ok (.aload_n 0, 1) := by decide +kernel
theorem dX7_copy_1 : decode cX7_copy 1 = .ok (.iload_n 1, 1) := by decide +kernel
theorem dX7_copy_2 : decode cX7_copy 2 = .ok (.aload_n 2, 1) := by decide +kernel
theorem dX7_copy_3 : decode cX7_copy 3 = .ok (.iload_n 3, 1) := by decide +kernel
theorem dX7_copy_4 : decode cX7_copy 4 = .ok (.sipush 550, 3) := by decide +kernel
theorem dX7_copy_7 : decode cX7_copy 7 = .ok (.invokestatic 70, 3) := by decide +kernel
theorem dX7_copy_10 : decode cX7_copy 10 = .ok (.return_, 1) := by decide +kernel
theorem dX7_remember_0 : decode cX7_remember 0 = .ok (.aload_n 0, 1) := by decide +kernel
theorem dX7_remember_1 : decode cX7_remember 1 = .ok (.getfield 64, 3) := by decide +kernel
theorem dX7_remember_4 : decode cX7_remember 4 = .ok (.bipush 8, 2) := by decide +kernel
theorem dX7_remember_6 : decode cX7_remember 6 = .ok (.if_icmp .ne 31, 3) := by decide +kernel
theorem dX7_remember_9 : decode cX7_remember 9 = .ok (.aload_n 0, 1) := by decide +kernel
theorem dX7_remember_10 : decode cX7_remember 10 = .ok (.getfield 16, 3) := by decide +kernel
theorem dX7_remember_13 : decode cX7_remember 13 = .ok (.sipush 550, 3) := by decide +kernel
theorem dX7_remember_16 : decode cX7_remember 16 = .ok (.aload_n 0, 1) := by decide +kernel
theorem dX7_remember_17 : decode cX7_remember 17 = .ok (.getfield 16, 3) := by decide +kernel
theorem dX7_remember_20 : decode cX7_remember 20 = .ok (.iconst 0, 1) := by decide +kernel
theorem dX7_remember_21 : decode cX7_remember 21 = .ok (.sipush 3850, 3) := by decide +kernel
theorem dX7_remember_24 : decode cX7_remember 24 = .ok (.invokestatic 70, 3) := by decide +kernel
theorem dX7_remember_27 : decode cX7_remember 27 = .ok (.aload_n 0, 1) := by decide +kernel
theorem dX7_remember_28 : decode cX7_remember 28 = .ok (.dup, 1) := by decide +kernel
theorem dX7_remember_29 : decode cX7_remember 29 = .ok (.getfield 64, 3) := by decide +kernel
theorem dX7_remember_32 : decode cX7_remember 32 = .ok (.iconst 1, 1) := by decide +kernel
theorem dX7_remember_33 : decode cX7_remember 33 = .ok (.isub, 1) := by decide +kernel
theorem dX7_remember_34 : decode cX7_remember 34 = .ok (.putfield 64, 3) := by decide +kernel
theorem dX7_remember_37 : decode cX7_remember 37 = .ok (.aload_n 1, 1) := by decide +kernel
theorem dX7_remember_38 : decode cX7_remember 38 = .ok (.iconst 0, 1) := by decide +kernel
theorem dX7_remember_39 : decode cX7_remember 39 = .ok (.aload_n 0, 1) := by decide +kernel
theorem dX7_remember_40 : decode cX7_remember 40 = .ok (.getfield 16, 3) := by decide +kernel
theorem dX7_remember_43 : decode cX7_remember 43 = .ok (.aload_n 0, 1) := by decide +kernel
theorem dX7_remember_44 : decode cX7_remember 44 = .ok (.getfield 64, 3) := by decide +kernel
theorem dX7_remember_47 : decode cX7_remember 47 = .ok (.sipush 550, 3) := by decide +kernel
theorem dX7_remember_50 : decode cX7_remember 50 = .ok (.imul, 1) := by decide +kernel
theorem dX7_remember_51 : decode cX7_remember 51 = .ok (.invokestatic 76, 3) := by decide +kernel
theorem dX7_remember_54 : decode cX7_remember 54 = .ok (.aload_n 0, 1) := by decide +kernel
theorem dX7_remember_55 : decode cX7_remember 55 = .ok (.dup, 1) := by decide +kernel
theorem dX7_remember_56 : decode cX7_remember 56 = .ok (.getfield 64, 3) := by decide +kernel
theorem dX7_remember_59 : decode cX7_remember 59 = .ok (.iconst 1, 1) := by decide +kernel
theorem dX7_remember_60 : decode cX7_remember 60 = .ok (.iadd, 1) := by decide +kernel
theorem dX7_remember_61 : decode cX7_remember 61 = .ok (.putfield 64, 3) := by decide +kernel
theorem dX7_remember_64 : decode cX7_remember 64 = .ok (.return_, 1) := by decide +kernel
theorem dX7_ofUser_0 : decode cX7_ofUser 0 = .ok (.aload_n 0, 1) := by decide +kernel
theorem dX7_ofUser_1 : decode cX7_ofUser 1 = .ok (.getfield 9, 3) := by decide +kernel
theorem dX7_ofUser_4 : decode cX7_ofUser 4 = .ok (.bipush 10, 2) := by decide +kernel
theorem dX7_ofUser_6 : decode cX7_ofUser 6 = .ok (.bipush 12, 2) := by decide +kernel
theorem dX7_ofUser_8 : decode cX7_ofUser 8 = .ok (.iload_n 1, 1) := by decide +kernel
theorem dX7_ofUser_9 : decode cX7_ofUser 9 = .ok (.imul, 1) := by decide +kernel
theorem dX7_ofUser_10 : decode cX7_ofUser 10 = .ok (.iadd, 1) := by decide +kernel
theorem dX7_ofUser_11 : decode cX7_ofUser 11 = .ok (.iload_n 2, 1) := by decide +kernel
theorem dX7_ofUser_12 : decode cX7_ofUser 12 = .ok (.iadd, 1) := by decide +kernel
theorem dX7_ofUser_13 : decode cX7_ofUser 13 = .ok (.iaload, 1) := by decide +kernel
theorem dX7_ofUser_14 : decode cX7_ofUser 14 = .ok (.ireturn, 1) := by decide +kernel
theorem dX7_putUser_0 : decode cX7_putUser 0 = .ok (.aload_n 0, 1) := by decide +kernel
theorem dX7_putUser_1 : decode cX7_putUser 1 = .ok (.getfield 9, 3) := by decide +kernel
theorem dX7_putUser_4 : decode cX7_putUser 4 = .ok (.bipush 10, 2) := by decide +kernel
theorem dX7_putUser_6 : decode cX7_putUser 6 = .ok (.bipush 12, 2) := by decide +kernel
theorem dX7_putUser_8 : decode cX7_putUser 8 = .ok (.iload_n 1, 1) := by decide +kernel
theorem dX7_putUser_9 : decode cX7_putUser 9 = .ok (.imul, 1) := by decide +kernel
theorem dX7_putUser_10 : decode cX7_putUser 10 = .ok (.iadd, 1) := by decide +kernel
theorem dX7_putUser_11 : decode cX7_putUser 11 = .ok (.iload_n 2, 1) := by decide +kernel
theorem dX7_putUser_12 : decode cX7_putUser 12 = .ok (.iadd, 1) := by decide +kernel
theorem dX7_putUser_13 : decode cX7_putUser 13 = .ok (.iload_n 3, 1) := by decide +kernel
theorem dX7_putUser_14 : decode cX7_putUser 14 = .ok (.iastore, 1) := by decide +kernel
theorem dX7_putUser_15 : decode cX7_putUser 15 = .ok (.return_, 1) := by decide +kernel
theorem dX7_ofCall_0 : decode cX7_ofCall 0 = .ok (.aload_n 0, 1) := by decide +kernel
theorem dX7_ofCall_1 : decode cX7_ofCall 1 = .ok (.getfield 9, 3) := by decide +kernel
theorem dX7_ofCall_4 : decode cX7_ofCall 4 = .ok (.sipush 190, 3) := by decide +kernel
theorem dX7_ofCall_7 : decode cX7_ofCall 7 = .ok (.bipush 9, 2) := by decide +kernel
theorem dX7_ofCall_9 : decode cX7_ofCall 9 = .ok (.iload_n 1, 1) := by decide +kernel
theorem dX7_ofCall_10 : decode cX7_ofCall 10 = .ok (.imul, 1) := by decide +kernel
theorem dX7_ofCall_11 : decode cX7_ofCall 11 = .ok (.iadd, 1) := by decide +kernel
theorem dX7_ofCall_12 : decode cX7_ofCall 12 = .ok (.iload_n 2, 1) := by decide +kernel
theorem dX7_ofCall_13 : decode cX7_ofCall 13 = .ok (.iadd, 1) := by decide +kernel
theorem dX7_ofCall_14 : decode cX7_ofCall 14 = .ok (.iaload, 1) := by decide +kernel
theorem dX7_ofCall_15 : decode cX7_ofCall 15 = .ok (.ireturn, 1) := by decide +kernel
theorem dX7_putCall_0 : decode cX7_putCall 0 = .ok (.aload_n 0, 1) := by decide +kernel
theorem dX7_putCall_1 : decode cX7_putCall 1 = .ok (.getfield 9, 3) := by decide +kernel
theorem dX7_putCall_4 : decode cX7_putCall 4 = .ok (.sipush 190, 3) := by decide +kernel
theorem dX7_putCall_7 : decode cX7_putCall 7 = .ok (.bipush 9, 2) := by decide +kernel
theorem dX7_putCall_9 : decode cX7_putCall 9 = .ok (.iload_n 1, 1) := by decide +kernel
theorem dX7_putCall_10 : decode cX7_putCall 10 = .ok (.imul, 1) := by decide +kernel
theorem dX7_putCall_11 : decode cX7_putCall 11 = .ok (.iadd, 1) := by decide +kernel
theorem dX7_putCall_12 : decode cX7_putCall 12 = .ok (.iload_n 2, 1) := by decide +kernel
theorem dX7_putCall_13 : decode cX7_putCall 13 = .ok (.iadd, 1) := by decide +kernel
theorem dX7_putCall_14 : decode cX7_putCall 14 = .ok (.iload_n 3, 1) := by decide +kernel
theorem dX7_putCall_15 : decode cX7_putCall 15 = .ok (.iastore, 1) := by decide +kernel
theorem dX7_putCall_16 : decode cX7_putCall 16 = .ok (.return_, 1) := by decide +kernel
theorem dX7_noUser_0 : decode cX7_noUser 0 = .ok (.iload_n 1, 1) := by decide +kernel
theorem dX7_noUser_1 : decode cX7_noUser 1 = .ok (.iconst 0, 1) := by decide +kernel
theorem dX7_noUser_2 : decode cX7_noUser 2 = .ok (.aload_n 0, 1) := by decide +kernel
theorem dX7_noUser_3 : decode cX7_noUser 3 = .ok (.getfield 9, 3) := by decide +kernel
theorem dX7_noUser_6 : decode cX7_noUser 6 = .ok (.iconst 4, 1) := by decide +kernel
theorem dX7_noUser_7 : decode cX7_noUser 7 = .ok (.iaload, 1) := by decide +kernel
theorem dX7_noUser_8 : decode cX7_noUser 8 = .ok (.iconst 1, 1) := by decide +kernel
theorem dX7_noUser_9 : decode cX7_noUser 9 = .ok (.isub, 1) := by decide +kernel
theorem dX7_noUser_10 : decode cX7_noUser 10 = .ok (.invokestatic 80, 3) := by decide +kernel
theorem dX7_noUser_13 : decode cX7_noUser 13 = .ok (.ifCond .ne 7, 3) := by decide +kernel
theorem dX7_noUser_16 : decode cX7_noUser 16 = .ok (.iconst 1, 1) := by decide +kernel
theorem dX7_noUser_17 : decode cX7_noUser 17 = .ok (.goto 4, 3) := by decide +kernel
theorem dX7_noUser_20 : decode cX7_noUser 20 = .ok (.iconst 0, 1) := by decide +kernel
theorem dX7_noUser_21 : decode cX7_noUser 21 = .ok (.ireturn, 1) := by decide +kernel
theorem dX7_noLine_0 : decode cX7_noLine 0 = .ok (.iload_n 1, 1) := by decide +kernel
theorem dX7_noLine_1 : decode cX7_noLine 1 = .ok (.iconst 0, 1) := by decide +kernel
theorem dX7_noLine_2 : decode cX7_noLine 2 = .ok (.aload_n 0, 1) := by decide +kernel
theorem dX7_noLine_3 : decode cX7_noLine 3 = .ok (.getfield 9, 3) := by decide +kernel
theorem dX7_noLine_6 : decode cX7_noLine 6 = .ok (.iconst 1, 1) := by decide +kernel
theorem dX7_noLine_7 : decode cX7_noLine 7 = .ok (.iaload, 1) := by decide +kernel
theorem dX7_noLine_8 : decode cX7_noLine 8 = .ok (.iconst 1, 1) := by decide +kernel
theorem dX7_noLine_9 : decode cX7_noLine 9 = .ok (.isub, 1) := by decide +kernel
theorem dX7_noLine_10 : decode cX7_noLine 10 = .ok (.invokestatic 80, 3) := by decide +kernel
theorem dX7_noLine_13 : decode cX7_noLine 13 = .ok (.ifCond .ne 7, 3) := by decide +kernel
theorem dX7_noLine_16 : decode cX7_noLine 16 = .ok (.iconst 1, 1) := by decide +kernel
theorem dX7_noLine_17 : decode cX7_noLine 17 = .ok (.goto 4, 3) := by decide +kernel
theorem dX7_noLine_20 : decode cX7_noLine 20 = .ok (.iconst 0, 1) := by decide +kernel
theorem dX7_noLine_21 : decode cX7_noLine 21 = .ok (.ireturn, 1) := by decide +kernel
theorem dX7_noTrunk_0 : decode cX7_noTrunk 0 = .ok (.iload_n 1, 1) := by decide +kernel
theorem dX7_noTrunk_1 : decode cX7_noTrunk 1 = .ok (.iconst 0, 1) := by decide +kernel
theorem dX7_noTrunk_2 : decode cX7_noTrunk 2 = .ok (.aload_n 0, 1) := by decide +kernel
theorem dX7_noTrunk_3 : decode cX7_noTrunk 3 = .ok (.getfield 9, 3) := by decide +kernel
theorem dX7_noTrunk_6 : decode cX7_noTrunk 6 = .ok (.iconst 3, 1) := by decide +kernel
theorem dX7_noTrunk_7 : decode cX7_noTrunk 7 = .ok (.iaload, 1) := by decide +kernel
theorem dX7_noTrunk_8 : decode cX7_noTrunk 8 = .ok (.iconst 1, 1) := by decide +kernel
theorem dX7_noTrunk_9 : decode cX7_noTrunk 9 = .ok (.isub, 1) := by decide +kernel
theorem dX7_noTrunk_10 : decode cX7_noTrunk 10 = .ok (.invokestatic 80, 3) := by decide +kernel
theorem dX7_noTrunk_13 : decode cX7_noTrunk 13 = .ok (.ifCond .ne 7, 3) := by decide +kernel
theorem dX7_noTrunk_16 : decode cX7_noTrunk 16 = .ok (.iconst 1, 1) := by decide +kernel
theorem dX7_noTrunk_17 : decode cX7_noTrunk 17 = .ok (.goto 4, 3) := by decide +kernel
theorem dX7_noTrunk_20 : decode cX7_noTrunk 20 = .ok (.iconst 0, 1) := by decide +kernel
theorem dX7_noTrunk_21 : decode cX7_noTrunk 21 = .ok (.ireturn, 1) := by decide +kernel
theorem dX7_noCall_0 : decode cX7_noCall 0 = .ok (.iload_n 1, 1) := by decide +kernel
theorem dX7_noCall_1 : decode cX7_noCall 1 = .ok (.iconst 0, 1) := by decide +kernel
theorem dX7_noCall_2 : decode cX7_noCall 2 = .ok (.aload_n 0, 1) := by decide +kernel
theorem dX7_noCall_3 : decode cX7_noCall 3 = .ok (.getfield 9, 3) := by decide +kernel
theorem dX7_noCall_6 : decode cX7_noCall 6 = .ok (.iconst 5, 1) := by decide +kernel
theorem dX7_noCall_7 : decode cX7_noCall 7 = .ok (.iaload, 1) := by decide +kernel
theorem dX7_noCall_8 : decode cX7_noCall 8 = .ok (.iconst 1, 1) := by decide +kernel
theorem dX7_noCall_9 : decode cX7_noCall 9 = .ok (.isub, 1) := by decide +kernel
theorem dX7_noCall_10 : decode cX7_noCall 10 = .ok (.invokestatic 80, 3) := by decide +kernel
theorem dX7_noCall_13 : decode cX7_noCall 13 = .ok (.ifCond .ne 7, 3) := by decide +kernel
theorem dX7_noCall_16 : decode cX7_noCall 16 = .ok (.iconst 1, 1) := by decide +kernel
theorem dX7_noCall_17 : decode cX7_noCall 17 = .ok (.goto 4, 3) := by decide +kernel
theorem dX7_noCall_20 : decode cX7_noCall 20 = .ok (.iconst 0, 1) := by decide +kernel
theorem dX7_noCall_21 : decode cX7_noCall 21 = .ok (.ireturn, 1) := by decide +kernel
theorem dX7_ringsIn_0 : decode cX7_ringsIn 0 = .ok (.iconst 0, 1) := by decide +kernel
theorem dX7_ringsIn_1 : decode cX7_ringsIn 1 = .ok (.istore_n 1, 1) := by decide +kernel
theorem dX7_ringsIn_2 : decode cX7_ringsIn 2 = .ok (.iload_n 0, 1) := by decide +kernel
theorem dX7_ringsIn_3 : decode cX7_ringsIn 3 = .ok (.istore_n 2, 1) := by decide +kernel
theorem dX7_ringsIn_4 : decode cX7_ringsIn 4 = .ok (.iload_n 2, 1) := by decide +kernel
theorem dX7_ringsIn_5 : decode cX7_ringsIn 5 = .ok (.iconst 1, 1) := by decide +kernel
theorem dX7_ringsIn_6 : decode cX7_ringsIn 6 = .ok (.if_icmp .le 13, 3) := by decide +kernel
theorem dX7_ringsIn_9 : decode cX7_ringsIn 9 = .ok (.iinc 1 1, 3) := by decide +kernel
theorem dX7_ringsIn_12 : decode cX7_ringsIn 12 = .ok (.iload_n 2, 1) := by decide +kernel
theorem dX7_ringsIn_13 : decode cX7_ringsIn 13 = .ok (.iconst 1, 1) := by decide +kernel
theorem dX7_ringsIn_14 : decode cX7_ringsIn 14 = .ok (.ishr, 1) := by decide +kernel
theorem dX7_ringsIn_15 : decode cX7_ringsIn 15 = .ok (.istore_n 2, 1) := by decide +kernel
theorem dX7_ringsIn_16 : decode cX7_ringsIn 16 = .ok (.goto (-12), 3) := by decide +kernel
theorem dX7_ringsIn_19 : decode cX7_ringsIn 19 = .ok (.iload_n 1, 1) := by decide +kernel
theorem dX7_ringsIn_20 : decode cX7_ringsIn 20 = .ok (.ireturn, 1) := by decide +kernel
theorem dX7_begins_0 : decode cX7_begins 0 = .ok (.iload_n 1, 1) := by decide +kernel
theorem dX7_begins_1 : decode cX7_begins 1 = .ok (.invokestatic 84, 3) := by decide +kernel
theorem dX7_begins_4 : decode cX7_begins 4 = .ok (.iload_n 0, 1) := by decide +kernel
theorem dX7_begins_5 : decode cX7_begins 5 = .ok (.invokestatic 84, 3) := by decide +kernel
theorem dX7_begins_8 : decode cX7_begins 8 = .ok (.isub, 1) := by decide +kernel
theorem dX7_begins_9 : decode cX7_begins 9 = .ok (.istore_n 2, 1) := by decide +kernel
theorem dX7_begins_10 : decode cX7_begins 10 = .ok (.iload_n 2, 1) := by decide +kernel
theorem dX7_begins_11 : decode cX7_begins 11 = .ok (.ifCond .lt 14, 3) := by decide +kernel
theorem dX7_begins_14 : decode cX7_begins 14 = .ok (.iload_n 1, 1) := by decide +kernel
theorem dX7_begins_15 : decode cX7_begins 15 = .ok (.iload_n 2, 1) := by decide +kernel
theorem dX7_begins_16 : decode cX7_begins 16 = .ok (.ishr, 1) := by decide +kernel
theorem dX7_begins_17 : decode cX7_begins 17 = .ok (.iload_n 0, 1) := by decide +kernel
theorem dX7_begins_18 : decode cX7_begins 18 = .ok (.if_icmp .ne 7, 3) := by decide +kernel
theorem dX7_begins_21 : decode cX7_begins 21 = .ok (.iconst 1, 1) := by decide +kernel
theorem dX7_begins_22 : decode cX7_begins 22 = .ok (.goto 4, 3) := by decide +kernel
theorem dX7_begins_25 : decode cX7_begins 25 = .ok (.iconst 0, 1) := by decide +kernel
theorem dX7_begins_26 : decode cX7_begins 26 = .ok (.ireturn, 1) := by decide +kernel
theorem dX7_isTalking_0 : decode cX7_isTalking 0 = .ok (.aload_n 0, 1) := by decide +kernel
theorem dX7_isTalking_1 : decode cX7_isTalking 1 = .ok (.iload_n 1, 1) := by decide +kernel
theorem dX7_isTalking_2 : decode cX7_isTalking 2 = .ok (.iconst 4, 1) := by decide +kernel
theorem dX7_isTalking_3 : decode cX7_isTalking 3 = .ok (.invokevirtual 88, 3) := by decide +kernel
theorem dX7_isTalking_6 : decode cX7_isTalking 6 = .ok (.iconst 1, 1) := by decide +kernel
theorem dX7_isTalking_7 : decode cX7_isTalking 7 = .ok (.if_icmp .ne 7, 3) := by decide +kernel
theorem dX7_isTalking_10 : decode cX7_isTalking 10 = .ok (.iconst 1, 1) := by decide +kernel
theorem dX7_isTalking_11 : decode cX7_isTalking 11 = .ok (.goto 4, 3) := by decide +kernel
theorem dX7_isTalking_14 : decode cX7_isTalking 14 = .ok (.iconst 0, 1) := by decide +kernel
theorem dX7_isTalking_15 : decode cX7_isTalking 15 = .ok (.ireturn, 1) := by decide +kernel
theorem dX7_isOwnLine_0 : decode cX7_isOwnLine 0 = .ok (.aload_n 0, 1) := by decide +kernel
theorem dX7_isOwnLine_1 : decode cX7_isOwnLine 1 = .ok (.iload_n 1, 1) := by decide +kernel
theorem dX7_isOwnLine_2 : decode cX7_isOwnLine 2 = .ok (.iconst 2, 1) := by decide +kernel
theorem dX7_isOwnLine_3 : decode cX7_isOwnLine 3 = .ok (.invokevirtual 88, 3) := by decide +kernel
theorem dX7_isOwnLine_6 : decode cX7_isOwnLine 6 = .ok (.iconst (-1), 1) := by decide +kernel
theorem dX7_isOwnLine_7 : decode cX7_isOwnLine 7 = .ok (.if_icmp .ne 32, 3) := by decide +kernel
theorem dX7_isOwnLine_10 : decode cX7_isOwnLine 10 = .ok (.aload_n 0, 1) := by decide +kernel
theorem dX7_isOwnLine_11 : decode cX7_isOwnLine 11 = .ok (.aload_n 0, 1) := by decide +kernel
theorem dX7_isOwnLine_12 : decode cX7_isOwnLine 12 = .ok (.iload_n 1, 1) := by decide +kernel
theorem dX7_isOwnLine_13 : decode cX7_isOwnLine 13 = .ok (.iconst 1, 1) := by decide +kernel
theorem dX7_isOwnLine_14 : decode cX7_isOwnLine 14 = .ok (.invokevirtual 88, 3) := by decide +kernel
theorem dX7_isOwnLine_17 : decode cX7_isOwnLine 17 = .ok (.iconst 0, 1) := by decide +kernel
theorem dX7_isOwnLine_18 : decode cX7_isOwnLine 18 = .ok (.invokevirtual 92, 3) := by decide +kernel
theorem dX7_isOwnLine_21 : decode cX7_isOwnLine 21 = .ok (.aload_n 0, 1) := by decide +kernel
theorem dX7_isOwnLine_22 : decode cX7_isOwnLine 22 = .ok (.aload_n 0, 1) := by decide +kernel
theorem dX7_isOwnLine_23 : decode cX7_isOwnLine 23 = .ok (.iload_n 1, 1) := by decide +kernel
theorem dX7_isOwnLine_24 : decode cX7_isOwnLine 24 = .ok (.iconst 0, 1) := by decide +kernel
theorem dX7_isOwnLine_25 : decode cX7_isOwnLine 25 = .ok (.invokevirtual 88, 3) := by decide +kernel
theorem dX7_isOwnLine_28 : decode cX7_isOwnLine 28 = .ok (.iconst 0, 1) := by decide +kernel
theorem dX7_isOwnLine_29 : decode cX7_isOwnLine 29 = .ok (.invokevirtual 92, 3) := by decide +kernel
theorem dX7_isOwnLine_32 : decode cX7_isOwnLine 32 = .ok (.if_icmp .ne 7, 3) := by decide +kernel
theorem dX7_isOwnLine_35 : decode cX7_isOwnLine 35 = .ok (.iconst 1, 1) := by decide +kernel
theorem dX7_isOwnLine_36 : decode cX7_isOwnLine 36 = .ok (.goto 4, 3) := by decide +kernel
theorem dX7_isOwnLine_39 : decode cX7_isOwnLine 39 = .ok (.iconst 0, 1) := by decide +kernel
theorem dX7_isOwnLine_40 : decode cX7_isOwnLine 40 = .ok (.ireturn, 1) := by decide +kernel
theorem dX7_usesLine_0 : decode cX7_usesLine 0 = .ok (.aload_n 0, 1) := by decide +kernel
theorem dX7_usesLine_1 : decode cX7_usesLine 1 = .ok (.aload_n 0, 1) := by decide +kernel
theorem dX7_usesLine_2 : decode cX7_usesLine 2 = .ok (.iload_n 1, 1) := by decide +kernel
theorem dX7_usesLine_3 : decode cX7_usesLine 3 = .ok (.iconst 0, 1) := by decide +kernel
theorem dX7_usesLine_4 : decode cX7_usesLine 4 = .ok (.invokevirtual 88, 3) := by decide +kernel
theorem dX7_usesLine_7 : decode cX7_usesLine 7 = .ok (.iconst 0, 1) := by decide +kernel
theorem dX7_usesLine_8 : decode cX7_usesLine 8 = .ok (.invokevirtual 92, 3) := by decide +kernel
theorem dX7_usesLine_11 : decode cX7_usesLine 11 = .ok (.iload_n 2, 1) := by decide +kernel
theorem dX7_usesLine_12 : decode cX7_usesLine 12 = .ok (.if_icmp .ne 5, 3) := by decide +kernel
theorem dX7_usesLine_15 : decode cX7_usesLine 15 = .ok (.iconst 1, 1) := by decide +kernel
theorem dX7_usesLine_16 : decode cX7_usesLine 16 = .ok (.ireturn, 1) := by decide +kernel
theorem dX7_usesLine_17 : decode cX7_usesLine 17 = .ok (.aload_n 0, 1) := by decide +kernel
theorem dX7_usesLine_18 : decode cX7_usesLine 18 = .ok (.iload_n 1, 1) := by decide +kernel
theorem dX7_usesLine_19 : decode cX7_usesLine 19 = .ok (.iconst 2, 1) := by decide +kernel
theorem dX7_usesLine_20 : decode cX7_usesLine 20 = .ok (.invokevirtual 88, 3) := by decide +kernel
theorem dX7_usesLine_23 : decode cX7_usesLine 23 = .ok (.iconst (-1), 1) := by decide +kernel
theorem dX7_usesLine_24 : decode cX7_usesLine 24 = .ok (.if_icmp .ne 22, 3) := by decide +kernel
theorem dX7_usesLine_27 : decode cX7_usesLine 27 = .ok (.aload_n 0, 1) := by decide +kernel
theorem dX7_usesLine_28 : decode cX7_usesLine 28 = .ok (.aload_n 0, 1) := by decide +kernel
theorem dX7_usesLine_29 : decode cX7_usesLine 29 = .ok (.iload_n 1, 1) := by decide +kernel
theorem dX7_usesLine_30 : decode cX7_usesLine 30 = .ok (.iconst 1, 1) := by decide +kernel
theorem dX7_usesLine_31 : decode cX7_usesLine 31 = .ok (.invokevirtual 88, 3) := by decide +kernel
theorem dX7_usesLine_34 : decode cX7_usesLine 34 = .ok (.iconst 0, 1) := by decide +kernel
theorem dX7_usesLine_35 : decode cX7_usesLine 35 = .ok (.invokevirtual 92, 3) := by decide +kernel
theorem dX7_usesLine_38 : decode cX7_usesLine 38 = .ok (.iload_n 2, 1) := by decide +kernel
theorem dX7_usesLine_39 : decode cX7_usesLine 39 = .ok (.if_icmp .ne 7, 3) := by decide +kernel
theorem dX7_usesLine_42 : decode cX7_usesLine 42 = .ok (.iconst 1, 1) := by decide +kernel
theorem dX7_usesLine_43 : decode cX7_usesLine 43 = .ok (.goto 4, 3) := by decide +kernel
theorem dX7_usesLine_46 : decode cX7_usesLine 46 = .ok (.iconst 0, 1) := by decide +kernel
theorem dX7_usesLine_47 : decode cX7_usesLine 47 = .ok (.ireturn, 1) := by decide +kernel
theorem dX7_talkersOnLine_0 : decode cX7_talkersOnLine 0 = .ok (.iconst 0, 1) := by decide +kernel
theorem dX7_talkersOnLine_1 : decode cX7_talkersOnLine 1 = .ok (.istore_n 2, 1) := by decide +kernel
theorem dX7_talkersOnLine_2 : decode cX7_talkersOnLine 2 = .ok (.iconst 0, 1) := by decide +kernel
theorem dX7_talkersOnLine_3 : decode cX7_talkersOnLine 3 = .ok (.istore_n 3, 1) := by decide +kernel
theorem dX7_talkersOnLine_4 : decode cX7_talkersOnLine 4 = .ok (.iload_n 3, 1) := by decide +kernel
theorem dX7_talkersOnLine_5 : decode cX7_talkersOnLine 5 = .ok (.aload_n 0, 1) := by decide +kernel
theorem dX7_talkersOnLine_6 : decode cX7_talkersOnLine 6 = .ok (.getfield 9, 3) := by decide +kernel
theorem dX7_talkersOnLine_9 : decode cX7_talkersOnLine 9 = .ok (.iconst 5, 1) := by decide +kernel
theorem dX7_talkersOnLine_10 : decode cX7_talkersOnLine 10 = .ok (.iaload, 1) := by decide +kernel
theorem dX7_talkersOnLine_11 : decode cX7_talkersOnLine 11 = .ok (.if_icmp .ge 29, 3) := by decide +kernel
theorem dX7_talkersOnLine_14 : decode cX7_talkersOnLine 14 = .ok (.aload_n 0, 1) := by decide +kernel
theorem dX7_talkersOnLine_15 : decode cX7_talkersOnLine 15 = .ok (.iload_n 3, 1) := by decide +kernel
theorem dX7_talkersOnLine_16 : decode cX7_talkersOnLine 16 = .ok (.invokevirtual 95, 3) := by decide +kernel
theorem dX7_talkersOnLine_19 : decode cX7_talkersOnLine 19 = .ok (.ifCond .eq 15, 3) := by decide +kernel
theorem dX7_talkersOnLine_22 : decode cX7_talkersOnLine 22 = .ok (.aload_n 0, 1) := by decide +kernel
theorem dX7_talkersOnLine_23 : decode cX7_talkersOnLine 23 = .ok (.iload_n 3, 1) := by decide +kernel
theorem dX7_talkersOnLine_24 : decode cX7_talkersOnLine 24 = .ok (.iload_n 1, 1) := by decide +kernel
theorem dX7_talkersOnLine_25 : decode cX7_talkersOnLine 25 = .ok (.invokevirtual 99, 3) := by decide +kernel
theorem dX7_talkersOnLine_28 : decode cX7_talkersOnLine 28 = .ok (.ifCond .eq 6, 3) := by decide +kernel
theorem dX7_talkersOnLine_31 : decode cX7_talkersOnLine 31 = .ok (.iinc 2 1, 3) := by decide +kernel
theorem dX7_talkersOnLine_34 : decode cX7_talkersOnLine 34 = .ok (.iinc 3 1, 3) := by decide +kernel
theorem dX7_talkersOnLine_37 : decode cX7_talkersOnLine 37 = .ok (.goto (-33), 3) := by decide +kernel
theorem dX7_talkersOnLine_40 : decode cX7_talkersOnLine 40 = .ok (.iload_n 2, 1) := by decide +kernel
theorem dX7_talkersOnLine_41 : decode cX7_talkersOnLine 41 = .ok (.ireturn, 1) := by decide +kernel
theorem dX7_talkersOnTrunk_0 : decode cX7_talkersOnTrunk 0 = .ok (.iconst 0, 1) := by decide +kernel
theorem dX7_talkersOnTrunk_1 : decode cX7_talkersOnTrunk 1 = .ok (.istore_n 2, 1) := by decide +kernel
theorem dX7_talkersOnTrunk_2 : decode cX7_talkersOnTrunk 2 = .ok (.iconst 0, 1) := by decide +kernel
theorem dX7_talkersOnTrunk_3 : decode cX7_talkersOnTrunk 3 = .ok (.istore_n 3, 1) := by decide +kernel
theorem dX7_talkersOnTrunk_4 : decode cX7_talkersOnTrunk 4 = .ok (.iload_n 3, 1) := by decide +kernel
theorem dX7_talkersOnTrunk_5 : decode cX7_talkersOnTrunk 5 = .ok (.aload_n 0, 1) := by decide +kernel
theorem dX7_talkersOnTrunk_6 : decode cX7_talkersOnTrunk 6 = .ok (.getfield 9, 3) := by decide +kernel
theorem dX7_talkersOnTrunk_9 : decode cX7_talkersOnTrunk 9 = .ok (.iconst 5, 1) := by decide +kernel
theorem dX7_talkersOnTrunk_10 : decode cX7_talkersOnTrunk 10 = .ok (.iaload, 1) := by decide +kernel
theorem dX7_talkersOnTrunk_11 : decode cX7_talkersOnTrunk 11 = .ok (.if_icmp .ge 30, 3) := by decide +kernel
theorem dX7_talkersOnTrunk_14 : decode cX7_talkersOnTrunk 14 = .ok (.aload_n 0, 1) := by decide +kernel
theorem dX7_talkersOnTrunk_15 : decode cX7_talkersOnTrunk 15 = .ok (.iload_n 3, 1) := by decide +kernel
theorem dX7_talkersOnTrunk_16 : decode cX7_talkersOnTrunk 16 = .ok (.invokevirtual 95, 3) := by decide +kernel
theorem dX7_talkersOnTrunk_19 : decode cX7_talkersOnTrunk 19 = .ok (.ifCond .eq 16, 3) := by decide +kernel
theorem dX7_talkersOnTrunk_22 : decode cX7_talkersOnTrunk 22 = .ok (.aload_n 0, 1) := by decide +kernel
theorem dX7_talkersOnTrunk_23 : decode cX7_talkersOnTrunk 23 = .ok (.iload_n 3, 1) := by decide +kernel
theorem dX7_talkersOnTrunk_24 : decode cX7_talkersOnTrunk 24 = .ok (.iconst 2, 1) := by decide +kernel
theorem dX7_talkersOnTrunk_25 : decode cX7_talkersOnTrunk 25 = .ok (.invokevirtual 88, 3) := by decide +kernel
theorem dX7_talkersOnTrunk_28 : decode cX7_talkersOnTrunk 28 = .ok (.iload_n 1, 1) := by decide +kernel
theorem dX7_talkersOnTrunk_29 : decode cX7_talkersOnTrunk 29 = .ok (.if_icmp .ne 6, 3) := by decide +kernel
theorem dX7_talkersOnTrunk_32 : decode cX7_talkersOnTrunk 32 = .ok (.iinc 2 1, 3) := by decide +kernel
theorem dX7_talkersOnTrunk_35 : decode cX7_talkersOnTrunk 35 = .ok (.iinc 3 1, 3) := by decide +kernel
theorem dX7_talkersOnTrunk_38 : decode cX7_talkersOnTrunk 38 = .ok (.goto (-34), 3) := by decide +kernel
theorem dX7_talkersOnTrunk_41 : decode cX7_talkersOnTrunk 41 = .ok (.iload_n 2, 1) := by decide +kernel
theorem dX7_talkersOnTrunk_42 : decode cX7_talkersOnTrunk 42 = .ok (.ireturn, 1) := by decide +kernel
theorem dX7_cordsUsed_0 : decode cX7_cordsUsed 0 = .ok (.iconst 0, 1) := by decide +kernel
theorem dX7_cordsUsed_1 : decode cX7_cordsUsed 1 = .ok (.istore_n 1, 1) := by decide +kernel
theorem dX7_cordsUsed_2 : decode cX7_cordsUsed 2 = .ok (.iconst 0, 1) := by decide +kernel
theorem dX7_cordsUsed_3 : decode cX7_cordsUsed 3 = .ok (.istore_n 2, 1) := by decide +kernel
theorem dX7_cordsUsed_4 : decode cX7_cordsUsed 4 = .ok (.iload_n 2, 1) := by decide +kernel
theorem dX7_cordsUsed_5 : decode cX7_cordsUsed 5 = .ok (.aload_n 0, 1) := by decide +kernel
theorem dX7_cordsUsed_6 : decode cX7_cordsUsed 6 = .ok (.getfield 9, 3) := by decide +kernel
theorem dX7_cordsUsed_9 : decode cX7_cordsUsed 9 = .ok (.iconst 5, 1) := by decide +kernel
theorem dX7_cordsUsed_10 : decode cX7_cordsUsed 10 = .ok (.iaload, 1) := by decide +kernel
theorem dX7_cordsUsed_11 : decode cX7_cordsUsed 11 = .ok (.if_icmp .ge 28, 3) := by decide +kernel
theorem dX7_cordsUsed_14 : decode cX7_cordsUsed 14 = .ok (.aload_n 0, 1) := by decide +kernel
theorem dX7_cordsUsed_15 : decode cX7_cordsUsed 15 = .ok (.iload_n 2, 1) := by decide +kernel
theorem dX7_cordsUsed_16 : decode cX7_cordsUsed 16 = .ok (.invokevirtual 95, 3) := by decide +kernel
theorem dX7_cordsUsed_19 : decode cX7_cordsUsed 19 = .ok (.ifCond .eq 14, 3) := by decide +kernel
theorem dX7_cordsUsed_22 : decode cX7_cordsUsed 22 = .ok (.aload_n 0, 1) := by decide +kernel
theorem dX7_cordsUsed_23 : decode cX7_cordsUsed 23 = .ok (.iload_n 2, 1) := by decide +kernel
theorem dX7_cordsUsed_24 : decode cX7_cordsUsed 24 = .ok (.invokevirtual 103, 3) := by decide +kernel
theorem dX7_cordsUsed_27 : decode cX7_cordsUsed 27 = .ok (.ifCond .ne 6, 3) := by decide +kernel
theorem dX7_cordsUsed_30 : decode cX7_cordsUsed 30 = .ok (.iinc 1 1, 3) := by decide +kernel
theorem dX7_cordsUsed_33 : decode cX7_cordsUsed 33 = .ok (.iinc 2 1, 3) := by decide +kernel
theorem dX7_cordsUsed_36 : decode cX7_cordsUsed 36 = .ok (.goto (-32), 3) := by decide +kernel
theorem dX7_cordsUsed_39 : decode cX7_cordsUsed 39 = .ok (.iload_n 1, 1) := by decide +kernel
theorem dX7_cordsUsed_40 : decode cX7_cordsUsed 40 = .ok (.ireturn, 1) := by decide +kernel
theorem dX7_why_0 : decode cX7_why 0 = .ok (.aload_n 0, 1) := by decide +kernel
theorem dX7_why_1 : decode cX7_why 1 = .ok (.aload_n 0, 1) := by decide +kernel
theorem dX7_why_2 : decode cX7_why 2 = .ok (.aload_n 0, 1) := by decide +kernel
theorem dX7_why_3 : decode cX7_why 3 = .ok (.iload_n 1, 1) := by decide +kernel
theorem dX7_why_4 : decode cX7_why 4 = .ok (.iconst 0, 1) := by decide +kernel
theorem dX7_why_5 : decode cX7_why 5 = .ok (.invokevirtual 88, 3) := by decide +kernel
theorem dX7_why_8 : decode cX7_why 8 = .ok (.iconst 0, 1) := by decide +kernel
theorem dX7_why_9 : decode cX7_why 9 = .ok (.invokevirtual 92, 3) := by decide +kernel
theorem dX7_why_12 : decode cX7_why 12 = .ok (.invokevirtual 106, 3) := by decide +kernel
theorem dX7_why_15 : decode cX7_why 15 = .ok (.ifCond .le 5, 3) := by decide +kernel
theorem dX7_why_18 : decode cX7_why 18 = .ok (.iconst 1, 1) := by decide +kernel
theorem dX7_why_19 : decode cX7_why 19 = .ok (.ireturn, 1) := by decide +kernel
theorem dX7_why_20 : decode cX7_why 20 = .ok (.aload_n 0, 1) := by decide +kernel
theorem dX7_why_21 : decode cX7_why 21 = .ok (.iload_n 1, 1) := by decide +kernel
theorem dX7_why_22 : decode cX7_why 22 = .ok (.iconst 2, 1) := by decide +kernel
theorem dX7_why_23 : decode cX7_why 23 = .ok (.invokevirtual 88, 3) := by decide +kernel
theorem dX7_why_26 : decode cX7_why 26 = .ok (.iconst (-1), 1) := by decide +kernel
theorem dX7_why_27 : decode cX7_why 27 = .ok (.if_icmp .ne 29, 3) := by decide +kernel
theorem dX7_why_30 : decode cX7_why 30 = .ok (.aload_n 0, 1) := by decide +kernel
theorem dX7_why_31 : decode cX7_why 31 = .ok (.aload_n 0, 1) := by decide +kernel
theorem dX7_why_32 : decode cX7_why 32 = .ok (.aload_n 0, 1) := by decide +kernel
theorem dX7_why_33 : decode cX7_why 33 = .ok (.iload_n 1, 1) := by decide +kernel
theorem dX7_why_34 : decode cX7_why 34 = .ok (.iconst 1, 1) := by decide +kernel
theorem dX7_why_35 : decode cX7_why 35 = .ok (.invokevirtual 88, 3) := by decide +kernel
theorem dX7_why_38 : decode cX7_why 38 = .ok (.iconst 0, 1) := by decide +kernel
theorem dX7_why_39 : decode cX7_why 39 = .ok (.invokevirtual 92, 3) := by decide +kernel
theorem dX7_why_42 : decode cX7_why 42 = .ok (.invokevirtual 106, 3) := by decide +kernel
theorem dX7_why_45 : decode cX7_why 45 = .ok (.ifCond .le 7, 3) := by decide +kernel
theorem dX7_why_48 : decode cX7_why 48 = .ok (.iconst 1, 1) := by decide +kernel
theorem dX7_why_49 : decode cX7_why 49 = .ok (.goto 25, 3) := by decide +kernel
theorem dX7_why_52 : decode cX7_why 52 = .ok (.iconst 0, 1) := by decide +kernel
theorem dX7_why_53 : decode cX7_why 53 = .ok (.goto 21, 3) := by decide +kernel
theorem dX7_why_56 : decode cX7_why 56 = .ok (.aload_n 0, 1) := by decide +kernel
theorem dX7_why_57 : decode cX7_why 57 = .ok (.aload_n 0, 1) := by decide +kernel
theorem dX7_why_58 : decode cX7_why 58 = .ok (.iload_n 1, 1) := by decide +kernel
theorem dX7_why_59 : decode cX7_why 59 = .ok (.iconst 2, 1) := by decide +kernel
theorem dX7_why_60 : decode cX7_why 60 = .ok (.invokevirtual 88, 3) := by decide +kernel
theorem dX7_why_63 : decode cX7_why 63 = .ok (.invokevirtual 109, 3) := by decide +kernel
theorem dX7_why_66 : decode cX7_why 66 = .ok (.ifCond .le 7, 3) := by decide +kernel
theorem dX7_why_69 : decode cX7_why 69 = .ok (.iconst 1, 1) := by decide +kernel
theorem dX7_why_70 : decode cX7_why 70 = .ok (.goto 4, 3) := by decide +kernel
theorem dX7_why_73 : decode cX7_why 73 = .ok (.iconst 0, 1) := by decide +kernel
theorem dX7_why_74 : decode cX7_why 74 = .ok (.istore_n 2, 1) := by decide +kernel
theorem dX7_why_75 : decode cX7_why 75 = .ok (.iload_n 2, 1) := by decide +kernel
theorem dX7_why_76 : decode cX7_why 76 = .ok (.ifCond .eq 5, 3) := by decide +kernel
theorem dX7_why_79 : decode cX7_why 79 = .ok (.iconst 2, 1) := by decide +kernel
theorem dX7_why_80 : decode cX7_why 80 = .ok (.ireturn, 1) := by decide +kernel
theorem dX7_why_81 : decode cX7_why 81 = .ok (.aload_n 0, 1) := by decide +kernel
theorem dX7_why_82 : decode cX7_why 82 = .ok (.iload_n 1, 1) := by decide +kernel
theorem dX7_why_83 : decode cX7_why 83 = .ok (.invokevirtual 103, 3) := by decide +kernel
theorem dX7_why_86 : decode cX7_why 86 = .ok (.ifCond .ne 20, 3) := by decide +kernel
theorem dX7_why_89 : decode cX7_why 89 = .ok (.aload_n 0, 1) := by decide +kernel
theorem dX7_why_90 : decode cX7_why 90 = .ok (.invokevirtual 112, 3) := by decide +kernel
theorem dX7_why_93 : decode cX7_why 93 = .ok (.aload_n 0, 1) := by decide +kernel
theorem dX7_why_94 : decode cX7_why 94 = .ok (.getfield 9, 3) := by decide +kernel
theorem dX7_why_97 : decode cX7_why 97 = .ok (.iconst 2, 1) := by decide +kernel
theorem dX7_why_98 : decode cX7_why 98 = .ok (.iaload, 1) := by decide +kernel
theorem dX7_why_99 : decode cX7_why 99 = .ok (.if_icmp .ne 7, 3) := by decide +kernel
theorem dX7_why_102 : decode cX7_why 102 = .ok (.iconst 3, 1) := by decide +kernel
theorem dX7_why_103 : decode cX7_why 103 = .ok (.goto 4, 3) := by decide +kernel
theorem dX7_why_106 : decode cX7_why 106 = .ok (.iconst 0, 1) := by decide +kernel
theorem dX7_why_107 : decode cX7_why 107 = .ok (.ireturn, 1) := by decide +kernel
theorem dX7_ears_0 : decode cX7_ears 0 = .ok (.iconst 0, 1) := by decide +kernel
theorem dX7_ears_1 : decode cX7_ears 1 = .ok (.istore_n 3, 1) := by decide +kernel
theorem dX7_ears_2 : decode cX7_ears 2 = .ok (.iconst 0, 1) := by decide +kernel
theorem dX7_ears_3 : decode cX7_ears 3 = .ok (.istore 4, 2) := by decide +kernel
theorem dX7_ears_5 : decode cX7_ears 5 = .ok (.iload 4, 2) := by decide +kernel
theorem dX7_ears_7 : decode cX7_ears 7 = .ok (.aload_n 0, 1) := by decide +kernel
theorem dX7_ears_8 : decode cX7_ears 8 = .ok (.getfield 9, 3) := by decide +kernel
theorem dX7_ears_11 : decode cX7_ears 11 = .ok (.iconst 4, 1) := by decide +kernel
theorem dX7_ears_12 : decode cX7_ears 12 = .ok (.iaload, 1) := by decide +kernel
theorem dX7_ears_13 : decode cX7_ears 13 = .ok (.if_icmp .ge 78, 3) := by decide +kernel
theorem dX7_ears_16 : decode cX7_ears 16 = .ok (.iload 4, 2) := by decide +kernel
theorem dX7_ears_18 : decode cX7_ears 18 = .ok (.iload_n 1, 1) := by decide +kernel
theorem dX7_ears_19 : decode cX7_ears 19 = .ok (.if_icmp .eq 66, 3) := by decide +kernel
theorem dX7_ears_22 : decode cX7_ears 22 = .ok (.iload 4, 2) := by decide +kernel
theorem dX7_ears_24 : decode cX7_ears 24 = .ok (.iload_n 2, 1) := by decide +kernel
theorem dX7_ears_25 : decode cX7_ears 25 = .ok (.if_icmp .eq 60, 3) := by decide +kernel
theorem dX7_ears_28 : decode cX7_ears 28 = .ok (.aload_n 0, 1) := by decide +kernel
theorem dX7_ears_29 : decode cX7_ears 29 = .ok (.iload 4, 2) := by decide +kernel
theorem dX7_ears_31 : decode cX7_ears 31 = .ok (.iconst 2, 1) := by decide +kernel
theorem dX7_ears_32 : decode cX7_ears 32 = .ok (.invokevirtual 92, 3) := by decide +kernel
theorem dX7_ears_35 : decode cX7_ears 35 = .ok (.iconst 5, 1) := by decide +kernel
theorem dX7_ears_36 : decode cX7_ears 36 = .ok (.if_icmp .ge 6, 3) := by decide +kernel
theorem dX7_ears_39 : decode cX7_ears 39 = .ok (.goto 46, 3) := by decide +kernel
theorem dX7_ears_42 : decode cX7_ears 42 = .ok (.aload_n 0, 1) := by decide +kernel
theorem dX7_ears_43 : decode cX7_ears 43 = .ok (.iload 4, 2) := by decide +kernel
theorem dX7_ears_45 : decode cX7_ears 45 = .ok (.iconst 0, 1) := by decide +kernel
theorem dX7_ears_46 : decode cX7_ears 46 = .ok (.invokevirtual 92, 3) := by decide +kernel
theorem dX7_ears_49 : decode cX7_ears 49 = .ok (.istore 5, 2) := by decide +kernel
theorem dX7_ears_51 : decode cX7_ears 51 = .ok (.iload 5, 2) := by decide +kernel
theorem dX7_ears_53 : decode cX7_ears 53 = .ok (.aload_n 0, 1) := by decide +kernel
theorem dX7_ears_54 : decode cX7_ears 54 = .ok (.iload_n 1, 1) := by decide +kernel
theorem dX7_ears_55 : decode cX7_ears 55 = .ok (.iconst 0, 1) := by decide +kernel
theorem dX7_ears_56 : decode cX7_ears 56 = .ok (.invokevirtual 92, 3) := by decide +kernel
theorem dX7_ears_59 : decode cX7_ears 59 = .ok (.if_icmp .eq 19, 3) := by decide +kernel
theorem dX7_ears_62 : decode cX7_ears 62 = .ok (.iload_n 2, 1) := by decide +kernel
theorem dX7_ears_63 : decode cX7_ears 63 = .ok (.iconst (-1), 1) := by decide +kernel
theorem dX7_ears_64 : decode cX7_ears 64 = .ok (.if_icmp .eq 21, 3) := by decide +kernel
theorem dX7_ears_67 : decode cX7_ears 67 = .ok (.iload 5, 2) := by decide +kernel
theorem dX7_ears_69 : decode cX7_ears 69 = .ok (.aload_n 0, 1) := by decide +kernel
theorem dX7_ears_70 : decode cX7_ears 70 = .ok (.iload_n 2, 1) := by decide +kernel
theorem dX7_ears_71 : decode cX7_ears 71 = .ok (.iconst 0, 1) := by decide +kernel
theorem dX7_ears_72 : decode cX7_ears 72 = .ok (.invokevirtual 92, 3) := by decide +kernel
theorem dX7_ears_75 : decode cX7_ears 75 = .ok (.if_icmp .ne 10, 3) := by decide +kernel
theorem dX7_ears_78 : decode cX7_ears 78 = .ok (.iload_n 3, 1) := by decide +kernel
theorem dX7_ears_79 : decode cX7_ears 79 = .ok (.iconst 1, 1) := by decide +kernel
theorem dX7_ears_80 : decode cX7_ears 80 = .ok (.iload 4, 2) := by decide +kernel
theorem dX7_ears_82 : decode cX7_ears 82 = .ok (.ishl, 1) := by decide +kernel
theorem dX7_ears_83 : decode cX7_ears 83 = .ok (.ior, 1) := by decide +kernel
theorem dX7_ears_84 : decode cX7_ears 84 = .ok (.istore_n 3, 1) := by decide +kernel
theorem dX7_ears_85 : decode cX7_ears 85 = .ok (.iinc 4 1, 3) := by decide +kernel
theorem dX7_ears_88 : decode cX7_ears 88 = .ok (.goto (-83), 3) := by decide +kernel
theorem dX7_ears_91 : decode cX7_ears 91 = .ok (.iload_n 3, 1) := by decide +kernel
theorem dX7_ears_92 : decode cX7_ears 92 = .ok (.ireturn, 1) := by decide +kernel
theorem dX7_starts_0 : decode cX7_starts 0 = .ok (.aload_n 0, 1) := by decide +kernel
theorem dX7_starts_1 : decode cX7_starts 1 = .ok (.iload_n 1, 1) := by decide +kernel
theorem dX7_starts_2 : decode cX7_starts 2 = .ok (.iconst 0, 1) := by decide +kernel
theorem dX7_starts_3 : decode cX7_starts 3 = .ok (.invokevirtual 88, 3) := by decide +kernel
theorem dX7_starts_6 : decode cX7_starts 6 = .ok (.istore_n 2, 1) := by decide +kernel
theorem dX7_starts_7 : decode cX7_starts 7 = .ok (.aload_n 0, 1) := by decide +kernel
theorem dX7_starts_8 : decode cX7_starts 8 = .ok (.iload_n 1, 1) := by decide +kernel
theorem dX7_starts_9 : decode cX7_starts 9 = .ok (.iconst 1, 1) := by decide +kernel
theorem dX7_starts_10 : decode cX7_starts 10 = .ok (.invokevirtual 88, 3) := by decide +kernel
theorem dX7_starts_13 : decode cX7_starts 13 = .ok (.istore_n 3, 1) := by decide +kernel
theorem dX7_starts_14 : decode cX7_starts 14 = .ok (.aload_n 0, 1) := by decide +kernel
theorem dX7_starts_15 : decode cX7_starts 15 = .ok (.iload_n 2, 1) := by decide +kernel
theorem dX7_starts_16 : decode cX7_starts 16 = .ok (.iload_n 3, 1) := by decide +kernel
theorem dX7_starts_17 : decode cX7_starts 17 = .ok (.invokevirtual 115, 3) := by decide +kernel
theorem dX7_starts_20 : decode cX7_starts 20 = .ok (.istore 4, 2) := by decide +kernel
theorem dX7_starts_22 : decode cX7_starts 22 = .ok (.bipush 100, 2) := by decide +kernel
theorem dX7_starts_24 : decode cX7_starts 24 = .ok (.istore 5, 2) := by decide +kernel
theorem dX7_starts_26 : decode cX7_starts 26 = .ok (.iload 4, 2) := by decide +kernel
theorem dX7_starts_28 : decode cX7_starts 28 = .ok (.invokestatic 118, 3) := by decide +kernel
theorem dX7_starts_31 : decode cX7_starts 31 = .ok (.istore 6, 2) := by decide +kernel
theorem dX7_starts_33 : decode cX7_starts 33 = .ok (.iload 6, 2) := by decide +kernel
theorem dX7_starts_35 : decode cX7_starts 35 = .ok (.ifCond .le 22, 3) := by decide +kernel
theorem dX7_starts_38 : decode cX7_starts 38 = .ok (.iload 5, 2) := by decide +kernel
theorem dX7_starts_40 : decode cX7_starts 40 = .ok (.iload 5, 2) := by decide +kernel
theorem dX7_starts_42 : decode cX7_starts 42 = .ok (.bipush 9, 2) := by decide +kernel
theorem dX7_starts_44 : decode cX7_starts 44 = .ok (.iadd, 1) := by decide +kernel
theorem dX7_starts_45 : decode cX7_starts 45 = .ok (.bipush 10, 2) := by decide +kernel
theorem dX7_starts_47 : decode cX7_starts 47 = .ok (.idiv, 1) := by decide +kernel
theorem dX7_starts_48 : decode cX7_starts 48 = .ok (.isub, 1) := by decide +kernel
theorem dX7_starts_49 : decode cX7_starts 49 = .ok (.istore 5, 2) := by decide +kernel
theorem dX7_starts_51 : decode cX7_starts 51 = .ok (.iinc 6 (-1), 3) := by decide +kernel
theorem dX7_starts_54 : decode cX7_starts 54 = .ok (.goto (-21), 3) := by decide +kernel
theorem dX7_starts_57 : decode cX7_starts 57 = .ok (.aload_n 0, 1) := by decide +kernel
theorem dX7_starts_58 : decode cX7_starts 58 = .ok (.iload_n 2, 1) := by decide +kernel
theorem dX7_starts_59 : decode cX7_starts 59 = .ok (.iconst 4, 1) := by decide +kernel
theorem dX7_starts_60 : decode cX7_starts 60 = .ok (.invokevirtual 92, 3) := by decide +kernel
theorem dX7_starts_63 : decode cX7_starts 63 = .ok (.istore 6, 2) := by decide +kernel
theorem dX7_starts_65 : decode cX7_starts 65 = .ok (.iload_n 3, 1) := by decide +kernel
theorem dX7_starts_66 : decode cX7_starts 66 = .ok (.iconst (-1), 1) := by decide +kernel
theorem dX7_starts_67 : decode cX7_starts 67 = .ok (.if_icmp .eq 30, 3) := by decide +kernel
theorem dX7_starts_70 : decode cX7_starts 70 = .ok (.iload 6, 2) := by decide +kernel
theorem dX7_starts_72 : decode cX7_starts 72 = .ok (.aload_n 0, 1) := by decide +kernel
theorem dX7_starts_73 : decode cX7_starts 73 = .ok (.iload_n 3, 1) := by decide +kernel
theorem dX7_starts_74 : decode cX7_starts 74 = .ok (.iconst 4, 1) := by decide +kernel
theorem dX7_starts_75 : decode cX7_starts 75 = .ok (.invokevirtual 92, 3) := by decide +kernel
theorem dX7_starts_78 : decode cX7_starts 78 = .ok (.ior, 1) := by decide +kernel
theorem dX7_starts_79 : decode cX7_starts 79 = .ok (.istore 6, 2) := by decide +kernel
theorem dX7_starts_81 : decode cX7_starts 81 = .ok (.aload_n 0, 1) := by decide +kernel
theorem dX7_starts_82 : decode cX7_starts 82 = .ok (.iload_n 2, 1) := by decide +kernel
theorem dX7_starts_83 : decode cX7_starts 83 = .ok (.iconst 4, 1) := by decide +kernel
theorem dX7_starts_84 : decode cX7_starts 84 = .ok (.iload 6, 2) := by decide +kernel
theorem dX7_starts_86 : decode cX7_starts 86 = .ok (.invokevirtual 123, 3) := by decide +kernel
theorem dX7_starts_89 : decode cX7_starts 89 = .ok (.aload_n 0, 1) := by decide +kernel
theorem dX7_starts_90 : decode cX7_starts 90 = .ok (.iload_n 3, 1) := by decide +kernel
theorem dX7_starts_91 : decode cX7_starts 91 = .ok (.iconst 4, 1) := by decide +kernel
theorem dX7_starts_92 : decode cX7_starts 92 = .ok (.iload 6, 2) := by decide +kernel
theorem dX7_starts_94 : decode cX7_starts 94 = .ok (.invokevirtual 123, 3) := by decide +kernel
theorem dX7_starts_97 : decode cX7_starts 97 = .ok (.iconst 0, 1) := by decide +kernel
theorem dX7_starts_98 : decode cX7_starts 98 = .ok (.istore 7, 2) := by decide +kernel
theorem dX7_starts_100 : decode cX7_starts 100 = .ok (.iload 7, 2) := by decide +kernel
theorem dX7_starts_102 : decode cX7_starts 102 = .ok (.aload_n 0, 1) := by decide +kernel
theorem dX7_starts_103 : decode cX7_starts 103 = .ok (.getfield 9, 3) := by decide +kernel
theorem dX7_starts_106 : decode cX7_starts 106 = .ok (.iconst 4, 1) := by decide +kernel
theorem dX7_starts_107 : decode cX7_starts 107 = .ok (.iaload, 1) := by decide +kernel
theorem dX7_starts_108 : decode cX7_starts 108 = .ok (.if_icmp .ge 37, 3) := by decide +kernel
theorem dX7_starts_111 : decode cX7_starts 111 = .ok (.iload 4, 2) := by decide +kernel
theorem dX7_starts_113 : decode cX7_starts 113 = .ok (.iload 7, 2) := by decide +kernel
theorem dX7_starts_115 : decode cX7_starts 115 = .ok (.ishr, 1) := by decide +kernel
theorem dX7_starts_116 : decode cX7_starts 116 = .ok (.iconst 1, 1) := by decide +kernel
theorem dX7_starts_117 : decode cX7_starts 117 = .ok (.iand, 1) := by decide +kernel
theorem dX7_starts_118 : decode cX7_starts 118 = .ok (.iconst 1, 1) := by decide +kernel
theorem dX7_starts_119 : decode cX7_starts 119 = .ok (.if_icmp .ne 20, 3) := by decide +kernel
theorem dX7_starts_122 : decode cX7_starts 122 = .ok (.aload_n 0, 1) := by decide +kernel
theorem dX7_starts_123 : decode cX7_starts 123 = .ok (.iload 7, 2) := by decide +kernel
theorem dX7_starts_125 : decode cX7_starts 125 = .ok (.iconst 4, 1) := by decide +kernel
theorem dX7_starts_126 : decode cX7_starts 126 = .ok (.aload_n 0, 1) := by decide +kernel
theorem dX7_starts_127 : decode cX7_starts 127 = .ok (.iload 7, 2) := by decide +kernel
theorem dX7_starts_129 : decode cX7_starts 129 = .ok (.iconst 4, 1) := by decide +kernel
theorem dX7_starts_130 : decode cX7_starts 130 = .ok (.invokevirtual 92, 3) := by decide +kernel
theorem dX7_starts_133 : decode cX7_starts 133 = .ok (.iload 6, 2) := by decide +kernel
theorem dX7_starts_135 : decode cX7_starts 135 = .ok (.ior, 1) := by decide +kernel
theorem dX7_starts_136 : decode cX7_starts 136 = .ok (.invokevirtual 123, 3) := by decide +kernel
theorem dX7_starts_139 : decode cX7_starts 139 = .ok (.iinc 7 1, 3) := by decide +kernel
theorem dX7_starts_142 : decode cX7_starts 142 = .ok (.goto (-42), 3) := by decide +kernel
theorem dX7_starts_145 : decode cX7_starts 145 = .ok (.aload_n 0, 1) := by decide +kernel
theorem dX7_starts_146 : decode cX7_starts 146 = .ok (.iload_n 1, 1) := by decide +kernel
theorem dX7_starts_147 : decode cX7_starts 147 = .ok (.iconst 4, 1) := by decide +kernel
theorem dX7_starts_148 : decode cX7_starts 148 = .ok (.iconst 1, 1) := by decide +kernel
theorem dX7_starts_149 : decode cX7_starts 149 = .ok (.invokevirtual 127, 3) := by decide +kernel
theorem dX7_starts_152 : decode cX7_starts 152 = .ok (.aload_n 0, 1) := by decide +kernel
theorem dX7_starts_153 : decode cX7_starts 153 = .ok (.iload_n 1, 1) := by decide +kernel
theorem dX7_starts_154 : decode cX7_starts 154 = .ok (.iconst 5, 1) := by decide +kernel
theorem dX7_starts_155 : decode cX7_starts 155 = .ok (.aload_n 0, 1) := by decide +kernel
theorem dX7_starts_156 : decode cX7_starts 156 = .ok (.getfield 9, 3) := by decide +kernel
theorem dX7_starts_159 : decode cX7_starts 159 = .ok (.iconst 0, 1) := by decide +kernel
theorem dX7_starts_160 : decode cX7_starts 160 = .ok (.iaload, 1) := by decide +kernel
theorem dX7_starts_161 : decode cX7_starts 161 = .ok (.invokevirtual 127, 3) := by decide +kernel
theorem dX7_starts_164 : decode cX7_starts 164 = .ok (.aload_n 0, 1) := by decide +kernel
theorem dX7_starts_165 : decode cX7_starts 165 = .ok (.iload_n 1, 1) := by decide +kernel
theorem dX7_starts_166 : decode cX7_starts 166 = .ok (.bipush 7, 2) := by decide +kernel
theorem dX7_starts_168 : decode cX7_starts 168 = .ok (.iload 4, 2) := by decide +kernel
theorem dX7_starts_170 : decode cX7_starts 170 = .ok (.invokevirtual 127, 3) := by decide +kernel
theorem dX7_starts_173 : decode cX7_starts 173 = .ok (.aload_n 0, 1) := by decide +kernel
theorem dX7_starts_174 : decode cX7_starts 174 = .ok (.iload_n 1, 1) := by decide +kernel
theorem dX7_starts_175 : decode cX7_starts 175 = .ok (.bipush 8, 2) := by decide +kernel
theorem dX7_starts_177 : decode cX7_starts 177 = .ok (.iload 5, 2) := by decide +kernel
theorem dX7_starts_179 : decode cX7_starts 179 = .ok (.invokevirtual 127, 3) := by decide +kernel
theorem dX7_starts_182 : decode cX7_starts 182 = .ok (.return_, 1) := by decide +kernel
theorem dX7_requests_0 : decode cX7_requests 0 = .ok (.aload_n 0, 1) := by decide +kernel
theorem dX7_requests_1 : decode cX7_requests 1 = .ok (.getfield 9, 3) := by decide +kernel
theorem dX7_requests_4 : decode cX7_requests 4 = .ok (.iconst 5, 1) := by decide +kernel
theorem dX7_requests_5 : decode cX7_requests 5 = .ok (.iaload, 1) := by decide +kernel
theorem dX7_requests_6 : decode cX7_requests 6 = .ok (.istore 5, 2) := by decide +kernel
theorem dX7_requests_8 : decode cX7_requests 8 = .ok (.aload_n 0, 1) := by decide +kernel
theorem dX7_requests_9 : decode cX7_requests 9 = .ok (.getfield 9, 3) := by decide +kernel
theorem dX7_requests_12 : decode cX7_requests 12 = .ok (.iconst 5, 1) := by decide +kernel
theorem dX7_requests_13 : decode cX7_requests 13 = .ok (.dup2, 1) := by decide +kernel
theorem dX7_requests_14 : decode cX7_requests 14 = .ok (.iaload, 1) := by decide +kernel
theorem dX7_requests_15 : decode cX7_requests 15 = .ok (.iconst 1, 1) := by decide +kernel
theorem dX7_requests_16 : decode cX7_requests 16 = .ok (.iadd, 1) := by decide +kernel
theorem dX7_requests_17 : decode cX7_requests 17 = .ok (.iastore, 1) := by decide +kernel
theorem dX7_requests_18 : decode cX7_requests 18 = .ok (.aload_n 0, 1) := by decide +kernel
theorem dX7_requests_19 : decode cX7_requests 19 = .ok (.iload 5, 2) := by decide +kernel
theorem dX7_requests_21 : decode cX7_requests 21 = .ok (.iconst 0, 1) := by decide +kernel
theorem dX7_requests_22 : decode cX7_requests 22 = .ok (.iload_n 1, 1) := by decide +kernel
theorem dX7_requests_23 : decode cX7_requests 23 = .ok (.invokevirtual 127, 3) := by decide +kernel
theorem dX7_requests_26 : decode cX7_requests 26 = .ok (.aload_n 0, 1) := by decide +kernel
theorem dX7_requests_27 : decode cX7_requests 27 = .ok (.iload 5, 2) := by decide +kernel
theorem dX7_requests_29 : decode cX7_requests 29 = .ok (.iconst 1, 1) := by decide +kernel
theorem dX7_requests_30 : decode cX7_requests 30 = .ok (.iload_n 2, 1) := by decide +kernel
theorem dX7_requests_31 : decode cX7_requests 31 = .ok (.invokevirtual 127, 3) := by decide +kernel
theorem dX7_requests_34 : decode cX7_requests 34 = .ok (.aload_n 0, 1) := by decide +kernel
theorem dX7_requests_35 : decode cX7_requests 35 = .ok (.iload 5, 2) := by decide +kernel
theorem dX7_requests_37 : decode cX7_requests 37 = .ok (.iconst 2, 1) := by decide +kernel
theorem dX7_requests_38 : decode cX7_requests 38 = .ok (.iload_n 3, 1) := by decide +kernel
theorem dX7_requests_39 : decode cX7_requests 39 = .ok (.invokevirtual 127, 3) := by decide +kernel
theorem dX7_requests_42 : decode cX7_requests 42 = .ok (.aload_n 0, 1) := by decide +kernel
theorem dX7_requests_43 : decode cX7_requests 43 = .ok (.iload 5, 2) := by decide +kernel
theorem dX7_requests_45 : decode cX7_requests 45 = .ok (.iconst 3, 1) := by decide +kernel
theorem dX7_requests_46 : decode cX7_requests 46 = .ok (.iload 4, 2) := by decide +kernel
theorem dX7_requests_48 : decode cX7_requests 48 = .ok (.invokevirtual 127, 3) := by decide +kernel
theorem dX7_requests_51 : decode cX7_requests 51 = .ok (.aload_n 0, 1) := by decide +kernel
theorem dX7_requests_52 : decode cX7_requests 52 = .ok (.iload 5, 2) := by decide +kernel
theorem dX7_requests_54 : decode cX7_requests 54 = .ok (.iconst 4, 1) := by decide +kernel
theorem dX7_requests_55 : decode cX7_requests 55 = .ok (.iconst 0, 1) := by decide +kernel
theorem dX7_requests_56 : decode cX7_requests 56 = .ok (.invokevirtual 127, 3) := by decide +kernel
theorem dX7_requests_59 : decode cX7_requests 59 = .ok (.aload_n 0, 1) := by decide +kernel
theorem dX7_requests_60 : decode cX7_requests 60 = .ok (.iload 5, 2) := by decide +kernel
theorem dX7_requests_62 : decode cX7_requests 62 = .ok (.iconst 5, 1) := by decide +kernel
theorem dX7_requests_63 : decode cX7_requests 63 = .ok (.iconst (-1), 1) := by decide +kernel
theorem dX7_requests_64 : decode cX7_requests 64 = .ok (.invokevirtual 127, 3) := by decide +kernel
theorem dX7_requests_67 : decode cX7_requests 67 = .ok (.aload_n 0, 1) := by decide +kernel
theorem dX7_requests_68 : decode cX7_requests 68 = .ok (.iload 5, 2) := by decide +kernel
theorem dX7_requests_70 : decode cX7_requests 70 = .ok (.bipush 6, 2) := by decide +kernel
theorem dX7_requests_72 : decode cX7_requests 72 = .ok (.iconst (-1), 1) := by decide +kernel
theorem dX7_requests_73 : decode cX7_requests 73 = .ok (.invokevirtual 127, 3) := by decide +kernel
theorem dX7_requests_76 : decode cX7_requests 76 = .ok (.aload_n 0, 1) := by decide +kernel
theorem dX7_requests_77 : decode cX7_requests 77 = .ok (.iload 5, 2) := by decide +kernel
theorem dX7_requests_79 : decode cX7_requests 79 = .ok (.bipush 7, 2) := by decide +kernel
theorem dX7_requests_81 : decode cX7_requests 81 = .ok (.iconst 0, 1) := by decide +kernel
theorem dX7_requests_82 : decode cX7_requests 82 = .ok (.invokevirtual 127, 3) := by decide +kernel
theorem dX7_requests_85 : decode cX7_requests 85 = .ok (.aload_n 0, 1) := by decide +kernel
theorem dX7_requests_86 : decode cX7_requests 86 = .ok (.iload 5, 2) := by decide +kernel
theorem dX7_requests_88 : decode cX7_requests 88 = .ok (.bipush 8, 2) := by decide +kernel
theorem dX7_requests_90 : decode cX7_requests 90 = .ok (.bipush 100, 2) := by decide +kernel
theorem dX7_requests_92 : decode cX7_requests 92 = .ok (.invokevirtual 127, 3) := by decide +kernel
theorem dX7_requests_95 : decode cX7_requests 95 = .ok (.aload_n 0, 1) := by decide +kernel
theorem dX7_requests_96 : decode cX7_requests 96 = .ok (.iload 5, 2) := by decide +kernel
theorem dX7_requests_98 : decode cX7_requests 98 = .ok (.invokevirtual 130, 3) := by decide +kernel
theorem dX7_requests_101 : decode cX7_requests 101 = .ok (.ifCond .ne 9, 3) := by decide +kernel
theorem dX7_requests_104 : decode cX7_requests 104 = .ok (.aload_n 0, 1) := by decide +kernel
theorem dX7_requests_105 : decode cX7_requests 105 = .ok (.iload 5, 2) := by decide +kernel
theorem dX7_requests_107 : decode cX7_requests 107 = .ok (.invokevirtual 133, 3) := by decide +kernel
theorem dX7_requests_110 : decode cX7_requests 110 = .ok (.iload 5, 2) := by decide +kernel
theorem dX7_requests_112 : decode cX7_requests 112 = .ok (.ireturn, 1) := by decide +kernel
theorem dX7_cost_0 : decode cX7_cost 0 = .ok (.aload_n 0, 1) := by decide +kernel
theorem dX7_cost_1 : decode cX7_cost 1 = .ok (.iload_n 1, 1) := by decide +kernel
theorem dX7_cost_2 : decode cX7_cost 2 = .ok (.iconst 4, 1) := by decide +kernel
theorem dX7_cost_3 : decode cX7_cost 3 = .ok (.invokevirtual 88, 3) := by decide +kernel
theorem dX7_cost_6 : decode cX7_cost 6 = .ok (.istore_n 2, 1) := by decide +kernel
theorem dX7_cost_7 : decode cX7_cost 7 = .ok (.iload_n 2, 1) := by decide +kernel
theorem dX7_cost_8 : decode cX7_cost 8 = .ok (.iconst 1, 1) := by decide +kernel
theorem dX7_cost_9 : decode cX7_cost 9 = .ok (.if_icmp .eq 10, 3) := by decide +kernel
theorem dX7_cost_12 : decode cX7_cost 12 = .ok (.iload_n 2, 1) := by decide +kernel
theorem dX7_cost_13 : decode cX7_cost 13 = .ok (.iconst 2, 1) := by decide +kernel
theorem dX7_cost_14 : decode cX7_cost 14 = .ok (.if_icmp .eq 5, 3) := by decide +kernel
theorem dX7_cost_17 : decode cX7_cost 17 = .ok (.iconst 0, 1) := by decide +kernel
theorem dX7_cost_18 : decode cX7_cost 18 = .ok (.ireturn, 1) := by decide +kernel
theorem dX7_cost_19 : decode cX7_cost 19 = .ok (.aload_n 0, 1) := by decide +kernel
theorem dX7_cost_20 : decode cX7_cost 20 = .ok (.iload_n 1, 1) := by decide +kernel
theorem dX7_cost_21 : decode cX7_cost 21 = .ok (.iconst 2, 1) := by decide +kernel
theorem dX7_cost_22 : decode cX7_cost 22 = .ok (.invokevirtual 88, 3) := by decide +kernel
theorem dX7_cost_25 : decode cX7_cost 25 = .ok (.iconst (-1), 1) := by decide +kernel
theorem dX7_cost_26 : decode cX7_cost 26 = .ok (.if_icmp .ne 5, 3) := by decide +kernel
theorem dX7_cost_29 : decode cX7_cost 29 = .ok (.iconst 5, 1) := by decide +kernel
theorem dX7_cost_30 : decode cX7_cost 30 = .ok (.ireturn, 1) := by decide +kernel
theorem dX7_cost_31 : decode cX7_cost 31 = .ok (.iload_n 2, 1) := by decide +kernel
theorem dX7_cost_32 : decode cX7_cost 32 = .ok (.iconst 1, 1) := by decide +kernel
theorem dX7_cost_33 : decode cX7_cost 33 = .ok (.if_icmp .ne 12, 3) := by decide +kernel
theorem dX7_cost_36 : decode cX7_cost 36 = .ok (.aload_n 0, 1) := by decide +kernel
theorem dX7_cost_37 : decode cX7_cost 37 = .ok (.getfield 9, 3) := by decide +kernel
theorem dX7_cost_40 : decode cX7_cost 40 = .ok (.iconst 0, 1) := by decide +kernel
theorem dX7_cost_41 : decode cX7_cost 41 = .ok (.iaload, 1) := by decide +kernel
theorem dX7_cost_42 : decode cX7_cost 42 = .ok (.goto 10, 3) := by decide +kernel
theorem dX7_cost_45 : decode cX7_cost 45 = .ok (.aload_n 0, 1) := by decide +kernel
theorem dX7_cost_46 : decode cX7_cost 46 = .ok (.iload_n 1, 1) := by decide +kernel
theorem dX7_cost_47 : decode cX7_cost 47 = .ok (.bipush 6, 2) := by decide +kernel
theorem dX7_cost_49 : decode cX7_cost 49 = .ok (.invokevirtual 88, 3) := by decide +kernel
theorem dX7_cost_52 : decode cX7_cost 52 = .ok (.aload_n 0, 1) := by decide +kernel
theorem dX7_cost_53 : decode cX7_cost 53 = .ok (.iload_n 1, 1) := by decide +kernel
theorem dX7_cost_54 : decode cX7_cost 54 = .ok (.iconst 5, 1) := by decide +kernel
theorem dX7_cost_55 : decode cX7_cost 55 = .ok (.invokevirtual 88, 3) := by decide +kernel
theorem dX7_cost_58 : decode cX7_cost 58 = .ok (.isub, 1) := by decide +kernel
theorem dX7_cost_59 : decode cX7_cost 59 = .ok (.istore_n 3, 1) := by decide +kernel
theorem dX7_cost_60 : decode cX7_cost 60 = .ok (.aload_n 0, 1) := by decide +kernel
theorem dX7_cost_61 : decode cX7_cost 61 = .ok (.getfield 9, 3) := by decide +kernel
theorem dX7_cost_64 : decode cX7_cost 64 = .ok (.bipush 6, 2) := by decide +kernel
theorem dX7_cost_66 : decode cX7_cost 66 = .ok (.aload_n 0, 1) := by decide +kernel
theorem dX7_cost_67 : decode cX7_cost 67 = .ok (.iload_n 1, 1) := by decide +kernel
theorem dX7_cost_68 : decode cX7_cost 68 = .ok (.iconst 2, 1) := by decide +kernel
theorem dX7_cost_69 : decode cX7_cost 69 = .ok (.invokevirtual 88, 3) := by decide +kernel
theorem dX7_cost_72 : decode cX7_cost 72 = .ok (.iadd, 1) := by decide +kernel
theorem dX7_cost_73 : decode cX7_cost 73 = .ok (.iaload, 1) := by decide +kernel
theorem dX7_cost_74 : decode cX7_cost 74 = .ok (.iconst 1, 1) := by decide +kernel
theorem dX7_cost_75 : decode cX7_cost 75 = .ok (.iload_n 3, 1) := by decide +kernel
theorem dX7_cost_76 : decode cX7_cost 76 = .ok (.bipush 59, 2) := by decide +kernel
theorem dX7_cost_78 : decode cX7_cost 78 = .ok (.iadd, 1) := by decide +kernel
theorem dX7_cost_79 : decode cX7_cost 79 = .ok (.bipush 60, 2) := by decide +kernel
theorem dX7_cost_81 : decode cX7_cost 81 = .ok (.idiv, 1) := by decide +kernel
theorem dX7_cost_82 : decode cX7_cost 82 = .ok (.invokestatic 137, 3) := by decide +kernel
theorem dX7_cost_85 : decode cX7_cost 85 = .ok (.imul, 1) := by decide +kernel
theorem dX7_cost_86 : decode cX7_cost 86 = .ok (.ireturn, 1) := by decide +kernel
theorem dX7_isOver_0 : decode cX7_isOver 0 = .ok (.aload_n 0, 1) := by decide +kernel
theorem dX7_isOver_1 : decode cX7_isOver 1 = .ok (.iload_n 1, 1) := by decide +kernel
theorem dX7_isOver_2 : decode cX7_isOver 2 = .ok (.iconst 4, 1) := by decide +kernel
theorem dX7_isOver_3 : decode cX7_isOver 3 = .ok (.invokevirtual 88, 3) := by decide +kernel
theorem dX7_isOver_6 : decode cX7_isOver 6 = .ok (.iconst 2, 1) := by decide +kernel
theorem dX7_isOver_7 : decode cX7_isOver 7 = .ok (.if_icmp .lt 7, 3) := by decide +kernel
theorem dX7_isOver_10 : decode cX7_isOver 10 = .ok (.iconst 1, 1) := by decide +kernel
theorem dX7_isOver_11 : decode cX7_isOver 11 = .ok (.goto 4, 3) := by decide +kernel
theorem dX7_isOver_14 : decode cX7_isOver 14 = .ok (.iconst 0, 1) := by decide +kernel
theorem dX7_isOver_15 : decode cX7_isOver 15 = .ok (.ireturn, 1) := by decide +kernel
theorem dX7_startWaiting_0 : decode cX7_startWaiting 0 = .ok (.iconst 0, 1) := by decide +kernel
theorem dX7_startWaiting_1 : decode cX7_startWaiting 1 = .ok (.istore_n 1, 1) := by decide +kernel
theorem dX7_startWaiting_2 : decode cX7_startWaiting 2 = .ok (.iconst 1, 1) := by decide +kernel
theorem dX7_startWaiting_3 : decode cX7_startWaiting 3 = .ok (.istore_n 2, 1) := by decide +kernel
theorem dX7_startWaiting_4 : decode cX7_startWaiting 4 = .ok (.iload_n 2, 1) := by decide +kernel
theorem dX7_startWaiting_5 : decode cX7_startWaiting 5 = .ok (.ifCond .lt 65, 3) := by decide +kernel
theorem dX7_startWaiting_8 : decode cX7_startWaiting 8 = .ok (.iconst 0, 1) := by decide +kernel
theorem dX7_startWaiting_9 : decode cX7_startWaiting 9 = .ok (.istore_n 3, 1) := by decide +kernel
theorem dX7_startWaiting_10 : decode cX7_startWaiting 10 = .ok (.iload_n 3, 1) := by decide +kernel
theorem dX7_startWaiting_11 : decode cX7_startWaiting 11 = .ok (.aload_n 0, 1) := by decide +kernel
theorem dX7_startWaiting_12 : decode cX7_startWaiting 12 = .ok (.getfield 9, 3) := by decide +kernel
theorem dX7_startWaiting_15 : decode cX7_startWaiting 15 = .ok (.iconst 5, 1) := by decide +kernel
theorem dX7_startWaiting_16 : decode cX7_startWaiting 16 = .ok (.iaload, 1) := by decide +kernel
theorem dX7_startWaiting_17 : decode cX7_startWaiting 17 = .ok (.if_icmp .ge 47, 3) := by decide +kernel
theorem dX7_startWaiting_20 : decode cX7_startWaiting 20 = .ok (.aload_n 0, 1) := by decide +kernel
theorem dX7_startWaiting_21 : decode cX7_startWaiting 21 = .ok (.iload_n 3, 1) := by decide +kernel
theorem dX7_startWaiting_22 : decode cX7_startWaiting 22 = .ok (.iconst 4, 1) := by decide +kernel
theorem dX7_startWaiting_23 : decode cX7_startWaiting 23 = .ok (.invokevirtual 88, 3) := by decide +kernel
theorem dX7_startWaiting_26 : decode cX7_startWaiting 26 = .ok (.ifCond .ne 32, 3) := by decide +kernel
theorem dX7_startWaiting_29 : decode cX7_startWaiting 29 = .ok (.aload_n 0, 1) := by decide +kernel
theorem dX7_startWaiting_30 : decode cX7_startWaiting 30 = .ok (.iload_n 3, 1) := by decide +kernel
theorem dX7_startWaiting_31 : decode cX7_startWaiting 31 = .ok (.iconst 3, 1) := by decide +kernel
theorem dX7_startWaiting_32 : decode cX7_startWaiting 32 = .ok (.invokevirtual 88, 3) := by decide +kernel
theorem dX7_startWaiting_35 : decode cX7_startWaiting 35 = .ok (.iload_n 2, 1) := by decide +kernel
theorem dX7_startWaiting_36 : decode cX7_startWaiting 36 = .ok (.if_icmp .ne 22, 3) := by decide +kernel
theorem dX7_startWaiting_39 : decode cX7_startWaiting 39 = .ok (.aload_n 0, 1) := by decide +kernel
theorem dX7_startWaiting_40 : decode cX7_startWaiting 40 = .ok (.iload_n 3, 1) := by decide +kernel
theorem dX7_startWaiting_41 : decode cX7_startWaiting 41 = .ok (.invokevirtual 130, 3) := by decide +kernel
theorem dX7_startWaiting_44 : decode cX7_startWaiting 44 = .ok (.ifCond .eq 6, 3) := by decide +kernel
theorem dX7_startWaiting_47 : decode cX7_startWaiting 47 = .ok (.goto 11, 3) := by decide +kernel
theorem dX7_startWaiting_50 : decode cX7_startWaiting 50 = .ok (.aload_n 0, 1) := by decide +kernel
theorem dX7_startWaiting_51 : decode cX7_startWaiting 51 = .ok (.iload_n 3, 1) := by decide +kernel
theorem dX7_startWaiting_52 : decode cX7_startWaiting 52 = .ok (.invokevirtual 133, 3) := by decide +kernel
theorem dX7_startWaiting_55 : decode cX7_startWaiting 55 = .ok (.iinc 1 1, 3) := by decide +kernel
theorem dX7_startWaiting_58 : decode cX7_startWaiting 58 = .ok (.iinc 3 1, 3) := by decide +kernel
theorem dX7_startWaiting_61 : decode cX7_startWaiting 61 = .ok (.goto (-51), 3) := by decide +kernel
theorem dX7_startWaiting_64 : decode cX7_startWaiting 64 = .ok (.iinc 2 (-1), 3) := by decide +kernel
theorem dX7_startWaiting_67 : decode cX7_startWaiting 67 = .ok (.goto (-63), 3) := by decide +kernel
theorem dX7_startWaiting_70 : decode cX7_startWaiting 70 = .ok (.iload_n 1, 1) := by decide +kernel
theorem dX7_startWaiting_71 : decode cX7_startWaiting 71 = .ok (.ireturn, 1) := by decide +kernel
theorem dX7_finishes_0 : decode cX7_finishes 0 = .ok (.aload_n 0, 1) := by decide +kernel
theorem dX7_finishes_1 : decode cX7_finishes 1 = .ok (.iload_n 1, 1) := by decide +kernel
theorem dX7_finishes_2 : decode cX7_finishes 2 = .ok (.iconst 0, 1) := by decide +kernel
theorem dX7_finishes_3 : decode cX7_finishes 3 = .ok (.invokevirtual 88, 3) := by decide +kernel
theorem dX7_finishes_6 : decode cX7_finishes 6 = .ok (.istore_n 2, 1) := by decide +kernel
theorem dX7_finishes_7 : decode cX7_finishes 7 = .ok (.aload_n 0, 1) := by decide +kernel
theorem dX7_finishes_8 : decode cX7_finishes 8 = .ok (.iload_n 2, 1) := by decide +kernel
theorem dX7_finishes_9 : decode cX7_finishes 9 = .ok (.iconst 3, 1) := by decide +kernel
theorem dX7_finishes_10 : decode cX7_finishes 10 = .ok (.aload_n 0, 1) := by decide +kernel
theorem dX7_finishes_11 : decode cX7_finishes 11 = .ok (.iload_n 2, 1) := by decide +kernel
theorem dX7_finishes_12 : decode cX7_finishes 12 = .ok (.iconst 3, 1) := by decide +kernel
theorem dX7_finishes_13 : decode cX7_finishes 13 = .ok (.invokevirtual 92, 3) := by decide +kernel
theorem dX7_finishes_16 : decode cX7_finishes 16 = .ok (.aload_n 0, 1) := by decide +kernel
theorem dX7_finishes_17 : decode cX7_finishes 17 = .ok (.iload_n 1, 1) := by decide +kernel
theorem dX7_finishes_18 : decode cX7_finishes 18 = .ok (.invokevirtual 142, 3) := by decide +kernel
theorem dX7_finishes_21 : decode cX7_finishes 21 = .ok (.iadd, 1) := by decide +kernel
theorem dX7_finishes_22 : decode cX7_finishes 22 = .ok (.invokevirtual 123, 3) := by decide +kernel
theorem dX7_finishes_25 : decode cX7_finishes 25 = .ok (.aload_n 0, 1) := by decide +kernel
theorem dX7_finishes_26 : decode cX7_finishes 26 = .ok (.iload_n 1, 1) := by decide +kernel
theorem dX7_finishes_27 : decode cX7_finishes 27 = .ok (.iconst 4, 1) := by decide +kernel
theorem dX7_finishes_28 : decode cX7_finishes 28 = .ok (.aload_n 0, 1) := by decide +kernel
theorem dX7_finishes_29 : decode cX7_finishes 29 = .ok (.iload_n 1, 1) := by decide +kernel
theorem dX7_finishes_30 : decode cX7_finishes 30 = .ok (.invokevirtual 95, 3) := by decide +kernel
theorem dX7_finishes_33 : decode cX7_finishes 33 = .ok (.ifCond .eq 7, 3) := by decide +kernel
theorem dX7_finishes_36 : decode cX7_finishes 36 = .ok (.iconst 2, 1) := by decide +kernel
theorem dX7_finishes_37 : decode cX7_finishes 37 = .ok (.goto 4, 3) := by decide +kernel
theorem dX7_finishes_40 : decode cX7_finishes 40 = .ok (.iconst 3, 1) := by decide +kernel
theorem dX7_finishes_41 : decode cX7_finishes 41 = .ok (.invokevirtual 127, 3) := by decide +kernel
theorem dX7_finishes_44 : decode cX7_finishes 44 = .ok (.aload_n 0, 1) := by decide +kernel
theorem dX7_finishes_45 : decode cX7_finishes 45 = .ok (.iload_n 1, 1) := by decide +kernel
theorem dX7_finishes_46 : decode cX7_finishes 46 = .ok (.bipush 6, 2) := by decide +kernel
theorem dX7_finishes_48 : decode cX7_finishes 48 = .ok (.aload_n 0, 1) := by decide +kernel
theorem dX7_finishes_49 : decode cX7_finishes 49 = .ok (.getfield 9, 3) := by decide +kernel
theorem dX7_finishes_52 : decode cX7_finishes 52 = .ok (.iconst 0, 1) := by decide +kernel
theorem dX7_finishes_53 : decode cX7_finishes 53 = .ok (.iaload, 1) := by decide +kernel
theorem dX7_finishes_54 : decode cX7_finishes 54 = .ok (.invokevirtual 127, 3) := by decide +kernel
theorem dX7_finishes_57 : decode cX7_finishes 57 = .ok (.aload_n 0, 1) := by decide +kernel
theorem dX7_finishes_58 : decode cX7_finishes 58 = .ok (.invokevirtual 145, 3) := by decide +kernel
theorem dX7_finishes_61 : decode cX7_finishes 61 = .ok (.ireturn, 1) := by decide +kernel
theorem dX7_waits_0 : decode cX7_waits 0 = .ok (.aload_n 0, 1) := by decide +kernel
theorem dX7_waits_1 : decode cX7_waits 1 = .ok (.getfield 9, 3) := by decide +kernel
theorem dX7_waits_4 : decode cX7_waits 4 = .ok (.iconst 0, 1) := by decide +kernel
theorem dX7_waits_5 : decode cX7_waits 5 = .ok (.dup2, 1) := by decide +kernel
theorem dX7_waits_6 : decode cX7_waits 6 = .ok (.iaload, 1) := by decide +kernel
theorem dX7_waits_7 : decode cX7_waits 7 = .ok (.iload_n 1, 1) := by decide +kernel
theorem dX7_waits_8 : decode cX7_waits 8 = .ok (.iadd, 1) := by decide +kernel
theorem dX7_waits_9 : decode cX7_waits 9 = .ok (.iastore, 1) := by decide +kernel
theorem dX7_waits_10 : decode cX7_waits 10 = .ok (.aload_n 0, 1) := by decide +kernel
theorem dX7_waits_11 : decode cX7_waits 11 = .ok (.getfield 9, 3) := by decide +kernel
theorem dX7_waits_14 : decode cX7_waits 14 = .ok (.iconst 0, 1) := by decide +kernel
theorem dX7_waits_15 : decode cX7_waits 15 = .ok (.iaload, 1) := by decide +kernel
theorem dX7_waits_16 : decode cX7_waits 16 = .ok (.ireturn, 1) := by decide +kernel
theorem dX7_setsMood_0 : decode cX7_setsMood 0 = .ok (.aload_n 0, 1) := by decide +kernel
theorem dX7_setsMood_1 : decode cX7_setsMood 1 = .ok (.iload_n 1, 1) := by decide +kernel
theorem dX7_setsMood_2 : decode cX7_setsMood 2 = .ok (.iconst 2, 1) := by decide +kernel
theorem dX7_setsMood_3 : decode cX7_setsMood 3 = .ok (.invokevirtual 92, 3) := by decide +kernel
theorem dX7_setsMood_6 : decode cX7_setsMood 6 = .ok (.istore_n 3, 1) := by decide +kernel
theorem dX7_setsMood_7 : decode cX7_setsMood 7 = .ok (.aload_n 0, 1) := by decide +kernel
theorem dX7_setsMood_8 : decode cX7_setsMood 8 = .ok (.iload_n 1, 1) := by decide +kernel
theorem dX7_setsMood_9 : decode cX7_setsMood 9 = .ok (.iconst 2, 1) := by decide +kernel
theorem dX7_setsMood_10 : decode cX7_setsMood 10 = .ok (.iload_n 2, 1) := by decide +kernel
theorem dX7_setsMood_11 : decode cX7_setsMood 11 = .ok (.invokevirtual 123, 3) := by decide +kernel
theorem dX7_setsMood_14 : decode cX7_setsMood 14 = .ok (.iload_n 3, 1) := by decide +kernel
theorem dX7_setsMood_15 : decode cX7_setsMood 15 = .ok (.ireturn, 1) := by decide +kernel
theorem dX7_named_0 : decode cX7_named 0 = .ok (.iconst 0, 1) := by decide +kernel
theorem dX7_named_1 : decode cX7_named 1 = .ok (.istore_n 1, 1) := by decide +kernel
theorem dX7_named_2 : decode cX7_named 2 = .ok (.iload_n 1, 1) := by decide +kernel
theorem dX7_named_3 : decode cX7_named 3 = .ok (.aload_n 0, 1) := by decide +kernel
theorem dX7_named_4 : decode cX7_named 4 = .ok (.getfield 9, 3) := by decide +kernel
theorem dX7_named_7 : decode cX7_named 7 = .ok (.iconst 4, 1) := by decide +kernel
theorem dX7_named_8 : decode cX7_named 8 = .ok (.iaload, 1) := by decide +kernel
theorem dX7_named_9 : decode cX7_named 9 = .ok (.if_icmp .ge 93, 3) := by decide +kernel
theorem dX7_named_12 : decode cX7_named 12 = .ok (.bipush 10, 2) := by decide +kernel
theorem dX7_named_14 : decode cX7_named 14 = .ok (.bipush 12, 2) := by decide +kernel
theorem dX7_named_16 : decode cX7_named 16 = .ok (.iload_n 1, 1) := by decide +kernel
theorem dX7_named_17 : decode cX7_named 17 = .ok (.imul, 1) := by decide +kernel
theorem dX7_named_18 : decode cX7_named 18 = .ok (.iadd, 1) := by decide +kernel
theorem dX7_named_19 : decode cX7_named 19 = .ok (.iconst 5, 1) := by decide +kernel
theorem dX7_named_20 : decode cX7_named 20 = .ok (.iadd, 1) := by decide +kernel
theorem dX7_named_21 : decode cX7_named 21 = .ok (.istore_n 2, 1) := by decide +kernel
theorem dX7_named_22 : decode cX7_named 22 = .ok (.aload_n 0, 1) := by decide +kernel
theorem dX7_named_23 : decode cX7_named 23 = .ok (.getfield 9, 3) := by decide +kernel
theorem dX7_named_26 : decode cX7_named 26 = .ok (.iload_n 2, 1) := by decide +kernel
theorem dX7_named_27 : decode cX7_named 27 = .ok (.iaload, 1) := by decide +kernel
theorem dX7_named_28 : decode cX7_named 28 = .ok (.aload_n 0, 1) := by decide +kernel
theorem dX7_named_29 : decode cX7_named 29 = .ok (.getfield 148, 3) := by decide +kernel
theorem dX7_named_32 : decode cX7_named 32 = .ok (.if_icmp .ne 7, 3) := by decide +kernel
theorem dX7_named_35 : decode cX7_named 35 = .ok (.iconst 1, 1) := by decide +kernel
theorem dX7_named_36 : decode cX7_named 36 = .ok (.goto 4, 3) := by decide +kernel
theorem dX7_named_39 : decode cX7_named 39 = .ok (.iconst 0, 1) := by decide +kernel
theorem dX7_named_40 : decode cX7_named 40 = .ok (.istore_n 3, 1) := by decide +kernel
theorem dX7_named_41 : decode cX7_named 41 = .ok (.iconst 0, 1) := by decide +kernel
theorem dX7_named_42 : decode cX7_named 42 = .ok (.istore 4, 2) := by decide +kernel
theorem dX7_named_44 : decode cX7_named 44 = .ok (.iload_n 3, 1) := by decide +kernel
theorem dX7_named_45 : decode cX7_named 45 = .ok (.ifCond .eq 45, 3) := by decide +kernel
theorem dX7_named_48 : decode cX7_named 48 = .ok (.iload 4, 2) := by decide +kernel
theorem dX7_named_50 : decode cX7_named 50 = .ok (.aload_n 0, 1) := by decide +kernel
theorem dX7_named_51 : decode cX7_named 51 = .ok (.getfield 148, 3) := by decide +kernel
theorem dX7_named_54 : decode cX7_named 54 = .ok (.if_icmp .ge 36, 3) := by decide +kernel
theorem dX7_named_57 : decode cX7_named 57 = .ok (.aload_n 0, 1) := by decide +kernel
theorem dX7_named_58 : decode cX7_named 58 = .ok (.getfield 9, 3) := by decide +kernel
theorem dX7_named_61 : decode cX7_named 61 = .ok (.iload_n 2, 1) := by decide +kernel
theorem dX7_named_62 : decode cX7_named 62 = .ok (.iconst 1, 1) := by decide +kernel
theorem dX7_named_63 : decode cX7_named 63 = .ok (.iadd, 1) := by decide +kernel
theorem dX7_named_64 : decode cX7_named 64 = .ok (.iload 4, 2) := by decide +kernel
theorem dX7_named_66 : decode cX7_named 66 = .ok (.iadd, 1) := by decide +kernel
theorem dX7_named_67 : decode cX7_named 67 = .ok (.iaload, 1) := by decide +kernel
theorem dX7_named_68 : decode cX7_named 68 = .ok (.aload_n 0, 1) := by decide +kernel
theorem dX7_named_69 : decode cX7_named 69 = .ok (.getfield 39, 3) := by decide +kernel
theorem dX7_named_72 : decode cX7_named 72 = .ok (.iload 4, 2) := by decide +kernel
theorem dX7_named_74 : decode cX7_named 74 = .ok (.iaload, 1) := by decide +kernel
theorem dX7_named_75 : decode cX7_named 75 = .ok (.if_icmp .ne 7, 3) := by decide +kernel
theorem dX7_named_78 : decode cX7_named 78 = .ok (.iconst 1, 1) := by decide +kernel
theorem dX7_named_79 : decode cX7_named 79 = .ok (.goto 4, 3) := by decide +kernel
theorem dX7_named_82 : decode cX7_named 82 = .ok (.iconst 0, 1) := by decide +kernel
theorem dX7_named_83 : decode cX7_named 83 = .ok (.istore_n 3, 1) := by decide +kernel
theorem dX7_named_84 : decode cX7_named 84 = .ok (.iinc 4 1, 3) := by decide +kernel
theorem dX7_named_87 : decode cX7_named 87 = .ok (.goto (-43), 3) := by decide +kernel
theorem dX7_named_90 : decode cX7_named 90 = .ok (.iload_n 3, 1) := by decide +kernel
theorem dX7_named_91 : decode cX7_named 91 = .ok (.ifCond .eq 5, 3) := by decide +kernel
theorem dX7_named_94 : decode cX7_named 94 = .ok (.iload_n 1, 1) := by decide +kernel
theorem dX7_named_95 : decode cX7_named 95 = .ok (.ireturn, 1) := by decide +kernel
theorem dX7_named_96 : decode cX7_named 96 = .ok (.iinc 1 1, 3) := by decide +kernel
theorem dX7_named_99 : decode cX7_named 99 = .ok (.goto (-97), 3) := by decide +kernel
theorem dX7_named_102 : decode cX7_named 102 = .ok (.iconst (-1), 1) := by decide +kernel
theorem dX7_named_103 : decode cX7_named 103 = .ok (.ireturn, 1) := by decide +kernel
theorem dX7_append_0 : decode cX7_append 0 = .ok (.aload_n 0, 1) := by decide +kernel
theorem dX7_append_1 : decode cX7_append 1 = .ok (.iconst 0, 1) := by decide +kernel
theorem dX7_append_2 : decode cX7_append 2 = .ok (.putfield 67, 3) := by decide +kernel
theorem dX7_append_5 : decode cX7_append 5 = .ok (.aload_n 0, 1) := by decide +kernel
theorem dX7_append_6 : decode cX7_append 6 = .ok (.getfield 54, 3) := by decide +kernel
theorem dX7_append_9 : decode cX7_append 9 = .ok (.bipush 20, 2) := by decide +kernel
theorem dX7_append_11 : decode cX7_append 11 = .ok (.iadd, 1) := by decide +kernel
theorem dX7_append_12 : decode cX7_append 12 = .ok (.sipush 700, 3) := by decide +kernel
theorem dX7_append_15 : decode cX7_append 15 = .ok (.if_icmp .le 5, 3) := by decide +kernel
theorem dX7_append_18 : decode cX7_append 18 = .ok (.iconst (-1), 1) := by decide +kernel
theorem dX7_append_19 : decode cX7_append 19 = .ok (.ireturn, 1) := by decide +kernel
theorem dX7_append_20 : decode cX7_append 20 = .ok (.aload_n 0, 1) := by decide +kernel
theorem dX7_append_21 : decode cX7_append 21 = .ok (.iload_n 1, 1) := by decide +kernel
theorem dX7_append_22 : decode cX7_append 22 = .ok (.invokevirtual 151, 3) := by decide +kernel
theorem dX7_append_25 : decode cX7_append 25 = .ok (.aload_n 0, 1) := by decide +kernel
theorem dX7_append_26 : decode cX7_append 26 = .ok (.iload_n 2, 1) := by decide +kernel
theorem dX7_append_27 : decode cX7_append 27 = .ok (.invokevirtual 151, 3) := by decide +kernel
theorem dX7_append_30 : decode cX7_append 30 = .ok (.aload_n 0, 1) := by decide +kernel
theorem dX7_append_31 : decode cX7_append 31 = .ok (.iload_n 3, 1) := by decide +kernel
theorem dX7_append_32 : decode cX7_append 32 = .ok (.invokevirtual 151, 3) := by decide +kernel
theorem dX7_append_35 : decode cX7_append 35 = .ok (.aload_n 0, 1) := by decide +kernel
theorem dX7_append_36 : decode cX7_append 36 = .ok (.iload 4, 2) := by decide +kernel
theorem dX7_append_38 : decode cX7_append 38 = .ok (.invokevirtual 151, 3) := by decide +kernel
theorem dX7_append_41 : decode cX7_append 41 = .ok (.aload_n 0, 1) := by decide +kernel
theorem dX7_append_42 : decode cX7_append 42 = .ok (.iload 5, 2) := by decide +kernel
theorem dX7_append_44 : decode cX7_append 44 = .ok (.invokevirtual 151, 3) := by decide +kernel
theorem dX7_append_47 : decode cX7_append 47 = .ok (.aload_n 0, 1) := by decide +kernel
theorem dX7_append_48 : decode cX7_append 48 = .ok (.getfield 54, 3) := by decide +kernel
theorem dX7_append_51 : decode cX7_append 51 = .ok (.ireturn, 1) := by decide +kernel
theorem dX7_four_0 : decode cX7_four 0 = .ok (.bipush 24, 2) := by decide +kernel
theorem dX7_four_2 : decode cX7_four 2 = .ok (.istore_n 2, 1) := by decide +kernel
theorem dX7_four_3 : decode cX7_four 3 = .ok (.iload_n 2, 1) := by decide +kernel
theorem dX7_four_4 : decode cX7_four 4 = .ok (.ifCond .lt 35, 3) := by decide +kernel
theorem dX7_four_7 : decode cX7_four 7 = .ok (.aload_n 0, 1) := by decide +kernel
theorem dX7_four_8 : decode cX7_four 8 = .ok (.getfield 29, 3) := by decide +kernel
theorem dX7_four_11 : decode cX7_four 11 = .ok (.aload_n 0, 1) := by decide +kernel
theorem dX7_four_12 : decode cX7_four 12 = .ok (.getfield 54, 3) := by decide +kernel
theorem dX7_four_15 : decode cX7_four 15 = .ok (.iload_n 1, 1) := by decide +kernel
theorem dX7_four_16 : decode cX7_four 16 = .ok (.iload_n 2, 1) := by decide +kernel
theorem dX7_four_17 : decode cX7_four 17 = .ok (.ishr, 1) := by decide +kernel
theorem dX7_four_18 : decode cX7_four 18 = .ok (.sipush 255, 3) := by decide +kernel
theorem dX7_four_21 : decode cX7_four 21 = .ok (.iand, 1) := by decide +kernel
theorem dX7_four_22 : decode cX7_four 22 = .ok (.iastore, 1) := by decide +kernel
theorem dX7_four_23 : decode cX7_four 23 = .ok (.aload_n 0, 1) := by decide +kernel
theorem dX7_four_24 : decode cX7_four 24 = .ok (.dup, 1) := by decide +kernel
theorem dX7_four_25 : decode cX7_four 25 = .ok (.getfield 54, 3) := by decide +kernel
theorem dX7_four_28 : decode cX7_four 28 = .ok (.iconst 1, 1) := by decide +kernel
theorem dX7_four_29 : decode cX7_four 29 = .ok (.iadd, 1) := by decide +kernel
theorem dX7_four_30 : decode cX7_four 30 = .ok (.putfield 54, 3) := by decide +kernel
theorem dX7_four_33 : decode cX7_four 33 = .ok (.iinc 2 (-8), 3) := by decide +kernel
theorem dX7_four_36 : decode cX7_four 36 = .ok (.goto (-33), 3) := by decide +kernel
theorem dX7_four_39 : decode cX7_four 39 = .ok (.return_, 1) := by decide +kernel
theorem dX7_truncateInput_0 : decode cX7_truncateInput 0 = .ok (.aload_n 0, 1) := by decide +kernel
theorem dX7_truncateInput_1 : decode cX7_truncateInput 1 = .ok (.iload_n 1, 1) := by decide +kernel
theorem dX7_truncateInput_2 : decode cX7_truncateInput 2 = .ok (.iconst 0, 1) := by decide +kernel
theorem dX7_truncateInput_3 : decode cX7_truncateInput 3 = .ok (.aload_n 0, 1) := by decide +kernel
theorem dX7_truncateInput_4 : decode cX7_truncateInput 4 = .ok (.getfield 54, 3) := by decide +kernel
theorem dX7_truncateInput_7 : decode cX7_truncateInput 7 = .ok (.invokestatic 80, 3) := by decide +kernel
theorem dX7_truncateInput_10 : decode cX7_truncateInput 10 = .ok (.ifCond .ne 7, 3) := by decide +kernel
theorem dX7_truncateInput_13 : decode cX7_truncateInput 13 = .ok (.iconst 1, 1) := by decide +kernel
theorem dX7_truncateInput_14 : decode cX7_truncateInput 14 = .ok (.goto 4, 3) := by decide +kernel
theorem dX7_truncateInput_17 : decode cX7_truncateInput 17 = .ok (.iconst 0, 1) := by decide +kernel
theorem dX7_truncateInput_18 : decode cX7_truncateInput 18 = .ok (.iconst 0, 1) := by decide +kernel
theorem dX7_truncateInput_19 : decode cX7_truncateInput 19 = .ok (.iconst 0, 1) := by decide +kernel
theorem dX7_truncateInput_20 : decode cX7_truncateInput 20 = .ok (.invokevirtual 154, 3) := by decide +kernel
theorem dX7_truncateInput_23 : decode cX7_truncateInput 23 = .ok (.ifCond .eq 5, 3) := by decide +kernel
theorem dX7_truncateInput_26 : decode cX7_truncateInput 26 = .ok (.iconst 0, 1) := by decide +kernel
theorem dX7_truncateInput_27 : decode cX7_truncateInput 27 = .ok (.ireturn, 1) := by decide +kernel
theorem dX7_truncateInput_28 : decode cX7_truncateInput 28 = .ok (.aload_n 0, 1) := by decide +kernel
theorem dX7_truncateInput_29 : decode cX7_truncateInput 29 = .ok (.iload_n 1, 1) := by decide +kernel
theorem dX7_truncateInput_30 : decode cX7_truncateInput 30 = .ok (.putfield 54, 3) := by decide +kernel
theorem dX7_truncateInput_33 : decode cX7_truncateInput 33 = .ok (.iload_n 1, 1) := by decide +kernel
theorem dX7_truncateInput_34 : decode cX7_truncateInput 34 = .ok (.ireturn, 1) := by decide +kernel
theorem dX7_isLetter_0 : decode cX7_isLetter 0 = .ok (.iload_n 1, 1) := by decide +kernel
theorem dX7_isLetter_1 : decode cX7_isLetter 1 = .ok (.aload_n 0, 1) := by decide +kernel
theorem dX7_isLetter_2 : decode cX7_isLetter 2 = .ok (.getfield 54, 3) := by decide +kernel
theorem dX7_isLetter_5 : decode cX7_isLetter 5 = .ok (.if_icmp .ge 23, 3) := by decide +kernel
theorem dX7_isLetter_8 : decode cX7_isLetter 8 = .ok (.aload_n 0, 1) := by decide +kernel
theorem dX7_isLetter_9 : decode cX7_isLetter 9 = .ok (.getfield 29, 3) := by decide +kernel
theorem dX7_isLetter_12 : decode cX7_isLetter 12 = .ok (.iload_n 1, 1) := by decide +kernel
theorem dX7_isLetter_13 : decode cX7_isLetter 13 = .ok (.iaload, 1) := by decide +kernel
theorem dX7_isLetter_14 : decode cX7_isLetter 14 = .ok (.bipush 97, 2) := by decide +kernel
theorem dX7_isLetter_16 : decode cX7_isLetter 16 = .ok (.bipush 122, 2) := by decide +kernel
theorem dX7_isLetter_18 : decode cX7_isLetter 18 = .ok (.invokestatic 80, 3) := by decide +kernel
theorem dX7_isLetter_21 : decode cX7_isLetter 21 = .ok (.ifCond .eq 7, 3) := by decide +kernel
theorem dX7_isLetter_24 : decode cX7_isLetter 24 = .ok (.iconst 1, 1) := by decide +kernel
theorem dX7_isLetter_25 : decode cX7_isLetter 25 = .ok (.goto 4, 3) := by decide +kernel
theorem dX7_isLetter_28 : decode cX7_isLetter 28 = .ok (.iconst 0, 1) := by decide +kernel
theorem dX7_isLetter_29 : decode cX7_isLetter 29 = .ok (.ireturn, 1) := by decide +kernel
theorem dX7_isDigit_0 : decode cX7_isDigit 0 = .ok (.iload_n 1, 1) := by decide +kernel
theorem dX7_isDigit_1 : decode cX7_isDigit 1 = .ok (.aload_n 0, 1) := by decide +kernel
theorem dX7_isDigit_2 : decode cX7_isDigit 2 = .ok (.getfield 54, 3) := by decide +kernel
theorem dX7_isDigit_5 : decode cX7_isDigit 5 = .ok (.if_icmp .ge 23, 3) := by decide +kernel
theorem dX7_isDigit_8 : decode cX7_isDigit 8 = .ok (.aload_n 0, 1) := by decide +kernel
theorem dX7_isDigit_9 : decode cX7_isDigit 9 = .ok (.getfield 29, 3) := by decide +kernel
theorem dX7_isDigit_12 : decode cX7_isDigit 12 = .ok (.iload_n 1, 1) := by decide +kernel
theorem dX7_isDigit_13 : decode cX7_isDigit 13 = .ok (.iaload, 1) := by decide +kernel
theorem dX7_isDigit_14 : decode cX7_isDigit 14 = .ok (.bipush 48, 2) := by decide +kernel
theorem dX7_isDigit_16 : decode cX7_isDigit 16 = .ok (.bipush 57, 2) := by decide +kernel
theorem dX7_isDigit_18 : decode cX7_isDigit 18 = .ok (.invokestatic 80, 3) := by decide +kernel
theorem dX7_isDigit_21 : decode cX7_isDigit 21 = .ok (.ifCond .eq 7, 3) := by decide +kernel
theorem dX7_isDigit_24 : decode cX7_isDigit 24 = .ok (.iconst 1, 1) := by decide +kernel
theorem dX7_isDigit_25 : decode cX7_isDigit 25 = .ok (.goto 4, 3) := by decide +kernel
theorem dX7_isDigit_28 : decode cX7_isDigit 28 = .ok (.iconst 0, 1) := by decide +kernel
theorem dX7_isDigit_29 : decode cX7_isDigit 29 = .ok (.ireturn, 1) := by decide +kernel
theorem dX7_next_0 : decode cX7_next 0 = .ok (.aload_n 0, 1) := by decide +kernel
theorem dX7_next_1 : decode cX7_next 1 = .ok (.getfield 158, 3) := by decide +kernel
theorem dX7_next_4 : decode cX7_next 4 = .ok (.aload_n 0, 1) := by decide +kernel
theorem dX7_next_5 : decode cX7_next 5 = .ok (.getfield 54, 3) := by decide +kernel
theorem dX7_next_8 : decode cX7_next 8 = .ok (.if_icmp .ge 30, 3) := by decide +kernel
theorem dX7_next_11 : decode cX7_next 11 = .ok (.aload_n 0, 1) := by decide +kernel
theorem dX7_next_12 : decode cX7_next 12 = .ok (.getfield 29, 3) := by decide +kernel
theorem dX7_next_15 : decode cX7_next 15 = .ok (.aload_n 0, 1) := by decide +kernel
theorem dX7_next_16 : decode cX7_next 16 = .ok (.getfield 158, 3) := by decide +kernel
theorem dX7_next_19 : decode cX7_next 19 = .ok (.iaload, 1) := by decide +kernel
theorem dX7_next_20 : decode cX7_next 20 = .ok (.bipush 32, 2) := by decide +kernel
theorem dX7_next_22 : decode cX7_next 22 = .ok (.if_icmp .ne 16, 3) := by decide +kernel
theorem dX7_next_25 : decode cX7_next 25 = .ok (.aload_n 0, 1) := by decide +kernel
theorem dX7_next_26 : decode cX7_next 26 = .ok (.dup, 1) := by decide +kernel
theorem dX7_next_27 : decode cX7_next 27 = .ok (.getfield 158, 3) := by decide +kernel
theorem dX7_next_30 : decode cX7_next 30 = .ok (.iconst 1, 1) := by decide +kernel
theorem dX7_next_31 : decode cX7_next 31 = .ok (.iadd, 1) := by decide +kernel
theorem dX7_next_32 : decode cX7_next 32 = .ok (.putfield 158, 3) := by decide +kernel
theorem dX7_next_35 : decode cX7_next 35 = .ok (.goto (-35), 3) := by decide +kernel
theorem dX7_next_38 : decode cX7_next 38 = .ok (.aload_n 0, 1) := by decide +kernel
theorem dX7_next_39 : decode cX7_next 39 = .ok (.aload_n 0, 1) := by decide +kernel
theorem dX7_next_40 : decode cX7_next 40 = .ok (.getfield 158, 3) := by decide +kernel
theorem dX7_next_43 : decode cX7_next 43 = .ok (.putfield 161, 3) := by decide +kernel
theorem dX7_next_46 : decode cX7_next 46 = .ok (.aload_n 0, 1) := by decide +kernel
theorem dX7_next_47 : decode cX7_next 47 = .ok (.getfield 158, 3) := by decide +kernel
theorem dX7_next_50 : decode cX7_next 50 = .ok (.aload_n 0, 1) := by decide +kernel
theorem dX7_next_51 : decode cX7_next 51 = .ok (.getfield 54, 3) := by decide +kernel
theorem dX7_next_54 : decode cX7_next 54 = .ok (.if_icmp .ne 11, 3) := by decide +kernel
theorem dX7_next_57 : decode cX7_next 57 = .ok (.aload_n 0, 1) := by decide +kernel
theorem dX7_next_58 : decode cX7_next 58 = .ok (.iconst 0, 1) := by decide +kernel
theorem dX7_next_59 : decode cX7_next 59 = .ok (.putfield 164, 3) := by decide +kernel
theorem dX7_next_62 : decode cX7_next 62 = .ok (.goto 150, 3) := by decide +kernel
theorem dX7_next_65 : decode cX7_next 65 = .ok (.aload_n 0, 1) := by decide +kernel
theorem dX7_next_66 : decode cX7_next 66 = .ok (.aload_n 0, 1) := by decide +kernel
theorem dX7_next_67 : decode cX7_next 67 = .ok (.getfield 158, 3) := by decide +kernel
theorem dX7_next_70 : decode cX7_next 70 = .ok (.invokevirtual 167, 3) := by decide +kernel
theorem dX7_next_73 : decode cX7_next 73 = .ok (.ifCond .eq 32, 3) := by decide +kernel
theorem dX7_next_76 : decode cX7_next 76 = .ok (.aload_n 0, 1) := by decide +kernel
theorem dX7_next_77 : decode cX7_next 77 = .ok (.iconst 1, 1) := by decide +kernel
theorem dX7_next_78 : decode cX7_next 78 = .ok (.putfield 164, 3) := by decide +kernel
theorem dX7_next_81 : decode cX7_next 81 = .ok (.aload_n 0, 1) := by decide +kernel
theorem dX7_next_82 : decode cX7_next 82 = .ok (.aload_n 0, 1) := by decide +kernel
theorem dX7_next_83 : decode cX7_next 83 = .ok (.getfield 158, 3) := by decide +kernel
theorem dX7_next_86 : decode cX7_next 86 = .ok (.invokevirtual 167, 3) := by decide +kernel
theorem dX7_next_89 : decode cX7_next 89 = .ok (.ifCond .eq 123, 3) := by decide +kernel
theorem dX7_next_92 : decode cX7_next 92 = .ok (.aload_n 0, 1) := by decide +kernel
theorem dX7_next_93 : decode cX7_next 93 = .ok (.dup, 1) := by decide +kernel
theorem dX7_next_94 : decode cX7_next 94 = .ok (.getfield 158, 3) := by decide +kernel
theorem dX7_next_97 : decode cX7_next 97 = .ok (.iconst 1, 1) := by decide +kernel
theorem dX7_next_98 : decode cX7_next 98 = .ok (.iadd, 1) := by decide +kernel
theorem dX7_next_99 : decode cX7_next 99 = .ok (.putfield 158, 3) := by decide +kernel
theorem dX7_next_102 : decode cX7_next 102 = .ok (.goto (-21), 3) := by decide +kernel
theorem dX7_next_105 : decode cX7_next 105 = .ok (.aload_n 0, 1) := by decide +kernel
theorem dX7_next_106 : decode cX7_next 106 = .ok (.aload_n 0, 1) := by decide +kernel
theorem dX7_next_107 : decode cX7_next 107 = .ok (.getfield 158, 3) := by decide +kernel
theorem dX7_next_110 : decode cX7_next 110 = .ok (.invokevirtual 170, 3) := by decide +kernel
theorem dX7_next_113 : decode cX7_next 113 = .ok (.ifCond .eq 66, 3) := by decide +kernel
theorem dX7_next_116 : decode cX7_next 116 = .ok (.aload_n 0, 1) := by decide +kernel
theorem dX7_next_117 : decode cX7_next 117 = .ok (.iconst 2, 1) := by decide +kernel
theorem dX7_next_118 : decode cX7_next 118 = .ok (.putfield 164, 3) := by decide +kernel
theorem dX7_next_121 : decode cX7_next 121 = .ok (.aload_n 0, 1) := by decide +kernel
theorem dX7_next_122 : decode cX7_next 122 = .ok (.iconst 0, 1) := by decide +kernel
theorem dX7_next_123 : decode cX7_next 123 = .ok (.putfield 173, 3) := by decide +kernel
theorem dX7_next_126 : decode cX7_next 126 = .ok (.aload_n 0, 1) := by decide +kernel
theorem dX7_next_127 : decode cX7_next 127 = .ok (.aload_n 0, 1) := by decide +kernel
theorem dX7_next_128 : decode cX7_next 128 = .ok (.getfield 158, 3) := by decide +kernel
theorem dX7_next_131 : decode cX7_next 131 = .ok (.invokevirtual 170, 3) := by decide +kernel
theorem dX7_next_134 : decode cX7_next 134 = .ok (.ifCond .eq 78, 3) := by decide +kernel
theorem dX7_next_137 : decode cX7_next 137 = .ok (.aload_n 0, 1) := by decide +kernel
theorem dX7_next_138 : decode cX7_next 138 = .ok (.ldc 176, 2) := by decide +kernel
theorem dX7_next_140 : decode cX7_next 140 = .ok (.aload_n 0, 1) := by decide +kernel
theorem dX7_next_141 : decode cX7_next 141 = .ok (.getfield 173, 3) := by decide +kernel
theorem dX7_next_144 : decode cX7_next 144 = .ok (.bipush 10, 2) := by decide +kernel
theorem dX7_next_146 : decode cX7_next 146 = .ok (.imul, 1) := by decide +kernel
theorem dX7_next_147 : decode cX7_next 147 = .ok (.aload_n 0, 1) := by decide +kernel
theorem dX7_next_148 : decode cX7_next 148 = .ok (.getfield 29, 3) := by decide +kernel
theorem dX7_next_151 : decode cX7_next 151 = .ok (.aload_n 0, 1) := by decide +kernel
theorem dX7_next_152 : decode cX7_next 152 = .ok (.getfield 158, 3) := by decide +kernel
theorem dX7_next_155 : decode cX7_next 155 = .ok (.iaload, 1) := by decide +kernel
theorem dX7_next_156 : decode cX7_next 156 = .ok (.iadd, 1) := by decide +kernel
theorem dX7_next_157 : decode cX7_next 157 = .ok (.bipush 48, 2) := by decide +kernel
theorem dX7_next_159 : decode cX7_next 159 = .ok (.isub, 1) := by decide +kernel
theorem dX7_next_160 : decode cX7_next 160 = .ok (.invokestatic 177, 3) := by decide +kernel
theorem dX7_next_163 : decode cX7_next 163 = .ok (.putfield 173, 3) := by decide +kernel
theorem dX7_next_166 : decode cX7_next 166 = .ok (.aload_n 0, 1) := by decide +kernel
theorem dX7_next_167 : decode cX7_next 167 = .ok (.dup, 1) := by decide +kernel
theorem dX7_next_168 : decode cX7_next 168 = .ok (.getfield 158, 3) := by decide +kernel
theorem dX7_next_171 : decode cX7_next 171 = .ok (.iconst 1, 1) := by decide +kernel
theorem dX7_next_172 : decode cX7_next 172 = .ok (.iadd, 1) := by decide +kernel
theorem dX7_next_173 : decode cX7_next 173 = .ok (.putfield 158, 3) := by decide +kernel
theorem dX7_next_176 : decode cX7_next 176 = .ok (.goto (-50), 3) := by decide +kernel
theorem dX7_next_179 : decode cX7_next 179 = .ok (.aload_n 0, 1) := by decide +kernel
theorem dX7_next_180 : decode cX7_next 180 = .ok (.aload_n 0, 1) := by decide +kernel
theorem dX7_next_181 : decode cX7_next 181 = .ok (.getfield 29, 3) := by decide +kernel
theorem dX7_next_184 : decode cX7_next 184 = .ok (.aload_n 0, 1) := by decide +kernel
theorem dX7_next_185 : decode cX7_next 185 = .ok (.getfield 158, 3) := by decide +kernel
theorem dX7_next_188 : decode cX7_next 188 = .ok (.iaload, 1) := by decide +kernel
theorem dX7_next_189 : decode cX7_next 189 = .ok (.bipush 59, 2) := by decide +kernel
theorem dX7_next_191 : decode cX7_next 191 = .ok (.if_icmp .ne 7, 3) := by decide +kernel
theorem dX7_next_194 : decode cX7_next 194 = .ok (.iconst 3, 1) := by decide +kernel
theorem dX7_next_195 : decode cX7_next 195 = .ok (.goto 4, 3) := by decide +kernel
theorem dX7_next_198 : decode cX7_next 198 = .ok (.iconst 4, 1) := by decide +kernel
theorem dX7_next_199 : decode cX7_next 199 = .ok (.putfield 164, 3) := by decide +kernel
theorem dX7_next_202 : decode cX7_next 202 = .ok (.aload_n 0, 1) := by decide +kernel
theorem dX7_next_203 : decode cX7_next 203 = .ok (.dup, 1) := by decide +kernel
theorem dX7_next_204 : decode cX7_next 204 = .ok (.getfield 158, 3) := by decide +kernel
theorem dX7_next_207 : decode cX7_next 207 = .ok (.iconst 1, 1) := by decide +kernel
theorem dX7_next_208 : decode cX7_next 208 = .ok (.iadd, 1) := by decide +kernel
theorem dX7_next_209 : decode cX7_next 209 = .ok (.putfield 158, 3) := by decide +kernel
theorem dX7_next_212 : decode cX7_next 212 = .ok (.return_, 1) := by decide +kernel
theorem dX7_is_0 : decode cX7_is 0 = .ok (.aload_n 0, 1) := by decide +kernel
theorem dX7_is_1 : decode cX7_is 1 = .ok (.getfield 180, 3) := by decide +kernel
theorem dX7_is_4 : decode cX7_is 4 = .ok (.ifCond .ne 27, 3) := by decide +kernel
theorem dX7_is_7 : decode cX7_is 7 = .ok (.aload_n 0, 1) := by decide +kernel
theorem dX7_is_8 : decode cX7_is 8 = .ok (.getfield 164, 3) := by decide +kernel
theorem dX7_is_11 : decode cX7_is 11 = .ok (.iconst 1, 1) := by decide +kernel
theorem dX7_is_12 : decode cX7_is 12 = .ok (.if_icmp .ne 19, 3) := by decide +kernel
theorem dX7_is_15 : decode cX7_is 15 = .ok (.aload_n 0, 1) := by decide +kernel
theorem dX7_is_16 : decode cX7_is 16 = .ok (.getfield 158, 3) := by decide +kernel
theorem dX7_is_19 : decode cX7_is 19 = .ok (.aload_n 0, 1) := by decide +kernel
theorem dX7_is_20 : decode cX7_is 20 = .ok (.getfield 161, 3) := by decide +kernel
theorem dX7_is_23 : decode cX7_is 23 = .ok (.isub, 1) := by decide +kernel
theorem dX7_is_24 : decode cX7_is 24 = .ok (.aload_n 1, 1) := by decide +kernel
theorem dX7_is_25 : decode cX7_is 25 = .ok (.invokevirtual 48, 3) := by decide +kernel
theorem dX7_is_28 : decode cX7_is 28 = .ok (.if_icmp .eq 5, 3) := by decide +kernel
theorem dX7_is_31 : decode cX7_is 31 = .ok (.iconst 0, 1) := by decide +kernel
theorem dX7_is_32 : decode cX7_is 32 = .ok (.ireturn, 1) := by decide +kernel
theorem dX7_is_33 : decode cX7_is 33 = .ok (.iconst 0, 1) := by decide +kernel
theorem dX7_is_34 : decode cX7_is 34 = .ok (.istore_n 2, 1) := by decide +kernel
theorem dX7_is_35 : decode cX7_is 35 = .ok (.iload_n 2, 1) := by decide +kernel
theorem dX7_is_36 : decode cX7_is 36 = .ok (.aload_n 1, 1) := by decide +kernel
theorem dX7_is_37 : decode cX7_is 37 = .ok (.invokevirtual 48, 3) := by decide +kernel
theorem dX7_is_40 : decode cX7_is 40 = .ok (.if_icmp .ge 30, 3) := by decide +kernel
theorem dX7_is_43 : decode cX7_is 43 = .ok (.aload_n 0, 1) := by decide +kernel
theorem dX7_is_44 : decode cX7_is 44 = .ok (.getfield 29, 3) := by decide +kernel
theorem dX7_is_47 : decode cX7_is 47 = .ok (.aload_n 0, 1) := by decide +kernel
theorem dX7_is_48 : decode cX7_is 48 = .ok (.getfield 161, 3) := by decide +kernel
theorem dX7_is_51 : decode cX7_is 51 = .ok (.iload_n 2, 1) := by decide +kernel
theorem dX7_is_52 : decode cX7_is 52 = .ok (.iadd, 1) := by decide +kernel
theorem dX7_is_53 : decode cX7_is 53 = .ok (.iaload, 1) := by decide +kernel
theorem dX7_is_54 : decode cX7_is 54 = .ok (.aload_n 1, 1) := by decide +kernel
theorem dX7_is_55 : decode cX7_is 55 = .ok (.iload_n 2, 1) := by decide +kernel
theorem dX7_is_56 : decode cX7_is 56 = .ok (.invokevirtual 57, 3) := by decide +kernel
theorem dX7_is_59 : decode cX7_is 59 = .ok (.if_icmp .eq 5, 3) := by decide +kernel
theorem dX7_is_62 : decode cX7_is 62 = .ok (.iconst 0, 1) := by decide +kernel
theorem dX7_is_63 : decode cX7_is 63 = .ok (.ireturn, 1) := by decide +kernel
theorem dX7_is_64 : decode cX7_is 64 = .ok (.iinc 2 1, 3) := by decide +kernel
theorem dX7_is_67 : decode cX7_is 67 = .ok (.goto (-32), 3) := by decide +kernel
theorem dX7_is_70 : decode cX7_is 70 = .ok (.iconst 1, 1) := by decide +kernel
theorem dX7_is_71 : decode cX7_is 71 = .ok (.ireturn, 1) := by decide +kernel
theorem dX7_wrong_0 : decode cX7_wrong 0 = .ok (.aload_n 0, 1) := by decide +kernel
theorem dX7_wrong_1 : decode cX7_wrong 1 = .ok (.getfield 180, 3) := by decide +kernel
theorem dX7_wrong_4 : decode cX7_wrong 4 = .ok (.ifCond .ne 7, 3) := by decide +kernel
theorem dX7_wrong_7 : decode cX7_wrong 7 = .ok (.iload_n 1, 1) := by decide +kernel
theorem dX7_wrong_8 : decode cX7_wrong 8 = .ok (.ifCond .ne 4, 3) := by decide +kernel
theorem dX7_wrong_11 : decode cX7_wrong 11 = .ok (.return_, 1) := by decide +kernel
theorem dX7_wrong_12 : decode cX7_wrong 12 = .ok (.aload_n 0, 1) := by decide +kernel
theorem dX7_wrong_13 : decode cX7_wrong 13 = .ok (.iconst 1, 1) := by decide +kernel
theorem dX7_wrong_14 : decode cX7_wrong 14 = .ok (.putfield 180, 3) := by decide +kernel
theorem dX7_wrong_17 : decode cX7_wrong 17 = .ok (.aload_n 0, 1) := by decide +kernel
theorem dX7_wrong_18 : decode cX7_wrong 18 = .ok (.iload_n 2, 1) := by decide +kernel
theorem dX7_wrong_19 : decode cX7_wrong 19 = .ok (.putfield 184, 3) := by decide +kernel
theorem dX7_wrong_22 : decode cX7_wrong 22 = .ok (.aload_n 0, 1) := by decide +kernel
theorem dX7_wrong_23 : decode cX7_wrong 23 = .ok (.aload_n 0, 1) := by decide +kernel
theorem dX7_wrong_24 : decode cX7_wrong 24 = .ok (.getfield 161, 3) := by decide +kernel
theorem dX7_wrong_27 : decode cX7_wrong 27 = .ok (.putfield 35, 3) := by decide +kernel
theorem dX7_wrong_30 : decode cX7_wrong 30 = .ok (.return_, 1) := by decide +kernel
theorem dX7_go_0 : decode cX7_go 0 = .ok (.aload_n 0, 1) := by decide +kernel
theorem dX7_go_1 : decode cX7_go 1 = .ok (.getfield 180, 3) := by decide +kernel
theorem dX7_go_4 : decode cX7_go 4 = .ok (.ifCond .ne 7, 3) := by decide +kernel
theorem dX7_go_7 : decode cX7_go 7 = .ok (.aload_n 0, 1) := by decide +kernel
theorem dX7_go_8 : decode cX7_go 8 = .ok (.invokevirtual 187, 3) := by decide +kernel
theorem dX7_go_11 : decode cX7_go 11 = .ok (.return_, 1) := by decide +kernel
theorem dX7_number_0 : decode cX7_number 0 = .ok (.aload_n 0, 1) := by decide +kernel
theorem dX7_number_1 : decode cX7_number 1 = .ok (.aload_n 0, 1) := by decide +kernel
theorem dX7_number_2 : decode cX7_number 2 = .ok (.getfield 164, 3) := by decide +kernel
theorem dX7_number_5 : decode cX7_number 5 = .ok (.iconst 2, 1) := by decide +kernel
theorem dX7_number_6 : decode cX7_number 6 = .ok (.if_icmp .eq 7, 3) := by decide +kernel
theorem dX7_number_9 : decode cX7_number 9 = .ok (.iconst 1, 1) := by decide +kernel
theorem dX7_number_10 : decode cX7_number 10 = .ok (.goto 4, 3) := by decide +kernel
theorem dX7_number_13 : decode cX7_number 13 = .ok (.iconst 0, 1) := by decide +kernel
theorem dX7_number_14 : decode cX7_number 14 = .ok (.iconst 1, 1) := by decide +kernel
theorem dX7_number_15 : decode cX7_number 15 = .ok (.invokevirtual 190, 3) := by decide +kernel
theorem dX7_number_18 : decode cX7_number 18 = .ok (.aload_n 0, 1) := by decide +kernel
theorem dX7_number_19 : decode cX7_number 19 = .ok (.aload_n 0, 1) := by decide +kernel
theorem dX7_number_20 : decode cX7_number 20 = .ok (.getfield 180, 3) := by decide +kernel
theorem dX7_number_23 : decode cX7_number 23 = .ok (.ifCond .ne 19, 3) := by decide +kernel
theorem dX7_number_26 : decode cX7_number 26 = .ok (.aload_n 0, 1) := by decide +kernel
theorem dX7_number_27 : decode cX7_number 27 = .ok (.getfield 173, 3) := by decide +kernel
theorem dX7_number_30 : decode cX7_number 30 = .ok (.iload_n 1, 1) := by decide +kernel
theorem dX7_number_31 : decode cX7_number 31 = .ok (.iload_n 2, 1) := by decide +kernel
theorem dX7_number_32 : decode cX7_number 32 = .ok (.invokestatic 80, 3) := by decide +kernel
theorem dX7_number_35 : decode cX7_number 35 = .ok (.ifCond .ne 7, 3) := by decide +kernel
theorem dX7_number_38 : decode cX7_number 38 = .ok (.iconst 1, 1) := by decide +kernel
theorem dX7_number_39 : decode cX7_number 39 = .ok (.goto 4, 3) := by decide +kernel
theorem dX7_number_42 : decode cX7_number 42 = .ok (.iconst 0, 1) := by decide +kernel
theorem dX7_number_43 : decode cX7_number 43 = .ok (.iconst 2, 1) := by decide +kernel
theorem dX7_number_44 : decode cX7_number 44 = .ok (.invokevirtual 190, 3) := by decide +kernel
theorem dX7_number_47 : decode cX7_number 47 = .ok (.aload_n 0, 1) := by decide +kernel
theorem dX7_number_48 : decode cX7_number 48 = .ok (.getfield 180, 3) := by decide +kernel
theorem dX7_number_51 : decode cX7_number 51 = .ok (.ifCond .eq 7, 3) := by decide +kernel
theorem dX7_number_54 : decode cX7_number 54 = .ok (.iload_n 1, 1) := by decide +kernel
theorem dX7_number_55 : decode cX7_number 55 = .ok (.goto 7, 3) := by decide +kernel
theorem dX7_number_58 : decode cX7_number 58 = .ok (.aload_n 0, 1) := by decide +kernel
theorem dX7_number_59 : decode cX7_number 59 = .ok (.getfield 173, 3) := by decide +kernel
theorem dX7_number_62 : decode cX7_number 62 = .ok (.istore_n 3, 1) := by decide +kernel
theorem dX7_number_63 : decode cX7_number 63 = .ok (.aload_n 0, 1) := by decide +kernel
theorem dX7_number_64 : decode cX7_number 64 = .ok (.invokevirtual 194, 3) := by decide +kernel
theorem dX7_number_67 : decode cX7_number 67 = .ok (.iload_n 3, 1) := by decide +kernel
theorem dX7_number_68 : decode cX7_number 68 = .ok (.ireturn, 1) := by decide +kernel
theorem dX7_nameHere_0 : decode cX7_nameHere 0 = .ok (.aload_n 0, 1) := by decide +kernel
theorem dX7_nameHere_1 : decode cX7_nameHere 1 = .ok (.aload_n 0, 1) := by decide +kernel
theorem dX7_nameHere_2 : decode cX7_nameHere 2 = .ok (.getfield 164, 3) := by decide +kernel
theorem dX7_nameHere_5 : decode cX7_nameHere 5 = .ok (.iconst 1, 1) := by decide +kernel
theorem dX7_nameHere_6 : decode cX7_nameHere 6 = .ok (.if_icmp .ne 17, 3) := by decide +kernel
theorem dX7_nameHere_9 : decode cX7_nameHere 9 = .ok (.aload_n 0, 1) := by decide +kernel
theorem dX7_nameHere_10 : decode cX7_nameHere 10 = .ok (.getfield 158, 3) := by decide +kernel
theorem dX7_nameHere_13 : decode cX7_nameHere 13 = .ok (.aload_n 0, 1) := by decide +kernel
theorem dX7_nameHere_14 : decode cX7_nameHere 14 = .ok (.getfield 161, 3) := by decide +kernel
theorem dX7_nameHere_17 : decode cX7_nameHere 17 = .ok (.isub, 1) := by decide +kernel
theorem dX7_nameHere_18 : decode cX7_nameHere 18 = .ok (.bipush 6, 2) := by decide +kernel
theorem dX7_nameHere_20 : decode cX7_nameHere 20 = .ok (.if_icmp .le 7, 3) := by decide +kernel
theorem dX7_nameHere_23 : decode cX7_nameHere 23 = .ok (.iconst 1, 1) := by decide +kernel
theorem dX7_nameHere_24 : decode cX7_nameHere 24 = .ok (.goto 4, 3) := by decide +kernel
theorem dX7_nameHere_27 : decode cX7_nameHere 27 = .ok (.iconst 0, 1) := by decide +kernel
theorem dX7_nameHere_28 : decode cX7_nameHere 28 = .ok (.iconst 1, 1) := by decide +kernel
theorem dX7_nameHere_29 : decode cX7_nameHere 29 = .ok (.invokevirtual 190, 3) := by decide +kernel
theorem dX7_nameHere_32 : decode cX7_nameHere 32 = .ok (.aload_n 0, 1) := by decide +kernel
theorem dX7_nameHere_33 : decode cX7_nameHere 33 = .ok (.getfield 180, 3) := by decide +kernel
theorem dX7_nameHere_36 : decode cX7_nameHere 36 = .ok (.ifCond .eq 4, 3) := by decide +kernel
theorem dX7_nameHere_39 : decode cX7_nameHere 39 = .ok (.return_, 1) := by decide +kernel
theorem dX7_nameHere_40 : decode cX7_nameHere 40 = .ok (.aload_n 0, 1) := by decide +kernel
theorem dX7_nameHere_41 : decode cX7_nameHere 41 = .ok (.aload_n 0, 1) := by decide +kernel
theorem dX7_nameHere_42 : decode cX7_nameHere 42 = .ok (.getfield 158, 3) := by decide +kernel
theorem dX7_nameHere_45 : decode cX7_nameHere 45 = .ok (.aload_n 0, 1) := by decide +kernel
theorem dX7_nameHere_46 : decode cX7_nameHere 46 = .ok (.getfield 161, 3) := by decide +kernel
theorem dX7_nameHere_49 : decode cX7_nameHere 49 = .ok (.isub, 1) := by decide +kernel
theorem dX7_nameHere_50 : decode cX7_nameHere 50 = .ok (.putfield 148, 3) := by decide +kernel
theorem dX7_nameHere_53 : decode cX7_nameHere 53 = .ok (.iconst 0, 1) := by decide +kernel
theorem dX7_nameHere_54 : decode cX7_nameHere 54 = .ok (.istore_n 1, 1) := by decide +kernel
theorem dX7_nameHere_55 : decode cX7_nameHere 55 = .ok (.iload_n 1, 1) := by decide +kernel
theorem dX7_nameHere_56 : decode cX7_nameHere 56 = .ok (.aload_n 0, 1) := by decide +kernel
theorem dX7_nameHere_57 : decode cX7_nameHere 57 = .ok (.getfield 148, 3) := by decide +kernel
theorem dX7_nameHere_60 : decode cX7_nameHere 60 = .ok (.if_icmp .ge 26, 3) := by decide +kernel
theorem dX7_nameHere_63 : decode cX7_nameHere 63 = .ok (.aload_n 0, 1) := by decide +kernel
theorem dX7_nameHere_64 : decode cX7_nameHere 64 = .ok (.getfield 39, 3) := by decide +kernel
theorem dX7_nameHere_67 : decode cX7_nameHere 67 = .ok (.iload_n 1, 1) := by decide +kernel
theorem dX7_nameHere_68 : decode cX7_nameHere 68 = .ok (.aload_n 0, 1) := by decide +kernel
theorem dX7_nameHere_69 : decode cX7_nameHere 69 = .ok (.getfield 29, 3) := by decide +kernel
theorem dX7_nameHere_72 : decode cX7_nameHere 72 = .ok (.aload_n 0, 1) := by decide +kernel
theorem dX7_nameHere_73 : decode cX7_nameHere 73 = .ok (.getfield 161, 3) := by decide +kernel
theorem dX7_nameHere_76 : decode cX7_nameHere 76 = .ok (.iload_n 1, 1) := by decide +kernel
theorem dX7_nameHere_77 : decode cX7_nameHere 77 = .ok (.iadd, 1) := by decide +kernel
theorem dX7_nameHere_78 : decode cX7_nameHere 78 = .ok (.iaload, 1) := by decide +kernel
theorem dX7_nameHere_79 : decode cX7_nameHere 79 = .ok (.iastore, 1) := by decide +kernel
theorem dX7_nameHere_80 : decode cX7_nameHere 80 = .ok (.iinc 1 1, 3) := by decide +kernel
theorem dX7_nameHere_83 : decode cX7_nameHere 83 = .ok (.goto (-28), 3) := by decide +kernel
theorem dX7_nameHere_86 : decode cX7_nameHere 86 = .ok (.return_, 1) := by decide +kernel
theorem dX7_userHere_0 : decode cX7_userHere 0 = .ok (.aload_n 0, 1) := by decide +kernel
theorem dX7_userHere_1 : decode cX7_userHere 1 = .ok (.invokevirtual 197, 3) := by decide +kernel
theorem dX7_userHere_4 : decode cX7_userHere 4 = .ok (.aload_n 0, 1) := by decide +kernel
theorem dX7_userHere_5 : decode cX7_userHere 5 = .ok (.getfield 180, 3) := by decide +kernel
theorem dX7_userHere_8 : decode cX7_userHere 8 = .ok (.ifCond .eq 7, 3) := by decide +kernel
theorem dX7_userHere_11 : decode cX7_userHere 11 = .ok (.iconst 0, 1) := by decide +kernel
theorem dX7_userHere_12 : decode cX7_userHere 12 = .ok (.goto 7, 3) := by decide +kernel
theorem dX7_userHere_15 : decode cX7_userHere 15 = .ok (.aload_n 0, 1) := by decide +kernel
theorem dX7_userHere_16 : decode cX7_userHere 16 = .ok (.invokevirtual 200, 3) := by decide +kernel
theorem dX7_userHere_19 : decode cX7_userHere 19 = .ok (.istore_n 2, 1) := by decide +kernel
theorem dX7_userHere_20 : decode cX7_userHere 20 = .ok (.aload_n 0, 1) := by decide +kernel
theorem dX7_userHere_21 : decode cX7_userHere 21 = .ok (.aload_n 0, 1) := by decide +kernel
theorem dX7_userHere_22 : decode cX7_userHere 22 = .ok (.getfield 180, 3) := by decide +kernel
theorem dX7_userHere_25 : decode cX7_userHere 25 = .ok (.ifCond .ne 17, 3) := by decide +kernel
theorem dX7_userHere_28 : decode cX7_userHere 28 = .ok (.iload_n 2, 1) := by decide +kernel
theorem dX7_userHere_29 : decode cX7_userHere 29 = .ok (.iconst (-1), 1) := by decide +kernel
theorem dX7_userHere_30 : decode cX7_userHere 30 = .ok (.if_icmp .eq 8, 3) := by decide +kernel
theorem dX7_userHere_33 : decode cX7_userHere 33 = .ok (.iload_n 2, 1) := by decide +kernel
theorem dX7_userHere_34 : decode cX7_userHere 34 = .ok (.iload_n 1, 1) := by decide +kernel
theorem dX7_userHere_35 : decode cX7_userHere 35 = .ok (.if_icmp .ne 7, 3) := by decide +kernel
theorem dX7_userHere_38 : decode cX7_userHere 38 = .ok (.iconst 1, 1) := by decide +kernel
theorem dX7_userHere_39 : decode cX7_userHere 39 = .ok (.goto 4, 3) := by decide +kernel
theorem dX7_userHere_42 : decode cX7_userHere 42 = .ok (.iconst 0, 1) := by decide +kernel
theorem dX7_userHere_43 : decode cX7_userHere 43 = .ok (.iconst 3, 1) := by decide +kernel
theorem dX7_userHere_44 : decode cX7_userHere 44 = .ok (.invokevirtual 190, 3) := by decide +kernel
theorem dX7_userHere_47 : decode cX7_userHere 47 = .ok (.aload_n 0, 1) := by decide +kernel
theorem dX7_userHere_48 : decode cX7_userHere 48 = .ok (.invokevirtual 194, 3) := by decide +kernel
theorem dX7_userHere_51 : decode cX7_userHere 51 = .ok (.iload_n 2, 1) := by decide +kernel
theorem dX7_userHere_52 : decode cX7_userHere 52 = .ok (.ireturn, 1) := by decide +kernel
theorem dX7_ringsHere_0 : decode cX7_ringsHere 0 = .ok (.aload_n 0, 1) := by decide +kernel
theorem dX7_ringsHere_1 : decode cX7_ringsHere 1 = .ok (.aload_n 0, 1) := by decide +kernel
theorem dX7_ringsHere_2 : decode cX7_ringsHere 2 = .ok (.getfield 164, 3) := by decide +kernel
theorem dX7_ringsHere_5 : decode cX7_ringsHere 5 = .ok (.iconst 1, 1) := by decide +kernel
theorem dX7_ringsHere_6 : decode cX7_ringsHere 6 = .ok (.if_icmp .ne 16, 3) := by decide +kernel
theorem dX7_ringsHere_9 : decode cX7_ringsHere 9 = .ok (.aload_n 0, 1) := by decide +kernel
theorem dX7_ringsHere_10 : decode cX7_ringsHere 10 = .ok (.getfield 158, 3) := by decide +kernel
theorem dX7_ringsHere_13 : decode cX7_ringsHere 13 = .ok (.aload_n 0, 1) := by decide +kernel
theorem dX7_ringsHere_14 : decode cX7_ringsHere 14 = .ok (.getfield 161, 3) := by decide +kernel
theorem dX7_ringsHere_17 : decode cX7_ringsHere 17 = .ok (.isub, 1) := by decide +kernel
theorem dX7_ringsHere_18 : decode cX7_ringsHere 18 = .ok (.iconst 5, 1) := by decide +kernel
theorem dX7_ringsHere_19 : decode cX7_ringsHere 19 = .ok (.if_icmp .le 7, 3) := by decide +kernel
theorem dX7_ringsHere_22 : decode cX7_ringsHere 22 = .ok (.iconst 1, 1) := by decide +kernel
theorem dX7_ringsHere_23 : decode cX7_ringsHere 23 = .ok (.goto 4, 3) := by decide +kernel
theorem dX7_ringsHere_26 : decode cX7_ringsHere 26 = .ok (.iconst 0, 1) := by decide +kernel
theorem dX7_ringsHere_27 : decode cX7_ringsHere 27 = .ok (.iconst 1, 1) := by decide +kernel
theorem dX7_ringsHere_28 : decode cX7_ringsHere 28 = .ok (.invokevirtual 190, 3) := by decide +kernel
theorem dX7_ringsHere_31 : decode cX7_ringsHere 31 = .ok (.iconst 1, 1) := by decide +kernel
theorem dX7_ringsHere_32 : decode cX7_ringsHere 32 = .ok (.istore_n 1, 1) := by decide +kernel
theorem dX7_ringsHere_33 : decode cX7_ringsHere 33 = .ok (.aload_n 0, 1) := by decide +kernel
theorem dX7_ringsHere_34 : decode cX7_ringsHere 34 = .ok (.getfield 161, 3) := by decide +kernel
theorem dX7_ringsHere_37 : decode cX7_ringsHere 37 = .ok (.istore_n 2, 1) := by decide +kernel
theorem dX7_ringsHere_38 : decode cX7_ringsHere 38 = .ok (.aload_n 0, 1) := by decide +kernel
theorem dX7_ringsHere_39 : decode cX7_ringsHere 39 = .ok (.getfield 180, 3) := by decide +kernel
theorem dX7_ringsHere_42 : decode cX7_ringsHere 42 = .ok (.ifCond .ne 70, 3) := by decide +kernel
theorem dX7_ringsHere_45 : decode cX7_ringsHere 45 = .ok (.iload_n 2, 1) := by decide +kernel
theorem dX7_ringsHere_46 : decode cX7_ringsHere 46 = .ok (.aload_n 0, 1) := by decide +kernel
theorem dX7_ringsHere_47 : decode cX7_ringsHere 47 = .ok (.getfield 158, 3) := by decide +kernel
theorem dX7_ringsHere_50 : decode cX7_ringsHere 50 = .ok (.if_icmp .ge 62, 3) := by decide +kernel
theorem dX7_ringsHere_53 : decode cX7_ringsHere 53 = .ok (.aload_n 0, 1) := by decide +kernel
theorem dX7_ringsHere_54 : decode cX7_ringsHere 54 = .ok (.aload_n 0, 1) := by decide +kernel
theorem dX7_ringsHere_55 : decode cX7_ringsHere 55 = .ok (.getfield 29, 3) := by decide +kernel
theorem dX7_ringsHere_58 : decode cX7_ringsHere 58 = .ok (.iload_n 2, 1) := by decide +kernel
theorem dX7_ringsHere_59 : decode cX7_ringsHere 59 = .ok (.iaload, 1) := by decide +kernel
theorem dX7_ringsHere_60 : decode cX7_ringsHere 60 = .ok (.bipush 115, 2) := by decide +kernel
theorem dX7_ringsHere_62 : decode cX7_ringsHere 62 = .ok (.if_icmp .eq 18, 3) := by decide +kernel
theorem dX7_ringsHere_65 : decode cX7_ringsHere 65 = .ok (.aload_n 0, 1) := by decide +kernel
theorem dX7_ringsHere_66 : decode cX7_ringsHere 66 = .ok (.getfield 29, 3) := by decide +kernel
theorem dX7_ringsHere_69 : decode cX7_ringsHere 69 = .ok (.iload_n 2, 1) := by decide +kernel
theorem dX7_ringsHere_70 : decode cX7_ringsHere 70 = .ok (.iaload, 1) := by decide +kernel
theorem dX7_ringsHere_71 : decode cX7_ringsHere 71 = .ok (.bipush 108, 2) := by decide +kernel
theorem dX7_ringsHere_73 : decode cX7_ringsHere 73 = .ok (.if_icmp .eq 7, 3) := by decide +kernel
theorem dX7_ringsHere_76 : decode cX7_ringsHere 76 = .ok (.iconst 1, 1) := by decide +kernel
theorem dX7_ringsHere_77 : decode cX7_ringsHere 77 = .ok (.goto 4, 3) := by decide +kernel
theorem dX7_ringsHere_80 : decode cX7_ringsHere 80 = .ok (.iconst 0, 1) := by decide +kernel
theorem dX7_ringsHere_81 : decode cX7_ringsHere 81 = .ok (.iconst 1, 1) := by decide +kernel
theorem dX7_ringsHere_82 : decode cX7_ringsHere 82 = .ok (.invokevirtual 190, 3) := by decide +kernel
theorem dX7_ringsHere_85 : decode cX7_ringsHere 85 = .ok (.iconst 2, 1) := by decide +kernel
theorem dX7_ringsHere_86 : decode cX7_ringsHere 86 = .ok (.iload_n 1, 1) := by decide +kernel
theorem dX7_ringsHere_87 : decode cX7_ringsHere 87 = .ok (.imul, 1) := by decide +kernel
theorem dX7_ringsHere_88 : decode cX7_ringsHere 88 = .ok (.aload_n 0, 1) := by decide +kernel
theorem dX7_ringsHere_89 : decode cX7_ringsHere 89 = .ok (.getfield 29, 3) := by decide +kernel
theorem dX7_ringsHere_92 : decode cX7_ringsHere 92 = .ok (.iload_n 2, 1) := by decide +kernel
theorem dX7_ringsHere_93 : decode cX7_ringsHere 93 = .ok (.iaload, 1) := by decide +kernel
theorem dX7_ringsHere_94 : decode cX7_ringsHere 94 = .ok (.bipush 108, 2) := by decide +kernel
theorem dX7_ringsHere_96 : decode cX7_ringsHere 96 = .ok (.if_icmp .ne 7, 3) := by decide +kernel
theorem dX7_ringsHere_99 : decode cX7_ringsHere 99 = .ok (.iconst 1, 1) := by decide +kernel
theorem dX7_ringsHere_100 : decode cX7_ringsHere 100 = .ok (.goto 4, 3) := by decide +kernel
theorem dX7_ringsHere_103 : decode cX7_ringsHere 103 = .ok (.iconst 0, 1) := by decide +kernel
theorem dX7_ringsHere_104 : decode cX7_ringsHere 104 = .ok (.iadd, 1) := by decide +kernel
theorem dX7_ringsHere_105 : decode cX7_ringsHere 105 = .ok (.istore_n 1, 1) := by decide +kernel
theorem dX7_ringsHere_106 : decode cX7_ringsHere 106 = .ok (.iinc 2 1, 3) := by decide +kernel
theorem dX7_ringsHere_109 : decode cX7_ringsHere 109 = .ok (.goto (-71), 3) := by decide +kernel
theorem dX7_ringsHere_112 : decode cX7_ringsHere 112 = .ok (.iload_n 1, 1) := by decide +kernel
theorem dX7_ringsHere_113 : decode cX7_ringsHere 113 = .ok (.ireturn, 1) := by decide +kernel
theorem dX7_ends_0 : decode cX7_ends 0 = .ok (.aload_n 0, 1) := by decide +kernel
theorem dX7_ends_1 : decode cX7_ends 1 = .ok (.aload_n 0, 1) := by decide +kernel
theorem dX7_ends_2 : decode cX7_ends 2 = .ok (.getfield 164, 3) := by decide +kernel
theorem dX7_ends_5 : decode cX7_ends 5 = .ok (.iconst 3, 1) := by decide +kernel
theorem dX7_ends_6 : decode cX7_ends 6 = .ok (.if_icmp .eq 7, 3) := by decide +kernel
theorem dX7_ends_9 : decode cX7_ends 9 = .ok (.iconst 1, 1) := by decide +kernel
theorem dX7_ends_10 : decode cX7_ends 10 = .ok (.goto 4, 3) := by decide +kernel
theorem dX7_ends_13 : decode cX7_ends 13 = .ok (.iconst 0, 1) := by decide +kernel
theorem dX7_ends_14 : decode cX7_ends 14 = .ok (.iconst 1, 1) := by decide +kernel
theorem dX7_ends_15 : decode cX7_ends 15 = .ok (.invokevirtual 190, 3) := by decide +kernel
theorem dX7_ends_18 : decode cX7_ends 18 = .ok (.aload_n 0, 1) := by decide +kernel
theorem dX7_ends_19 : decode cX7_ends 19 = .ok (.aload_n 0, 1) := by decide +kernel
theorem dX7_ends_20 : decode cX7_ends 20 = .ok (.getfield 180, 3) := by decide +kernel
theorem dX7_ends_23 : decode cX7_ends 23 = .ok (.ifCond .ne 11, 3) := by decide +kernel
theorem dX7_ends_26 : decode cX7_ends 26 = .ok (.iload_n 1, 1) := by decide +kernel
theorem dX7_ends_27 : decode cX7_ends 27 = .ok (.ifCond .ne 7, 3) := by decide +kernel
theorem dX7_ends_30 : decode cX7_ends 30 = .ok (.iconst 1, 1) := by decide +kernel
theorem dX7_ends_31 : decode cX7_ends 31 = .ok (.goto 4, 3) := by decide +kernel
theorem dX7_ends_34 : decode cX7_ends 34 = .ok (.iconst 0, 1) := by decide +kernel
theorem dX7_ends_35 : decode cX7_ends 35 = .ok (.iload_n 2, 1) := by decide +kernel
theorem dX7_ends_36 : decode cX7_ends 36 = .ok (.invokevirtual 190, 3) := by decide +kernel
theorem dX7_ends_39 : decode cX7_ends 39 = .ok (.aload_n 0, 1) := by decide +kernel
theorem dX7_ends_40 : decode cX7_ends 40 = .ok (.getfield 180, 3) := by decide +kernel
theorem dX7_ends_43 : decode cX7_ends 43 = .ok (.ifCond .ne 7, 3) := by decide +kernel
theorem dX7_ends_46 : decode cX7_ends 46 = .ok (.iconst 1, 1) := by decide +kernel
theorem dX7_ends_47 : decode cX7_ends 47 = .ok (.goto 4, 3) := by decide +kernel
theorem dX7_ends_50 : decode cX7_ends 50 = .ok (.iconst 0, 1) := by decide +kernel
theorem dX7_ends_51 : decode cX7_ends 51 = .ok (.ireturn, 1) := by decide +kernel
theorem dX7_trunkTold_0 : decode cX7_trunkTold 0 = .ok (.aload_n 0, 1) := by decide +kernel
theorem dX7_trunkTold_1 : decode cX7_trunkTold 1 = .ok (.aload_n 0, 1) := by decide +kernel
theorem dX7_trunkTold_2 : decode cX7_trunkTold 2 = .ok (.getfield 9, 3) := by decide +kernel
theorem dX7_trunkTold_5 : decode cX7_trunkTold 5 = .ok (.iconst 3, 1) := by decide +kernel
theorem dX7_trunkTold_6 : decode cX7_trunkTold 6 = .ok (.iaload, 1) := by decide +kernel
theorem dX7_trunkTold_7 : decode cX7_trunkTold 7 = .ok (.iconst 4, 1) := by decide +kernel
theorem dX7_trunkTold_8 : decode cX7_trunkTold 8 = .ok (.if_icmp .ne 7, 3) := by decide +kernel
theorem dX7_trunkTold_11 : decode cX7_trunkTold 11 = .ok (.iconst 1, 1) := by decide +kernel
theorem dX7_trunkTold_12 : decode cX7_trunkTold 12 = .ok (.goto 4, 3) := by decide +kernel
theorem dX7_trunkTold_15 : decode cX7_trunkTold 15 = .ok (.iconst 0, 1) := by decide +kernel
theorem dX7_trunkTold_16 : decode cX7_trunkTold 16 = .ok (.bipush 6, 2) := by decide +kernel
theorem dX7_trunkTold_18 : decode cX7_trunkTold 18 = .ok (.invokevirtual 190, 3) := by decide +kernel
theorem dX7_trunkTold_21 : decode cX7_trunkTold 21 = .ok (.aload_n 0, 1) := by decide +kernel
theorem dX7_trunkTold_22 : decode cX7_trunkTold 22 = .ok (.invokevirtual 194, 3) := by decide +kernel
theorem dX7_trunkTold_25 : decode cX7_trunkTold 25 = .ok (.aload_n 0, 1) := by decide +kernel
theorem dX7_trunkTold_26 : decode cX7_trunkTold 26 = .ok (.iconst 1, 1) := by decide +kernel
theorem dX7_trunkTold_27 : decode cX7_trunkTold 27 = .ok (.bipush 99, 2) := by decide +kernel
theorem dX7_trunkTold_29 : decode cX7_trunkTold 29 = .ok (.invokevirtual 203, 3) := by decide +kernel
theorem dX7_trunkTold_32 : decode cX7_trunkTold 32 = .ok (.istore_n 1, 1) := by decide +kernel
theorem dX7_trunkTold_33 : decode cX7_trunkTold 33 = .ok (.aload_n 0, 1) := by decide +kernel
theorem dX7_trunkTold_34 : decode cX7_trunkTold 34 = .ok (.aload_n 0, 1) := by decide +kernel
theorem dX7_trunkTold_35 : decode cX7_trunkTold 35 = .ok (.getfield 164, 3) := by decide +kernel
theorem dX7_trunkTold_38 : decode cX7_trunkTold 38 = .ok (.iconst 3, 1) := by decide +kernel
theorem dX7_trunkTold_39 : decode cX7_trunkTold 39 = .ok (.if_icmp .eq 7, 3) := by decide +kernel
theorem dX7_trunkTold_42 : decode cX7_trunkTold 42 = .ok (.iconst 1, 1) := by decide +kernel
theorem dX7_trunkTold_43 : decode cX7_trunkTold 43 = .ok (.goto 4, 3) := by decide +kernel
theorem dX7_trunkTold_46 : decode cX7_trunkTold 46 = .ok (.iconst 0, 1) := by decide +kernel
theorem dX7_trunkTold_47 : decode cX7_trunkTold 47 = .ok (.iconst 1, 1) := by decide +kernel
theorem dX7_trunkTold_48 : decode cX7_trunkTold 48 = .ok (.invokevirtual 190, 3) := by decide +kernel
theorem dX7_trunkTold_51 : decode cX7_trunkTold 51 = .ok (.aload_n 0, 1) := by decide +kernel
theorem dX7_trunkTold_52 : decode cX7_trunkTold 52 = .ok (.invokevirtual 194, 3) := by decide +kernel
theorem dX7_trunkTold_55 : decode cX7_trunkTold 55 = .ok (.aload_n 0, 1) := by decide +kernel
theorem dX7_trunkTold_56 : decode cX7_trunkTold 56 = .ok (.getfield 180, 3) := by decide +kernel
theorem dX7_trunkTold_59 : decode cX7_trunkTold 59 = .ok (.ifCond .eq 4, 3) := by decide +kernel
theorem dX7_trunkTold_62 : decode cX7_trunkTold 62 = .ok (.return_, 1) := by decide +kernel
theorem dX7_trunkTold_63 : decode cX7_trunkTold 63 = .ok (.aload_n 0, 1) := by decide +kernel
theorem dX7_trunkTold_64 : decode cX7_trunkTold 64 = .ok (.getfield 9, 3) := by decide +kernel
theorem dX7_trunkTold_67 : decode cX7_trunkTold 67 = .ok (.bipush 6, 2) := by decide +kernel
theorem dX7_trunkTold_69 : decode cX7_trunkTold 69 = .ok (.aload_n 0, 1) := by decide +kernel
theorem dX7_trunkTold_70 : decode cX7_trunkTold 70 = .ok (.getfield 9, 3) := by decide +kernel
theorem dX7_trunkTold_73 : decode cX7_trunkTold 73 = .ok (.iconst 3, 1) := by decide +kernel
theorem dX7_trunkTold_74 : decode cX7_trunkTold 74 = .ok (.iaload, 1) := by decide +kernel
theorem dX7_trunkTold_75 : decode cX7_trunkTold 75 = .ok (.iadd, 1) := by decide +kernel
theorem dX7_trunkTold_76 : decode cX7_trunkTold 76 = .ok (.iload_n 1, 1) := by decide +kernel
theorem dX7_trunkTold_77 : decode cX7_trunkTold 77 = .ok (.iastore, 1) := by decide +kernel
theorem dX7_trunkTold_78 : decode cX7_trunkTold 78 = .ok (.aload_n 0, 1) := by decide +kernel
theorem dX7_trunkTold_79 : decode cX7_trunkTold 79 = .ok (.getfield 9, 3) := by decide +kernel
theorem dX7_trunkTold_82 : decode cX7_trunkTold 82 = .ok (.iconst 3, 1) := by decide +kernel
theorem dX7_trunkTold_83 : decode cX7_trunkTold 83 = .ok (.dup2, 1) := by decide +kernel
theorem dX7_trunkTold_84 : decode cX7_trunkTold 84 = .ok (.iaload, 1) := by decide +kernel
theorem dX7_trunkTold_85 : decode cX7_trunkTold 85 = .ok (.iconst 1, 1) := by decide +kernel
theorem dX7_trunkTold_86 : decode cX7_trunkTold 86 = .ok (.iadd, 1) := by decide +kernel
theorem dX7_trunkTold_87 : decode cX7_trunkTold 87 = .ok (.iastore, 1) := by decide +kernel
theorem dX7_trunkTold_88 : decode cX7_trunkTold 88 = .ok (.return_, 1) := by decide +kernel
theorem dX7_userTold_0 : decode cX7_userTold 0 = .ok (.aload_n 0, 1) := by decide +kernel
theorem dX7_userTold_1 : decode cX7_userTold 1 = .ok (.aload_n 0, 1) := by decide +kernel
theorem dX7_userTold_2 : decode cX7_userTold 2 = .ok (.ldc 206, 2) := by decide +kernel
theorem dX7_userTold_4 : decode cX7_userTold 4 = .ok (.invokevirtual 208, 3) := by decide +kernel
theorem dX7_userTold_7 : decode cX7_userTold 7 = .ok (.ifCond .ne 7, 3) := by decide +kernel
theorem dX7_userTold_10 : decode cX7_userTold 10 = .ok (.iconst 1, 1) := by decide +kernel
theorem dX7_userTold_11 : decode cX7_userTold 11 = .ok (.goto 4, 3) := by decide +kernel
theorem dX7_userTold_14 : decode cX7_userTold 14 = .ok (.iconst 0, 1) := by decide +kernel
theorem dX7_userTold_15 : decode cX7_userTold 15 = .ok (.iconst 1, 1) := by decide +kernel
theorem dX7_userTold_16 : decode cX7_userTold 16 = .ok (.invokevirtual 190, 3) := by decide +kernel
theorem dX7_userTold_19 : decode cX7_userTold 19 = .ok (.aload_n 0, 1) := by decide +kernel
theorem dX7_userTold_20 : decode cX7_userTold 20 = .ok (.aload_n 0, 1) := by decide +kernel
theorem dX7_userTold_21 : decode cX7_userTold 21 = .ok (.getfield 9, 3) := by decide +kernel
theorem dX7_userTold_24 : decode cX7_userTold 24 = .ok (.iconst 4, 1) := by decide +kernel
theorem dX7_userTold_25 : decode cX7_userTold 25 = .ok (.iaload, 1) := by decide +kernel
theorem dX7_userTold_26 : decode cX7_userTold 26 = .ok (.bipush 15, 2) := by decide +kernel
theorem dX7_userTold_28 : decode cX7_userTold 28 = .ok (.if_icmp .ne 7, 3) := by decide +kernel
theorem dX7_userTold_31 : decode cX7_userTold 31 = .ok (.iconst 1, 1) := by decide +kernel
theorem dX7_userTold_32 : decode cX7_userTold 32 = .ok (.goto 4, 3) := by decide +kernel
theorem dX7_userTold_35 : decode cX7_userTold 35 = .ok (.iconst 0, 1) := by decide +kernel
theorem dX7_userTold_36 : decode cX7_userTold 36 = .ok (.bipush 6, 2) := by decide +kernel
theorem dX7_userTold_38 : decode cX7_userTold 38 = .ok (.invokevirtual 190, 3) := by decide +kernel
theorem dX7_userTold_41 : decode cX7_userTold 41 = .ok (.aload_n 0, 1) := by decide +kernel
theorem dX7_userTold_42 : decode cX7_userTold 42 = .ok (.invokevirtual 194, 3) := by decide +kernel
theorem dX7_userTold_45 : decode cX7_userTold 45 = .ok (.aload_n 0, 1) := by decide +kernel
theorem dX7_userTold_46 : decode cX7_userTold 46 = .ok (.invokevirtual 197, 3) := by decide +kernel
theorem dX7_userTold_49 : decode cX7_userTold 49 = .ok (.aload_n 0, 1) := by decide +kernel
theorem dX7_userTold_50 : decode cX7_userTold 50 = .ok (.aload_n 0, 1) := by decide +kernel
theorem dX7_userTold_51 : decode cX7_userTold 51 = .ok (.getfield 180, 3) := by decide +kernel
theorem dX7_userTold_54 : decode cX7_userTold 54 = .ok (.ifCond .ne 15, 3) := by decide +kernel
theorem dX7_userTold_57 : decode cX7_userTold 57 = .ok (.aload_n 0, 1) := by decide +kernel
theorem dX7_userTold_58 : decode cX7_userTold 58 = .ok (.invokevirtual 200, 3) := by decide +kernel
theorem dX7_userTold_61 : decode cX7_userTold 61 = .ok (.iconst (-1), 1) := by decide +kernel
theorem dX7_userTold_62 : decode cX7_userTold 62 = .ok (.if_icmp .eq 7, 3) := by decide +kernel
theorem dX7_userTold_65 : decode cX7_userTold 65 = .ok (.iconst 1, 1) := by decide +kernel
theorem dX7_userTold_66 : decode cX7_userTold 66 = .ok (.goto 4, 3) := by decide +kernel
theorem dX7_userTold_69 : decode cX7_userTold 69 = .ok (.iconst 0, 1) := by decide +kernel
theorem dX7_userTold_70 : decode cX7_userTold 70 = .ok (.iconst 4, 1) := by decide +kernel
theorem dX7_userTold_71 : decode cX7_userTold 71 = .ok (.invokevirtual 190, 3) := by decide +kernel
theorem dX7_userTold_74 : decode cX7_userTold 74 = .ok (.aload_n 0, 1) := by decide +kernel
theorem dX7_userTold_75 : decode cX7_userTold 75 = .ok (.getfield 180, 3) := by decide +kernel
theorem dX7_userTold_78 : decode cX7_userTold 78 = .ok (.ifCond .eq 4, 3) := by decide +kernel
theorem dX7_userTold_81 : decode cX7_userTold 81 = .ok (.return_, 1) := by decide +kernel
theorem dX7_userTold_82 : decode cX7_userTold 82 = .ok (.aload_n 0, 1) := by decide +kernel
theorem dX7_userTold_83 : decode cX7_userTold 83 = .ok (.getfield 9, 3) := by decide +kernel
theorem dX7_userTold_86 : decode cX7_userTold 86 = .ok (.iconst 4, 1) := by decide +kernel
theorem dX7_userTold_87 : decode cX7_userTold 87 = .ok (.iaload, 1) := by decide +kernel
theorem dX7_userTold_88 : decode cX7_userTold 88 = .ok (.istore_n 1, 1) := by decide +kernel
theorem dX7_userTold_89 : decode cX7_userTold 89 = .ok (.aload_n 0, 1) := by decide +kernel
theorem dX7_userTold_90 : decode cX7_userTold 90 = .ok (.iload_n 1, 1) := by decide +kernel
theorem dX7_userTold_91 : decode cX7_userTold 91 = .ok (.iconst 5, 1) := by decide +kernel
theorem dX7_userTold_92 : decode cX7_userTold 92 = .ok (.aload_n 0, 1) := by decide +kernel
theorem dX7_userTold_93 : decode cX7_userTold 93 = .ok (.getfield 148, 3) := by decide +kernel
theorem dX7_userTold_96 : decode cX7_userTold 96 = .ok (.invokevirtual 123, 3) := by decide +kernel
theorem dX7_userTold_99 : decode cX7_userTold 99 = .ok (.iconst 0, 1) := by decide +kernel
theorem dX7_userTold_100 : decode cX7_userTold 100 = .ok (.istore_n 2, 1) := by decide +kernel
theorem dX7_userTold_101 : decode cX7_userTold 101 = .ok (.iload_n 2, 1) := by decide +kernel
theorem dX7_userTold_102 : decode cX7_userTold 102 = .ok (.aload_n 0, 1) := by decide +kernel
theorem dX7_userTold_103 : decode cX7_userTold 103 = .ok (.getfield 148, 3) := by decide +kernel
theorem dX7_userTold_106 : decode cX7_userTold 106 = .ok (.if_icmp .ge 24, 3) := by decide +kernel
theorem dX7_userTold_109 : decode cX7_userTold 109 = .ok (.aload_n 0, 1) := by decide +kernel
theorem dX7_userTold_110 : decode cX7_userTold 110 = .ok (.iload_n 1, 1) := by decide +kernel
theorem dX7_userTold_111 : decode cX7_userTold 111 = .ok (.bipush 6, 2) := by decide +kernel
theorem dX7_userTold_113 : decode cX7_userTold 113 = .ok (.iload_n 2, 1) := by decide +kernel
theorem dX7_userTold_114 : decode cX7_userTold 114 = .ok (.iadd, 1) := by decide +kernel
theorem dX7_userTold_115 : decode cX7_userTold 115 = .ok (.aload_n 0, 1) := by decide +kernel
theorem dX7_userTold_116 : decode cX7_userTold 116 = .ok (.getfield 39, 3) := by decide +kernel
theorem dX7_userTold_119 : decode cX7_userTold 119 = .ok (.iload_n 2, 1) := by decide +kernel
theorem dX7_userTold_120 : decode cX7_userTold 120 = .ok (.iaload, 1) := by decide +kernel
theorem dX7_userTold_121 : decode cX7_userTold 121 = .ok (.invokevirtual 123, 3) := by decide +kernel
theorem dX7_userTold_124 : decode cX7_userTold 124 = .ok (.iinc 2 1, 3) := by decide +kernel
theorem dX7_userTold_127 : decode cX7_userTold 127 = .ok (.goto (-26), 3) := by decide +kernel
theorem dX7_userTold_130 : decode cX7_userTold 130 = .ok (.aload_n 0, 1) := by decide +kernel
theorem dX7_userTold_131 : decode cX7_userTold 131 = .ok (.invokevirtual 194, 3) := by decide +kernel
theorem dX7_userTold_134 : decode cX7_userTold 134 = .ok (.aload_n 0, 1) := by decide +kernel
theorem dX7_userTold_135 : decode cX7_userTold 135 = .ok (.iconst 0, 1) := by decide +kernel
theorem dX7_userTold_136 : decode cX7_userTold 136 = .ok (.aload_n 0, 1) := by decide +kernel
theorem dX7_userTold_137 : decode cX7_userTold 137 = .ok (.getfield 9, 3) := by decide +kernel
theorem dX7_userTold_140 : decode cX7_userTold 140 = .ok (.iconst 1, 1) := by decide +kernel
theorem dX7_userTold_141 : decode cX7_userTold 141 = .ok (.iaload, 1) := by decide +kernel
theorem dX7_userTold_142 : decode cX7_userTold 142 = .ok (.iconst 1, 1) := by decide +kernel
theorem dX7_userTold_143 : decode cX7_userTold 143 = .ok (.isub, 1) := by decide +kernel
theorem dX7_userTold_144 : decode cX7_userTold 144 = .ok (.invokevirtual 203, 3) := by decide +kernel
theorem dX7_userTold_147 : decode cX7_userTold 147 = .ok (.istore_n 2, 1) := by decide +kernel
theorem dX7_userTold_148 : decode cX7_userTold 148 = .ok (.aload_n 0, 1) := by decide +kernel
theorem dX7_userTold_149 : decode cX7_userTold 149 = .ok (.getfield 180, 3) := by decide +kernel
theorem dX7_userTold_152 : decode cX7_userTold 152 = .ok (.ifCond .eq 7, 3) := by decide +kernel
theorem dX7_userTold_155 : decode cX7_userTold 155 = .ok (.iconst 1, 1) := by decide +kernel
theorem dX7_userTold_156 : decode cX7_userTold 156 = .ok (.goto 7, 3) := by decide +kernel
theorem dX7_userTold_159 : decode cX7_userTold 159 = .ok (.aload_n 0, 1) := by decide +kernel
theorem dX7_userTold_160 : decode cX7_userTold 160 = .ok (.invokevirtual 212, 3) := by decide +kernel
theorem dX7_userTold_163 : decode cX7_userTold 163 = .ok (.istore_n 3, 1) := by decide +kernel
theorem dX7_userTold_164 : decode cX7_userTold 164 = .ok (.iconst 0, 1) := by decide +kernel
theorem dX7_userTold_165 : decode cX7_userTold 165 = .ok (.istore 4, 2) := by decide +kernel
theorem dX7_userTold_167 : decode cX7_userTold 167 = .ok (.iload 4, 2) := by decide +kernel
theorem dX7_userTold_169 : decode cX7_userTold 169 = .ok (.iload_n 1, 1) := by decide +kernel
theorem dX7_userTold_170 : decode cX7_userTold 170 = .ok (.if_icmp .ge 65, 3) := by decide +kernel
theorem dX7_userTold_173 : decode cX7_userTold 173 = .ok (.aload_n 0, 1) := by decide +kernel
theorem dX7_userTold_174 : decode cX7_userTold 174 = .ok (.aload_n 0, 1) := by decide +kernel
theorem dX7_userTold_175 : decode cX7_userTold 175 = .ok (.getfield 180, 3) := by decide +kernel
theorem dX7_userTold_178 : decode cX7_userTold 178 = .ok (.ifCond .ne 46, 3) := by decide +kernel
theorem dX7_userTold_181 : decode cX7_userTold 181 = .ok (.aload_n 0, 1) := by decide +kernel
theorem dX7_userTold_182 : decode cX7_userTold 182 = .ok (.iload 4, 2) := by decide +kernel
theorem dX7_userTold_184 : decode cX7_userTold 184 = .ok (.iconst 0, 1) := by decide +kernel
theorem dX7_userTold_185 : decode cX7_userTold 185 = .ok (.invokevirtual 92, 3) := by decide +kernel
theorem dX7_userTold_188 : decode cX7_userTold 188 = .ok (.iload_n 2, 1) := by decide +kernel
theorem dX7_userTold_189 : decode cX7_userTold 189 = .ok (.if_icmp .ne 35, 3) := by decide +kernel
theorem dX7_userTold_192 : decode cX7_userTold 192 = .ok (.aload_n 0, 1) := by decide +kernel
theorem dX7_userTold_193 : decode cX7_userTold 193 = .ok (.iload 4, 2) := by decide +kernel
theorem dX7_userTold_195 : decode cX7_userTold 195 = .ok (.iconst 1, 1) := by decide +kernel
theorem dX7_userTold_196 : decode cX7_userTold 196 = .ok (.invokevirtual 92, 3) := by decide +kernel
theorem dX7_userTold_199 : decode cX7_userTold 199 = .ok (.iload_n 3, 1) := by decide +kernel
theorem dX7_userTold_200 : decode cX7_userTold 200 = .ok (.invokestatic 215, 3) := by decide +kernel
theorem dX7_userTold_203 : decode cX7_userTold 203 = .ok (.ifCond .ne 17, 3) := by decide +kernel
theorem dX7_userTold_206 : decode cX7_userTold 206 = .ok (.iload_n 3, 1) := by decide +kernel
theorem dX7_userTold_207 : decode cX7_userTold 207 = .ok (.aload_n 0, 1) := by decide +kernel
theorem dX7_userTold_208 : decode cX7_userTold 208 = .ok (.iload 4, 2) := by decide +kernel
theorem dX7_userTold_210 : decode cX7_userTold 210 = .ok (.iconst 1, 1) := by decide +kernel
theorem dX7_userTold_211 : decode cX7_userTold 211 = .ok (.invokevirtual 92, 3) := by decide +kernel
theorem dX7_userTold_214 : decode cX7_userTold 214 = .ok (.invokestatic 215, 3) := by decide +kernel
theorem dX7_userTold_217 : decode cX7_userTold 217 = .ok (.ifCond .eq 7, 3) := by decide +kernel
theorem dX7_userTold_220 : decode cX7_userTold 220 = .ok (.iconst 1, 1) := by decide +kernel
theorem dX7_userTold_221 : decode cX7_userTold 221 = .ok (.goto 4, 3) := by decide +kernel
theorem dX7_userTold_224 : decode cX7_userTold 224 = .ok (.iconst 0, 1) := by decide +kernel
theorem dX7_userTold_225 : decode cX7_userTold 225 = .ok (.iconst 5, 1) := by decide +kernel
theorem dX7_userTold_226 : decode cX7_userTold 226 = .ok (.invokevirtual 190, 3) := by decide +kernel
theorem dX7_userTold_229 : decode cX7_userTold 229 = .ok (.iinc 4 1, 3) := by decide +kernel
theorem dX7_userTold_232 : decode cX7_userTold 232 = .ok (.goto (-65), 3) := by decide +kernel
theorem dX7_userTold_235 : decode cX7_userTold 235 = .ok (.aload_n 0, 1) := by decide +kernel
theorem dX7_userTold_236 : decode cX7_userTold 236 = .ok (.invokevirtual 194, 3) := by decide +kernel
theorem dX7_userTold_239 : decode cX7_userTold 239 = .ok (.aload_n 0, 1) := by decide +kernel
theorem dX7_userTold_240 : decode cX7_userTold 240 = .ok (.iload_n 1, 1) := by decide +kernel
theorem dX7_userTold_241 : decode cX7_userTold 241 = .ok (.iconst 0, 1) := by decide +kernel
theorem dX7_userTold_242 : decode cX7_userTold 242 = .ok (.iload_n 2, 1) := by decide +kernel
theorem dX7_userTold_243 : decode cX7_userTold 243 = .ok (.invokevirtual 123, 3) := by decide +kernel
theorem dX7_userTold_246 : decode cX7_userTold 246 = .ok (.aload_n 0, 1) := by decide +kernel
theorem dX7_userTold_247 : decode cX7_userTold 247 = .ok (.iload_n 1, 1) := by decide +kernel
theorem dX7_userTold_248 : decode cX7_userTold 248 = .ok (.iconst 1, 1) := by decide +kernel
theorem dX7_userTold_249 : decode cX7_userTold 249 = .ok (.iload_n 3, 1) := by decide +kernel
theorem dX7_userTold_250 : decode cX7_userTold 250 = .ok (.invokevirtual 123, 3) := by decide +kernel
theorem dX7_userTold_253 : decode cX7_userTold 253 = .ok (.aload_n 0, 1) := by decide +kernel
theorem dX7_userTold_254 : decode cX7_userTold 254 = .ok (.iload_n 1, 1) := by decide +kernel
theorem dX7_userTold_255 : decode cX7_userTold 255 = .ok (.iconst 2, 1) := by decide +kernel
theorem dX7_userTold_256 : decode cX7_userTold 256 = .ok (.aload_n 0, 1) := by decide +kernel
theorem dX7_userTold_257 : decode cX7_userTold 257 = .ok (.iconst 0, 1) := by decide +kernel
theorem dX7_userTold_258 : decode cX7_userTold 258 = .ok (.bipush 9, 2) := by decide +kernel
theorem dX7_userTold_260 : decode cX7_userTold 260 = .ok (.invokevirtual 203, 3) := by decide +kernel
theorem dX7_userTold_263 : decode cX7_userTold 263 = .ok (.invokevirtual 123, 3) := by decide +kernel
theorem dX7_userTold_266 : decode cX7_userTold 266 = .ok (.aload_n 0, 1) := by decide +kernel
theorem dX7_userTold_267 : decode cX7_userTold 267 = .ok (.iload_n 1, 1) := by decide +kernel
theorem dX7_userTold_268 : decode cX7_userTold 268 = .ok (.iconst 4, 1) := by decide +kernel
theorem dX7_userTold_269 : decode cX7_userTold 269 = .ok (.iconst 1, 1) := by decide +kernel
theorem dX7_userTold_270 : decode cX7_userTold 270 = .ok (.iload_n 1, 1) := by decide +kernel
theorem dX7_userTold_271 : decode cX7_userTold 271 = .ok (.ishl, 1) := by decide +kernel
theorem dX7_userTold_272 : decode cX7_userTold 272 = .ok (.invokevirtual 123, 3) := by decide +kernel
theorem dX7_userTold_275 : decode cX7_userTold 275 = .ok (.aload_n 0, 1) := by decide +kernel
theorem dX7_userTold_276 : decode cX7_userTold 276 = .ok (.aload_n 0, 1) := by decide +kernel
theorem dX7_userTold_277 : decode cX7_userTold 277 = .ok (.getfield 164, 3) := by decide +kernel
theorem dX7_userTold_280 : decode cX7_userTold 280 = .ok (.iconst 3, 1) := by decide +kernel
theorem dX7_userTold_281 : decode cX7_userTold 281 = .ok (.if_icmp .eq 7, 3) := by decide +kernel
theorem dX7_userTold_284 : decode cX7_userTold 284 = .ok (.iconst 1, 1) := by decide +kernel
theorem dX7_userTold_285 : decode cX7_userTold 285 = .ok (.goto 4, 3) := by decide +kernel
theorem dX7_userTold_288 : decode cX7_userTold 288 = .ok (.iconst 0, 1) := by decide +kernel
theorem dX7_userTold_289 : decode cX7_userTold 289 = .ok (.iconst 1, 1) := by decide +kernel
theorem dX7_userTold_290 : decode cX7_userTold 290 = .ok (.invokevirtual 190, 3) := by decide +kernel
theorem dX7_userTold_293 : decode cX7_userTold 293 = .ok (.aload_n 0, 1) := by decide +kernel
theorem dX7_userTold_294 : decode cX7_userTold 294 = .ok (.invokevirtual 194, 3) := by decide +kernel
theorem dX7_userTold_297 : decode cX7_userTold 297 = .ok (.aload_n 0, 1) := by decide +kernel
theorem dX7_userTold_298 : decode cX7_userTold 298 = .ok (.getfield 180, 3) := by decide +kernel
theorem dX7_userTold_301 : decode cX7_userTold 301 = .ok (.ifCond .ne 13, 3) := by decide +kernel
theorem dX7_userTold_304 : decode cX7_userTold 304 = .ok (.aload_n 0, 1) := by decide +kernel
theorem dX7_userTold_305 : decode cX7_userTold 305 = .ok (.getfield 9, 3) := by decide +kernel
theorem dX7_userTold_308 : decode cX7_userTold 308 = .ok (.iconst 4, 1) := by decide +kernel
theorem dX7_userTold_309 : decode cX7_userTold 309 = .ok (.dup2, 1) := by decide +kernel
theorem dX7_userTold_310 : decode cX7_userTold 310 = .ok (.iaload, 1) := by decide +kernel
theorem dX7_userTold_311 : decode cX7_userTold 311 = .ok (.iconst 1, 1) := by decide +kernel
theorem dX7_userTold_312 : decode cX7_userTold 312 = .ok (.iadd, 1) := by decide +kernel
theorem dX7_userTold_313 : decode cX7_userTold 313 = .ok (.iastore, 1) := by decide +kernel
theorem dX7_userTold_314 : decode cX7_userTold 314 = .ok (.return_, 1) := by decide +kernel
theorem dX7_urgentHere_0 : decode cX7_urgentHere 0 = .ok (.aload_n 0, 1) := by decide +kernel
theorem dX7_urgentHere_1 : decode cX7_urgentHere 1 = .ok (.ldc 218, 2) := by decide +kernel
theorem dX7_urgentHere_3 : decode cX7_urgentHere 3 = .ok (.invokevirtual 208, 3) := by decide +kernel
theorem dX7_urgentHere_6 : decode cX7_urgentHere 6 = .ok (.ifCond .ne 5, 3) := by decide +kernel
theorem dX7_urgentHere_9 : decode cX7_urgentHere 9 = .ok (.iconst 0, 1) := by decide +kernel
theorem dX7_urgentHere_10 : decode cX7_urgentHere 10 = .ok (.ireturn, 1) := by decide +kernel
theorem dX7_urgentHere_11 : decode cX7_urgentHere 11 = .ok (.aload_n 0, 1) := by decide +kernel
theorem dX7_urgentHere_12 : decode cX7_urgentHere 12 = .ok (.invokevirtual 194, 3) := by decide +kernel
theorem dX7_urgentHere_15 : decode cX7_urgentHere 15 = .ok (.iconst 1, 1) := by decide +kernel
theorem dX7_urgentHere_16 : decode cX7_urgentHere 16 = .ok (.ireturn, 1) := by decide +kernel
theorem dX7_callTold_0 : decode cX7_callTold 0 = .ok (.aload_n 0, 1) := by decide +kernel
theorem dX7_callTold_1 : decode cX7_callTold 1 = .ok (.invokevirtual 194, 3) := by decide +kernel
theorem dX7_callTold_4 : decode cX7_callTold 4 = .ok (.aload_n 0, 1) := by decide +kernel
theorem dX7_callTold_5 : decode cX7_callTold 5 = .ok (.iconst (-1), 1) := by decide +kernel
theorem dX7_callTold_6 : decode cX7_callTold 6 = .ok (.invokevirtual 220, 3) := by decide +kernel
theorem dX7_callTold_9 : decode cX7_callTold 9 = .ok (.istore_n 2, 1) := by decide +kernel
theorem dX7_callTold_10 : decode cX7_callTold 10 = .ok (.iload_n 1, 1) := by decide +kernel
theorem dX7_callTold_11 : decode cX7_callTold 11 = .ok (.ifCond .ne 10, 3) := by decide +kernel
theorem dX7_callTold_14 : decode cX7_callTold 14 = .ok (.aload_n 0, 1) := by decide +kernel
theorem dX7_callTold_15 : decode cX7_callTold 15 = .ok (.getfield 180, 3) := by decide +kernel
theorem dX7_callTold_18 : decode cX7_callTold 18 = .ok (.ifCond .eq 7, 3) := by decide +kernel
theorem dX7_callTold_21 : decode cX7_callTold 21 = .ok (.iconst (-1), 1) := by decide +kernel
theorem dX7_callTold_22 : decode cX7_callTold 22 = .ok (.goto 8, 3) := by decide +kernel
theorem dX7_callTold_25 : decode cX7_callTold 25 = .ok (.aload_n 0, 1) := by decide +kernel
theorem dX7_callTold_26 : decode cX7_callTold 26 = .ok (.iload_n 2, 1) := by decide +kernel
theorem dX7_callTold_27 : decode cX7_callTold 27 = .ok (.invokevirtual 220, 3) := by decide +kernel
theorem dX7_callTold_30 : decode cX7_callTold 30 = .ok (.istore_n 3, 1) := by decide +kernel
theorem dX7_callTold_31 : decode cX7_callTold 31 = .ok (.iload_n 1, 1) := by decide +kernel
theorem dX7_callTold_32 : decode cX7_callTold 32 = .ok (.ifCond .eq 19, 3) := by decide +kernel
theorem dX7_callTold_35 : decode cX7_callTold 35 = .ok (.aload_n 0, 1) := by decide +kernel
theorem dX7_callTold_36 : decode cX7_callTold 36 = .ok (.iconst 0, 1) := by decide +kernel
theorem dX7_callTold_37 : decode cX7_callTold 37 = .ok (.aload_n 0, 1) := by decide +kernel
theorem dX7_callTold_38 : decode cX7_callTold 38 = .ok (.getfield 9, 3) := by decide +kernel
theorem dX7_callTold_41 : decode cX7_callTold 41 = .ok (.iconst 3, 1) := by decide +kernel
theorem dX7_callTold_42 : decode cX7_callTold 42 = .ok (.iaload, 1) := by decide +kernel
theorem dX7_callTold_43 : decode cX7_callTold 43 = .ok (.iconst 1, 1) := by decide +kernel
theorem dX7_callTold_44 : decode cX7_callTold 44 = .ok (.isub, 1) := by decide +kernel
theorem dX7_callTold_45 : decode cX7_callTold 45 = .ok (.invokevirtual 203, 3) := by decide +kernel
theorem dX7_callTold_48 : decode cX7_callTold 48 = .ok (.goto 4, 3) := by decide +kernel
theorem dX7_callTold_51 : decode cX7_callTold 51 = .ok (.iconst (-1), 1) := by decide +kernel
theorem dX7_callTold_52 : decode cX7_callTold 52 = .ok (.istore 4, 2) := by decide +kernel
theorem dX7_callTold_54 : decode cX7_callTold 54 = .ok (.aload_n 0, 1) := by decide +kernel
theorem dX7_callTold_55 : decode cX7_callTold 55 = .ok (.invokevirtual 223, 3) := by decide +kernel
theorem dX7_callTold_58 : decode cX7_callTold 58 = .ok (.istore 5, 2) := by decide +kernel
theorem dX7_callTold_60 : decode cX7_callTold 60 = .ok (.aload_n 0, 1) := by decide +kernel
theorem dX7_callTold_61 : decode cX7_callTold 61 = .ok (.aload_n 0, 1) := by decide +kernel
theorem dX7_callTold_62 : decode cX7_callTold 62 = .ok (.getfield 9, 3) := by decide +kernel
theorem dX7_callTold_65 : decode cX7_callTold 65 = .ok (.iconst 5, 1) := by decide +kernel
theorem dX7_callTold_66 : decode cX7_callTold 66 = .ok (.iaload, 1) := by decide +kernel
theorem dX7_callTold_67 : decode cX7_callTold 67 = .ok (.bipush 40, 2) := by decide +kernel
theorem dX7_callTold_69 : decode cX7_callTold 69 = .ok (.if_icmp .ge 7, 3) := by decide +kernel
theorem dX7_callTold_72 : decode cX7_callTold 72 = .ok (.iconst 1, 1) := by decide +kernel
theorem dX7_callTold_73 : decode cX7_callTold 73 = .ok (.goto 4, 3) := by decide +kernel
theorem dX7_callTold_76 : decode cX7_callTold 76 = .ok (.iconst 0, 1) := by decide +kernel
theorem dX7_callTold_77 : decode cX7_callTold 77 = .ok (.bipush 6, 2) := by decide +kernel
theorem dX7_callTold_79 : decode cX7_callTold 79 = .ok (.invokevirtual 226, 3) := by decide +kernel
theorem dX7_callTold_82 : decode cX7_callTold 82 = .ok (.ifCond .eq 17, 3) := by decide +kernel
theorem dX7_callTold_85 : decode cX7_callTold 85 = .ok (.aload_n 0, 1) := by decide +kernel
theorem dX7_callTold_86 : decode cX7_callTold 86 = .ok (.aload_n 0, 1) := by decide +kernel
theorem dX7_callTold_87 : decode cX7_callTold 87 = .ok (.iload_n 2, 1) := by decide +kernel
theorem dX7_callTold_88 : decode cX7_callTold 88 = .ok (.iload_n 3, 1) := by decide +kernel
theorem dX7_callTold_89 : decode cX7_callTold 89 = .ok (.iload 4, 2) := by decide +kernel
theorem dX7_callTold_91 : decode cX7_callTold 91 = .ok (.iload 5, 2) := by decide +kernel
theorem dX7_callTold_93 : decode cX7_callTold 93 = .ok (.invokevirtual 230, 3) := by decide +kernel
theorem dX7_callTold_96 : decode cX7_callTold 96 = .ok (.putfield 234, 3) := by decide +kernel
theorem dX7_callTold_99 : decode cX7_callTold 99 = .ok (.return_, 1) := by decide +kernel
theorem dX7_command_0 : decode cX7_command 0 = .ok (.aload_n 0, 1) := by decide +kernel
theorem dX7_command_1 : decode cX7_command 1 = .ok (.ldc 237, 2) := by decide +kernel
theorem dX7_command_3 : decode cX7_command 3 = .ok (.invokevirtual 208, 3) := by decide +kernel
theorem dX7_command_6 : decode cX7_command 6 = .ok (.ifCond .eq 11, 3) := by decide +kernel
theorem dX7_command_9 : decode cX7_command 9 = .ok (.aload_n 0, 1) := by decide +kernel
theorem dX7_command_10 : decode cX7_command 10 = .ok (.iconst 0, 1) := by decide +kernel
theorem dX7_command_11 : decode cX7_command 11 = .ok (.invokevirtual 239, 3) := by decide +kernel
theorem dX7_command_14 : decode cX7_command 14 = .ok (.goto 211, 3) := by decide +kernel
theorem dX7_command_17 : decode cX7_command 17 = .ok (.aload_n 0, 1) := by decide +kernel
theorem dX7_command_18 : decode cX7_command 18 = .ok (.ldc 243, 2) := by decide +kernel
theorem dX7_command_20 : decode cX7_command 20 = .ok (.invokevirtual 208, 3) := by decide +kernel
theorem dX7_command_23 : decode cX7_command 23 = .ok (.ifCond .eq 11, 3) := by decide +kernel
theorem dX7_command_26 : decode cX7_command 26 = .ok (.aload_n 0, 1) := by decide +kernel
theorem dX7_command_27 : decode cX7_command 27 = .ok (.iconst 1, 1) := by decide +kernel
theorem dX7_command_28 : decode cX7_command 28 = .ok (.invokevirtual 239, 3) := by decide +kernel
theorem dX7_command_31 : decode cX7_command 31 = .ok (.goto 194, 3) := by decide +kernel
theorem dX7_command_34 : decode cX7_command 34 = .ok (.aload_n 0, 1) := by decide +kernel
theorem dX7_command_35 : decode cX7_command 35 = .ok (.ldc 245, 2) := by decide +kernel
theorem dX7_command_37 : decode cX7_command 37 = .ok (.invokevirtual 208, 3) := by decide +kernel
theorem dX7_command_40 : decode cX7_command 40 = .ok (.ifCond .eq 62, 3) := by decide +kernel
theorem dX7_command_43 : decode cX7_command 43 = .ok (.aload_n 0, 1) := by decide +kernel
theorem dX7_command_44 : decode cX7_command 44 = .ok (.invokevirtual 194, 3) := by decide +kernel
theorem dX7_command_47 : decode cX7_command 47 = .ok (.aload_n 0, 1) := by decide +kernel
theorem dX7_command_48 : decode cX7_command 48 = .ok (.iconst 0, 1) := by decide +kernel
theorem dX7_command_49 : decode cX7_command 49 = .ok (.aload_n 0, 1) := by decide +kernel
theorem dX7_command_50 : decode cX7_command 50 = .ok (.getfield 9, 3) := by decide +kernel
theorem dX7_command_53 : decode cX7_command 53 = .ok (.iconst 5, 1) := by decide +kernel
theorem dX7_command_54 : decode cX7_command 54 = .ok (.iaload, 1) := by decide +kernel
theorem dX7_command_55 : decode cX7_command 55 = .ok (.iconst 1, 1) := by decide +kernel
theorem dX7_command_56 : decode cX7_command 56 = .ok (.isub, 1) := by decide +kernel
theorem dX7_command_57 : decode cX7_command 57 = .ok (.invokevirtual 203, 3) := by decide +kernel
theorem dX7_command_60 : decode cX7_command 60 = .ok (.istore_n 1, 1) := by decide +kernel
theorem dX7_command_61 : decode cX7_command 61 = .ok (.aload_n 0, 1) := by decide +kernel
theorem dX7_command_62 : decode cX7_command 62 = .ok (.aload_n 0, 1) := by decide +kernel
theorem dX7_command_63 : decode cX7_command 63 = .ok (.getfield 180, 3) := by decide +kernel
theorem dX7_command_66 : decode cX7_command 66 = .ok (.ifCond .ne 11, 3) := by decide +kernel
theorem dX7_command_69 : decode cX7_command 69 = .ok (.aload_n 0, 1) := by decide +kernel
theorem dX7_command_70 : decode cX7_command 70 = .ok (.iload_n 1, 1) := by decide +kernel
theorem dX7_command_71 : decode cX7_command 71 = .ok (.invokevirtual 247, 3) := by decide +kernel
theorem dX7_command_74 : decode cX7_command 74 = .ok (.ifCond .ne 7, 3) := by decide +kernel
theorem dX7_command_77 : decode cX7_command 77 = .ok (.iconst 1, 1) := by decide +kernel
theorem dX7_command_78 : decode cX7_command 78 = .ok (.goto 4, 3) := by decide +kernel
theorem dX7_command_81 : decode cX7_command 81 = .ok (.iconst 0, 1) := by decide +kernel
theorem dX7_command_82 : decode cX7_command 82 = .ok (.bipush 7, 2) := by decide +kernel
theorem dX7_command_84 : decode cX7_command 84 = .ok (.invokevirtual 226, 3) := by decide +kernel
theorem dX7_command_87 : decode cX7_command 87 = .ok (.ifCond .eq 12, 3) := by decide +kernel
theorem dX7_command_90 : decode cX7_command 90 = .ok (.aload_n 0, 1) := by decide +kernel
theorem dX7_command_91 : decode cX7_command 91 = .ok (.aload_n 0, 1) := by decide +kernel
theorem dX7_command_92 : decode cX7_command 92 = .ok (.iload_n 1, 1) := by decide +kernel
theorem dX7_command_93 : decode cX7_command 93 = .ok (.invokevirtual 250, 3) := by decide +kernel
theorem dX7_command_96 : decode cX7_command 96 = .ok (.putfield 234, 3) := by decide +kernel
theorem dX7_command_99 : decode cX7_command 99 = .ok (.goto 126, 3) := by decide +kernel
theorem dX7_command_102 : decode cX7_command 102 = .ok (.aload_n 0, 1) := by decide +kernel
theorem dX7_command_103 : decode cX7_command 103 = .ok (.ldc 253, 2) := by decide +kernel
theorem dX7_command_105 : decode cX7_command 105 = .ok (.invokevirtual 208, 3) := by decide +kernel
theorem dX7_command_108 : decode cX7_command 108 = .ok (.ifCond .eq 49, 3) := by decide +kernel
theorem dX7_command_111 : decode cX7_command 111 = .ok (.aload_n 0, 1) := by decide +kernel
theorem dX7_command_112 : decode cX7_command 112 = .ok (.invokevirtual 194, 3) := by decide +kernel
theorem dX7_command_115 : decode cX7_command 115 = .ok (.aload_n 0, 1) := by decide +kernel
theorem dX7_command_116 : decode cX7_command 116 = .ok (.iconst 1, 1) := by decide +kernel
theorem dX7_command_117 : decode cX7_command 117 = .ok (.sipush 9999, 3) := by decide +kernel
theorem dX7_command_120 : decode cX7_command 120 = .ok (.ldc 255, 2) := by decide +kernel
theorem dX7_command_122 : decode cX7_command 122 = .ok (.aload_n 0, 1) := by decide +kernel
theorem dX7_command_123 : decode cX7_command 123 = .ok (.getfield 9, 3) := by decide +kernel
theorem dX7_command_126 : decode cX7_command 126 = .ok (.iconst 0, 1) := by decide +kernel
theorem dX7_command_127 : decode cX7_command 127 = .ok (.iaload, 1) := by decide +kernel
theorem dX7_command_128 : decode cX7_command 128 = .ok (.isub, 1) := by decide +kernel
theorem dX7_command_129 : decode cX7_command 129 = .ok (.invokestatic 177, 3) := by decide +kernel
theorem dX7_command_132 : decode cX7_command 132 = .ok (.invokevirtual 203, 3) := by decide +kernel
theorem dX7_command_135 : decode cX7_command 135 = .ok (.istore_n 1, 1) := by decide +kernel
theorem dX7_command_136 : decode cX7_command 136 = .ok (.aload_n 0, 1) := by decide +kernel
theorem dX7_command_137 : decode cX7_command 137 = .ok (.iconst 1, 1) := by decide +kernel
theorem dX7_command_138 : decode cX7_command 138 = .ok (.iconst 1, 1) := by decide +kernel
theorem dX7_command_139 : decode cX7_command 139 = .ok (.invokevirtual 226, 3) := by decide +kernel
theorem dX7_command_142 : decode cX7_command 142 = .ok (.ifCond .eq 12, 3) := by decide +kernel
theorem dX7_command_145 : decode cX7_command 145 = .ok (.aload_n 0, 1) := by decide +kernel
theorem dX7_command_146 : decode cX7_command 146 = .ok (.aload_n 0, 1) := by decide +kernel
theorem dX7_command_147 : decode cX7_command 147 = .ok (.iload_n 1, 1) := by decide +kernel
theorem dX7_command_148 : decode cX7_command 148 = .ok (.invokevirtual 256, 3) := by decide +kernel
theorem dX7_command_151 : decode cX7_command 151 = .ok (.putfield 234, 3) := by decide +kernel
theorem dX7_command_154 : decode cX7_command 154 = .ok (.goto 71, 3) := by decide +kernel
theorem dX7_command_157 : decode cX7_command 157 = .ok (.aload_n 0, 1) := by decide +kernel
theorem dX7_command_158 : decode cX7_command 158 = .ok (.aload_n 0, 1) := by decide +kernel
theorem dX7_command_159 : decode cX7_command 159 = .ok (.ldc_w 259, 3) := by decide +kernel
theorem dX7_command_162 : decode cX7_command 162 = .ok (.invokevirtual 208, 3) := by decide +kernel
theorem dX7_command_165 : decode cX7_command 165 = .ok (.ifCond .ne 7, 3) := by decide +kernel
theorem dX7_command_168 : decode cX7_command 168 = .ok (.iconst 1, 1) := by decide +kernel
theorem dX7_command_169 : decode cX7_command 169 = .ok (.goto 4, 3) := by decide +kernel
theorem dX7_command_172 : decode cX7_command 172 = .ok (.iconst 0, 1) := by decide +kernel
theorem dX7_command_173 : decode cX7_command 173 = .ok (.iconst 1, 1) := by decide +kernel
theorem dX7_command_174 : decode cX7_command 174 = .ok (.invokevirtual 190, 3) := by decide +kernel
theorem dX7_command_177 : decode cX7_command 177 = .ok (.aload_n 0, 1) := by decide +kernel
theorem dX7_command_178 : decode cX7_command 178 = .ok (.invokevirtual 194, 3) := by decide +kernel
theorem dX7_command_181 : decode cX7_command 181 = .ok (.aload_n 0, 1) := by decide +kernel
theorem dX7_command_182 : decode cX7_command 182 = .ok (.getfield 180, 3) := by decide +kernel
theorem dX7_command_185 : decode cX7_command 185 = .ok (.ifCond .eq 7, 3) := by decide +kernel
theorem dX7_command_188 : decode cX7_command 188 = .ok (.iconst 0, 1) := by decide +kernel
theorem dX7_command_189 : decode cX7_command 189 = .ok (.goto 8, 3) := by decide +kernel
theorem dX7_command_192 : decode cX7_command 192 = .ok (.aload_n 0, 1) := by decide +kernel
theorem dX7_command_193 : decode cX7_command 193 = .ok (.iconst (-1), 1) := by decide +kernel
theorem dX7_command_194 : decode cX7_command 194 = .ok (.invokevirtual 220, 3) := by decide +kernel
theorem dX7_command_197 : decode cX7_command 197 = .ok (.istore_n 1, 1) := by decide +kernel
theorem dX7_command_198 : decode cX7_command 198 = .ok (.aload_n 0, 1) := by decide +kernel
theorem dX7_command_199 : decode cX7_command 199 = .ok (.iconst 0, 1) := by decide +kernel
theorem dX7_command_200 : decode cX7_command 200 = .ok (.bipush 9, 2) := by decide +kernel
theorem dX7_command_202 : decode cX7_command 202 = .ok (.invokevirtual 203, 3) := by decide +kernel
theorem dX7_command_205 : decode cX7_command 205 = .ok (.istore_n 2, 1) := by decide +kernel
theorem dX7_command_206 : decode cX7_command 206 = .ok (.aload_n 0, 1) := by decide +kernel
theorem dX7_command_207 : decode cX7_command 207 = .ok (.iconst 1, 1) := by decide +kernel
theorem dX7_command_208 : decode cX7_command 208 = .ok (.iconst 1, 1) := by decide +kernel
theorem dX7_command_209 : decode cX7_command 209 = .ok (.invokevirtual 226, 3) := by decide +kernel
theorem dX7_command_212 : decode cX7_command 212 = .ok (.ifCond .eq 13, 3) := by decide +kernel
theorem dX7_command_215 : decode cX7_command 215 = .ok (.aload_n 0, 1) := by decide +kernel
theorem dX7_command_216 : decode cX7_command 216 = .ok (.aload_n 0, 1) := by decide +kernel
theorem dX7_command_217 : decode cX7_command 217 = .ok (.iload_n 1, 1) := by decide +kernel
theorem dX7_command_218 : decode cX7_command 218 = .ok (.iload_n 2, 1) := by decide +kernel
theorem dX7_command_219 : decode cX7_command 219 = .ok (.invokevirtual 261, 3) := by decide +kernel
theorem dX7_command_222 : decode cX7_command 222 = .ok (.putfield 234, 3) := by decide +kernel
theorem dX7_command_225 : decode cX7_command 225 = .ok (.aload_n 0, 1) := by decide +kernel
theorem dX7_command_226 : decode cX7_command 226 = .ok (.invokevirtual 194, 3) := by decide +kernel
theorem dX7_command_229 : decode cX7_command 229 = .ok (.return_, 1) := by decide +kernel
theorem dX7_begin_0 : decode cX7_begin 0 = .ok (.aload_n 0, 1) := by decide +kernel
theorem dX7_begin_1 : decode cX7_begin 1 = .ok (.iconst 0, 1) := by decide +kernel
theorem dX7_begin_2 : decode cX7_begin 2 = .ok (.putfield 67, 3) := by decide +kernel
theorem dX7_begin_5 : decode cX7_begin 5 = .ok (.aload_n 0, 1) := by decide +kernel
theorem dX7_begin_6 : decode cX7_begin 6 = .ok (.iconst 0, 1) := by decide +kernel
theorem dX7_begin_7 : decode cX7_begin 7 = .ok (.putfield 158, 3) := by decide +kernel
theorem dX7_begin_10 : decode cX7_begin 10 = .ok (.aload_n 0, 1) := by decide +kernel
theorem dX7_begin_11 : decode cX7_begin 11 = .ok (.iconst 0, 1) := by decide +kernel
theorem dX7_begin_12 : decode cX7_begin 12 = .ok (.putfield 180, 3) := by decide +kernel
theorem dX7_begin_15 : decode cX7_begin 15 = .ok (.aload_n 0, 1) := by decide +kernel
theorem dX7_begin_16 : decode cX7_begin 16 = .ok (.iconst 0, 1) := by decide +kernel
theorem dX7_begin_17 : decode cX7_begin 17 = .ok (.putfield 184, 3) := by decide +kernel
theorem dX7_begin_20 : decode cX7_begin 20 = .ok (.aload_n 0, 1) := by decide +kernel
theorem dX7_begin_21 : decode cX7_begin 21 = .ok (.iconst (-1), 1) := by decide +kernel
theorem dX7_begin_22 : decode cX7_begin 22 = .ok (.putfield 35, 3) := by decide +kernel
theorem dX7_begin_25 : decode cX7_begin 25 = .ok (.aload_n 0, 1) := by decide +kernel
theorem dX7_begin_26 : decode cX7_begin 26 = .ok (.getfield 9, 3) := by decide +kernel
theorem dX7_begin_29 : decode cX7_begin 29 = .ok (.iconst 0, 1) := by decide +kernel
theorem dX7_begin_30 : decode cX7_begin 30 = .ok (.aload_n 0, 1) := by decide +kernel
theorem dX7_begin_31 : decode cX7_begin 31 = .ok (.getfield 22, 3) := by decide +kernel
theorem dX7_begin_34 : decode cX7_begin 34 = .ok (.iconst 0, 1) := by decide +kernel
theorem dX7_begin_35 : decode cX7_begin 35 = .ok (.invokestatic 76, 3) := by decide +kernel
theorem dX7_begin_38 : decode cX7_begin 38 = .ok (.aload_n 0, 1) := by decide +kernel
theorem dX7_begin_39 : decode cX7_begin 39 = .ok (.invokevirtual 187, 3) := by decide +kernel
theorem dX7_begin_42 : decode cX7_begin 42 = .ok (.return_, 1) := by decide +kernel
theorem dX7_commands_0 : decode cX7_commands 0 = .ok (.iconst 0, 1) := by decide +kernel
theorem dX7_commands_1 : decode cX7_commands 1 = .ok (.istore_n 1, 1) := by decide +kernel
theorem dX7_commands_2 : decode cX7_commands 2 = .ok (.aload_n 0, 1) := by decide +kernel
theorem dX7_commands_3 : decode cX7_commands 3 = .ok (.getfield 180, 3) := by decide +kernel
theorem dX7_commands_6 : decode cX7_commands 6 = .ok (.ifCond .ne 20, 3) := by decide +kernel
theorem dX7_commands_9 : decode cX7_commands 9 = .ok (.aload_n 0, 1) := by decide +kernel
theorem dX7_commands_10 : decode cX7_commands 10 = .ok (.getfield 164, 3) := by decide +kernel
theorem dX7_commands_13 : decode cX7_commands 13 = .ok (.ifCond .eq 13, 3) := by decide +kernel
theorem dX7_commands_16 : decode cX7_commands 16 = .ok (.aload_n 0, 1) := by decide +kernel
theorem dX7_commands_17 : decode cX7_commands 17 = .ok (.invokevirtual 264, 3) := by decide +kernel
theorem dX7_commands_20 : decode cX7_commands 20 = .ok (.iinc 1 1, 3) := by decide +kernel
theorem dX7_commands_23 : decode cX7_commands 23 = .ok (.goto (-21), 3) := by decide +kernel
theorem dX7_commands_26 : decode cX7_commands 26 = .ok (.aload_n 0, 1) := by decide +kernel
theorem dX7_commands_27 : decode cX7_commands 27 = .ok (.iconst 0, 1) := by decide +kernel
theorem dX7_commands_28 : decode cX7_commands 28 = .ok (.putfield 54, 3) := by decide +kernel
theorem dX7_commands_31 : decode cX7_commands 31 = .ok (.aload_n 0, 1) := by decide +kernel
theorem dX7_commands_32 : decode cX7_commands 32 = .ok (.getfield 180, 3) := by decide +kernel
theorem dX7_commands_35 : decode cX7_commands 35 = .ok (.ifCond .eq 19, 3) := by decide +kernel
theorem dX7_commands_38 : decode cX7_commands 38 = .ok (.aload_n 0, 1) := by decide +kernel
theorem dX7_commands_39 : decode cX7_commands 39 = .ok (.getfield 22, 3) := by decide +kernel
theorem dX7_commands_42 : decode cX7_commands 42 = .ok (.iconst 0, 1) := by decide +kernel
theorem dX7_commands_43 : decode cX7_commands 43 = .ok (.aload_n 0, 1) := by decide +kernel
theorem dX7_commands_44 : decode cX7_commands 44 = .ok (.getfield 9, 3) := by decide +kernel
theorem dX7_commands_47 : decode cX7_commands 47 = .ok (.iconst 0, 1) := by decide +kernel
theorem dX7_commands_48 : decode cX7_commands 48 = .ok (.invokestatic 76, 3) := by decide +kernel
theorem dX7_commands_51 : decode cX7_commands 51 = .ok (.goto 11, 3) := by decide +kernel
theorem dX7_commands_54 : decode cX7_commands 54 = .ok (.aload_n 0, 1) := by decide +kernel
theorem dX7_commands_55 : decode cX7_commands 55 = .ok (.aload_n 0, 1) := by decide +kernel
theorem dX7_commands_56 : decode cX7_commands 56 = .ok (.getfield 22, 3) := by decide +kernel
theorem dX7_commands_59 : decode cX7_commands 59 = .ok (.invokevirtual 267, 3) := by decide +kernel
theorem dX7_commands_62 : decode cX7_commands 62 = .ok (.aload_n 0, 1) := by decide +kernel
theorem dX7_commands_63 : decode cX7_commands 63 = .ok (.getfield 180, 3) := by decide +kernel
theorem dX7_commands_66 : decode cX7_commands 66 = .ok (.ifCond .eq 7, 3) := by decide +kernel
theorem dX7_commands_69 : decode cX7_commands 69 = .ok (.iconst (-1), 1) := by decide +kernel
theorem dX7_commands_70 : decode cX7_commands 70 = .ok (.goto 4, 3) := by decide +kernel
theorem dX7_commands_73 : decode cX7_commands 73 = .ok (.iload_n 1, 1) := by decide +kernel
theorem dX7_commands_74 : decode cX7_commands 74 = .ok (.ireturn, 1) := by decide +kernel
theorem dX7_load_0 : decode cX7_load 0 = .ok (.aload_n 0, 1) := by decide +kernel
theorem dX7_load_1 : decode cX7_load 1 = .ok (.invokevirtual 271, 3) := by decide +kernel
theorem dX7_load_4 : decode cX7_load 4 = .ok (.iconst 0, 1) := by decide +kernel
theorem dX7_load_5 : decode cX7_load 5 = .ok (.istore_n 1, 1) := by decide +kernel
theorem dX7_load_6 : decode cX7_load 6 = .ok (.iload_n 1, 1) := by decide +kernel
theorem dX7_load_7 : decode cX7_load 7 = .ok (.sipush 550, 3) := by decide +kernel
theorem dX7_load_10 : decode cX7_load 10 = .ok (.if_icmp .ge 16, 3) := by decide +kernel
theorem dX7_load_13 : decode cX7_load 13 = .ok (.aload_n 0, 1) := by decide +kernel
theorem dX7_load_14 : decode cX7_load 14 = .ok (.getfield 9, 3) := by decide +kernel
theorem dX7_load_17 : decode cX7_load 17 = .ok (.iload_n 1, 1) := by decide +kernel
theorem dX7_load_18 : decode cX7_load 18 = .ok (.iconst 0, 1) := by decide +kernel
theorem dX7_load_19 : decode cX7_load 19 = .ok (.iastore, 1) := by decide +kernel
theorem dX7_load_20 : decode cX7_load 20 = .ok (.iinc 1 1, 3) := by decide +kernel
theorem dX7_load_23 : decode cX7_load 23 = .ok (.goto (-17), 3) := by decide +kernel
theorem dX7_load_26 : decode cX7_load 26 = .ok (.aload_n 0, 1) := by decide +kernel
theorem dX7_load_27 : decode cX7_load 27 = .ok (.aload_n 0, 1) := by decide +kernel
theorem dX7_load_28 : decode cX7_load 28 = .ok (.ldc_w 274, 3) := by decide +kernel
theorem dX7_load_31 : decode cX7_load 31 = .ok (.invokevirtual 208, 3) := by decide +kernel
theorem dX7_load_34 : decode cX7_load 34 = .ok (.ifCond .ne 7, 3) := by decide +kernel
theorem dX7_load_37 : decode cX7_load 37 = .ok (.iconst 1, 1) := by decide +kernel
theorem dX7_load_38 : decode cX7_load 38 = .ok (.goto 4, 3) := by decide +kernel
theorem dX7_load_41 : decode cX7_load 41 = .ok (.iconst 0, 1) := by decide +kernel
theorem dX7_load_42 : decode cX7_load 42 = .ok (.iconst 1, 1) := by decide +kernel
theorem dX7_load_43 : decode cX7_load 43 = .ok (.invokevirtual 190, 3) := by decide +kernel
theorem dX7_load_46 : decode cX7_load 46 = .ok (.aload_n 0, 1) := by decide +kernel
theorem dX7_load_47 : decode cX7_load 47 = .ok (.invokevirtual 194, 3) := by decide +kernel
theorem dX7_load_50 : decode cX7_load 50 = .ok (.aload_n 0, 1) := by decide +kernel
theorem dX7_load_51 : decode cX7_load 51 = .ok (.getfield 9, 3) := by decide +kernel
theorem dX7_load_54 : decode cX7_load 54 = .ok (.iconst 1, 1) := by decide +kernel
theorem dX7_load_55 : decode cX7_load 55 = .ok (.aload_n 0, 1) := by decide +kernel
theorem dX7_load_56 : decode cX7_load 56 = .ok (.iconst 1, 1) := by decide +kernel
theorem dX7_load_57 : decode cX7_load 57 = .ok (.bipush 6, 2) := by decide +kernel
theorem dX7_load_59 : decode cX7_load 59 = .ok (.invokevirtual 203, 3) := by decide +kernel
theorem dX7_load_62 : decode cX7_load 62 = .ok (.iastore, 1) := by decide +kernel
theorem dX7_load_63 : decode cX7_load 63 = .ok (.aload_n 0, 1) := by decide +kernel
theorem dX7_load_64 : decode cX7_load 64 = .ok (.getfield 9, 3) := by decide +kernel
theorem dX7_load_67 : decode cX7_load 67 = .ok (.iconst 2, 1) := by decide +kernel
theorem dX7_load_68 : decode cX7_load 68 = .ok (.aload_n 0, 1) := by decide +kernel
theorem dX7_load_69 : decode cX7_load 69 = .ok (.iconst 1, 1) := by decide +kernel
theorem dX7_load_70 : decode cX7_load 70 = .ok (.bipush 6, 2) := by decide +kernel
theorem dX7_load_72 : decode cX7_load 72 = .ok (.invokevirtual 203, 3) := by decide +kernel
theorem dX7_load_75 : decode cX7_load 75 = .ok (.iastore, 1) := by decide +kernel
theorem dX7_load_76 : decode cX7_load 76 = .ok (.aload_n 0, 1) := by decide +kernel
theorem dX7_load_77 : decode cX7_load 77 = .ok (.aload_n 0, 1) := by decide +kernel
theorem dX7_load_78 : decode cX7_load 78 = .ok (.getfield 164, 3) := by decide +kernel
theorem dX7_load_81 : decode cX7_load 81 = .ok (.iconst 3, 1) := by decide +kernel
theorem dX7_load_82 : decode cX7_load 82 = .ok (.if_icmp .eq 7, 3) := by decide +kernel
theorem dX7_load_85 : decode cX7_load 85 = .ok (.iconst 1, 1) := by decide +kernel
theorem dX7_load_86 : decode cX7_load 86 = .ok (.goto 4, 3) := by decide +kernel
theorem dX7_load_89 : decode cX7_load 89 = .ok (.iconst 0, 1) := by decide +kernel
theorem dX7_load_90 : decode cX7_load 90 = .ok (.iconst 1, 1) := by decide +kernel
theorem dX7_load_91 : decode cX7_load 91 = .ok (.invokevirtual 190, 3) := by decide +kernel
theorem dX7_load_94 : decode cX7_load 94 = .ok (.aload_n 0, 1) := by decide +kernel
theorem dX7_load_95 : decode cX7_load 95 = .ok (.invokevirtual 194, 3) := by decide +kernel
theorem dX7_load_98 : decode cX7_load 98 = .ok (.aload_n 0, 1) := by decide +kernel
theorem dX7_load_99 : decode cX7_load 99 = .ok (.ldc 243, 2) := by decide +kernel
theorem dX7_load_101 : decode cX7_load 101 = .ok (.invokevirtual 208, 3) := by decide +kernel
theorem dX7_load_104 : decode cX7_load 104 = .ok (.ifCond .eq 10, 3) := by decide +kernel
theorem dX7_load_107 : decode cX7_load 107 = .ok (.aload_n 0, 1) := by decide +kernel
theorem dX7_load_108 : decode cX7_load 108 = .ok (.invokevirtual 276, 3) := by decide +kernel
theorem dX7_load_111 : decode cX7_load 111 = .ok (.goto (-13), 3) := by decide +kernel
theorem dX7_load_114 : decode cX7_load 114 = .ok (.aload_n 0, 1) := by decide +kernel
theorem dX7_load_115 : decode cX7_load 115 = .ok (.getfield 180, 3) := by decide +kernel
theorem dX7_load_118 : decode cX7_load 118 = .ok (.ifCond .ne 7, 3) := by decide +kernel
theorem dX7_load_121 : decode cX7_load 121 = .ok (.aload_n 0, 1) := by decide +kernel
theorem dX7_load_122 : decode cX7_load 122 = .ok (.invokevirtual 279, 3) := by decide +kernel
theorem dX7_load_125 : decode cX7_load 125 = .ok (.aload_n 0, 1) := by decide +kernel
theorem dX7_load_126 : decode cX7_load 126 = .ok (.ldc 206, 2) := by decide +kernel
theorem dX7_load_128 : decode cX7_load 128 = .ok (.invokevirtual 208, 3) := by decide +kernel
theorem dX7_load_131 : decode cX7_load 131 = .ok (.ifCond .eq 10, 3) := by decide +kernel
theorem dX7_load_134 : decode cX7_load 134 = .ok (.aload_n 0, 1) := by decide +kernel
theorem dX7_load_135 : decode cX7_load 135 = .ok (.invokevirtual 279, 3) := by decide +kernel
theorem dX7_load_138 : decode cX7_load 138 = .ok (.goto (-13), 3) := by decide +kernel
theorem dX7_load_141 : decode cX7_load 141 = .ok (.aload_n 0, 1) := by decide +kernel
theorem dX7_load_142 : decode cX7_load 142 = .ok (.invokevirtual 282, 3) := by decide +kernel
theorem dX7_load_145 : decode cX7_load 145 = .ok (.iconst (-1), 1) := by decide +kernel
theorem dX7_load_146 : decode cX7_load 146 = .ok (.if_icmp .ne 7, 3) := by decide +kernel
theorem dX7_load_149 : decode cX7_load 149 = .ok (.iconst (-1), 1) := by decide +kernel
theorem dX7_load_150 : decode cX7_load 150 = .ok (.goto 9, 3) := by decide +kernel
theorem dX7_load_153 : decode cX7_load 153 = .ok (.aload_n 0, 1) := by decide +kernel
theorem dX7_load_154 : decode cX7_load 154 = .ok (.getfield 9, 3) := by decide +kernel
theorem dX7_load_157 : decode cX7_load 157 = .ok (.iconst 4, 1) := by decide +kernel
theorem dX7_load_158 : decode cX7_load 158 = .ok (.iaload, 1) := by decide +kernel
theorem dX7_load_159 : decode cX7_load 159 = .ok (.ireturn, 1) := by decide +kernel
theorem dX7_play_0 : decode cX7_play 0 = .ok (.aload_n 0, 1) := by decide +kernel
theorem dX7_play_1 : decode cX7_play 1 = .ok (.invokevirtual 271, 3) := by decide +kernel
theorem dX7_play_4 : decode cX7_play 4 = .ok (.aload_n 0, 1) := by decide +kernel
theorem dX7_play_5 : decode cX7_play 5 = .ok (.invokevirtual 282, 3) := by decide +kernel
theorem dX7_play_8 : decode cX7_play 8 = .ok (.ireturn, 1) := by decide +kernel
theorem dX7_errorCode_0 : decode cX7_errorCode 0 = .ok (.aload_n 0, 1) := by decide +kernel
theorem dX7_errorCode_1 : decode cX7_errorCode 1 = .ok (.aload_n 0, 1) := by decide +kernel
theorem dX7_errorCode_2 : decode cX7_errorCode 2 = .ok (.getfield 184, 3) := by decide +kernel
theorem dX7_errorCode_5 : decode cX7_errorCode 5 = .ok (.invokevirtual 285, 3) := by decide +kernel
theorem dX7_errorCode_8 : decode cX7_errorCode 8 = .ok (.ireturn, 1) := by decide +kernel
theorem dX7_errorOffset_0 : decode cX7_errorOffset 0 = .ok (.aload_n 0, 1) := by decide +kernel
theorem dX7_errorOffset_1 : decode cX7_errorOffset 1 = .ok (.aload_n 0, 1) := by decide +kernel
theorem dX7_errorOffset_2 : decode cX7_errorOffset 2 = .ok (.getfield 35, 3) := by decide +kernel
theorem dX7_errorOffset_5 : decode cX7_errorOffset 5 = .ok (.invokevirtual 285, 3) := by decide +kernel
theorem dX7_errorOffset_8 : decode cX7_errorOffset 8 = .ok (.ireturn, 1) := by decide +kernel
theorem dX7_call_0 : decode cX7_call 0 = .ok (.aload_n 0, 1) := by decide +kernel
theorem dX7_call_1 : decode cX7_call 1 = .ok (.aload_n 0, 1) := by decide +kernel
theorem dX7_call_2 : decode cX7_call 2 = .ok (.iload_n 1, 1) := by decide +kernel
theorem dX7_call_3 : decode cX7_call 3 = .ok (.invokevirtual 288, 3) := by decide +kernel
theorem dX7_call_6 : decode cX7_call 6 = .ok (.ifCond .ne 11, 3) := by decide +kernel
theorem dX7_call_9 : decode cX7_call 9 = .ok (.aload_n 0, 1) := by decide +kernel
theorem dX7_call_10 : decode cX7_call 10 = .ok (.iload_n 2, 1) := by decide +kernel
theorem dX7_call_11 : decode cX7_call 11 = .ok (.invokevirtual 288, 3) := by decide +kernel
theorem dX7_call_14 : decode cX7_call 14 = .ok (.ifCond .eq 7, 3) := by decide +kernel
theorem dX7_call_17 : decode cX7_call 17 = .ok (.iconst 1, 1) := by decide +kernel
theorem dX7_call_18 : decode cX7_call 18 = .ok (.goto 4, 3) := by decide +kernel
theorem dX7_call_21 : decode cX7_call 21 = .ok (.iconst 0, 1) := by decide +kernel
theorem dX7_call_22 : decode cX7_call 22 = .ok (.iload_n 1, 1) := by decide +kernel
theorem dX7_call_23 : decode cX7_call 23 = .ok (.iload_n 2, 1) := by decide +kernel
theorem dX7_call_24 : decode cX7_call 24 = .ok (.if_icmp .ne 7, 3) := by decide +kernel
theorem dX7_call_27 : decode cX7_call 27 = .ok (.iconst 1, 1) := by decide +kernel
theorem dX7_call_28 : decode cX7_call 28 = .ok (.goto 4, 3) := by decide +kernel
theorem dX7_call_31 : decode cX7_call 31 = .ok (.iconst 0, 1) := by decide +kernel
theorem dX7_call_32 : decode cX7_call 32 = .ok (.aload_n 0, 1) := by decide +kernel
theorem dX7_call_33 : decode cX7_call 33 = .ok (.getfield 9, 3) := by decide +kernel
theorem dX7_call_36 : decode cX7_call 36 = .ok (.iconst 5, 1) := by decide +kernel
theorem dX7_call_37 : decode cX7_call 37 = .ok (.iaload, 1) := by decide +kernel
theorem dX7_call_38 : decode cX7_call 38 = .ok (.bipush 40, 2) := by decide +kernel
theorem dX7_call_40 : decode cX7_call 40 = .ok (.if_icmp .ne 7, 3) := by decide +kernel
theorem dX7_call_43 : decode cX7_call 43 = .ok (.iconst 1, 1) := by decide +kernel
theorem dX7_call_44 : decode cX7_call 44 = .ok (.goto 4, 3) := by decide +kernel
theorem dX7_call_47 : decode cX7_call 47 = .ok (.iconst 0, 1) := by decide +kernel
theorem dX7_call_48 : decode cX7_call 48 = .ok (.invokevirtual 154, 3) := by decide +kernel
theorem dX7_call_51 : decode cX7_call 51 = .ok (.ifCond .eq 5, 3) := by decide +kernel
theorem dX7_call_54 : decode cX7_call 54 = .ok (.iconst 0, 1) := by decide +kernel
theorem dX7_call_55 : decode cX7_call 55 = .ok (.ireturn, 1) := by decide +kernel
theorem dX7_call_56 : decode cX7_call 56 = .ok (.aload_n 0, 1) := by decide +kernel
theorem dX7_call_57 : decode cX7_call 57 = .ok (.aload_n 0, 1) := by decide +kernel
theorem dX7_call_58 : decode cX7_call 58 = .ok (.getfield 9, 3) := by decide +kernel
theorem dX7_call_61 : decode cX7_call 61 = .ok (.invokevirtual 267, 3) := by decide +kernel
theorem dX7_call_64 : decode cX7_call 64 = .ok (.aload_n 0, 1) := by decide +kernel
theorem dX7_call_65 : decode cX7_call 65 = .ok (.iload_n 1, 1) := by decide +kernel
theorem dX7_call_66 : decode cX7_call 66 = .ok (.iload_n 2, 1) := by decide +kernel
theorem dX7_call_67 : decode cX7_call 67 = .ok (.iconst (-1), 1) := by decide +kernel
theorem dX7_call_68 : decode cX7_call 68 = .ok (.iload_n 3, 1) := by decide +kernel
theorem dX7_call_69 : decode cX7_call 69 = .ok (.ifCond .eq 7, 3) := by decide +kernel
theorem dX7_call_72 : decode cX7_call 72 = .ok (.iconst 1, 1) := by decide +kernel
theorem dX7_call_73 : decode cX7_call 73 = .ok (.goto 4, 3) := by decide +kernel
theorem dX7_call_76 : decode cX7_call 76 = .ok (.iconst 0, 1) := by decide +kernel
theorem dX7_call_77 : decode cX7_call 77 = .ok (.invokevirtual 230, 3) := by decide +kernel
theorem dX7_call_80 : decode cX7_call 80 = .ok (.ireturn, 1) := by decide +kernel
theorem dX7_callTrunk_0 : decode cX7_callTrunk 0 = .ok (.aload_n 0, 1) := by decide +kernel
theorem dX7_callTrunk_1 : decode cX7_callTrunk 1 = .ok (.aload_n 0, 1) := by decide +kernel
theorem dX7_callTrunk_2 : decode cX7_callTrunk 2 = .ok (.iload_n 1, 1) := by decide +kernel
theorem dX7_callTrunk_3 : decode cX7_callTrunk 3 = .ok (.invokevirtual 288, 3) := by decide +kernel
theorem dX7_callTrunk_6 : decode cX7_callTrunk 6 = .ok (.ifCond .ne 11, 3) := by decide +kernel
theorem dX7_callTrunk_9 : decode cX7_callTrunk 9 = .ok (.aload_n 0, 1) := by decide +kernel
theorem dX7_callTrunk_10 : decode cX7_callTrunk 10 = .ok (.iload_n 2, 1) := by decide +kernel
theorem dX7_callTrunk_11 : decode cX7_callTrunk 11 = .ok (.invokevirtual 291, 3) := by decide +kernel
theorem dX7_callTrunk_14 : decode cX7_callTrunk 14 = .ok (.ifCond .eq 7, 3) := by decide +kernel
theorem dX7_callTrunk_17 : decode cX7_callTrunk 17 = .ok (.iconst 1, 1) := by decide +kernel
theorem dX7_callTrunk_18 : decode cX7_callTrunk 18 = .ok (.goto 4, 3) := by decide +kernel
theorem dX7_callTrunk_21 : decode cX7_callTrunk 21 = .ok (.iconst 0, 1) := by decide +kernel
theorem dX7_callTrunk_22 : decode cX7_callTrunk 22 = .ok (.aload_n 0, 1) := by decide +kernel
theorem dX7_callTrunk_23 : decode cX7_callTrunk 23 = .ok (.getfield 9, 3) := by decide +kernel
theorem dX7_callTrunk_26 : decode cX7_callTrunk 26 = .ok (.iconst 5, 1) := by decide +kernel
theorem dX7_callTrunk_27 : decode cX7_callTrunk 27 = .ok (.iaload, 1) := by decide +kernel
theorem dX7_callTrunk_28 : decode cX7_callTrunk 28 = .ok (.bipush 40, 2) := by decide +kernel
theorem dX7_callTrunk_30 : decode cX7_callTrunk 30 = .ok (.if_icmp .ne 7, 3) := by decide +kernel
theorem dX7_callTrunk_33 : decode cX7_callTrunk 33 = .ok (.iconst 1, 1) := by decide +kernel
theorem dX7_callTrunk_34 : decode cX7_callTrunk 34 = .ok (.goto 4, 3) := by decide +kernel
theorem dX7_callTrunk_37 : decode cX7_callTrunk 37 = .ok (.iconst 0, 1) := by decide +kernel
theorem dX7_callTrunk_38 : decode cX7_callTrunk 38 = .ok (.iconst 0, 1) := by decide +kernel
theorem dX7_callTrunk_39 : decode cX7_callTrunk 39 = .ok (.invokevirtual 154, 3) := by decide +kernel
theorem dX7_callTrunk_42 : decode cX7_callTrunk 42 = .ok (.ifCond .eq 5, 3) := by decide +kernel
theorem dX7_callTrunk_45 : decode cX7_callTrunk 45 = .ok (.iconst 0, 1) := by decide +kernel
theorem dX7_callTrunk_46 : decode cX7_callTrunk 46 = .ok (.ireturn, 1) := by decide +kernel
theorem dX7_callTrunk_47 : decode cX7_callTrunk 47 = .ok (.aload_n 0, 1) := by decide +kernel
theorem dX7_callTrunk_48 : decode cX7_callTrunk 48 = .ok (.aload_n 0, 1) := by decide +kernel
theorem dX7_callTrunk_49 : decode cX7_callTrunk 49 = .ok (.getfield 9, 3) := by decide +kernel
theorem dX7_callTrunk_52 : decode cX7_callTrunk 52 = .ok (.invokevirtual 267, 3) := by decide +kernel
theorem dX7_callTrunk_55 : decode cX7_callTrunk 55 = .ok (.aload_n 0, 1) := by decide +kernel
theorem dX7_callTrunk_56 : decode cX7_callTrunk 56 = .ok (.iload_n 1, 1) := by decide +kernel
theorem dX7_callTrunk_57 : decode cX7_callTrunk 57 = .ok (.iconst (-1), 1) := by decide +kernel
theorem dX7_callTrunk_58 : decode cX7_callTrunk 58 = .ok (.iload_n 2, 1) := by decide +kernel
theorem dX7_callTrunk_59 : decode cX7_callTrunk 59 = .ok (.iload_n 3, 1) := by decide +kernel
theorem dX7_callTrunk_60 : decode cX7_callTrunk 60 = .ok (.ifCond .eq 7, 3) := by decide +kernel
theorem dX7_callTrunk_63 : decode cX7_callTrunk 63 = .ok (.iconst 1, 1) := by decide +kernel
theorem dX7_callTrunk_64 : decode cX7_callTrunk 64 = .ok (.goto 4, 3) := by decide +kernel
theorem dX7_callTrunk_67 : decode cX7_callTrunk 67 = .ok (.iconst 0, 1) := by decide +kernel
theorem dX7_callTrunk_68 : decode cX7_callTrunk 68 = .ok (.invokevirtual 230, 3) := by decide +kernel
theorem dX7_callTrunk_71 : decode cX7_callTrunk 71 = .ok (.ireturn, 1) := by decide +kernel
theorem dX7_end_0 : decode cX7_end 0 = .ok (.aload_n 0, 1) := by decide +kernel
theorem dX7_end_1 : decode cX7_end 1 = .ok (.iload_n 1, 1) := by decide +kernel
theorem dX7_end_2 : decode cX7_end 2 = .ok (.invokevirtual 294, 3) := by decide +kernel
theorem dX7_end_5 : decode cX7_end 5 = .ok (.istore_n 2, 1) := by decide +kernel
theorem dX7_end_6 : decode cX7_end 6 = .ok (.aload_n 0, 1) := by decide +kernel
theorem dX7_end_7 : decode cX7_end 7 = .ok (.iload_n 2, 1) := by decide +kernel
theorem dX7_end_8 : decode cX7_end 8 = .ok (.iload_n 2, 1) := by decide +kernel
theorem dX7_end_9 : decode cX7_end 9 = .ok (.ifCond .ne 15, 3) := by decide +kernel
theorem dX7_end_12 : decode cX7_end 12 = .ok (.aload_n 0, 1) := by decide +kernel
theorem dX7_end_13 : decode cX7_end 13 = .ok (.iload_n 1, 1) := by decide +kernel
theorem dX7_end_14 : decode cX7_end 14 = .ok (.invokevirtual 247, 3) := by decide +kernel
theorem dX7_end_17 : decode cX7_end 17 = .ok (.ifCond .eq 7, 3) := by decide +kernel
theorem dX7_end_20 : decode cX7_end 20 = .ok (.iconst 1, 1) := by decide +kernel
theorem dX7_end_21 : decode cX7_end 21 = .ok (.goto 4, 3) := by decide +kernel
theorem dX7_end_24 : decode cX7_end 24 = .ok (.iconst 0, 1) := by decide +kernel
theorem dX7_end_25 : decode cX7_end 25 = .ok (.iconst 0, 1) := by decide +kernel
theorem dX7_end_26 : decode cX7_end 26 = .ok (.invokevirtual 154, 3) := by decide +kernel
theorem dX7_end_29 : decode cX7_end 29 = .ok (.ifCond .eq 5, 3) := by decide +kernel
theorem dX7_end_32 : decode cX7_end 32 = .ok (.iconst 0, 1) := by decide +kernel
theorem dX7_end_33 : decode cX7_end 33 = .ok (.ireturn, 1) := by decide +kernel
theorem dX7_end_34 : decode cX7_end 34 = .ok (.aload_n 0, 1) := by decide +kernel
theorem dX7_end_35 : decode cX7_end 35 = .ok (.aload_n 0, 1) := by decide +kernel
theorem dX7_end_36 : decode cX7_end 36 = .ok (.getfield 9, 3) := by decide +kernel
theorem dX7_end_39 : decode cX7_end 39 = .ok (.invokevirtual 267, 3) := by decide +kernel
theorem dX7_end_42 : decode cX7_end 42 = .ok (.aload_n 0, 1) := by decide +kernel
theorem dX7_end_43 : decode cX7_end 43 = .ok (.iload_n 1, 1) := by decide +kernel
theorem dX7_end_44 : decode cX7_end 44 = .ok (.invokevirtual 250, 3) := by decide +kernel
theorem dX7_end_47 : decode cX7_end 47 = .ok (.ireturn, 1) := by decide +kernel
theorem dX7_waitFor_0 : decode cX7_waitFor 0 = .ok (.iload_n 1, 1) := by decide +kernel
theorem dX7_waitFor_1 : decode cX7_waitFor 1 = .ok (.iconst 1, 1) := by decide +kernel
theorem dX7_waitFor_2 : decode cX7_waitFor 2 = .ok (.sipush 9999, 3) := by decide +kernel
theorem dX7_waitFor_5 : decode cX7_waitFor 5 = .ok (.invokestatic 80, 3) := by decide +kernel
theorem dX7_waitFor_8 : decode cX7_waitFor 8 = .ok (.ifCond .ne 7, 3) := by decide +kernel
theorem dX7_waitFor_11 : decode cX7_waitFor 11 = .ok (.iconst 1, 1) := by decide +kernel
theorem dX7_waitFor_12 : decode cX7_waitFor 12 = .ok (.goto 4, 3) := by decide +kernel
theorem dX7_waitFor_15 : decode cX7_waitFor 15 = .ok (.iconst 0, 1) := by decide +kernel
theorem dX7_waitFor_16 : decode cX7_waitFor 16 = .ok (.istore_n 2, 1) := by decide +kernel
theorem dX7_waitFor_17 : decode cX7_waitFor 17 = .ok (.aload_n 0, 1) := by decide +kernel
theorem dX7_waitFor_18 : decode cX7_waitFor 18 = .ok (.iload_n 2, 1) := by decide +kernel
theorem dX7_waitFor_19 : decode cX7_waitFor 19 = .ok (.iload_n 2, 1) := by decide +kernel
theorem dX7_waitFor_20 : decode cX7_waitFor 20 = .ok (.ifCond .ne 20, 3) := by decide +kernel
theorem dX7_waitFor_23 : decode cX7_waitFor 23 = .ok (.aload_n 0, 1) := by decide +kernel
theorem dX7_waitFor_24 : decode cX7_waitFor 24 = .ok (.getfield 9, 3) := by decide +kernel
theorem dX7_waitFor_27 : decode cX7_waitFor 27 = .ok (.iconst 0, 1) := by decide +kernel
theorem dX7_waitFor_28 : decode cX7_waitFor 28 = .ok (.iaload, 1) := by decide +kernel
theorem dX7_waitFor_29 : decode cX7_waitFor 29 = .ok (.iload_n 1, 1) := by decide +kernel
theorem dX7_waitFor_30 : decode cX7_waitFor 30 = .ok (.iadd, 1) := by decide +kernel
theorem dX7_waitFor_31 : decode cX7_waitFor 31 = .ok (.ldc 255, 2) := by decide +kernel
theorem dX7_waitFor_33 : decode cX7_waitFor 33 = .ok (.if_icmp .le 7, 3) := by decide +kernel
theorem dX7_waitFor_36 : decode cX7_waitFor 36 = .ok (.iconst 1, 1) := by decide +kernel
theorem dX7_waitFor_37 : decode cX7_waitFor 37 = .ok (.goto 4, 3) := by decide +kernel
theorem dX7_waitFor_40 : decode cX7_waitFor 40 = .ok (.iconst 0, 1) := by decide +kernel
theorem dX7_waitFor_41 : decode cX7_waitFor 41 = .ok (.iconst 0, 1) := by decide +kernel
theorem dX7_waitFor_42 : decode cX7_waitFor 42 = .ok (.invokevirtual 154, 3) := by decide +kernel
theorem dX7_waitFor_45 : decode cX7_waitFor 45 = .ok (.ifCond .eq 5, 3) := by decide +kernel
theorem dX7_waitFor_48 : decode cX7_waitFor 48 = .ok (.iconst 0, 1) := by decide +kernel
theorem dX7_waitFor_49 : decode cX7_waitFor 49 = .ok (.ireturn, 1) := by decide +kernel
theorem dX7_waitFor_50 : decode cX7_waitFor 50 = .ok (.aload_n 0, 1) := by decide +kernel
theorem dX7_waitFor_51 : decode cX7_waitFor 51 = .ok (.aload_n 0, 1) := by decide +kernel
theorem dX7_waitFor_52 : decode cX7_waitFor 52 = .ok (.getfield 9, 3) := by decide +kernel
theorem dX7_waitFor_55 : decode cX7_waitFor 55 = .ok (.invokevirtual 267, 3) := by decide +kernel
theorem dX7_waitFor_58 : decode cX7_waitFor 58 = .ok (.aload_n 0, 1) := by decide +kernel
theorem dX7_waitFor_59 : decode cX7_waitFor 59 = .ok (.iload_n 1, 1) := by decide +kernel
theorem dX7_waitFor_60 : decode cX7_waitFor 60 = .ok (.invokevirtual 256, 3) := by decide +kernel
theorem dX7_waitFor_63 : decode cX7_waitFor 63 = .ok (.ireturn, 1) := by decide +kernel
theorem dX7_setCuriosity_0 : decode cX7_setCuriosity 0 = .ok (.aload_n 0, 1) := by decide +kernel
theorem dX7_setCuriosity_1 : decode cX7_setCuriosity 1 = .ok (.aload_n 0, 1) := by decide +kernel
theorem dX7_setCuriosity_2 : decode cX7_setCuriosity 2 = .ok (.iload_n 1, 1) := by decide +kernel
theorem dX7_setCuriosity_3 : decode cX7_setCuriosity 3 = .ok (.invokevirtual 288, 3) := by decide +kernel
theorem dX7_setCuriosity_6 : decode cX7_setCuriosity 6 = .ok (.iload_n 2, 1) := by decide +kernel
theorem dX7_setCuriosity_7 : decode cX7_setCuriosity 7 = .ok (.iconst 0, 1) := by decide +kernel
theorem dX7_setCuriosity_8 : decode cX7_setCuriosity 8 = .ok (.bipush 9, 2) := by decide +kernel
theorem dX7_setCuriosity_10 : decode cX7_setCuriosity 10 = .ok (.invokestatic 80, 3) := by decide +kernel
theorem dX7_setCuriosity_13 : decode cX7_setCuriosity 13 = .ok (.ifCond .ne 7, 3) := by decide +kernel
theorem dX7_setCuriosity_16 : decode cX7_setCuriosity 16 = .ok (.iconst 1, 1) := by decide +kernel
theorem dX7_setCuriosity_17 : decode cX7_setCuriosity 17 = .ok (.goto 4, 3) := by decide +kernel
theorem dX7_setCuriosity_20 : decode cX7_setCuriosity 20 = .ok (.iconst 0, 1) := by decide +kernel
theorem dX7_setCuriosity_21 : decode cX7_setCuriosity 21 = .ok (.iconst 0, 1) := by decide +kernel
theorem dX7_setCuriosity_22 : decode cX7_setCuriosity 22 = .ok (.invokevirtual 154, 3) := by decide +kernel
theorem dX7_setCuriosity_25 : decode cX7_setCuriosity 25 = .ok (.ifCond .eq 5, 3) := by decide +kernel
theorem dX7_setCuriosity_28 : decode cX7_setCuriosity 28 = .ok (.iconst 0, 1) := by decide +kernel
theorem dX7_setCuriosity_29 : decode cX7_setCuriosity 29 = .ok (.ireturn, 1) := by decide +kernel
theorem dX7_setCuriosity_30 : decode cX7_setCuriosity 30 = .ok (.aload_n 0, 1) := by decide +kernel
theorem dX7_setCuriosity_31 : decode cX7_setCuriosity 31 = .ok (.aload_n 0, 1) := by decide +kernel
theorem dX7_setCuriosity_32 : decode cX7_setCuriosity 32 = .ok (.getfield 9, 3) := by decide +kernel
theorem dX7_setCuriosity_35 : decode cX7_setCuriosity 35 = .ok (.invokevirtual 267, 3) := by decide +kernel
theorem dX7_setCuriosity_38 : decode cX7_setCuriosity 38 = .ok (.aload_n 0, 1) := by decide +kernel
theorem dX7_setCuriosity_39 : decode cX7_setCuriosity 39 = .ok (.iload_n 1, 1) := by decide +kernel
theorem dX7_setCuriosity_40 : decode cX7_setCuriosity 40 = .ok (.iload_n 2, 1) := by decide +kernel
theorem dX7_setCuriosity_41 : decode cX7_setCuriosity 41 = .ok (.invokevirtual 261, 3) := by decide +kernel
theorem dX7_setCuriosity_44 : decode cX7_setCuriosity 44 = .ok (.ireturn, 1) := by decide +kernel
theorem dX7_undo_0 : decode cX7_undo 0 = .ok (.aload_n 0, 1) := by decide +kernel
theorem dX7_undo_1 : decode cX7_undo 1 = .ok (.aload_n 0, 1) := by decide +kernel
theorem dX7_undo_2 : decode cX7_undo 2 = .ok (.getfield 64, 3) := by decide +kernel
theorem dX7_undo_5 : decode cX7_undo 5 = .ok (.ifCond .ne 7, 3) := by decide +kernel
theorem dX7_undo_8 : decode cX7_undo 8 = .ok (.iconst 1, 1) := by decide +kernel
theorem dX7_undo_9 : decode cX7_undo 9 = .ok (.goto 4, 3) := by decide +kernel
theorem dX7_undo_12 : decode cX7_undo 12 = .ok (.iconst 0, 1) := by decide +kernel
theorem dX7_undo_13 : decode cX7_undo 13 = .ok (.iconst 0, 1) := by decide +kernel
theorem dX7_undo_14 : decode cX7_undo 14 = .ok (.iconst 0, 1) := by decide +kernel
theorem dX7_undo_15 : decode cX7_undo 15 = .ok (.invokevirtual 154, 3) := by decide +kernel
theorem dX7_undo_18 : decode cX7_undo 18 = .ok (.ifCond .eq 5, 3) := by decide +kernel
theorem dX7_undo_21 : decode cX7_undo 21 = .ok (.iconst 0, 1) := by decide +kernel
theorem dX7_undo_22 : decode cX7_undo 22 = .ok (.ireturn, 1) := by decide +kernel
theorem dX7_undo_23 : decode cX7_undo 23 = .ok (.aload_n 0, 1) := by decide +kernel
theorem dX7_undo_24 : decode cX7_undo 24 = .ok (.dup, 1) := by decide +kernel
theorem dX7_undo_25 : decode cX7_undo 25 = .ok (.getfield 64, 3) := by decide +kernel
theorem dX7_undo_28 : decode cX7_undo 28 = .ok (.iconst 1, 1) := by decide +kernel
theorem dX7_undo_29 : decode cX7_undo 29 = .ok (.isub, 1) := by decide +kernel
theorem dX7_undo_30 : decode cX7_undo 30 = .ok (.putfield 64, 3) := by decide +kernel
theorem dX7_undo_33 : decode cX7_undo 33 = .ok (.aload_n 0, 1) := by decide +kernel
theorem dX7_undo_34 : decode cX7_undo 34 = .ok (.getfield 16, 3) := by decide +kernel
theorem dX7_undo_37 : decode cX7_undo 37 = .ok (.aload_n 0, 1) := by decide +kernel
theorem dX7_undo_38 : decode cX7_undo 38 = .ok (.getfield 64, 3) := by decide +kernel
theorem dX7_undo_41 : decode cX7_undo 41 = .ok (.sipush 550, 3) := by decide +kernel
theorem dX7_undo_44 : decode cX7_undo 44 = .ok (.imul, 1) := by decide +kernel
theorem dX7_undo_45 : decode cX7_undo 45 = .ok (.aload_n 0, 1) := by decide +kernel
theorem dX7_undo_46 : decode cX7_undo 46 = .ok (.getfield 9, 3) := by decide +kernel
theorem dX7_undo_49 : decode cX7_undo 49 = .ok (.iconst 0, 1) := by decide +kernel
theorem dX7_undo_50 : decode cX7_undo 50 = .ok (.invokestatic 76, 3) := by decide +kernel
theorem dX7_undo_53 : decode cX7_undo 53 = .ok (.aload_n 0, 1) := by decide +kernel
theorem dX7_undo_54 : decode cX7_undo 54 = .ok (.getfield 64, 3) := by decide +kernel
theorem dX7_undo_57 : decode cX7_undo 57 = .ok (.ireturn, 1) := by decide +kernel
theorem dX7_save_0 : decode cX7_save 0 = .ok (.aload_n 0, 1) := by decide +kernel
theorem dX7_save_1 : decode cX7_save 1 = .ok (.iload_n 1, 1) := by decide +kernel
theorem dX7_save_2 : decode cX7_save 2 = .ok (.iconst 0, 1) := by decide +kernel
theorem dX7_save_3 : decode cX7_save 3 = .ok (.iconst 1, 1) := by decide +kernel
theorem dX7_save_4 : decode cX7_save 4 = .ok (.invokestatic 80, 3) := by decide +kernel
theorem dX7_save_7 : decode cX7_save 7 = .ok (.ifCond .ne 7, 3) := by decide +kernel
theorem dX7_save_10 : decode cX7_save 10 = .ok (.iconst 1, 1) := by decide +kernel
theorem dX7_save_11 : decode cX7_save 11 = .ok (.goto 4, 3) := by decide +kernel
theorem dX7_save_14 : decode cX7_save 14 = .ok (.iconst 0, 1) := by decide +kernel
theorem dX7_save_15 : decode cX7_save 15 = .ok (.iconst 0, 1) := by decide +kernel
theorem dX7_save_16 : decode cX7_save 16 = .ok (.iconst 0, 1) := by decide +kernel
theorem dX7_save_17 : decode cX7_save 17 = .ok (.invokevirtual 154, 3) := by decide +kernel
theorem dX7_save_20 : decode cX7_save 20 = .ok (.ifCond .eq 5, 3) := by decide +kernel
theorem dX7_save_23 : decode cX7_save 23 = .ok (.iconst 0, 1) := by decide +kernel
theorem dX7_save_24 : decode cX7_save 24 = .ok (.ireturn, 1) := by decide +kernel
theorem dX7_save_25 : decode cX7_save 25 = .ok (.aload_n 0, 1) := by decide +kernel
theorem dX7_save_26 : decode cX7_save 26 = .ok (.getfield 9, 3) := by decide +kernel
theorem dX7_save_29 : decode cX7_save 29 = .ok (.iconst 0, 1) := by decide +kernel
theorem dX7_save_30 : decode cX7_save 30 = .ok (.aload_n 0, 1) := by decide +kernel
theorem dX7_save_31 : decode cX7_save 31 = .ok (.getfield 19, 3) := by decide +kernel
theorem dX7_save_34 : decode cX7_save 34 = .ok (.iload_n 1, 1) := by decide +kernel
theorem dX7_save_35 : decode cX7_save 35 = .ok (.sipush 550, 3) := by decide +kernel
theorem dX7_save_38 : decode cX7_save 38 = .ok (.imul, 1) := by decide +kernel
theorem dX7_save_39 : decode cX7_save 39 = .ok (.invokestatic 76, 3) := by decide +kernel
theorem dX7_save_42 : decode cX7_save 42 = .ok (.aload_n 0, 1) := by decide +kernel
theorem dX7_save_43 : decode cX7_save 43 = .ok (.getfield 25, 3) := by decide +kernel
theorem dX7_save_46 : decode cX7_save 46 = .ok (.iload_n 1, 1) := by decide +kernel
theorem dX7_save_47 : decode cX7_save 47 = .ok (.iconst 1, 1) := by decide +kernel
theorem dX7_save_48 : decode cX7_save 48 = .ok (.bastore, 1) := by decide +kernel
theorem dX7_save_49 : decode cX7_save 49 = .ok (.aload_n 0, 1) := by decide +kernel
theorem dX7_save_50 : decode cX7_save 50 = .ok (.getfield 9, 3) := by decide +kernel
theorem dX7_save_53 : decode cX7_save 53 = .ok (.iconst 0, 1) := by decide +kernel
theorem dX7_save_54 : decode cX7_save 54 = .ok (.iaload, 1) := by decide +kernel
theorem dX7_save_55 : decode cX7_save 55 = .ok (.ireturn, 1) := by decide +kernel
theorem dX7_restore_0 : decode cX7_restore 0 = .ok (.iload_n 1, 1) := by decide +kernel
theorem dX7_restore_1 : decode cX7_restore 1 = .ok (.iconst 0, 1) := by decide +kernel
theorem dX7_restore_2 : decode cX7_restore 2 = .ok (.iconst 1, 1) := by decide +kernel
theorem dX7_restore_3 : decode cX7_restore 3 = .ok (.invokestatic 80, 3) := by decide +kernel
theorem dX7_restore_6 : decode cX7_restore 6 = .ok (.ifCond .ne 7, 3) := by decide +kernel
theorem dX7_restore_9 : decode cX7_restore 9 = .ok (.iconst 1, 1) := by decide +kernel
theorem dX7_restore_10 : decode cX7_restore 10 = .ok (.goto 4, 3) := by decide +kernel
theorem dX7_restore_13 : decode cX7_restore 13 = .ok (.iconst 0, 1) := by decide +kernel
theorem dX7_restore_14 : decode cX7_restore 14 = .ok (.istore_n 2, 1) := by decide +kernel
theorem dX7_restore_15 : decode cX7_restore 15 = .ok (.aload_n 0, 1) := by decide +kernel
theorem dX7_restore_16 : decode cX7_restore 16 = .ok (.iload_n 2, 1) := by decide +kernel
theorem dX7_restore_17 : decode cX7_restore 17 = .ok (.iload_n 2, 1) := by decide +kernel
theorem dX7_restore_18 : decode cX7_restore 18 = .ok (.ifCond .ne 16, 3) := by decide +kernel
theorem dX7_restore_21 : decode cX7_restore 21 = .ok (.aload_n 0, 1) := by decide +kernel
theorem dX7_restore_22 : decode cX7_restore 22 = .ok (.getfield 25, 3) := by decide +kernel
theorem dX7_restore_25 : decode cX7_restore 25 = .ok (.iload_n 1, 1) := by decide +kernel
theorem dX7_restore_26 : decode cX7_restore 26 = .ok (.baload, 1) := by decide +kernel
theorem dX7_restore_27 : decode cX7_restore 27 = .ok (.ifCond .ne 7, 3) := by decide +kernel
theorem dX7_restore_30 : decode cX7_restore 30 = .ok (.iconst 1, 1) := by decide +kernel
theorem dX7_restore_31 : decode cX7_restore 31 = .ok (.goto 4, 3) := by decide +kernel
theorem dX7_restore_34 : decode cX7_restore 34 = .ok (.iconst 0, 1) := by decide +kernel
theorem dX7_restore_35 : decode cX7_restore 35 = .ok (.iconst 0, 1) := by decide +kernel
theorem dX7_restore_36 : decode cX7_restore 36 = .ok (.invokevirtual 154, 3) := by decide +kernel
theorem dX7_restore_39 : decode cX7_restore 39 = .ok (.ifCond .eq 5, 3) := by decide +kernel
theorem dX7_restore_42 : decode cX7_restore 42 = .ok (.iconst 0, 1) := by decide +kernel
theorem dX7_restore_43 : decode cX7_restore 43 = .ok (.ireturn, 1) := by decide +kernel
theorem dX7_restore_44 : decode cX7_restore 44 = .ok (.aload_n 0, 1) := by decide +kernel
theorem dX7_restore_45 : decode cX7_restore 45 = .ok (.aload_n 0, 1) := by decide +kernel
theorem dX7_restore_46 : decode cX7_restore 46 = .ok (.getfield 9, 3) := by decide +kernel
theorem dX7_restore_49 : decode cX7_restore 49 = .ok (.invokevirtual 267, 3) := by decide +kernel
theorem dX7_restore_52 : decode cX7_restore 52 = .ok (.aload_n 0, 1) := by decide +kernel
theorem dX7_restore_53 : decode cX7_restore 53 = .ok (.getfield 19, 3) := by decide +kernel
theorem dX7_restore_56 : decode cX7_restore 56 = .ok (.iload_n 1, 1) := by decide +kernel
theorem dX7_restore_57 : decode cX7_restore 57 = .ok (.sipush 550, 3) := by decide +kernel
theorem dX7_restore_60 : decode cX7_restore 60 = .ok (.imul, 1) := by decide +kernel
theorem dX7_restore_61 : decode cX7_restore 61 = .ok (.aload_n 0, 1) := by decide +kernel
theorem dX7_restore_62 : decode cX7_restore 62 = .ok (.getfield 9, 3) := by decide +kernel
theorem dX7_restore_65 : decode cX7_restore 65 = .ok (.iconst 0, 1) := by decide +kernel
theorem dX7_restore_66 : decode cX7_restore 66 = .ok (.invokestatic 76, 3) := by decide +kernel
theorem dX7_restore_69 : decode cX7_restore 69 = .ok (.aload_n 0, 1) := by decide +kernel
theorem dX7_restore_70 : decode cX7_restore 70 = .ok (.getfield 9, 3) := by decide +kernel
theorem dX7_restore_73 : decode cX7_restore 73 = .ok (.iconst 0, 1) := by decide +kernel
theorem dX7_restore_74 : decode cX7_restore 74 = .ok (.iaload, 1) := by decide +kernel
theorem dX7_restore_75 : decode cX7_restore 75 = .ok (.ireturn, 1) := by decide +kernel
theorem dX7_clock_0 : decode cX7_clock 0 = .ok (.aload_n 0, 1) := by decide +kernel
theorem dX7_clock_1 : decode cX7_clock 1 = .ok (.aload_n 0, 1) := by decide +kernel
theorem dX7_clock_2 : decode cX7_clock 2 = .ok (.getfield 9, 3) := by decide +kernel
theorem dX7_clock_5 : decode cX7_clock 5 = .ok (.iconst 0, 1) := by decide +kernel
theorem dX7_clock_6 : decode cX7_clock 6 = .ok (.iaload, 1) := by decide +kernel
theorem dX7_clock_7 : decode cX7_clock 7 = .ok (.invokevirtual 285, 3) := by decide +kernel
theorem dX7_clock_10 : decode cX7_clock 10 = .ok (.ireturn, 1) := by decide +kernel
theorem dX7_lineCount_0 : decode cX7_lineCount 0 = .ok (.aload_n 0, 1) := by decide +kernel
theorem dX7_lineCount_1 : decode cX7_lineCount 1 = .ok (.aload_n 0, 1) := by decide +kernel
theorem dX7_lineCount_2 : decode cX7_lineCount 2 = .ok (.getfield 9, 3) := by decide +kernel
theorem dX7_lineCount_5 : decode cX7_lineCount 5 = .ok (.iconst 1, 1) := by decide +kernel
theorem dX7_lineCount_6 : decode cX7_lineCount 6 = .ok (.iaload, 1) := by decide +kernel
theorem dX7_lineCount_7 : decode cX7_lineCount 7 = .ok (.invokevirtual 285, 3) := by decide +kernel
theorem dX7_lineCount_10 : decode cX7_lineCount 10 = .ok (.ireturn, 1) := by decide +kernel
theorem dX7_cordCount_0 : decode cX7_cordCount 0 = .ok (.aload_n 0, 1) := by decide +kernel
theorem dX7_cordCount_1 : decode cX7_cordCount 1 = .ok (.aload_n 0, 1) := by decide +kernel
theorem dX7_cordCount_2 : decode cX7_cordCount 2 = .ok (.getfield 9, 3) := by decide +kernel
theorem dX7_cordCount_5 : decode cX7_cordCount 5 = .ok (.iconst 2, 1) := by decide +kernel
theorem dX7_cordCount_6 : decode cX7_cordCount 6 = .ok (.iaload, 1) := by decide +kernel
theorem dX7_cordCount_7 : decode cX7_cordCount 7 = .ok (.invokevirtual 285, 3) := by decide +kernel
theorem dX7_cordCount_10 : decode cX7_cordCount 10 = .ok (.ireturn, 1) := by decide +kernel
theorem dX7_freeCords_0 : decode cX7_freeCords 0 = .ok (.aload_n 0, 1) := by decide +kernel
theorem dX7_freeCords_1 : decode cX7_freeCords 1 = .ok (.aload_n 0, 1) := by decide +kernel
theorem dX7_freeCords_2 : decode cX7_freeCords 2 = .ok (.getfield 9, 3) := by decide +kernel
theorem dX7_freeCords_5 : decode cX7_freeCords 5 = .ok (.iconst 2, 1) := by decide +kernel
theorem dX7_freeCords_6 : decode cX7_freeCords 6 = .ok (.iaload, 1) := by decide +kernel
theorem dX7_freeCords_7 : decode cX7_freeCords 7 = .ok (.aload_n 0, 1) := by decide +kernel
theorem dX7_freeCords_8 : decode cX7_freeCords 8 = .ok (.invokevirtual 112, 3) := by decide +kernel
theorem dX7_freeCords_11 : decode cX7_freeCords 11 = .ok (.isub, 1) := by decide +kernel
theorem dX7_freeCords_12 : decode cX7_freeCords 12 = .ok (.invokevirtual 285, 3) := by decide +kernel
theorem dX7_freeCords_15 : decode cX7_freeCords 15 = .ok (.ireturn, 1) := by decide +kernel
theorem dX7_trunkCount_0 : decode cX7_trunkCount 0 = .ok (.aload_n 0, 1) := by decide +kernel
theorem dX7_trunkCount_1 : decode cX7_trunkCount 1 = .ok (.aload_n 0, 1) := by decide +kernel
theorem dX7_trunkCount_2 : decode cX7_trunkCount 2 = .ok (.getfield 9, 3) := by decide +kernel
theorem dX7_trunkCount_5 : decode cX7_trunkCount 5 = .ok (.iconst 3, 1) := by decide +kernel
theorem dX7_trunkCount_6 : decode cX7_trunkCount 6 = .ok (.iaload, 1) := by decide +kernel
theorem dX7_trunkCount_7 : decode cX7_trunkCount 7 = .ok (.invokevirtual 285, 3) := by decide +kernel
theorem dX7_trunkCount_10 : decode cX7_trunkCount 10 = .ok (.ireturn, 1) := by decide +kernel
theorem dX7_subscriberCount_0 : decode cX7_subscriberCount 0 = .ok (.aload_n 0, 1) := by decide +kernel
theorem dX7_subscriberCount_1 : decode cX7_subscriberCount 1 = .ok (.aload_n 0, 1) := by decide +kernel
theorem dX7_subscriberCount_2 : decode cX7_subscriberCount 2 = .ok (.getfield 9, 3) := by decide +kernel
theorem dX7_subscriberCount_5 : decode cX7_subscriberCount 5 = .ok (.iconst 4, 1) := by decide +kernel
theorem dX7_subscriberCount_6 : decode cX7_subscriberCount 6 = .ok (.iaload, 1) := by decide +kernel
theorem dX7_subscriberCount_7 : decode cX7_subscriberCount 7 = .ok (.invokevirtual 285, 3) := by decide +kernel
theorem dX7_subscriberCount_10 : decode cX7_subscriberCount 10 = .ok (.ireturn, 1) := by decide +kernel
theorem dX7_callCount_0 : decode cX7_callCount 0 = .ok (.aload_n 0, 1) := by decide +kernel
theorem dX7_callCount_1 : decode cX7_callCount 1 = .ok (.aload_n 0, 1) := by decide +kernel
theorem dX7_callCount_2 : decode cX7_callCount 2 = .ok (.getfield 9, 3) := by decide +kernel
theorem dX7_callCount_5 : decode cX7_callCount 5 = .ok (.iconst 5, 1) := by decide +kernel
theorem dX7_callCount_6 : decode cX7_callCount 6 = .ok (.iaload, 1) := by decide +kernel
theorem dX7_callCount_7 : decode cX7_callCount 7 = .ok (.invokevirtual 285, 3) := by decide +kernel
theorem dX7_callCount_10 : decode cX7_callCount 10 = .ok (.ireturn, 1) := by decide +kernel
theorem dX7_callsIn_0 : decode cX7_callsIn 0 = .ok (.iconst 0, 1) := by decide +kernel
theorem dX7_callsIn_1 : decode cX7_callsIn 1 = .ok (.istore_n 2, 1) := by decide +kernel
theorem dX7_callsIn_2 : decode cX7_callsIn 2 = .ok (.iconst 0, 1) := by decide +kernel
theorem dX7_callsIn_3 : decode cX7_callsIn 3 = .ok (.istore_n 3, 1) := by decide +kernel
theorem dX7_callsIn_4 : decode cX7_callsIn 4 = .ok (.iload_n 3, 1) := by decide +kernel
theorem dX7_callsIn_5 : decode cX7_callsIn 5 = .ok (.aload_n 0, 1) := by decide +kernel
theorem dX7_callsIn_6 : decode cX7_callsIn 6 = .ok (.getfield 9, 3) := by decide +kernel
theorem dX7_callsIn_9 : decode cX7_callsIn 9 = .ok (.iconst 5, 1) := by decide +kernel
theorem dX7_callsIn_10 : decode cX7_callsIn 10 = .ok (.iaload, 1) := by decide +kernel
theorem dX7_callsIn_11 : decode cX7_callsIn 11 = .ok (.if_icmp .ge 22, 3) := by decide +kernel
theorem dX7_callsIn_14 : decode cX7_callsIn 14 = .ok (.aload_n 0, 1) := by decide +kernel
theorem dX7_callsIn_15 : decode cX7_callsIn 15 = .ok (.iload_n 3, 1) := by decide +kernel
theorem dX7_callsIn_16 : decode cX7_callsIn 16 = .ok (.iconst 4, 1) := by decide +kernel
theorem dX7_callsIn_17 : decode cX7_callsIn 17 = .ok (.invokevirtual 88, 3) := by decide +kernel
theorem dX7_callsIn_20 : decode cX7_callsIn 20 = .ok (.iload_n 1, 1) := by decide +kernel
theorem dX7_callsIn_21 : decode cX7_callsIn 21 = .ok (.if_icmp .ne 6, 3) := by decide +kernel
theorem dX7_callsIn_24 : decode cX7_callsIn 24 = .ok (.iinc 2 1, 3) := by decide +kernel
theorem dX7_callsIn_27 : decode cX7_callsIn 27 = .ok (.iinc 3 1, 3) := by decide +kernel
theorem dX7_callsIn_30 : decode cX7_callsIn 30 = .ok (.goto (-26), 3) := by decide +kernel
theorem dX7_callsIn_33 : decode cX7_callsIn 33 = .ok (.iload_n 2, 1) := by decide +kernel
theorem dX7_callsIn_34 : decode cX7_callsIn 34 = .ok (.ireturn, 1) := by decide +kernel
theorem dX7_waitingCalls_0 : decode cX7_waitingCalls 0 = .ok (.aload_n 0, 1) := by decide +kernel
theorem dX7_waitingCalls_1 : decode cX7_waitingCalls 1 = .ok (.aload_n 0, 1) := by decide +kernel
theorem dX7_waitingCalls_2 : decode cX7_waitingCalls 2 = .ok (.iconst 0, 1) := by decide +kernel
theorem dX7_waitingCalls_3 : decode cX7_waitingCalls 3 = .ok (.invokevirtual 297, 3) := by decide +kernel
theorem dX7_waitingCalls_6 : decode cX7_waitingCalls 6 = .ok (.invokevirtual 285, 3) := by decide +kernel
theorem dX7_waitingCalls_9 : decode cX7_waitingCalls 9 = .ok (.ireturn, 1) := by decide +kernel
theorem dX7_talkingCalls_0 : decode cX7_talkingCalls 0 = .ok (.aload_n 0, 1) := by decide +kernel
theorem dX7_talkingCalls_1 : decode cX7_talkingCalls 1 = .ok (.aload_n 0, 1) := by decide +kernel
theorem dX7_talkingCalls_2 : decode cX7_talkingCalls 2 = .ok (.iconst 1, 1) := by decide +kernel
theorem dX7_talkingCalls_3 : decode cX7_talkingCalls 3 = .ok (.invokevirtual 297, 3) := by decide +kernel
theorem dX7_talkingCalls_6 : decode cX7_talkingCalls 6 = .ok (.invokevirtual 285, 3) := by decide +kernel
theorem dX7_talkingCalls_9 : decode cX7_talkingCalls 9 = .ok (.ireturn, 1) := by decide +kernel
theorem dX7_undoableChanges_0 : decode cX7_undoableChanges 0 = .ok (.aload_n 0, 1) := by decide +kernel
theorem dX7_undoableChanges_1 : decode cX7_undoableChanges 1 = .ok (.aload_n 0, 1) := by decide +kernel
theorem dX7_undoableChanges_2 : decode cX7_undoableChanges 2 = .ok (.getfield 64, 3) := by decide +kernel
theorem dX7_undoableChanges_5 : decode cX7_undoableChanges 5 = .ok (.invokevirtual 285, 3) := by decide +kernel
theorem dX7_undoableChanges_8 : decode cX7_undoableChanges 8 = .ok (.ireturn, 1) := by decide +kernel
theorem dX7_isLineBusy_0 : decode cX7_isLineBusy 0 = .ok (.aload_n 0, 1) := by decide +kernel
theorem dX7_isLineBusy_1 : decode cX7_isLineBusy 1 = .ok (.aload_n 0, 1) := by decide +kernel
theorem dX7_isLineBusy_2 : decode cX7_isLineBusy 2 = .ok (.iload_n 1, 1) := by decide +kernel
theorem dX7_isLineBusy_3 : decode cX7_isLineBusy 3 = .ok (.invokevirtual 300, 3) := by decide +kernel
theorem dX7_isLineBusy_6 : decode cX7_isLineBusy 6 = .ok (.iconst 0, 1) := by decide +kernel
theorem dX7_isLineBusy_7 : decode cX7_isLineBusy 7 = .ok (.iconst 0, 1) := by decide +kernel
theorem dX7_isLineBusy_8 : decode cX7_isLineBusy 8 = .ok (.invokevirtual 154, 3) := by decide +kernel
theorem dX7_isLineBusy_11 : decode cX7_isLineBusy 11 = .ok (.ifCond .ne 15, 3) := by decide +kernel
theorem dX7_isLineBusy_14 : decode cX7_isLineBusy 14 = .ok (.aload_n 0, 1) := by decide +kernel
theorem dX7_isLineBusy_15 : decode cX7_isLineBusy 15 = .ok (.iload_n 1, 1) := by decide +kernel
theorem dX7_isLineBusy_16 : decode cX7_isLineBusy 16 = .ok (.invokevirtual 106, 3) := by decide +kernel
theorem dX7_isLineBusy_19 : decode cX7_isLineBusy 19 = .ok (.ifCond .le 7, 3) := by decide +kernel
theorem dX7_isLineBusy_22 : decode cX7_isLineBusy 22 = .ok (.iconst 1, 1) := by decide +kernel
theorem dX7_isLineBusy_23 : decode cX7_isLineBusy 23 = .ok (.goto 4, 3) := by decide +kernel
theorem dX7_isLineBusy_26 : decode cX7_isLineBusy 26 = .ok (.iconst 0, 1) := by decide +kernel
theorem dX7_isLineBusy_27 : decode cX7_isLineBusy 27 = .ok (.ireturn, 1) := by decide +kernel
theorem dX7_isTrunkBusy_0 : decode cX7_isTrunkBusy 0 = .ok (.aload_n 0, 1) := by decide +kernel
theorem dX7_isTrunkBusy_1 : decode cX7_isTrunkBusy 1 = .ok (.aload_n 0, 1) := by decide +kernel
theorem dX7_isTrunkBusy_2 : decode cX7_isTrunkBusy 2 = .ok (.iload_n 1, 1) := by decide +kernel
theorem dX7_isTrunkBusy_3 : decode cX7_isTrunkBusy 3 = .ok (.invokevirtual 291, 3) := by decide +kernel
theorem dX7_isTrunkBusy_6 : decode cX7_isTrunkBusy 6 = .ok (.iconst 0, 1) := by decide +kernel
theorem dX7_isTrunkBusy_7 : decode cX7_isTrunkBusy 7 = .ok (.iconst 0, 1) := by decide +kernel
theorem dX7_isTrunkBusy_8 : decode cX7_isTrunkBusy 8 = .ok (.invokevirtual 154, 3) := by decide +kernel
theorem dX7_isTrunkBusy_11 : decode cX7_isTrunkBusy 11 = .ok (.ifCond .ne 15, 3) := by decide +kernel
theorem dX7_isTrunkBusy_14 : decode cX7_isTrunkBusy 14 = .ok (.aload_n 0, 1) := by decide +kernel
theorem dX7_isTrunkBusy_15 : decode cX7_isTrunkBusy 15 = .ok (.iload_n 1, 1) := by decide +kernel
theorem dX7_isTrunkBusy_16 : decode cX7_isTrunkBusy 16 = .ok (.invokevirtual 109, 3) := by decide +kernel
theorem dX7_isTrunkBusy_19 : decode cX7_isTrunkBusy 19 = .ok (.ifCond .le 7, 3) := by decide +kernel
theorem dX7_isTrunkBusy_22 : decode cX7_isTrunkBusy 22 = .ok (.iconst 1, 1) := by decide +kernel
theorem dX7_isTrunkBusy_23 : decode cX7_isTrunkBusy 23 = .ok (.goto 4, 3) := by decide +kernel
theorem dX7_isTrunkBusy_26 : decode cX7_isTrunkBusy 26 = .ok (.iconst 0, 1) := by decide +kernel
theorem dX7_isTrunkBusy_27 : decode cX7_isTrunkBusy 27 = .ok (.ireturn, 1) := by decide +kernel
theorem dX7_toll_0 : decode cX7_toll 0 = .ok (.aload_n 0, 1) := by decide +kernel
theorem dX7_toll_1 : decode cX7_toll 1 = .ok (.aload_n 0, 1) := by decide +kernel
theorem dX7_toll_2 : decode cX7_toll 2 = .ok (.iload_n 1, 1) := by decide +kernel
theorem dX7_toll_3 : decode cX7_toll 3 = .ok (.invokevirtual 291, 3) := by decide +kernel
theorem dX7_toll_6 : decode cX7_toll 6 = .ok (.iconst 0, 1) := by decide +kernel
theorem dX7_toll_7 : decode cX7_toll 7 = .ok (.iconst 0, 1) := by decide +kernel
theorem dX7_toll_8 : decode cX7_toll 8 = .ok (.invokevirtual 154, 3) := by decide +kernel
theorem dX7_toll_11 : decode cX7_toll 11 = .ok (.ifCond .eq 7, 3) := by decide +kernel
theorem dX7_toll_14 : decode cX7_toll 14 = .ok (.iconst 0, 1) := by decide +kernel
theorem dX7_toll_15 : decode cX7_toll 15 = .ok (.goto 12, 3) := by decide +kernel
theorem dX7_toll_18 : decode cX7_toll 18 = .ok (.aload_n 0, 1) := by decide +kernel
theorem dX7_toll_19 : decode cX7_toll 19 = .ok (.getfield 9, 3) := by decide +kernel
theorem dX7_toll_22 : decode cX7_toll 22 = .ok (.bipush 6, 2) := by decide +kernel
theorem dX7_toll_24 : decode cX7_toll 24 = .ok (.iload_n 1, 1) := by decide +kernel
theorem dX7_toll_25 : decode cX7_toll 25 = .ok (.iadd, 1) := by decide +kernel
theorem dX7_toll_26 : decode cX7_toll 26 = .ok (.iaload, 1) := by decide +kernel
theorem dX7_toll_27 : decode cX7_toll 27 = .ok (.ireturn, 1) := by decide +kernel
theorem dX7_isBad_0 : decode cX7_isBad 0 = .ok (.aload_n 0, 1) := by decide +kernel
theorem dX7_isBad_1 : decode cX7_isBad 1 = .ok (.aload_n 0, 1) := by decide +kernel
theorem dX7_isBad_2 : decode cX7_isBad 2 = .ok (.iload_n 1, 1) := by decide +kernel
theorem dX7_isBad_3 : decode cX7_isBad 3 = .ok (.invokevirtual 288, 3) := by decide +kernel
theorem dX7_isBad_6 : decode cX7_isBad 6 = .ok (.iconst 0, 1) := by decide +kernel
theorem dX7_isBad_7 : decode cX7_isBad 7 = .ok (.iconst 0, 1) := by decide +kernel
theorem dX7_isBad_8 : decode cX7_isBad 8 = .ok (.invokevirtual 154, 3) := by decide +kernel
theorem dX7_isBad_11 : decode cX7_isBad 11 = .ok (.ireturn, 1) := by decide +kernel
theorem dX7_toldUser_0 : decode cX7_toldUser 0 = .ok (.aload_n 0, 1) := by decide +kernel
theorem dX7_toldUser_1 : decode cX7_toldUser 1 = .ok (.iload_n 1, 1) := by decide +kernel
theorem dX7_toldUser_2 : decode cX7_toldUser 2 = .ok (.invokevirtual 303, 3) := by decide +kernel
theorem dX7_toldUser_5 : decode cX7_toldUser 5 = .ok (.ifCond .eq 7, 3) := by decide +kernel
theorem dX7_toldUser_8 : decode cX7_toldUser 8 = .ok (.iconst 0, 1) := by decide +kernel
theorem dX7_toldUser_9 : decode cX7_toldUser 9 = .ok (.goto 9, 3) := by decide +kernel
theorem dX7_toldUser_12 : decode cX7_toldUser 12 = .ok (.aload_n 0, 1) := by decide +kernel
theorem dX7_toldUser_13 : decode cX7_toldUser 13 = .ok (.iload_n 1, 1) := by decide +kernel
theorem dX7_toldUser_14 : decode cX7_toldUser 14 = .ok (.iload_n 2, 1) := by decide +kernel
theorem dX7_toldUser_15 : decode cX7_toldUser 15 = .ok (.invokevirtual 92, 3) := by decide +kernel
theorem dX7_toldUser_18 : decode cX7_toldUser 18 = .ok (.ireturn, 1) := by decide +kernel
theorem dX7_lineOf_0 : decode cX7_lineOf 0 = .ok (.aload_n 0, 1) := by decide +kernel
theorem dX7_lineOf_1 : decode cX7_lineOf 1 = .ok (.iload_n 1, 1) := by decide +kernel
theorem dX7_lineOf_2 : decode cX7_lineOf 2 = .ok (.iconst 0, 1) := by decide +kernel
theorem dX7_lineOf_3 : decode cX7_lineOf 3 = .ok (.invokevirtual 306, 3) := by decide +kernel
theorem dX7_lineOf_6 : decode cX7_lineOf 6 = .ok (.ireturn, 1) := by decide +kernel
theorem dX7_curiosity_0 : decode cX7_curiosity 0 = .ok (.aload_n 0, 1) := by decide +kernel
theorem dX7_curiosity_1 : decode cX7_curiosity 1 = .ok (.iload_n 1, 1) := by decide +kernel
theorem dX7_curiosity_2 : decode cX7_curiosity 2 = .ok (.iconst 2, 1) := by decide +kernel
theorem dX7_curiosity_3 : decode cX7_curiosity 3 = .ok (.invokevirtual 306, 3) := by decide +kernel
theorem dX7_curiosity_6 : decode cX7_curiosity 6 = .ok (.ireturn, 1) := by decide +kernel
theorem dX7_bill_0 : decode cX7_bill 0 = .ok (.aload_n 0, 1) := by decide +kernel
theorem dX7_bill_1 : decode cX7_bill 1 = .ok (.iload_n 1, 1) := by decide +kernel
theorem dX7_bill_2 : decode cX7_bill 2 = .ok (.iconst 3, 1) := by decide +kernel
theorem dX7_bill_3 : decode cX7_bill 3 = .ok (.invokevirtual 306, 3) := by decide +kernel
theorem dX7_bill_6 : decode cX7_bill 6 = .ok (.ireturn, 1) := by decide +kernel
theorem dX7_ringCount_0 : decode cX7_ringCount 0 = .ok (.aload_n 0, 1) := by decide +kernel
theorem dX7_ringCount_1 : decode cX7_ringCount 1 = .ok (.iload_n 1, 1) := by decide +kernel
theorem dX7_ringCount_2 : decode cX7_ringCount 2 = .ok (.invokevirtual 303, 3) := by decide +kernel
theorem dX7_ringCount_5 : decode cX7_ringCount 5 = .ok (.ifCond .eq 7, 3) := by decide +kernel
theorem dX7_ringCount_8 : decode cX7_ringCount 8 = .ok (.iconst 0, 1) := by decide +kernel
theorem dX7_ringCount_9 : decode cX7_ringCount 9 = .ok (.goto 12, 3) := by decide +kernel
theorem dX7_ringCount_12 : decode cX7_ringCount 12 = .ok (.aload_n 0, 1) := by decide +kernel
theorem dX7_ringCount_13 : decode cX7_ringCount 13 = .ok (.iload_n 1, 1) := by decide +kernel
theorem dX7_ringCount_14 : decode cX7_ringCount 14 = .ok (.iconst 1, 1) := by decide +kernel
theorem dX7_ringCount_15 : decode cX7_ringCount 15 = .ok (.invokevirtual 92, 3) := by decide +kernel
theorem dX7_ringCount_18 : decode cX7_ringCount 18 = .ok (.invokestatic 84, 3) := by decide +kernel
theorem dX7_ringCount_21 : decode cX7_ringCount 21 = .ok (.ireturn, 1) := by decide +kernel
theorem dX7_ringSeconds_0 : decode cX7_ringSeconds 0 = .ok (.aload_n 0, 1) := by decide +kernel
theorem dX7_ringSeconds_1 : decode cX7_ringSeconds 1 = .ok (.iload_n 1, 1) := by decide +kernel
theorem dX7_ringSeconds_2 : decode cX7_ringSeconds 2 = .ok (.invokevirtual 303, 3) := by decide +kernel
theorem dX7_ringSeconds_5 : decode cX7_ringSeconds 5 = .ok (.ifCond .eq 5, 3) := by decide +kernel
theorem dX7_ringSeconds_8 : decode cX7_ringSeconds 8 = .ok (.iconst 0, 1) := by decide +kernel
theorem dX7_ringSeconds_9 : decode cX7_ringSeconds 9 = .ok (.ireturn, 1) := by decide +kernel
theorem dX7_ringSeconds_10 : decode cX7_ringSeconds 10 = .ok (.iconst (-1), 1) := by decide +kernel
theorem dX7_ringSeconds_11 : decode cX7_ringSeconds 11 = .ok (.istore_n 2, 1) := by decide +kernel
theorem dX7_ringSeconds_12 : decode cX7_ringSeconds 12 = .ok (.aload_n 0, 1) := by decide +kernel
theorem dX7_ringSeconds_13 : decode cX7_ringSeconds 13 = .ok (.iload_n 1, 1) := by decide +kernel
theorem dX7_ringSeconds_14 : decode cX7_ringSeconds 14 = .ok (.iconst 1, 1) := by decide +kernel
theorem dX7_ringSeconds_15 : decode cX7_ringSeconds 15 = .ok (.invokevirtual 92, 3) := by decide +kernel
theorem dX7_ringSeconds_18 : decode cX7_ringSeconds 18 = .ok (.istore_n 3, 1) := by decide +kernel
theorem dX7_ringSeconds_19 : decode cX7_ringSeconds 19 = .ok (.iload_n 3, 1) := by decide +kernel
theorem dX7_ringSeconds_20 : decode cX7_ringSeconds 20 = .ok (.iconst 1, 1) := by decide +kernel
theorem dX7_ringSeconds_21 : decode cX7_ringSeconds 21 = .ok (.if_icmp .le 25, 3) := by decide +kernel
theorem dX7_ringSeconds_24 : decode cX7_ringSeconds 24 = .ok (.iload_n 2, 1) := by decide +kernel
theorem dX7_ringSeconds_25 : decode cX7_ringSeconds 25 = .ok (.iload_n 3, 1) := by decide +kernel
theorem dX7_ringSeconds_26 : decode cX7_ringSeconds 26 = .ok (.iconst 2, 1) := by decide +kernel
theorem dX7_ringSeconds_27 : decode cX7_ringSeconds 27 = .ok (.irem, 1) := by decide +kernel
theorem dX7_ringSeconds_28 : decode cX7_ringSeconds 28 = .ok (.iconst 1, 1) := by decide +kernel
theorem dX7_ringSeconds_29 : decode cX7_ringSeconds 29 = .ok (.if_icmp .ne 7, 3) := by decide +kernel
theorem dX7_ringSeconds_32 : decode cX7_ringSeconds 32 = .ok (.iconst 4, 1) := by decide +kernel
theorem dX7_ringSeconds_33 : decode cX7_ringSeconds 33 = .ok (.goto 4, 3) := by decide +kernel
theorem dX7_ringSeconds_36 : decode cX7_ringSeconds 36 = .ok (.iconst 2, 1) := by decide +kernel
theorem dX7_ringSeconds_37 : decode cX7_ringSeconds 37 = .ok (.iadd, 1) := by decide +kernel
theorem dX7_ringSeconds_38 : decode cX7_ringSeconds 38 = .ok (.istore_n 2, 1) := by decide +kernel
theorem dX7_ringSeconds_39 : decode cX7_ringSeconds 39 = .ok (.iload_n 3, 1) := by decide +kernel
theorem dX7_ringSeconds_40 : decode cX7_ringSeconds 40 = .ok (.iconst 1, 1) := by decide +kernel
theorem dX7_ringSeconds_41 : decode cX7_ringSeconds 41 = .ok (.ishr, 1) := by decide +kernel
theorem dX7_ringSeconds_42 : decode cX7_ringSeconds 42 = .ok (.istore_n 3, 1) := by decide +kernel
theorem dX7_ringSeconds_43 : decode cX7_ringSeconds 43 = .ok (.goto (-24), 3) := by decide +kernel
theorem dX7_ringSeconds_46 : decode cX7_ringSeconds 46 = .ok (.iload_n 2, 1) := by decide +kernel
theorem dX7_ringSeconds_47 : decode cX7_ringSeconds 47 = .ok (.ireturn, 1) := by decide +kernel
theorem dX7_secretsKnown_0 : decode cX7_secretsKnown 0 = .ok (.aload_n 0, 1) := by decide +kernel
theorem dX7_secretsKnown_1 : decode cX7_secretsKnown 1 = .ok (.iload_n 1, 1) := by decide +kernel
theorem dX7_secretsKnown_2 : decode cX7_secretsKnown 2 = .ok (.iconst 4, 1) := by decide +kernel
theorem dX7_secretsKnown_3 : decode cX7_secretsKnown 3 = .ok (.invokevirtual 306, 3) := by decide +kernel
theorem dX7_secretsKnown_6 : decode cX7_secretsKnown 6 = .ok (.ireturn, 1) := by decide +kernel
theorem dX7_neighbours_0 : decode cX7_neighbours 0 = .ok (.aload_n 0, 1) := by decide +kernel
theorem dX7_neighbours_1 : decode cX7_neighbours 1 = .ok (.iload_n 1, 1) := by decide +kernel
theorem dX7_neighbours_2 : decode cX7_neighbours 2 = .ok (.invokevirtual 303, 3) := by decide +kernel
theorem dX7_neighbours_5 : decode cX7_neighbours 5 = .ok (.ifCond .eq 5, 3) := by decide +kernel
theorem dX7_neighbours_8 : decode cX7_neighbours 8 = .ok (.iconst 0, 1) := by decide +kernel
theorem dX7_neighbours_9 : decode cX7_neighbours 9 = .ok (.ireturn, 1) := by decide +kernel
theorem dX7_neighbours_10 : decode cX7_neighbours 10 = .ok (.iconst (-1), 1) := by decide +kernel
theorem dX7_neighbours_11 : decode cX7_neighbours 11 = .ok (.istore_n 2, 1) := by decide +kernel
theorem dX7_neighbours_12 : decode cX7_neighbours 12 = .ok (.iconst 0, 1) := by decide +kernel
theorem dX7_neighbours_13 : decode cX7_neighbours 13 = .ok (.istore_n 3, 1) := by decide +kernel
theorem dX7_neighbours_14 : decode cX7_neighbours 14 = .ok (.iload_n 3, 1) := by decide +kernel
theorem dX7_neighbours_15 : decode cX7_neighbours 15 = .ok (.aload_n 0, 1) := by decide +kernel
theorem dX7_neighbours_16 : decode cX7_neighbours 16 = .ok (.getfield 9, 3) := by decide +kernel
theorem dX7_neighbours_19 : decode cX7_neighbours 19 = .ok (.iconst 4, 1) := by decide +kernel
theorem dX7_neighbours_20 : decode cX7_neighbours 20 = .ok (.iaload, 1) := by decide +kernel
theorem dX7_neighbours_21 : decode cX7_neighbours 21 = .ok (.if_icmp .ge 27, 3) := by decide +kernel
theorem dX7_neighbours_24 : decode cX7_neighbours 24 = .ok (.aload_n 0, 1) := by decide +kernel
theorem dX7_neighbours_25 : decode cX7_neighbours 25 = .ok (.iload_n 3, 1) := by decide +kernel
theorem dX7_neighbours_26 : decode cX7_neighbours 26 = .ok (.iconst 0, 1) := by decide +kernel
theorem dX7_neighbours_27 : decode cX7_neighbours 27 = .ok (.invokevirtual 92, 3) := by decide +kernel
theorem dX7_neighbours_30 : decode cX7_neighbours 30 = .ok (.aload_n 0, 1) := by decide +kernel
theorem dX7_neighbours_31 : decode cX7_neighbours 31 = .ok (.iload_n 1, 1) := by decide +kernel
theorem dX7_neighbours_32 : decode cX7_neighbours 32 = .ok (.iconst 0, 1) := by decide +kernel
theorem dX7_neighbours_33 : decode cX7_neighbours 33 = .ok (.invokevirtual 92, 3) := by decide +kernel
theorem dX7_neighbours_36 : decode cX7_neighbours 36 = .ok (.if_icmp .ne 6, 3) := by decide +kernel
theorem dX7_neighbours_39 : decode cX7_neighbours 39 = .ok (.iinc 2 1, 3) := by decide +kernel
theorem dX7_neighbours_42 : decode cX7_neighbours 42 = .ok (.iinc 3 1, 3) := by decide +kernel
theorem dX7_neighbours_45 : decode cX7_neighbours 45 = .ok (.goto (-31), 3) := by decide +kernel
theorem dX7_neighbours_48 : decode cX7_neighbours 48 = .ok (.iload_n 2, 1) := by decide +kernel
theorem dX7_neighbours_49 : decode cX7_neighbours 49 = .ok (.ireturn, 1) := by decide +kernel
theorem dX7_nameByte_0 : decode cX7_nameByte 0 = .ok (.aload_n 0, 1) := by decide +kernel
theorem dX7_nameByte_1 : decode cX7_nameByte 1 = .ok (.iload_n 1, 1) := by decide +kernel
theorem dX7_nameByte_2 : decode cX7_nameByte 2 = .ok (.invokevirtual 303, 3) := by decide +kernel
theorem dX7_nameByte_5 : decode cX7_nameByte 5 = .ok (.ifCond .eq 5, 3) := by decide +kernel
theorem dX7_nameByte_8 : decode cX7_nameByte 8 = .ok (.iconst 0, 1) := by decide +kernel
theorem dX7_nameByte_9 : decode cX7_nameByte 9 = .ok (.ireturn, 1) := by decide +kernel
theorem dX7_nameByte_10 : decode cX7_nameByte 10 = .ok (.iload_n 2, 1) := by decide +kernel
theorem dX7_nameByte_11 : decode cX7_nameByte 11 = .ok (.iconst 0, 1) := by decide +kernel
theorem dX7_nameByte_12 : decode cX7_nameByte 12 = .ok (.aload_n 0, 1) := by decide +kernel
theorem dX7_nameByte_13 : decode cX7_nameByte 13 = .ok (.iload_n 1, 1) := by decide +kernel
theorem dX7_nameByte_14 : decode cX7_nameByte 14 = .ok (.iconst 5, 1) := by decide +kernel
theorem dX7_nameByte_15 : decode cX7_nameByte 15 = .ok (.invokevirtual 92, 3) := by decide +kernel
theorem dX7_nameByte_18 : decode cX7_nameByte 18 = .ok (.iconst 1, 1) := by decide +kernel
theorem dX7_nameByte_19 : decode cX7_nameByte 19 = .ok (.isub, 1) := by decide +kernel
theorem dX7_nameByte_20 : decode cX7_nameByte 20 = .ok (.invokestatic 80, 3) := by decide +kernel
theorem dX7_nameByte_23 : decode cX7_nameByte 23 = .ok (.ifCond .eq 15, 3) := by decide +kernel
theorem dX7_nameByte_26 : decode cX7_nameByte 26 = .ok (.aload_n 0, 1) := by decide +kernel
theorem dX7_nameByte_27 : decode cX7_nameByte 27 = .ok (.iload_n 1, 1) := by decide +kernel
theorem dX7_nameByte_28 : decode cX7_nameByte 28 = .ok (.bipush 6, 2) := by decide +kernel
theorem dX7_nameByte_30 : decode cX7_nameByte 30 = .ok (.iload_n 2, 1) := by decide +kernel
theorem dX7_nameByte_31 : decode cX7_nameByte 31 = .ok (.iadd, 1) := by decide +kernel
theorem dX7_nameByte_32 : decode cX7_nameByte 32 = .ok (.invokevirtual 92, 3) := by decide +kernel
theorem dX7_nameByte_35 : decode cX7_nameByte 35 = .ok (.goto 4, 3) := by decide +kernel
theorem dX7_nameByte_38 : decode cX7_nameByte 38 = .ok (.iconst (-1), 1) := by decide +kernel
theorem dX7_nameByte_39 : decode cX7_nameByte 39 = .ok (.ireturn, 1) := by decide +kernel
theorem dX7_whoAnswers_0 : decode cX7_whoAnswers 0 = .ok (.aload_n 0, 1) := by decide +kernel
theorem dX7_whoAnswers_1 : decode cX7_whoAnswers 1 = .ok (.aload_n 0, 1) := by decide +kernel
theorem dX7_whoAnswers_2 : decode cX7_whoAnswers 2 = .ok (.iload_n 1, 1) := by decide +kernel
theorem dX7_whoAnswers_3 : decode cX7_whoAnswers 3 = .ok (.invokevirtual 300, 3) := by decide +kernel
theorem dX7_whoAnswers_6 : decode cX7_whoAnswers 6 = .ok (.iconst 0, 1) := by decide +kernel
theorem dX7_whoAnswers_7 : decode cX7_whoAnswers 7 = .ok (.iconst 0, 1) := by decide +kernel
theorem dX7_whoAnswers_8 : decode cX7_whoAnswers 8 = .ok (.invokevirtual 154, 3) := by decide +kernel
theorem dX7_whoAnswers_11 : decode cX7_whoAnswers 11 = .ok (.ifCond .eq 5, 3) := by decide +kernel
theorem dX7_whoAnswers_14 : decode cX7_whoAnswers 14 = .ok (.iconst 0, 1) := by decide +kernel
theorem dX7_whoAnswers_15 : decode cX7_whoAnswers 15 = .ok (.ireturn, 1) := by decide +kernel
theorem dX7_whoAnswers_16 : decode cX7_whoAnswers 16 = .ok (.iconst 0, 1) := by decide +kernel
theorem dX7_whoAnswers_17 : decode cX7_whoAnswers 17 = .ok (.istore_n 3, 1) := by decide +kernel
theorem dX7_whoAnswers_18 : decode cX7_whoAnswers 18 = .ok (.iload_n 3, 1) := by decide +kernel
theorem dX7_whoAnswers_19 : decode cX7_whoAnswers 19 = .ok (.aload_n 0, 1) := by decide +kernel
theorem dX7_whoAnswers_20 : decode cX7_whoAnswers 20 = .ok (.getfield 9, 3) := by decide +kernel
theorem dX7_whoAnswers_23 : decode cX7_whoAnswers 23 = .ok (.iconst 4, 1) := by decide +kernel
theorem dX7_whoAnswers_24 : decode cX7_whoAnswers 24 = .ok (.iaload, 1) := by decide +kernel
theorem dX7_whoAnswers_25 : decode cX7_whoAnswers 25 = .ok (.if_icmp .ge 31, 3) := by decide +kernel
theorem dX7_whoAnswers_28 : decode cX7_whoAnswers 28 = .ok (.aload_n 0, 1) := by decide +kernel
theorem dX7_whoAnswers_29 : decode cX7_whoAnswers 29 = .ok (.iload_n 3, 1) := by decide +kernel
theorem dX7_whoAnswers_30 : decode cX7_whoAnswers 30 = .ok (.iconst 0, 1) := by decide +kernel
theorem dX7_whoAnswers_31 : decode cX7_whoAnswers 31 = .ok (.invokevirtual 92, 3) := by decide +kernel
theorem dX7_whoAnswers_34 : decode cX7_whoAnswers 34 = .ok (.iload_n 1, 1) := by decide +kernel
theorem dX7_whoAnswers_35 : decode cX7_whoAnswers 35 = .ok (.if_icmp .ne 15, 3) := by decide +kernel
theorem dX7_whoAnswers_38 : decode cX7_whoAnswers 38 = .ok (.aload_n 0, 1) := by decide +kernel
theorem dX7_whoAnswers_39 : decode cX7_whoAnswers 39 = .ok (.iload_n 3, 1) := by decide +kernel
theorem dX7_whoAnswers_40 : decode cX7_whoAnswers 40 = .ok (.iconst 1, 1) := by decide +kernel
theorem dX7_whoAnswers_41 : decode cX7_whoAnswers 41 = .ok (.invokevirtual 92, 3) := by decide +kernel
theorem dX7_whoAnswers_44 : decode cX7_whoAnswers 44 = .ok (.iload_n 2, 1) := by decide +kernel
theorem dX7_whoAnswers_45 : decode cX7_whoAnswers 45 = .ok (.if_icmp .ne 5, 3) := by decide +kernel
theorem dX7_whoAnswers_48 : decode cX7_whoAnswers 48 = .ok (.iload_n 3, 1) := by decide +kernel
theorem dX7_whoAnswers_49 : decode cX7_whoAnswers 49 = .ok (.ireturn, 1) := by decide +kernel
theorem dX7_whoAnswers_50 : decode cX7_whoAnswers 50 = .ok (.iinc 3 1, 3) := by decide +kernel
theorem dX7_whoAnswers_53 : decode cX7_whoAnswers 53 = .ok (.goto (-35), 3) := by decide +kernel
theorem dX7_whoAnswers_56 : decode cX7_whoAnswers 56 = .ok (.iconst (-1), 1) := by decide +kernel
theorem dX7_whoAnswers_57 : decode cX7_whoAnswers 57 = .ok (.ireturn, 1) := by decide +kernel
theorem dX7_knowers_0 : decode cX7_knowers 0 = .ok (.aload_n 0, 1) := by decide +kernel
theorem dX7_knowers_1 : decode cX7_knowers 1 = .ok (.iload_n 1, 1) := by decide +kernel
theorem dX7_knowers_2 : decode cX7_knowers 2 = .ok (.invokevirtual 303, 3) := by decide +kernel
theorem dX7_knowers_5 : decode cX7_knowers 5 = .ok (.ifCond .eq 5, 3) := by decide +kernel
theorem dX7_knowers_8 : decode cX7_knowers 8 = .ok (.iconst 0, 1) := by decide +kernel
theorem dX7_knowers_9 : decode cX7_knowers 9 = .ok (.ireturn, 1) := by decide +kernel
theorem dX7_knowers_10 : decode cX7_knowers 10 = .ok (.iconst 0, 1) := by decide +kernel
theorem dX7_knowers_11 : decode cX7_knowers 11 = .ok (.istore_n 2, 1) := by decide +kernel
theorem dX7_knowers_12 : decode cX7_knowers 12 = .ok (.iconst 0, 1) := by decide +kernel
theorem dX7_knowers_13 : decode cX7_knowers 13 = .ok (.istore_n 3, 1) := by decide +kernel
theorem dX7_knowers_14 : decode cX7_knowers 14 = .ok (.iload_n 3, 1) := by decide +kernel
theorem dX7_knowers_15 : decode cX7_knowers 15 = .ok (.aload_n 0, 1) := by decide +kernel
theorem dX7_knowers_16 : decode cX7_knowers 16 = .ok (.getfield 9, 3) := by decide +kernel
theorem dX7_knowers_19 : decode cX7_knowers 19 = .ok (.iconst 4, 1) := by decide +kernel
theorem dX7_knowers_20 : decode cX7_knowers 20 = .ok (.iaload, 1) := by decide +kernel
theorem dX7_knowers_21 : decode cX7_knowers 21 = .ok (.if_icmp .ge 22, 3) := by decide +kernel
theorem dX7_knowers_24 : decode cX7_knowers 24 = .ok (.iload_n 2, 1) := by decide +kernel
theorem dX7_knowers_25 : decode cX7_knowers 25 = .ok (.aload_n 0, 1) := by decide +kernel
theorem dX7_knowers_26 : decode cX7_knowers 26 = .ok (.iload_n 3, 1) := by decide +kernel
theorem dX7_knowers_27 : decode cX7_knowers 27 = .ok (.iconst 4, 1) := by decide +kernel
theorem dX7_knowers_28 : decode cX7_knowers 28 = .ok (.invokevirtual 92, 3) := by decide +kernel
theorem dX7_knowers_31 : decode cX7_knowers 31 = .ok (.iload_n 1, 1) := by decide +kernel
theorem dX7_knowers_32 : decode cX7_knowers 32 = .ok (.ishr, 1) := by decide +kernel
theorem dX7_knowers_33 : decode cX7_knowers 33 = .ok (.iconst 1, 1) := by decide +kernel
theorem dX7_knowers_34 : decode cX7_knowers 34 = .ok (.iand, 1) := by decide +kernel
theorem dX7_knowers_35 : decode cX7_knowers 35 = .ok (.iadd, 1) := by decide +kernel
theorem dX7_knowers_36 : decode cX7_knowers 36 = .ok (.istore_n 2, 1) := by decide +kernel
theorem dX7_knowers_37 : decode cX7_knowers 37 = .ok (.iinc 3 1, 3) := by decide +kernel
theorem dX7_knowers_40 : decode cX7_knowers 40 = .ok (.goto (-26), 3) := by decide +kernel
theorem dX7_knowers_43 : decode cX7_knowers 43 = .ok (.iload_n 2, 1) := by decide +kernel
theorem dX7_knowers_44 : decode cX7_knowers 44 = .ok (.ireturn, 1) := by decide +kernel
theorem dX7_known_0 : decode cX7_known 0 = .ok (.aload_n 0, 1) := by decide +kernel
theorem dX7_known_1 : decode cX7_known 1 = .ok (.iload_n 1, 1) := by decide +kernel
theorem dX7_known_2 : decode cX7_known 2 = .ok (.iconst 4, 1) := by decide +kernel
theorem dX7_known_3 : decode cX7_known 3 = .ok (.invokevirtual 92, 3) := by decide +kernel
theorem dX7_known_6 : decode cX7_known 6 = .ok (.invokestatic 118, 3) := by decide +kernel
theorem dX7_known_9 : decode cX7_known 9 = .ok (.ireturn, 1) := by decide +kernel
theorem dX7_bestInformed_0 : decode cX7_bestInformed 0 = .ok (.aload_n 0, 1) := by decide +kernel
theorem dX7_bestInformed_1 : decode cX7_bestInformed 1 = .ok (.iconst 0, 1) := by decide +kernel
theorem dX7_bestInformed_2 : decode cX7_bestInformed 2 = .ok (.putfield 67, 3) := by decide +kernel
theorem dX7_bestInformed_5 : decode cX7_bestInformed 5 = .ok (.iconst 0, 1) := by decide +kernel
theorem dX7_bestInformed_6 : decode cX7_bestInformed 6 = .ok (.istore_n 1, 1) := by decide +kernel
theorem dX7_bestInformed_7 : decode cX7_bestInformed 7 = .ok (.iconst 1, 1) := by decide +kernel
theorem dX7_bestInformed_8 : decode cX7_bestInformed 8 = .ok (.istore_n 2, 1) := by decide +kernel
theorem dX7_bestInformed_9 : decode cX7_bestInformed 9 = .ok (.iload_n 2, 1) := by decide +kernel
theorem dX7_bestInformed_10 : decode cX7_bestInformed 10 = .ok (.aload_n 0, 1) := by decide +kernel
theorem dX7_bestInformed_11 : decode cX7_bestInformed 11 = .ok (.getfield 9, 3) := by decide +kernel
theorem dX7_bestInformed_14 : decode cX7_bestInformed 14 = .ok (.iconst 4, 1) := by decide +kernel
theorem dX7_bestInformed_15 : decode cX7_bestInformed 15 = .ok (.iaload, 1) := by decide +kernel
theorem dX7_bestInformed_16 : decode cX7_bestInformed 16 = .ok (.if_icmp .ge 24, 3) := by decide +kernel
theorem dX7_bestInformed_19 : decode cX7_bestInformed 19 = .ok (.aload_n 0, 1) := by decide +kernel
theorem dX7_bestInformed_20 : decode cX7_bestInformed 20 = .ok (.iload_n 2, 1) := by decide +kernel
theorem dX7_bestInformed_21 : decode cX7_bestInformed 21 = .ok (.invokevirtual 309, 3) := by decide +kernel
theorem dX7_bestInformed_24 : decode cX7_bestInformed 24 = .ok (.aload_n 0, 1) := by decide +kernel
theorem dX7_bestInformed_25 : decode cX7_bestInformed 25 = .ok (.iload_n 1, 1) := by decide +kernel
theorem dX7_bestInformed_26 : decode cX7_bestInformed 26 = .ok (.invokevirtual 309, 3) := by decide +kernel
theorem dX7_bestInformed_29 : decode cX7_bestInformed 29 = .ok (.if_icmp .le 5, 3) := by decide +kernel
theorem dX7_bestInformed_32 : decode cX7_bestInformed 32 = .ok (.iload_n 2, 1) := by decide +kernel
theorem dX7_bestInformed_33 : decode cX7_bestInformed 33 = .ok (.istore_n 1, 1) := by decide +kernel
theorem dX7_bestInformed_34 : decode cX7_bestInformed 34 = .ok (.iinc 2 1, 3) := by decide +kernel
theorem dX7_bestInformed_37 : decode cX7_bestInformed 37 = .ok (.goto (-28), 3) := by decide +kernel
theorem dX7_bestInformed_40 : decode cX7_bestInformed 40 = .ok (.iload_n 1, 1) := by decide +kernel
theorem dX7_bestInformed_41 : decode cX7_bestInformed 41 = .ok (.ireturn, 1) := by decide +kernel
theorem dX7_isBadCall_0 : decode cX7_isBadCall 0 = .ok (.aload_n 0, 1) := by decide +kernel
theorem dX7_isBadCall_1 : decode cX7_isBadCall 1 = .ok (.aload_n 0, 1) := by decide +kernel
theorem dX7_isBadCall_2 : decode cX7_isBadCall 2 = .ok (.iload_n 1, 1) := by decide +kernel
theorem dX7_isBadCall_3 : decode cX7_isBadCall 3 = .ok (.invokevirtual 294, 3) := by decide +kernel
theorem dX7_isBadCall_6 : decode cX7_isBadCall 6 = .ok (.iconst 0, 1) := by decide +kernel
theorem dX7_isBadCall_7 : decode cX7_isBadCall 7 = .ok (.iconst 0, 1) := by decide +kernel
theorem dX7_isBadCall_8 : decode cX7_isBadCall 8 = .ok (.invokevirtual 154, 3) := by decide +kernel
theorem dX7_isBadCall_11 : decode cX7_isBadCall 11 = .ok (.ireturn, 1) := by decide +kernel
theorem dX7_toldCall_0 : decode cX7_toldCall 0 = .ok (.aload_n 0, 1) := by decide +kernel
theorem dX7_toldCall_1 : decode cX7_toldCall 1 = .ok (.iload_n 1, 1) := by decide +kernel
theorem dX7_toldCall_2 : decode cX7_toldCall 2 = .ok (.invokevirtual 312, 3) := by decide +kernel
theorem dX7_toldCall_5 : decode cX7_toldCall 5 = .ok (.ifCond .eq 7, 3) := by decide +kernel
theorem dX7_toldCall_8 : decode cX7_toldCall 8 = .ok (.iconst 0, 1) := by decide +kernel
theorem dX7_toldCall_9 : decode cX7_toldCall 9 = .ok (.goto 9, 3) := by decide +kernel
theorem dX7_toldCall_12 : decode cX7_toldCall 12 = .ok (.aload_n 0, 1) := by decide +kernel
theorem dX7_toldCall_13 : decode cX7_toldCall 13 = .ok (.iload_n 1, 1) := by decide +kernel
theorem dX7_toldCall_14 : decode cX7_toldCall 14 = .ok (.iload_n 2, 1) := by decide +kernel
theorem dX7_toldCall_15 : decode cX7_toldCall 15 = .ok (.invokevirtual 88, 3) := by decide +kernel
theorem dX7_toldCall_18 : decode cX7_toldCall 18 = .ok (.ireturn, 1) := by decide +kernel
theorem dX7_callState_0 : decode cX7_callState 0 = .ok (.aload_n 0, 1) := by decide +kernel
theorem dX7_callState_1 : decode cX7_callState 1 = .ok (.iload_n 1, 1) := by decide +kernel
theorem dX7_callState_2 : decode cX7_callState 2 = .ok (.iconst 4, 1) := by decide +kernel
theorem dX7_callState_3 : decode cX7_callState 3 = .ok (.invokevirtual 315, 3) := by decide +kernel
theorem dX7_callState_6 : decode cX7_callState 6 = .ok (.ireturn, 1) := by decide +kernel
theorem dX7_callerOf_0 : decode cX7_callerOf 0 = .ok (.aload_n 0, 1) := by decide +kernel
theorem dX7_callerOf_1 : decode cX7_callerOf 1 = .ok (.iload_n 1, 1) := by decide +kernel
theorem dX7_callerOf_2 : decode cX7_callerOf 2 = .ok (.iconst 0, 1) := by decide +kernel
theorem dX7_callerOf_3 : decode cX7_callerOf 3 = .ok (.invokevirtual 315, 3) := by decide +kernel
theorem dX7_callerOf_6 : decode cX7_callerOf 6 = .ok (.ireturn, 1) := by decide +kernel
theorem dX7_calledSubscriber_0 : decode cX7_calledSubscriber 0 = .ok (.aload_n 0, 1) := by decide +kernel
theorem dX7_calledSubscriber_1 : decode cX7_calledSubscriber 1 = .ok (.iload_n 1, 1) := by decide +kernel
theorem dX7_calledSubscriber_2 : decode cX7_calledSubscriber 2 = .ok (.iconst 1, 1) := by decide +kernel
theorem dX7_calledSubscriber_3 : decode cX7_calledSubscriber 3 = .ok (.invokevirtual 315, 3) := by decide +kernel
theorem dX7_calledSubscriber_6 : decode cX7_calledSubscriber 6 = .ok (.ireturn, 1) := by decide +kernel
theorem dX7_calledTrunk_0 : decode cX7_calledTrunk 0 = .ok (.aload_n 0, 1) := by decide +kernel
theorem dX7_calledTrunk_1 : decode cX7_calledTrunk 1 = .ok (.iload_n 1, 1) := by decide +kernel
theorem dX7_calledTrunk_2 : decode cX7_calledTrunk 2 = .ok (.iconst 2, 1) := by decide +kernel
theorem dX7_calledTrunk_3 : decode cX7_calledTrunk 3 = .ok (.invokevirtual 315, 3) := by decide +kernel
theorem dX7_calledTrunk_6 : decode cX7_calledTrunk 6 = .ok (.ireturn, 1) := by decide +kernel
theorem dX7_startTime_0 : decode cX7_startTime 0 = .ok (.aload_n 0, 1) := by decide +kernel
theorem dX7_startTime_1 : decode cX7_startTime 1 = .ok (.iload_n 1, 1) := by decide +kernel
theorem dX7_startTime_2 : decode cX7_startTime 2 = .ok (.iconst 5, 1) := by decide +kernel
theorem dX7_startTime_3 : decode cX7_startTime 3 = .ok (.invokevirtual 315, 3) := by decide +kernel
theorem dX7_startTime_6 : decode cX7_startTime 6 = .ok (.ireturn, 1) := by decide +kernel
theorem dX7_endTime_0 : decode cX7_endTime 0 = .ok (.aload_n 0, 1) := by decide +kernel
theorem dX7_endTime_1 : decode cX7_endTime 1 = .ok (.iload_n 1, 1) := by decide +kernel
theorem dX7_endTime_2 : decode cX7_endTime 2 = .ok (.bipush 6, 2) := by decide +kernel
theorem dX7_endTime_4 : decode cX7_endTime 4 = .ok (.invokevirtual 315, 3) := by decide +kernel
theorem dX7_endTime_7 : decode cX7_endTime 7 = .ok (.ireturn, 1) := by decide +kernel
theorem dX7_listeners_0 : decode cX7_listeners 0 = .ok (.aload_n 0, 1) := by decide +kernel
theorem dX7_listeners_1 : decode cX7_listeners 1 = .ok (.iload_n 1, 1) := by decide +kernel
theorem dX7_listeners_2 : decode cX7_listeners 2 = .ok (.bipush 7, 2) := by decide +kernel
theorem dX7_listeners_4 : decode cX7_listeners 4 = .ok (.invokevirtual 315, 3) := by decide +kernel
theorem dX7_listeners_7 : decode cX7_listeners 7 = .ok (.ireturn, 1) := by decide +kernel
theorem dX7_volume_0 : decode cX7_volume 0 = .ok (.aload_n 0, 1) := by decide +kernel
theorem dX7_volume_1 : decode cX7_volume 1 = .ok (.iload_n 1, 1) := by decide +kernel
theorem dX7_volume_2 : decode cX7_volume 2 = .ok (.bipush 8, 2) := by decide +kernel
theorem dX7_volume_4 : decode cX7_volume 4 = .ok (.invokevirtual 315, 3) := by decide +kernel
theorem dX7_volume_7 : decode cX7_volume 7 = .ok (.ireturn, 1) := by decide +kernel
theorem dX7_charge_0 : decode cX7_charge 0 = .ok (.aload_n 0, 1) := by decide +kernel
theorem dX7_charge_1 : decode cX7_charge 1 = .ok (.iload_n 1, 1) := by decide +kernel
theorem dX7_charge_2 : decode cX7_charge 2 = .ok (.invokevirtual 312, 3) := by decide +kernel
theorem dX7_charge_5 : decode cX7_charge 5 = .ok (.ifCond .eq 7, 3) := by decide +kernel
theorem dX7_charge_8 : decode cX7_charge 8 = .ok (.iconst 0, 1) := by decide +kernel
theorem dX7_charge_9 : decode cX7_charge 9 = .ok (.goto 8, 3) := by decide +kernel
theorem dX7_charge_12 : decode cX7_charge 12 = .ok (.aload_n 0, 1) := by decide +kernel
theorem dX7_charge_13 : decode cX7_charge 13 = .ok (.iload_n 1, 1) := by decide +kernel
theorem dX7_charge_14 : decode cX7_charge 14 = .ok (.invokevirtual 142, 3) := by decide +kernel
theorem dX7_charge_17 : decode cX7_charge 17 = .ok (.ireturn, 1) := by decide +kernel
theorem dX7_isWaiting_0 : decode cX7_isWaiting 0 = .ok (.aload_n 0, 1) := by decide +kernel
theorem dX7_isWaiting_1 : decode cX7_isWaiting 1 = .ok (.iload_n 1, 1) := by decide +kernel
theorem dX7_isWaiting_2 : decode cX7_isWaiting 2 = .ok (.iconst 4, 1) := by decide +kernel
theorem dX7_isWaiting_3 : decode cX7_isWaiting 3 = .ok (.invokevirtual 88, 3) := by decide +kernel
theorem dX7_isWaiting_6 : decode cX7_isWaiting 6 = .ok (.ifCond .ne 7, 3) := by decide +kernel
theorem dX7_isWaiting_9 : decode cX7_isWaiting 9 = .ok (.iconst 1, 1) := by decide +kernel
theorem dX7_isWaiting_10 : decode cX7_isWaiting 10 = .ok (.goto 4, 3) := by decide +kernel
theorem dX7_isWaiting_13 : decode cX7_isWaiting 13 = .ok (.iconst 0, 1) := by decide +kernel
theorem dX7_isWaiting_14 : decode cX7_isWaiting 14 = .ok (.ireturn, 1) := by decide +kernel
theorem dX7_obstacle_0 : decode cX7_obstacle 0 = .ok (.aload_n 0, 1) := by decide +kernel
theorem dX7_obstacle_1 : decode cX7_obstacle 1 = .ok (.iload_n 1, 1) := by decide +kernel
theorem dX7_obstacle_2 : decode cX7_obstacle 2 = .ok (.invokevirtual 312, 3) := by decide +kernel
theorem dX7_obstacle_5 : decode cX7_obstacle 5 = .ok (.ifCond .ne 11, 3) := by decide +kernel
theorem dX7_obstacle_8 : decode cX7_obstacle 8 = .ok (.aload_n 0, 1) := by decide +kernel
theorem dX7_obstacle_9 : decode cX7_obstacle 9 = .ok (.iload_n 1, 1) := by decide +kernel
theorem dX7_obstacle_10 : decode cX7_obstacle 10 = .ok (.invokevirtual 318, 3) := by decide +kernel
theorem dX7_obstacle_13 : decode cX7_obstacle 13 = .ok (.ifCond .ne 7, 3) := by decide +kernel
theorem dX7_obstacle_16 : decode cX7_obstacle 16 = .ok (.iconst 0, 1) := by decide +kernel
theorem dX7_obstacle_17 : decode cX7_obstacle 17 = .ok (.goto 8, 3) := by decide +kernel
theorem dX7_obstacle_20 : decode cX7_obstacle 20 = .ok (.aload_n 0, 1) := by decide +kernel
theorem dX7_obstacle_21 : decode cX7_obstacle 21 = .ok (.iload_n 1, 1) := by decide +kernel
theorem dX7_obstacle_22 : decode cX7_obstacle 22 = .ok (.invokevirtual 130, 3) := by decide +kernel
theorem dX7_obstacle_25 : decode cX7_obstacle 25 = .ok (.ireturn, 1) := by decide +kernel
theorem dX7_queuePlace_0 : decode cX7_queuePlace 0 = .ok (.aload_n 0, 1) := by decide +kernel
theorem dX7_queuePlace_1 : decode cX7_queuePlace 1 = .ok (.iload_n 1, 1) := by decide +kernel
theorem dX7_queuePlace_2 : decode cX7_queuePlace 2 = .ok (.invokevirtual 312, 3) := by decide +kernel
theorem dX7_queuePlace_5 : decode cX7_queuePlace 5 = .ok (.ifCond .eq 5, 3) := by decide +kernel
theorem dX7_queuePlace_8 : decode cX7_queuePlace 8 = .ok (.iconst 0, 1) := by decide +kernel
theorem dX7_queuePlace_9 : decode cX7_queuePlace 9 = .ok (.ireturn, 1) := by decide +kernel
theorem dX7_queuePlace_10 : decode cX7_queuePlace 10 = .ok (.aload_n 0, 1) := by decide +kernel
theorem dX7_queuePlace_11 : decode cX7_queuePlace 11 = .ok (.iload_n 1, 1) := by decide +kernel
theorem dX7_queuePlace_12 : decode cX7_queuePlace 12 = .ok (.invokevirtual 318, 3) := by decide +kernel
theorem dX7_queuePlace_15 : decode cX7_queuePlace 15 = .ok (.ifCond .ne 5, 3) := by decide +kernel
theorem dX7_queuePlace_18 : decode cX7_queuePlace 18 = .ok (.iconst (-1), 1) := by decide +kernel
theorem dX7_queuePlace_19 : decode cX7_queuePlace 19 = .ok (.ireturn, 1) := by decide +kernel
theorem dX7_queuePlace_20 : decode cX7_queuePlace 20 = .ok (.iconst 0, 1) := by decide +kernel
theorem dX7_queuePlace_21 : decode cX7_queuePlace 21 = .ok (.istore_n 2, 1) := by decide +kernel
theorem dX7_queuePlace_22 : decode cX7_queuePlace 22 = .ok (.aload_n 0, 1) := by decide +kernel
theorem dX7_queuePlace_23 : decode cX7_queuePlace 23 = .ok (.iload_n 1, 1) := by decide +kernel
theorem dX7_queuePlace_24 : decode cX7_queuePlace 24 = .ok (.iconst 3, 1) := by decide +kernel
theorem dX7_queuePlace_25 : decode cX7_queuePlace 25 = .ok (.invokevirtual 88, 3) := by decide +kernel
theorem dX7_queuePlace_28 : decode cX7_queuePlace 28 = .ok (.istore_n 3, 1) := by decide +kernel
theorem dX7_queuePlace_29 : decode cX7_queuePlace 29 = .ok (.iconst 0, 1) := by decide +kernel
theorem dX7_queuePlace_30 : decode cX7_queuePlace 30 = .ok (.istore 4, 2) := by decide +kernel
theorem dX7_queuePlace_32 : decode cX7_queuePlace 32 = .ok (.iload 4, 2) := by decide +kernel
theorem dX7_queuePlace_34 : decode cX7_queuePlace 34 = .ok (.aload_n 0, 1) := by decide +kernel
theorem dX7_queuePlace_35 : decode cX7_queuePlace 35 = .ok (.getfield 9, 3) := by decide +kernel
theorem dX7_queuePlace_38 : decode cX7_queuePlace 38 = .ok (.iconst 5, 1) := by decide +kernel
theorem dX7_queuePlace_39 : decode cX7_queuePlace 39 = .ok (.iaload, 1) := by decide +kernel
theorem dX7_queuePlace_40 : decode cX7_queuePlace 40 = .ok (.if_icmp .ge 49, 3) := by decide +kernel
theorem dX7_queuePlace_43 : decode cX7_queuePlace 43 = .ok (.aload_n 0, 1) := by decide +kernel
theorem dX7_queuePlace_44 : decode cX7_queuePlace 44 = .ok (.iload 4, 2) := by decide +kernel
theorem dX7_queuePlace_46 : decode cX7_queuePlace 46 = .ok (.invokevirtual 318, 3) := by decide +kernel
theorem dX7_queuePlace_49 : decode cX7_queuePlace 49 = .ok (.ifCond .eq 34, 3) := by decide +kernel
theorem dX7_queuePlace_52 : decode cX7_queuePlace 52 = .ok (.aload_n 0, 1) := by decide +kernel
theorem dX7_queuePlace_53 : decode cX7_queuePlace 53 = .ok (.iload 4, 2) := by decide +kernel
theorem dX7_queuePlace_55 : decode cX7_queuePlace 55 = .ok (.iconst 3, 1) := by decide +kernel
theorem dX7_queuePlace_56 : decode cX7_queuePlace 56 = .ok (.invokevirtual 88, 3) := by decide +kernel
theorem dX7_queuePlace_59 : decode cX7_queuePlace 59 = .ok (.iload_n 3, 1) := by decide +kernel
theorem dX7_queuePlace_60 : decode cX7_queuePlace 60 = .ok (.if_icmp .gt 20, 3) := by decide +kernel
theorem dX7_queuePlace_63 : decode cX7_queuePlace 63 = .ok (.aload_n 0, 1) := by decide +kernel
theorem dX7_queuePlace_64 : decode cX7_queuePlace 64 = .ok (.iload 4, 2) := by decide +kernel
theorem dX7_queuePlace_66 : decode cX7_queuePlace 66 = .ok (.iconst 3, 1) := by decide +kernel
theorem dX7_queuePlace_67 : decode cX7_queuePlace 67 = .ok (.invokevirtual 88, 3) := by decide +kernel
theorem dX7_queuePlace_70 : decode cX7_queuePlace 70 = .ok (.iload_n 3, 1) := by decide +kernel
theorem dX7_queuePlace_71 : decode cX7_queuePlace 71 = .ok (.if_icmp .ne 12, 3) := by decide +kernel
theorem dX7_queuePlace_74 : decode cX7_queuePlace 74 = .ok (.iload 4, 2) := by decide +kernel
theorem dX7_queuePlace_76 : decode cX7_queuePlace 76 = .ok (.iload_n 1, 1) := by decide +kernel
theorem dX7_queuePlace_77 : decode cX7_queuePlace 77 = .ok (.if_icmp .ge 6, 3) := by decide +kernel
theorem dX7_queuePlace_80 : decode cX7_queuePlace 80 = .ok (.iinc 2 1, 3) := by decide +kernel
theorem dX7_queuePlace_83 : decode cX7_queuePlace 83 = .ok (.iinc 4 1, 3) := by decide +kernel
theorem dX7_queuePlace_86 : decode cX7_queuePlace 86 = .ok (.goto (-54), 3) := by decide +kernel
theorem dX7_queuePlace_89 : decode cX7_queuePlace 89 = .ok (.iload_n 2, 1) := by decide +kernel
theorem dX7_queuePlace_90 : decode cX7_queuePlace 90 = .ok (.ireturn, 1) := by decide +kernel
theorem dX7_isUrgent_0 : decode cX7_isUrgent 0 = .ok (.aload_n 0, 1) := by decide +kernel
theorem dX7_isUrgent_1 : decode cX7_isUrgent 1 = .ok (.iload_n 1, 1) := by decide +kernel
theorem dX7_isUrgent_2 : decode cX7_isUrgent 2 = .ok (.iconst 3, 1) := by decide +kernel
theorem dX7_isUrgent_3 : decode cX7_isUrgent 3 = .ok (.invokevirtual 315, 3) := by decide +kernel
theorem dX7_isUrgent_6 : decode cX7_isUrgent 6 = .ok (.iconst 1, 1) := by decide +kernel
theorem dX7_isUrgent_7 : decode cX7_isUrgent 7 = .ok (.if_icmp .ne 7, 3) := by decide +kernel
theorem dX7_isUrgent_10 : decode cX7_isUrgent 10 = .ok (.iconst 1, 1) := by decide +kernel
theorem dX7_isUrgent_11 : decode cX7_isUrgent 11 = .ok (.goto 4, 3) := by decide +kernel
theorem dX7_isUrgent_14 : decode cX7_isUrgent 14 = .ok (.iconst 0, 1) := by decide +kernel
theorem dX7_isUrgent_15 : decode cX7_isUrgent 15 = .ok (.ireturn, 1) := by decide +kernel
theorem dX7_listenersBetween_0 : decode cX7_listenersBetween 0 = .ok (.aload_n 0, 1) := by decide +kernel
theorem dX7_listenersBetween_1 : decode cX7_listenersBetween 1 = .ok (.aload_n 0, 1) := by decide +kernel
theorem dX7_listenersBetween_2 : decode cX7_listenersBetween 2 = .ok (.iload_n 1, 1) := by decide +kernel
theorem dX7_listenersBetween_3 : decode cX7_listenersBetween 3 = .ok (.invokevirtual 288, 3) := by decide +kernel
theorem dX7_listenersBetween_6 : decode cX7_listenersBetween 6 = .ok (.ifCond .ne 11, 3) := by decide +kernel
theorem dX7_listenersBetween_9 : decode cX7_listenersBetween 9 = .ok (.aload_n 0, 1) := by decide +kernel
theorem dX7_listenersBetween_10 : decode cX7_listenersBetween 10 = .ok (.iload_n 2, 1) := by decide +kernel
theorem dX7_listenersBetween_11 : decode cX7_listenersBetween 11 = .ok (.invokevirtual 288, 3) := by decide +kernel
theorem dX7_listenersBetween_14 : decode cX7_listenersBetween 14 = .ok (.ifCond .eq 7, 3) := by decide +kernel
theorem dX7_listenersBetween_17 : decode cX7_listenersBetween 17 = .ok (.iconst 1, 1) := by decide +kernel
theorem dX7_listenersBetween_18 : decode cX7_listenersBetween 18 = .ok (.goto 4, 3) := by decide +kernel
theorem dX7_listenersBetween_21 : decode cX7_listenersBetween 21 = .ok (.iconst 0, 1) := by decide +kernel
theorem dX7_listenersBetween_22 : decode cX7_listenersBetween 22 = .ok (.iload_n 1, 1) := by decide +kernel
theorem dX7_listenersBetween_23 : decode cX7_listenersBetween 23 = .ok (.iload_n 2, 1) := by decide +kernel
theorem dX7_listenersBetween_24 : decode cX7_listenersBetween 24 = .ok (.if_icmp .ne 7, 3) := by decide +kernel
theorem dX7_listenersBetween_27 : decode cX7_listenersBetween 27 = .ok (.iconst 1, 1) := by decide +kernel
theorem dX7_listenersBetween_28 : decode cX7_listenersBetween 28 = .ok (.goto 4, 3) := by decide +kernel
theorem dX7_listenersBetween_31 : decode cX7_listenersBetween 31 = .ok (.iconst 0, 1) := by decide +kernel
theorem dX7_listenersBetween_32 : decode cX7_listenersBetween 32 = .ok (.iconst 0, 1) := by decide +kernel
theorem dX7_listenersBetween_33 : decode cX7_listenersBetween 33 = .ok (.invokevirtual 154, 3) := by decide +kernel
theorem dX7_listenersBetween_36 : decode cX7_listenersBetween 36 = .ok (.ifCond .eq 7, 3) := by decide +kernel
theorem dX7_listenersBetween_39 : decode cX7_listenersBetween 39 = .ok (.iconst 0, 1) := by decide +kernel
theorem dX7_listenersBetween_40 : decode cX7_listenersBetween 40 = .ok (.goto 9, 3) := by decide +kernel
theorem dX7_listenersBetween_43 : decode cX7_listenersBetween 43 = .ok (.aload_n 0, 1) := by decide +kernel
theorem dX7_listenersBetween_44 : decode cX7_listenersBetween 44 = .ok (.iload_n 1, 1) := by decide +kernel
theorem dX7_listenersBetween_45 : decode cX7_listenersBetween 45 = .ok (.iload_n 2, 1) := by decide +kernel
theorem dX7_listenersBetween_46 : decode cX7_listenersBetween 46 = .ok (.invokevirtual 115, 3) := by decide +kernel
theorem dX7_listenersBetween_49 : decode cX7_listenersBetween 49 = .ok (.ireturn, 1) := by decide +kernel
theorem dX7_startsIfEnded_0 : decode cX7_startsIfEnded 0 = .ok (.aload_n 0, 1) := by decide +kernel
theorem dX7_startsIfEnded_1 : decode cX7_startsIfEnded 1 = .ok (.iload_n 1, 1) := by decide +kernel
theorem dX7_startsIfEnded_2 : decode cX7_startsIfEnded 2 = .ok (.invokevirtual 312, 3) := by decide +kernel
theorem dX7_startsIfEnded_5 : decode cX7_startsIfEnded 5 = .ok (.ifCond .ne 11, 3) := by decide +kernel
theorem dX7_startsIfEnded_8 : decode cX7_startsIfEnded 8 = .ok (.aload_n 0, 1) := by decide +kernel
theorem dX7_startsIfEnded_9 : decode cX7_startsIfEnded 9 = .ok (.iload_n 1, 1) := by decide +kernel
theorem dX7_startsIfEnded_10 : decode cX7_startsIfEnded 10 = .ok (.invokevirtual 247, 3) := by decide +kernel
theorem dX7_startsIfEnded_13 : decode cX7_startsIfEnded 13 = .ok (.ifCond .eq 5, 3) := by decide +kernel
theorem dX7_startsIfEnded_16 : decode cX7_startsIfEnded 16 = .ok (.iconst 0, 1) := by decide +kernel
theorem dX7_startsIfEnded_17 : decode cX7_startsIfEnded 17 = .ok (.ireturn, 1) := by decide +kernel
theorem dX7_startsIfEnded_18 : decode cX7_startsIfEnded 18 = .ok (.aload_n 0, 1) := by decide +kernel
theorem dX7_startsIfEnded_19 : decode cX7_startsIfEnded 19 = .ok (.getfield 9, 3) := by decide +kernel
theorem dX7_startsIfEnded_22 : decode cX7_startsIfEnded 22 = .ok (.iconst 0, 1) := by decide +kernel
theorem dX7_startsIfEnded_23 : decode cX7_startsIfEnded 23 = .ok (.aload_n 0, 1) := by decide +kernel
theorem dX7_startsIfEnded_24 : decode cX7_startsIfEnded 24 = .ok (.getfield 13, 3) := by decide +kernel
theorem dX7_startsIfEnded_27 : decode cX7_startsIfEnded 27 = .ok (.iconst 0, 1) := by decide +kernel
theorem dX7_startsIfEnded_28 : decode cX7_startsIfEnded 28 = .ok (.invokestatic 76, 3) := by decide +kernel
theorem dX7_startsIfEnded_31 : decode cX7_startsIfEnded 31 = .ok (.aload_n 0, 1) := by decide +kernel
theorem dX7_startsIfEnded_32 : decode cX7_startsIfEnded 32 = .ok (.iload_n 1, 1) := by decide +kernel
theorem dX7_startsIfEnded_33 : decode cX7_startsIfEnded 33 = .ok (.invokevirtual 250, 3) := by decide +kernel
theorem dX7_startsIfEnded_36 : decode cX7_startsIfEnded 36 = .ok (.istore_n 2, 1) := by decide +kernel
theorem dX7_startsIfEnded_37 : decode cX7_startsIfEnded 37 = .ok (.aload_n 0, 1) := by decide +kernel
theorem dX7_startsIfEnded_38 : decode cX7_startsIfEnded 38 = .ok (.getfield 13, 3) := by decide +kernel
theorem dX7_startsIfEnded_41 : decode cX7_startsIfEnded 41 = .ok (.iconst 0, 1) := by decide +kernel
theorem dX7_startsIfEnded_42 : decode cX7_startsIfEnded 42 = .ok (.aload_n 0, 1) := by decide +kernel
theorem dX7_startsIfEnded_43 : decode cX7_startsIfEnded 43 = .ok (.getfield 9, 3) := by decide +kernel
theorem dX7_startsIfEnded_46 : decode cX7_startsIfEnded 46 = .ok (.iconst 0, 1) := by decide +kernel
theorem dX7_startsIfEnded_47 : decode cX7_startsIfEnded 47 = .ok (.invokestatic 76, 3) := by decide +kernel
theorem dX7_startsIfEnded_50 : decode cX7_startsIfEnded 50 = .ok (.iload_n 2, 1) := by decide +kernel
theorem dX7_startsIfEnded_51 : decode cX7_startsIfEnded 51 = .ok (.ireturn, 1) := by decide +kernel
theorem dX7_quietestCall_0 : decode cX7_quietestCall 0 = .ok (.aload_n 0, 1) := by decide +kernel
theorem dX7_quietestCall_1 : decode cX7_quietestCall 1 = .ok (.iload_n 1, 1) := by decide +kernel
theorem dX7_quietestCall_2 : decode cX7_quietestCall 2 = .ok (.invokevirtual 303, 3) := by decide +kernel
theorem dX7_quietestCall_5 : decode cX7_quietestCall 5 = .ok (.ifCond .eq 5, 3) := by decide +kernel
theorem dX7_quietestCall_8 : decode cX7_quietestCall 8 = .ok (.iconst 0, 1) := by decide +kernel
theorem dX7_quietestCall_9 : decode cX7_quietestCall 9 = .ok (.ireturn, 1) := by decide +kernel
theorem dX7_quietestCall_10 : decode cX7_quietestCall 10 = .ok (.iconst (-1), 1) := by decide +kernel
theorem dX7_quietestCall_11 : decode cX7_quietestCall 11 = .ok (.istore_n 2, 1) := by decide +kernel
theorem dX7_quietestCall_12 : decode cX7_quietestCall 12 = .ok (.iconst 0, 1) := by decide +kernel
theorem dX7_quietestCall_13 : decode cX7_quietestCall 13 = .ok (.istore_n 3, 1) := by decide +kernel
theorem dX7_quietestCall_14 : decode cX7_quietestCall 14 = .ok (.iconst 0, 1) := by decide +kernel
theorem dX7_quietestCall_15 : decode cX7_quietestCall 15 = .ok (.istore 4, 2) := by decide +kernel
theorem dX7_quietestCall_17 : decode cX7_quietestCall 17 = .ok (.iload 4, 2) := by decide +kernel
theorem dX7_quietestCall_19 : decode cX7_quietestCall 19 = .ok (.aload_n 0, 1) := by decide +kernel
theorem dX7_quietestCall_20 : decode cX7_quietestCall 20 = .ok (.getfield 9, 3) := by decide +kernel
theorem dX7_quietestCall_23 : decode cX7_quietestCall 23 = .ok (.iconst 4, 1) := by decide +kernel
theorem dX7_quietestCall_24 : decode cX7_quietestCall 24 = .ok (.iaload, 1) := by decide +kernel
theorem dX7_quietestCall_25 : decode cX7_quietestCall 25 = .ok (.if_icmp .ge 50, 3) := by decide +kernel
theorem dX7_quietestCall_28 : decode cX7_quietestCall 28 = .ok (.iload 4, 2) := by decide +kernel
theorem dX7_quietestCall_30 : decode cX7_quietestCall 30 = .ok (.iload_n 1, 1) := by decide +kernel
theorem dX7_quietestCall_31 : decode cX7_quietestCall 31 = .ok (.if_icmp .ne 6, 3) := by decide +kernel
theorem dX7_quietestCall_34 : decode cX7_quietestCall 34 = .ok (.goto 35, 3) := by decide +kernel
theorem dX7_quietestCall_37 : decode cX7_quietestCall 37 = .ok (.aload_n 0, 1) := by decide +kernel
theorem dX7_quietestCall_38 : decode cX7_quietestCall 38 = .ok (.iload_n 1, 1) := by decide +kernel
theorem dX7_quietestCall_39 : decode cX7_quietestCall 39 = .ok (.iload 4, 2) := by decide +kernel
theorem dX7_quietestCall_41 : decode cX7_quietestCall 41 = .ok (.invokevirtual 115, 3) := by decide +kernel
theorem dX7_quietestCall_44 : decode cX7_quietestCall 44 = .ok (.invokestatic 118, 3) := by decide +kernel
theorem dX7_quietestCall_47 : decode cX7_quietestCall 47 = .ok (.istore 5, 2) := by decide +kernel
theorem dX7_quietestCall_49 : decode cX7_quietestCall 49 = .ok (.iload_n 2, 1) := by decide +kernel
theorem dX7_quietestCall_50 : decode cX7_quietestCall 50 = .ok (.iconst (-1), 1) := by decide +kernel
theorem dX7_quietestCall_51 : decode cX7_quietestCall 51 = .ok (.if_icmp .eq 12, 3) := by decide +kernel
theorem dX7_quietestCall_54 : decode cX7_quietestCall 54 = .ok (.iload 5, 2) := by decide +kernel
theorem dX7_quietestCall_56 : decode cX7_quietestCall 56 = .ok (.iload_n 3, 1) := by decide +kernel
theorem dX7_quietestCall_57 : decode cX7_quietestCall 57 = .ok (.if_icmp .lt 6, 3) := by decide +kernel
theorem dX7_quietestCall_60 : decode cX7_quietestCall 60 = .ok (.goto 9, 3) := by decide +kernel
theorem dX7_quietestCall_63 : decode cX7_quietestCall 63 = .ok (.iload 4, 2) := by decide +kernel
theorem dX7_quietestCall_65 : decode cX7_quietestCall 65 = .ok (.istore_n 2, 1) := by decide +kernel
theorem dX7_quietestCall_66 : decode cX7_quietestCall 66 = .ok (.iload 5, 2) := by decide +kernel
theorem dX7_quietestCall_68 : decode cX7_quietestCall 68 = .ok (.istore_n 3, 1) := by decide +kernel
theorem dX7_quietestCall_69 : decode cX7_quietestCall 69 = .ok (.iinc 4 1, 3) := by decide +kernel
theorem dX7_quietestCall_72 : decode cX7_quietestCall 72 = .ok (.goto (-55), 3) := by decide +kernel
theorem dX7_quietestCall_75 : decode cX7_quietestCall 75 = .ok (.iload_n 2, 1) := by decide +kernel
theorem dX7_quietestCall_76 : decode cX7_quietestCall 76 = .ok (.ireturn, 1) := by decide +kernel
theorem dX7_inconsistencies_0 : decode cX7_inconsistencies 0 = .ok (.aload_n 0, 1) := by decide +kernel
theorem dX7_inconsistencies_1 : decode cX7_inconsistencies 1 = .ok (.iconst 0, 1) := by decide +kernel
theorem dX7_inconsistencies_2 : decode cX7_inconsistencies 2 = .ok (.putfield 67, 3) := by decide +kernel
theorem dX7_inconsistencies_5 : decode cX7_inconsistencies 5 = .ok (.iconst 0, 1) := by decide +kernel
theorem dX7_inconsistencies_6 : decode cX7_inconsistencies 6 = .ok (.istore_n 1, 1) := by decide +kernel
theorem dX7_inconsistencies_7 : decode cX7_inconsistencies 7 = .ok (.iconst 0, 1) := by decide +kernel
theorem dX7_inconsistencies_8 : decode cX7_inconsistencies 8 = .ok (.istore_n 2, 1) := by decide +kernel
theorem dX7_inconsistencies_9 : decode cX7_inconsistencies 9 = .ok (.iconst 0, 1) := by decide +kernel
theorem dX7_inconsistencies_10 : decode cX7_inconsistencies 10 = .ok (.istore_n 3, 1) := by decide +kernel
theorem dX7_inconsistencies_11 : decode cX7_inconsistencies 11 = .ok (.iload_n 3, 1) := by decide +kernel
theorem dX7_inconsistencies_12 : decode cX7_inconsistencies 12 = .ok (.aload_n 0, 1) := by decide +kernel
theorem dX7_inconsistencies_13 : decode cX7_inconsistencies 13 = .ok (.getfield 9, 3) := by decide +kernel
theorem dX7_inconsistencies_16 : decode cX7_inconsistencies 16 = .ok (.iconst 1, 1) := by decide +kernel
theorem dX7_inconsistencies_17 : decode cX7_inconsistencies 17 = .ok (.iaload, 1) := by decide +kernel
theorem dX7_inconsistencies_18 : decode cX7_inconsistencies 18 = .ok (.if_icmp .ge 21, 3) := by decide +kernel
theorem dX7_inconsistencies_21 : decode cX7_inconsistencies 21 = .ok (.aload_n 0, 1) := by decide +kernel
theorem dX7_inconsistencies_22 : decode cX7_inconsistencies 22 = .ok (.iload_n 3, 1) := by decide +kernel
theorem dX7_inconsistencies_23 : decode cX7_inconsistencies 23 = .ok (.invokevirtual 106, 3) := by decide +kernel
theorem dX7_inconsistencies_26 : decode cX7_inconsistencies 26 = .ok (.iconst 1, 1) := by decide +kernel
theorem dX7_inconsistencies_27 : decode cX7_inconsistencies 27 = .ok (.if_icmp .le 6, 3) := by decide +kernel
theorem dX7_inconsistencies_30 : decode cX7_inconsistencies 30 = .ok (.iinc 1 1, 3) := by decide +kernel
theorem dX7_inconsistencies_33 : decode cX7_inconsistencies 33 = .ok (.iinc 3 1, 3) := by decide +kernel
theorem dX7_inconsistencies_36 : decode cX7_inconsistencies 36 = .ok (.goto (-25), 3) := by decide +kernel
theorem dX7_inconsistencies_39 : decode cX7_inconsistencies 39 = .ok (.iconst 0, 1) := by decide +kernel
theorem dX7_inconsistencies_40 : decode cX7_inconsistencies 40 = .ok (.istore_n 3, 1) := by decide +kernel
theorem dX7_inconsistencies_41 : decode cX7_inconsistencies 41 = .ok (.iload_n 3, 1) := by decide +kernel
theorem dX7_inconsistencies_42 : decode cX7_inconsistencies 42 = .ok (.aload_n 0, 1) := by decide +kernel
theorem dX7_inconsistencies_43 : decode cX7_inconsistencies 43 = .ok (.getfield 9, 3) := by decide +kernel
theorem dX7_inconsistencies_46 : decode cX7_inconsistencies 46 = .ok (.iconst 3, 1) := by decide +kernel
theorem dX7_inconsistencies_47 : decode cX7_inconsistencies 47 = .ok (.iaload, 1) := by decide +kernel
theorem dX7_inconsistencies_48 : decode cX7_inconsistencies 48 = .ok (.if_icmp .ge 21, 3) := by decide +kernel
theorem dX7_inconsistencies_51 : decode cX7_inconsistencies 51 = .ok (.aload_n 0, 1) := by decide +kernel
theorem dX7_inconsistencies_52 : decode cX7_inconsistencies 52 = .ok (.iload_n 3, 1) := by decide +kernel
theorem dX7_inconsistencies_53 : decode cX7_inconsistencies 53 = .ok (.invokevirtual 109, 3) := by decide +kernel
theorem dX7_inconsistencies_56 : decode cX7_inconsistencies 56 = .ok (.iconst 1, 1) := by decide +kernel
theorem dX7_inconsistencies_57 : decode cX7_inconsistencies 57 = .ok (.if_icmp .le 6, 3) := by decide +kernel
theorem dX7_inconsistencies_60 : decode cX7_inconsistencies 60 = .ok (.iinc 1 1, 3) := by decide +kernel
theorem dX7_inconsistencies_63 : decode cX7_inconsistencies 63 = .ok (.iinc 3 1, 3) := by decide +kernel
theorem dX7_inconsistencies_66 : decode cX7_inconsistencies 66 = .ok (.goto (-25), 3) := by decide +kernel
theorem dX7_inconsistencies_69 : decode cX7_inconsistencies 69 = .ok (.iconst 0, 1) := by decide +kernel
theorem dX7_inconsistencies_70 : decode cX7_inconsistencies 70 = .ok (.istore_n 3, 1) := by decide +kernel
theorem dX7_inconsistencies_71 : decode cX7_inconsistencies 71 = .ok (.iload_n 3, 1) := by decide +kernel
theorem dX7_inconsistencies_72 : decode cX7_inconsistencies 72 = .ok (.aload_n 0, 1) := by decide +kernel
theorem dX7_inconsistencies_73 : decode cX7_inconsistencies 73 = .ok (.getfield 9, 3) := by decide +kernel
theorem dX7_inconsistencies_76 : decode cX7_inconsistencies 76 = .ok (.iconst 4, 1) := by decide +kernel
theorem dX7_inconsistencies_77 : decode cX7_inconsistencies 77 = .ok (.iaload, 1) := by decide +kernel
theorem dX7_inconsistencies_78 : decode cX7_inconsistencies 78 = .ok (.if_icmp .ge 18, 3) := by decide +kernel
theorem dX7_inconsistencies_81 : decode cX7_inconsistencies 81 = .ok (.iload_n 2, 1) := by decide +kernel
theorem dX7_inconsistencies_82 : decode cX7_inconsistencies 82 = .ok (.aload_n 0, 1) := by decide +kernel
theorem dX7_inconsistencies_83 : decode cX7_inconsistencies 83 = .ok (.iload_n 3, 1) := by decide +kernel
theorem dX7_inconsistencies_84 : decode cX7_inconsistencies 84 = .ok (.iconst 3, 1) := by decide +kernel
theorem dX7_inconsistencies_85 : decode cX7_inconsistencies 85 = .ok (.invokevirtual 92, 3) := by decide +kernel
theorem dX7_inconsistencies_88 : decode cX7_inconsistencies 88 = .ok (.iadd, 1) := by decide +kernel
theorem dX7_inconsistencies_89 : decode cX7_inconsistencies 89 = .ok (.istore_n 2, 1) := by decide +kernel
theorem dX7_inconsistencies_90 : decode cX7_inconsistencies 90 = .ok (.iinc 3 1, 3) := by decide +kernel
theorem dX7_inconsistencies_93 : decode cX7_inconsistencies 93 = .ok (.goto (-22), 3) := by decide +kernel
theorem dX7_inconsistencies_96 : decode cX7_inconsistencies 96 = .ok (.iconst 0, 1) := by decide +kernel
theorem dX7_inconsistencies_97 : decode cX7_inconsistencies 97 = .ok (.istore_n 3, 1) := by decide +kernel
theorem dX7_inconsistencies_98 : decode cX7_inconsistencies 98 = .ok (.iload_n 3, 1) := by decide +kernel
theorem dX7_inconsistencies_99 : decode cX7_inconsistencies 99 = .ok (.aload_n 0, 1) := by decide +kernel
theorem dX7_inconsistencies_100 : decode cX7_inconsistencies 100 = .ok (.getfield 9, 3) := by decide +kernel
theorem dX7_inconsistencies_103 : decode cX7_inconsistencies 103 = .ok (.iconst 5, 1) := by decide +kernel
theorem dX7_inconsistencies_104 : decode cX7_inconsistencies 104 = .ok (.iaload, 1) := by decide +kernel
theorem dX7_inconsistencies_105 : decode cX7_inconsistencies 105 = .ok (.if_icmp .ge 27, 3) := by decide +kernel
theorem dX7_inconsistencies_108 : decode cX7_inconsistencies 108 = .ok (.aload_n 0, 1) := by decide +kernel
theorem dX7_inconsistencies_109 : decode cX7_inconsistencies 109 = .ok (.iload_n 3, 1) := by decide +kernel
theorem dX7_inconsistencies_110 : decode cX7_inconsistencies 110 = .ok (.iconst 4, 1) := by decide +kernel
theorem dX7_inconsistencies_111 : decode cX7_inconsistencies 111 = .ok (.invokevirtual 88, 3) := by decide +kernel
theorem dX7_inconsistencies_114 : decode cX7_inconsistencies 114 = .ok (.iconst 2, 1) := by decide +kernel
theorem dX7_inconsistencies_115 : decode cX7_inconsistencies 115 = .ok (.if_icmp .ne 11, 3) := by decide +kernel
theorem dX7_inconsistencies_118 : decode cX7_inconsistencies 118 = .ok (.iload_n 2, 1) := by decide +kernel
theorem dX7_inconsistencies_119 : decode cX7_inconsistencies 119 = .ok (.aload_n 0, 1) := by decide +kernel
theorem dX7_inconsistencies_120 : decode cX7_inconsistencies 120 = .ok (.iload_n 3, 1) := by decide +kernel
theorem dX7_inconsistencies_121 : decode cX7_inconsistencies 121 = .ok (.invokevirtual 142, 3) := by decide +kernel
theorem dX7_inconsistencies_124 : decode cX7_inconsistencies 124 = .ok (.isub, 1) := by decide +kernel
theorem dX7_inconsistencies_125 : decode cX7_inconsistencies 125 = .ok (.istore_n 2, 1) := by decide +kernel
theorem dX7_inconsistencies_126 : decode cX7_inconsistencies 126 = .ok (.iinc 3 1, 3) := by decide +kernel
theorem dX7_inconsistencies_129 : decode cX7_inconsistencies 129 = .ok (.goto (-31), 3) := by decide +kernel
theorem dX7_inconsistencies_132 : decode cX7_inconsistencies 132 = .ok (.aload_n 0, 1) := by decide +kernel
theorem dX7_inconsistencies_133 : decode cX7_inconsistencies 133 = .ok (.getfield 9, 3) := by decide +kernel
theorem dX7_inconsistencies_136 : decode cX7_inconsistencies 136 = .ok (.iconst 2, 1) := by decide +kernel
theorem dX7_inconsistencies_137 : decode cX7_inconsistencies 137 = .ok (.iaload, 1) := by decide +kernel
theorem dX7_inconsistencies_138 : decode cX7_inconsistencies 138 = .ok (.aload_n 0, 1) := by decide +kernel
theorem dX7_inconsistencies_139 : decode cX7_inconsistencies 139 = .ok (.getfield 9, 3) := by decide +kernel
theorem dX7_inconsistencies_142 : decode cX7_inconsistencies 142 = .ok (.iconst 2, 1) := by decide +kernel
theorem dX7_inconsistencies_143 : decode cX7_inconsistencies 143 = .ok (.iaload, 1) := by decide +kernel
theorem dX7_inconsistencies_144 : decode cX7_inconsistencies 144 = .ok (.aload_n 0, 1) := by decide +kernel
theorem dX7_inconsistencies_145 : decode cX7_inconsistencies 145 = .ok (.invokevirtual 112, 3) := by decide +kernel
theorem dX7_inconsistencies_148 : decode cX7_inconsistencies 148 = .ok (.isub, 1) := by decide +kernel
theorem dX7_inconsistencies_149 : decode cX7_inconsistencies 149 = .ok (.isub, 1) := by decide +kernel
theorem dX7_inconsistencies_150 : decode cX7_inconsistencies 150 = .ok (.aload_n 0, 1) := by decide +kernel
theorem dX7_inconsistencies_151 : decode cX7_inconsistencies 151 = .ok (.invokevirtual 112, 3) := by decide +kernel
theorem dX7_inconsistencies_154 : decode cX7_inconsistencies 154 = .ok (.isub, 1) := by decide +kernel
theorem dX7_inconsistencies_155 : decode cX7_inconsistencies 155 = .ok (.istore_n 3, 1) := by decide +kernel
theorem dX7_inconsistencies_156 : decode cX7_inconsistencies 156 = .ok (.iload_n 1, 1) := by decide +kernel
theorem dX7_inconsistencies_157 : decode cX7_inconsistencies 157 = .ok (.iload_n 3, 1) := by decide +kernel
theorem dX7_inconsistencies_158 : decode cX7_inconsistencies 158 = .ok (.invokestatic 321, 3) := by decide +kernel
theorem dX7_inconsistencies_161 : decode cX7_inconsistencies 161 = .ok (.iadd, 1) := by decide +kernel
theorem dX7_inconsistencies_162 : decode cX7_inconsistencies 162 = .ok (.iload_n 2, 1) := by decide +kernel
theorem dX7_inconsistencies_163 : decode cX7_inconsistencies 163 = .ok (.invokestatic 321, 3) := by decide +kernel
theorem dX7_inconsistencies_166 : decode cX7_inconsistencies 166 = .ok (.iadd, 1) := by decide +kernel
theorem dX7_inconsistencies_167 : decode cX7_inconsistencies 167 = .ok (.ireturn, 1) := by decide +kernel
theorem dX7_meanVolume_0 : decode cX7_meanVolume 0 = .ok (.aload_n 0, 1) := by decide +kernel
theorem dX7_meanVolume_1 : decode cX7_meanVolume 1 = .ok (.iconst 0, 1) := by decide +kernel
theorem dX7_meanVolume_2 : decode cX7_meanVolume 2 = .ok (.putfield 67, 3) := by decide +kernel
theorem dX7_meanVolume_5 : decode cX7_meanVolume 5 = .ok (.iconst 0, 1) := by decide +kernel
theorem dX7_meanVolume_6 : decode cX7_meanVolume 6 = .ok (.istore_n 1, 1) := by decide +kernel
theorem dX7_meanVolume_7 : decode cX7_meanVolume 7 = .ok (.iconst 0, 1) := by decide +kernel
theorem dX7_meanVolume_8 : decode cX7_meanVolume 8 = .ok (.istore_n 2, 1) := by decide +kernel
theorem dX7_meanVolume_9 : decode cX7_meanVolume 9 = .ok (.iconst 0, 1) := by decide +kernel
theorem dX7_meanVolume_10 : decode cX7_meanVolume 10 = .ok (.istore_n 3, 1) := by decide +kernel
theorem dX7_meanVolume_11 : decode cX7_meanVolume 11 = .ok (.iload_n 3, 1) := by decide +kernel
theorem dX7_meanVolume_12 : decode cX7_meanVolume 12 = .ok (.aload_n 0, 1) := by decide +kernel
theorem dX7_meanVolume_13 : decode cX7_meanVolume 13 = .ok (.getfield 9, 3) := by decide +kernel
theorem dX7_meanVolume_16 : decode cX7_meanVolume 16 = .ok (.iconst 5, 1) := by decide +kernel
theorem dX7_meanVolume_17 : decode cX7_meanVolume 17 = .ok (.iaload, 1) := by decide +kernel
theorem dX7_meanVolume_18 : decode cX7_meanVolume 18 = .ok (.if_icmp .ge 35, 3) := by decide +kernel
theorem dX7_meanVolume_21 : decode cX7_meanVolume 21 = .ok (.aload_n 0, 1) := by decide +kernel
theorem dX7_meanVolume_22 : decode cX7_meanVolume 22 = .ok (.iload_n 3, 1) := by decide +kernel
theorem dX7_meanVolume_23 : decode cX7_meanVolume 23 = .ok (.iconst 5, 1) := by decide +kernel
theorem dX7_meanVolume_24 : decode cX7_meanVolume 24 = .ok (.invokevirtual 88, 3) := by decide +kernel
theorem dX7_meanVolume_27 : decode cX7_meanVolume 27 = .ok (.iconst (-1), 1) := by decide +kernel
theorem dX7_meanVolume_28 : decode cX7_meanVolume 28 = .ok (.if_icmp .ne 6, 3) := by decide +kernel
theorem dX7_meanVolume_31 : decode cX7_meanVolume 31 = .ok (.goto 16, 3) := by decide +kernel
theorem dX7_meanVolume_34 : decode cX7_meanVolume 34 = .ok (.iload_n 1, 1) := by decide +kernel
theorem dX7_meanVolume_35 : decode cX7_meanVolume 35 = .ok (.aload_n 0, 1) := by decide +kernel
theorem dX7_meanVolume_36 : decode cX7_meanVolume 36 = .ok (.iload_n 3, 1) := by decide +kernel
theorem dX7_meanVolume_37 : decode cX7_meanVolume 37 = .ok (.bipush 8, 2) := by decide +kernel
theorem dX7_meanVolume_39 : decode cX7_meanVolume 39 = .ok (.invokevirtual 88, 3) := by decide +kernel
theorem dX7_meanVolume_42 : decode cX7_meanVolume 42 = .ok (.iadd, 1) := by decide +kernel
theorem dX7_meanVolume_43 : decode cX7_meanVolume 43 = .ok (.istore_n 1, 1) := by decide +kernel
theorem dX7_meanVolume_44 : decode cX7_meanVolume 44 = .ok (.iinc 2 1, 3) := by decide +kernel
theorem dX7_meanVolume_47 : decode cX7_meanVolume 47 = .ok (.iinc 3 1, 3) := by decide +kernel
theorem dX7_meanVolume_50 : decode cX7_meanVolume 50 = .ok (.goto (-39), 3) := by decide +kernel
theorem dX7_meanVolume_53 : decode cX7_meanVolume 53 = .ok (.iload_n 2, 1) := by decide +kernel
theorem dX7_meanVolume_54 : decode cX7_meanVolume 54 = .ok (.ifCond .ne 7, 3) := by decide +kernel
theorem dX7_meanVolume_57 : decode cX7_meanVolume 57 = .ok (.dconst 0, 1) := by decide +kernel
theorem dX7_meanVolume_58 : decode cX7_meanVolume 58 = .ok (.goto 8, 3) := by decide +kernel
theorem dX7_meanVolume_61 : decode cX7_meanVolume 61 = .ok (.iload_n 1, 1) := by decide +kernel
theorem dX7_meanVolume_62 : decode cX7_meanVolume 62 = .ok (.i2d, 1) := by decide +kernel
theorem dX7_meanVolume_63 : decode cX7_meanVolume 63 = .ok (.iload_n 2, 1) := by decide +kernel
theorem dX7_meanVolume_64 : decode cX7_meanVolume 64 = .ok (.i2d, 1) := by decide +kernel
theorem dX7_meanVolume_65 : decode cX7_meanVolume 65 = .ok (.ddiv, 1) := by decide +kernel
theorem dX7_meanVolume_66 : decode cX7_meanVolume 66 = .ok (.dreturn, 1) := by decide +kernel
theorem dX7_gossipShare_0 : decode cX7_gossipShare 0 = .ok (.aload_n 0, 1) := by decide +kernel
theorem dX7_gossipShare_1 : decode cX7_gossipShare 1 = .ok (.iconst 0, 1) := by decide +kernel
theorem dX7_gossipShare_2 : decode cX7_gossipShare 2 = .ok (.putfield 67, 3) := by decide +kernel
theorem dX7_gossipShare_5 : decode cX7_gossipShare 5 = .ok (.iconst 0, 1) := by decide +kernel
theorem dX7_gossipShare_6 : decode cX7_gossipShare 6 = .ok (.istore_n 1, 1) := by decide +kernel
theorem dX7_gossipShare_7 : decode cX7_gossipShare 7 = .ok (.iconst 0, 1) := by decide +kernel
theorem dX7_gossipShare_8 : decode cX7_gossipShare 8 = .ok (.istore_n 2, 1) := by decide +kernel
theorem dX7_gossipShare_9 : decode cX7_gossipShare 9 = .ok (.iload_n 2, 1) := by decide +kernel
theorem dX7_gossipShare_10 : decode cX7_gossipShare 10 = .ok (.aload_n 0, 1) := by decide +kernel
theorem dX7_gossipShare_11 : decode cX7_gossipShare 11 = .ok (.getfield 9, 3) := by decide +kernel
theorem dX7_gossipShare_14 : decode cX7_gossipShare 14 = .ok (.iconst 4, 1) := by decide +kernel
theorem dX7_gossipShare_15 : decode cX7_gossipShare 15 = .ok (.iaload, 1) := by decide +kernel
theorem dX7_gossipShare_16 : decode cX7_gossipShare 16 = .ok (.if_icmp .ge 17, 3) := by decide +kernel
theorem dX7_gossipShare_19 : decode cX7_gossipShare 19 = .ok (.iload_n 1, 1) := by decide +kernel
theorem dX7_gossipShare_20 : decode cX7_gossipShare 20 = .ok (.aload_n 0, 1) := by decide +kernel
theorem dX7_gossipShare_21 : decode cX7_gossipShare 21 = .ok (.iload_n 2, 1) := by decide +kernel
theorem dX7_gossipShare_22 : decode cX7_gossipShare 22 = .ok (.invokevirtual 309, 3) := by decide +kernel
theorem dX7_gossipShare_25 : decode cX7_gossipShare 25 = .ok (.iadd, 1) := by decide +kernel
theorem dX7_gossipShare_26 : decode cX7_gossipShare 26 = .ok (.istore_n 1, 1) := by decide +kernel
theorem dX7_gossipShare_27 : decode cX7_gossipShare 27 = .ok (.iinc 2 1, 3) := by decide +kernel
theorem dX7_gossipShare_30 : decode cX7_gossipShare 30 = .ok (.goto (-21), 3) := by decide +kernel
theorem dX7_gossipShare_33 : decode cX7_gossipShare 33 = .ok (.iload_n 1, 1) := by decide +kernel
theorem dX7_gossipShare_34 : decode cX7_gossipShare 34 = .ok (.i2f, 1) := by decide +kernel
theorem dX7_gossipShare_35 : decode cX7_gossipShare 35 = .ok (.aload_n 0, 1) := by decide +kernel
theorem dX7_gossipShare_36 : decode cX7_gossipShare 36 = .ok (.getfield 9, 3) := by decide +kernel
theorem dX7_gossipShare_39 : decode cX7_gossipShare 39 = .ok (.iconst 4, 1) := by decide +kernel
theorem dX7_gossipShare_40 : decode cX7_gossipShare 40 = .ok (.iaload, 1) := by decide +kernel
theorem dX7_gossipShare_41 : decode cX7_gossipShare 41 = .ok (.aload_n 0, 1) := by decide +kernel
theorem dX7_gossipShare_42 : decode cX7_gossipShare 42 = .ok (.getfield 9, 3) := by decide +kernel
theorem dX7_gossipShare_45 : decode cX7_gossipShare 45 = .ok (.iconst 4, 1) := by decide +kernel
theorem dX7_gossipShare_46 : decode cX7_gossipShare 46 = .ok (.iaload, 1) := by decide +kernel
theorem dX7_gossipShare_47 : decode cX7_gossipShare 47 = .ok (.imul, 1) := by decide +kernel
theorem dX7_gossipShare_48 : decode cX7_gossipShare 48 = .ok (.i2f, 1) := by decide +kernel
theorem dX7_gossipShare_49 : decode cX7_gossipShare 49 = .ok (.fdiv, 1) := by decide +kernel
theorem dX7_gossipShare_50 : decode cX7_gossipShare 50 = .ok (.freturn, 1) := by decide +kernel
theorem dX7_out_0 : decode cX7_out 0 = .ok (.aload_n 0, 1) := by decide +kernel
theorem dX7_out_1 : decode cX7_out 1 = .ok (.getfield 32, 3) := by decide +kernel
theorem dX7_out_4 : decode cX7_out 4 = .ok (.aload_n 0, 1) := by decide +kernel
theorem dX7_out_5 : decode cX7_out 5 = .ok (.getfield 324, 3) := by decide +kernel
theorem dX7_out_8 : decode cX7_out 8 = .ok (.iload_n 1, 1) := by decide +kernel
theorem dX7_out_9 : decode cX7_out 9 = .ok (.iastore, 1) := by decide +kernel
theorem dX7_out_10 : decode cX7_out 10 = .ok (.aload_n 0, 1) := by decide +kernel
theorem dX7_out_11 : decode cX7_out 11 = .ok (.dup, 1) := by decide +kernel
theorem dX7_out_12 : decode cX7_out 12 = .ok (.getfield 324, 3) := by decide +kernel
theorem dX7_out_15 : decode cX7_out 15 = .ok (.iconst 1, 1) := by decide +kernel
theorem dX7_out_16 : decode cX7_out 16 = .ok (.iadd, 1) := by decide +kernel
theorem dX7_out_17 : decode cX7_out 17 = .ok (.putfield 324, 3) := by decide +kernel
theorem dX7_out_20 : decode cX7_out 20 = .ok (.return_, 1) := by decide +kernel
theorem dX7_outName_0 : decode cX7_outName 0 = .ok (.iconst 0, 1) := by decide +kernel
theorem dX7_outName_1 : decode cX7_outName 1 = .ok (.istore_n 2, 1) := by decide +kernel
theorem dX7_outName_2 : decode cX7_outName 2 = .ok (.iload_n 2, 1) := by decide +kernel
theorem dX7_outName_3 : decode cX7_outName 3 = .ok (.aload_n 0, 1) := by decide +kernel
theorem dX7_outName_4 : decode cX7_outName 4 = .ok (.iload_n 1, 1) := by decide +kernel
theorem dX7_outName_5 : decode cX7_outName 5 = .ok (.iconst 5, 1) := by decide +kernel
theorem dX7_outName_6 : decode cX7_outName 6 = .ok (.invokevirtual 92, 3) := by decide +kernel
theorem dX7_outName_9 : decode cX7_outName 9 = .ok (.if_icmp .ge 22, 3) := by decide +kernel
theorem dX7_outName_12 : decode cX7_outName 12 = .ok (.aload_n 0, 1) := by decide +kernel
theorem dX7_outName_13 : decode cX7_outName 13 = .ok (.aload_n 0, 1) := by decide +kernel
theorem dX7_outName_14 : decode cX7_outName 14 = .ok (.iload_n 1, 1) := by decide +kernel
theorem dX7_outName_15 : decode cX7_outName 15 = .ok (.bipush 6, 2) := by decide +kernel
theorem dX7_outName_17 : decode cX7_outName 17 = .ok (.iload_n 2, 1) := by decide +kernel
theorem dX7_outName_18 : decode cX7_outName 18 = .ok (.iadd, 1) := by decide +kernel
theorem dX7_outName_19 : decode cX7_outName 19 = .ok (.invokevirtual 92, 3) := by decide +kernel
theorem dX7_outName_22 : decode cX7_outName 22 = .ok (.invokevirtual 327, 3) := by decide +kernel
theorem dX7_outName_25 : decode cX7_outName 25 = .ok (.iinc 2 1, 3) := by decide +kernel
theorem dX7_outName_28 : decode cX7_outName 28 = .ok (.goto (-26), 3) := by decide +kernel
theorem dX7_outName_31 : decode cX7_outName 31 = .ok (.return_, 1) := by decide +kernel
theorem dX7_writeCalls_0 : decode cX7_writeCalls 0 = .ok (.aload_n 0, 1) := by decide +kernel
theorem dX7_writeCalls_1 : decode cX7_writeCalls 1 = .ok (.iconst 0, 1) := by decide +kernel
theorem dX7_writeCalls_2 : decode cX7_writeCalls 2 = .ok (.putfield 67, 3) := by decide +kernel
theorem dX7_writeCalls_5 : decode cX7_writeCalls 5 = .ok (.aload_n 0, 1) := by decide +kernel
theorem dX7_writeCalls_6 : decode cX7_writeCalls 6 = .ok (.iconst 0, 1) := by decide +kernel
theorem dX7_writeCalls_7 : decode cX7_writeCalls 7 = .ok (.putfield 324, 3) := by decide +kernel
theorem dX7_writeCalls_10 : decode cX7_writeCalls 10 = .ok (.iconst 0, 1) := by decide +kernel
theorem dX7_writeCalls_11 : decode cX7_writeCalls 11 = .ok (.istore_n 1, 1) := by decide +kernel
theorem dX7_writeCalls_12 : decode cX7_writeCalls 12 = .ok (.iload_n 1, 1) := by decide +kernel
theorem dX7_writeCalls_13 : decode cX7_writeCalls 13 = .ok (.aload_n 0, 1) := by decide +kernel
theorem dX7_writeCalls_14 : decode cX7_writeCalls 14 = .ok (.getfield 9, 3) := by decide +kernel
theorem dX7_writeCalls_17 : decode cX7_writeCalls 17 = .ok (.iconst 5, 1) := by decide +kernel
theorem dX7_writeCalls_18 : decode cX7_writeCalls 18 = .ok (.iaload, 1) := by decide +kernel
theorem dX7_writeCalls_19 : decode cX7_writeCalls 19 = .ok (.if_icmp .ge 98, 3) := by decide +kernel
theorem dX7_writeCalls_22 : decode cX7_writeCalls 22 = .ok (.aload_n 0, 1) := by decide +kernel
theorem dX7_writeCalls_23 : decode cX7_writeCalls 23 = .ok (.iload_n 1, 1) := by decide +kernel
theorem dX7_writeCalls_24 : decode cX7_writeCalls 24 = .ok (.invokevirtual 247, 3) := by decide +kernel
theorem dX7_writeCalls_27 : decode cX7_writeCalls 27 = .ok (.ifCond .eq 6, 3) := by decide +kernel
theorem dX7_writeCalls_30 : decode cX7_writeCalls 30 = .ok (.goto 81, 3) := by decide +kernel
theorem dX7_writeCalls_33 : decode cX7_writeCalls 33 = .ok (.aload_n 0, 1) := by decide +kernel
theorem dX7_writeCalls_34 : decode cX7_writeCalls 34 = .ok (.getfield 324, 3) := by decide +kernel
theorem dX7_writeCalls_37 : decode cX7_writeCalls 37 = .ok (.ifCond .le 9, 3) := by decide +kernel
theorem dX7_writeCalls_40 : decode cX7_writeCalls 40 = .ok (.aload_n 0, 1) := by decide +kernel
theorem dX7_writeCalls_41 : decode cX7_writeCalls 41 = .ok (.bipush 32, 2) := by decide +kernel
theorem dX7_writeCalls_43 : decode cX7_writeCalls 43 = .ok (.invokevirtual 327, 3) := by decide +kernel
theorem dX7_writeCalls_46 : decode cX7_writeCalls 46 = .ok (.aload_n 0, 1) := by decide +kernel
theorem dX7_writeCalls_47 : decode cX7_writeCalls 47 = .ok (.aload_n 0, 1) := by decide +kernel
theorem dX7_writeCalls_48 : decode cX7_writeCalls 48 = .ok (.iload_n 1, 1) := by decide +kernel
theorem dX7_writeCalls_49 : decode cX7_writeCalls 49 = .ok (.iconst 0, 1) := by decide +kernel
theorem dX7_writeCalls_50 : decode cX7_writeCalls 50 = .ok (.invokevirtual 88, 3) := by decide +kernel
theorem dX7_writeCalls_53 : decode cX7_writeCalls 53 = .ok (.invokevirtual 330, 3) := by decide +kernel
theorem dX7_writeCalls_56 : decode cX7_writeCalls 56 = .ok (.aload_n 0, 1) := by decide +kernel
theorem dX7_writeCalls_57 : decode cX7_writeCalls 57 = .ok (.aload_n 0, 1) := by decide +kernel
theorem dX7_writeCalls_58 : decode cX7_writeCalls 58 = .ok (.iload_n 1, 1) := by decide +kernel
theorem dX7_writeCalls_59 : decode cX7_writeCalls 59 = .ok (.invokevirtual 95, 3) := by decide +kernel
theorem dX7_writeCalls_62 : decode cX7_writeCalls 62 = .ok (.ifCond .eq 8, 3) := by decide +kernel
theorem dX7_writeCalls_65 : decode cX7_writeCalls 65 = .ok (.bipush 45, 2) := by decide +kernel
theorem dX7_writeCalls_67 : decode cX7_writeCalls 67 = .ok (.goto 5, 3) := by decide +kernel
theorem dX7_writeCalls_70 : decode cX7_writeCalls 70 = .ok (.bipush 63, 2) := by decide +kernel
theorem dX7_writeCalls_72 : decode cX7_writeCalls 72 = .ok (.invokevirtual 327, 3) := by decide +kernel
theorem dX7_writeCalls_75 : decode cX7_writeCalls 75 = .ok (.aload_n 0, 1) := by decide +kernel
theorem dX7_writeCalls_76 : decode cX7_writeCalls 76 = .ok (.iload_n 1, 1) := by decide +kernel
theorem dX7_writeCalls_77 : decode cX7_writeCalls 77 = .ok (.iconst 2, 1) := by decide +kernel
theorem dX7_writeCalls_78 : decode cX7_writeCalls 78 = .ok (.invokevirtual 88, 3) := by decide +kernel
theorem dX7_writeCalls_81 : decode cX7_writeCalls 81 = .ok (.iconst (-1), 1) := by decide +kernel
theorem dX7_writeCalls_82 : decode cX7_writeCalls 82 = .ok (.if_icmp .ne 16, 3) := by decide +kernel
theorem dX7_writeCalls_85 : decode cX7_writeCalls 85 = .ok (.aload_n 0, 1) := by decide +kernel
theorem dX7_writeCalls_86 : decode cX7_writeCalls 86 = .ok (.aload_n 0, 1) := by decide +kernel
theorem dX7_writeCalls_87 : decode cX7_writeCalls 87 = .ok (.iload_n 1, 1) := by decide +kernel
theorem dX7_writeCalls_88 : decode cX7_writeCalls 88 = .ok (.iconst 1, 1) := by decide +kernel
theorem dX7_writeCalls_89 : decode cX7_writeCalls 89 = .ok (.invokevirtual 88, 3) := by decide +kernel
theorem dX7_writeCalls_92 : decode cX7_writeCalls 92 = .ok (.invokevirtual 330, 3) := by decide +kernel
theorem dX7_writeCalls_95 : decode cX7_writeCalls 95 = .ok (.goto 16, 3) := by decide +kernel
theorem dX7_writeCalls_98 : decode cX7_writeCalls 98 = .ok (.aload_n 0, 1) := by decide +kernel
theorem dX7_writeCalls_99 : decode cX7_writeCalls 99 = .ok (.bipush 48, 2) := by decide +kernel
theorem dX7_writeCalls_101 : decode cX7_writeCalls 101 = .ok (.aload_n 0, 1) := by decide +kernel
theorem dX7_writeCalls_102 : decode cX7_writeCalls 102 = .ok (.iload_n 1, 1) := by decide +kernel
theorem dX7_writeCalls_103 : decode cX7_writeCalls 103 = .ok (.iconst 2, 1) := by decide +kernel
theorem dX7_writeCalls_104 : decode cX7_writeCalls 104 = .ok (.invokevirtual 88, 3) := by decide +kernel
theorem dX7_writeCalls_107 : decode cX7_writeCalls 107 = .ok (.iadd, 1) := by decide +kernel
theorem dX7_writeCalls_108 : decode cX7_writeCalls 108 = .ok (.invokevirtual 327, 3) := by decide +kernel
theorem dX7_writeCalls_111 : decode cX7_writeCalls 111 = .ok (.iinc 1 1, 3) := by decide +kernel
theorem dX7_writeCalls_114 : decode cX7_writeCalls 114 = .ok (.goto (-102), 3) := by decide +kernel
theorem dX7_writeCalls_117 : decode cX7_writeCalls 117 = .ok (.aload_n 0, 1) := by decide +kernel
theorem dX7_writeCalls_118 : decode cX7_writeCalls 118 = .ok (.getfield 324, 3) := by decide +kernel
theorem dX7_writeCalls_121 : decode cX7_writeCalls 121 = .ok (.ireturn, 1) := by decide +kernel
theorem dX7_outputByte_0 : decode cX7_outputByte 0 = .ok (.aload_n 0, 1) := by decide +kernel
theorem dX7_outputByte_1 : decode cX7_outputByte 1 = .ok (.iconst 0, 1) := by decide +kernel
theorem dX7_outputByte_2 : decode cX7_outputByte 2 = .ok (.putfield 67, 3) := by decide +kernel
theorem dX7_outputByte_5 : decode cX7_outputByte 5 = .ok (.iload_n 1, 1) := by decide +kernel
theorem dX7_outputByte_6 : decode cX7_outputByte 6 = .ok (.iconst 0, 1) := by decide +kernel
theorem dX7_outputByte_7 : decode cX7_outputByte 7 = .ok (.aload_n 0, 1) := by decide +kernel
theorem dX7_outputByte_8 : decode cX7_outputByte 8 = .ok (.getfield 324, 3) := by decide +kernel
theorem dX7_outputByte_11 : decode cX7_outputByte 11 = .ok (.iconst 1, 1) := by decide +kernel
theorem dX7_outputByte_12 : decode cX7_outputByte 12 = .ok (.isub, 1) := by decide +kernel
theorem dX7_outputByte_13 : decode cX7_outputByte 13 = .ok (.invokestatic 80, 3) := by decide +kernel
theorem dX7_outputByte_16 : decode cX7_outputByte 16 = .ok (.ifCond .eq 12, 3) := by decide +kernel
theorem dX7_outputByte_19 : decode cX7_outputByte 19 = .ok (.aload_n 0, 1) := by decide +kernel
theorem dX7_outputByte_20 : decode cX7_outputByte 20 = .ok (.getfield 32, 3) := by decide +kernel
theorem dX7_outputByte_23 : decode cX7_outputByte 23 = .ok (.iload_n 1, 1) := by decide +kernel
theorem dX7_outputByte_24 : decode cX7_outputByte 24 = .ok (.iaload, 1) := by decide +kernel
theorem dX7_outputByte_25 : decode cX7_outputByte 25 = .ok (.goto 4, 3) := by decide +kernel
theorem dX7_outputByte_28 : decode cX7_outputByte 28 = .ok (.iconst (-1), 1) := by decide +kernel
theorem dX7_outputByte_29 : decode cX7_outputByte 29 = .ok (.ireturn, 1) := by decide +kernel
