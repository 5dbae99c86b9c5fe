theorem dX0_init_0 : decode cX0_init 0 = .ok (.aload_n 0, 1) := by decide +kernel
theorem dX0_init_1 : decode cX0_init 1 = .ok (.invokespecial 3, 3) := by decide +kernel
theorem dX0_init_4 : decode cX0_init 4 = .ok (.aload_n 0, 1) := by decide +kernel
theorem dX0_init_5 : decode cX0_init 5 = .ok (.new 9, 3) := by decide +kernel
theorem dX0_init_8 : decode cX0_init 8 = .ok (.dup, 1) := by decide +kernel
theorem dX0_init_9 : decode cX0_init 9 = .ok (.invokespecial 11, 3) := by decide +kernel
theorem dX0_init_12 : decode cX0_init 12 = .ok (.putfield 12, 3) := by decide +kernel
theorem dX0_init_15 : decode cX0_init 15 = .ok (.aload_n 0, 1) := by decide +kernel
theorem dX0_init_16 : decode cX0_init 16 = .ok (.new 18, 3) := by decide +kernel
theorem dX0_init_19 : decode cX0_init 19 = .ok (.dup, 1) := by decide +kernel
theorem dX0_init_20 : decode cX0_init 20 = .ok (.invokespecial 20, 3) := by decide +kernel
theorem dX0_init_23 : decode cX0_init 23 = .ok (.putfield 21, 3) := by decide +kernel
theorem dX0_init_26 : decode cX0_init 26 = .ok (.aload_n 0, 1) := by decide +kernel
theorem dX0_init_27 : decode cX0_init 27 = .ok (.iconst 4, 1) := by decide +kernel
theorem dX0_init_28 : decode cX0_init 28 = .ok (.newarray .int, 2) := by decide +kernel
theorem dX0_init_30 : decode cX0_init 30 = .ok (.putfield 25, 3) := by decide +kernel
theorem dX0_init_33 : decode cX0_init 33 = .ok (.return_, 1) := by decide +kernel
theorem dX0_copyFrom_0 : decode cX0_copyFrom 0 = .ok (.aload_n 0, 1) := by decide +kernel
theorem dX0_copyFrom_1 : decode cX0_copyFrom 1 = .ok (.getfield 12, 3) := by decide +kernel
theorem dX0_copyFrom_4 : decode cX0_copyFrom 4 = .ok (.aload_n 1, 1) := by decide +kernel
theorem dX0_copyFrom_5 : decode cX0_copyFrom 5 = .ok (.getfield 12, 3) := by decide +kernel
theorem dX0_copyFrom_8 : decode cX0_copyFrom 8 = .ok (.invokevirtual 29, 3) := by decide +kernel
theorem dX0_copyFrom_11 : decode cX0_copyFrom 11 = .ok (.aload_n 0, 1) := by decide +kernel
theorem dX0_copyFrom_12 : decode cX0_copyFrom 12 = .ok (.getfield 21, 3) := by decide +kernel
theorem dX0_copyFrom_15 : decode cX0_copyFrom 15 = .ok (.aload_n 1, 1) := by decide +kernel
theorem dX0_copyFrom_16 : decode cX0_copyFrom 16 = .ok (.getfield 21, 3) := by decide +kernel
theorem dX0_copyFrom_19 : decode cX0_copyFrom 19 = .ok (.invokevirtual 33, 3) := by decide +kernel
theorem dX0_copyFrom_22 : decode cX0_copyFrom 22 = .ok (.aload_n 1, 1) := by decide +kernel
theorem dX0_copyFrom_23 : decode cX0_copyFrom 23 = .ok (.getfield 25, 3) := by decide +kernel
theorem dX0_copyFrom_26 : decode cX0_copyFrom 26 = .ok (.iconst 0, 1) := by decide +kernel
theorem dX0_copyFrom_27 : decode cX0_copyFrom 27 = .ok (.aload_n 0, 1) := by decide +kernel
theorem dX0_copyFrom_28 : decode cX0_copyFrom 28 = .ok (.getfield 25, 3) := by decide +kernel
theorem dX0_copyFrom_31 : decode cX0_copyFrom 31 = .ok (.iconst 0, 1) := by decide +kernel
theorem dX0_copyFrom_32 : decode cX0_copyFrom 32 = .ok (.iconst 4, 1) := by decide +kernel
theorem dX0_copyFrom_33 : decode cX0_copyFrom 33 = .ok (.invokestatic 36, 3) := by decide +kernel
theorem dX0_copyFrom_36 : decode cX0_copyFrom 36 = .ok (.aload_n 0, 1) := by decide +kernel
theorem dX0_copyFrom_37 : decode cX0_copyFrom 37 = .ok (.aload_n 1, 1) := by decide +kernel
theorem dX0_copyFrom_38 : decode cX0_copyFrom 38 = .ok (.getfield 42, 3) := by decide +kernel
theorem dX0_copyFrom_41 : decode cX0_copyFrom 41 = .ok (.putfield 42, 3) := by decide +kernel
theorem dX0_copyFrom_44 : decode cX0_copyFrom 44 = .ok (.aload_n 0, 1) := by decide +kernel
theorem dX0_copyFrom_45 : decode cX0_copyFrom 45 = .ok (.aload_n 1, 1) := by decide +kernel
theorem dX0_copyFrom_46 : decode cX0_copyFrom 46 = .ok (.getfield 46, 3) := by decide +kernel
theorem dX0_copyFrom_49 : decode cX0_copyFrom 49 = .ok (.putfield 46, 3) := by decide +kernel
theorem dX0_copyFrom_52 : decode cX0_copyFrom 52 = .ok (.aload_n 0, 1) := by decide +kernel
theorem dX0_copyFrom_53 : decode cX0_copyFrom 53 = .ok (.aload_n 1, 1) := by decide +kernel
theorem dX0_copyFrom_54 : decode cX0_copyFrom 54 = .ok (.getfield 49, 3) := by decide +kernel
theorem dX0_copyFrom_57 : decode cX0_copyFrom 57 = .ok (.putfield 49, 3) := by decide +kernel
theorem dX0_copyFrom_60 : decode cX0_copyFrom 60 = .ok (.aload_n 0, 1) := by decide +kernel
theorem dX0_copyFrom_61 : decode cX0_copyFrom 61 = .ok (.aload_n 1, 1) := by decide +kernel
theorem dX0_copyFrom_62 : decode cX0_copyFrom 62 = .ok (.getfield 52, 3) := by decide +kernel
theorem dX0_copyFrom_65 : decode cX0_copyFrom 65 = .ok (.putfield 52, 3) := by decide +kernel
theorem dX0_copyFrom_68 : decode cX0_copyFrom 68 = .ok (.return_, 1) := by decide +kernel
theorem dX0_reset_0 : decode cX0_reset 0 = .ok (.aload_n 0, 1) := by decide +kernel
theorem dX0_reset_1 : decode cX0_reset 1 = .ok (.getfield 12, 3) := by decide +kernel
theorem dX0_reset_4 : decode cX0_reset 4 = .ok (.iconst 0, 1) := by decide +kernel
theorem dX0_reset_5 : decode cX0_reset 5 = .ok (.putfield 55, 3) := by decide +kernel
theorem dX0_reset_8 : decode cX0_reset 8 = .ok (.aload_n 0, 1) := by decide +kernel
theorem dX0_reset_9 : decode cX0_reset 9 = .ok (.getfield 21, 3) := by decide +kernel
theorem dX0_reset_12 : decode cX0_reset 12 = .ok (.iconst 0, 1) := by decide +kernel
theorem dX0_reset_13 : decode cX0_reset 13 = .ok (.putfield 58, 3) := by decide +kernel
theorem dX0_reset_16 : decode cX0_reset 16 = .ok (.aload_n 0, 1) := by decide +kernel
theorem dX0_reset_17 : decode cX0_reset 17 = .ok (.iconst 0, 1) := by decide +kernel
theorem dX0_reset_18 : decode cX0_reset 18 = .ok (.putfield 42, 3) := by decide +kernel
theorem dX0_reset_21 : decode cX0_reset 21 = .ok (.aload_n 0, 1) := by decide +kernel
theorem dX0_reset_22 : decode cX0_reset 22 = .ok (.iload_n 1, 1) := by decide +kernel
theorem dX0_reset_23 : decode cX0_reset 23 = .ok (.putfield 46, 3) := by decide +kernel
theorem dX0_reset_26 : decode cX0_reset 26 = .ok (.aload_n 0, 1) := by decide +kernel
theorem dX0_reset_27 : decode cX0_reset 27 = .ok (.iload_n 2, 1) := by decide +kernel
theorem dX0_reset_28 : decode cX0_reset 28 = .ok (.putfield 49, 3) := by decide +kernel
theorem dX0_reset_31 : decode cX0_reset 31 = .ok (.aload_n 0, 1) := by decide +kernel
theorem dX0_reset_32 : decode cX0_reset 32 = .ok (.iconst 0, 1) := by decide +kernel
theorem dX0_reset_33 : decode cX0_reset 33 = .ok (.putfield 52, 3) := by decide +kernel
theorem dX0_reset_36 : decode cX0_reset 36 = .ok (.return_, 1) := by decide +kernel
theorem dX0_addTrunk_0 : decode cX0_addTrunk 0 = .ok (.aload_n 0, 1) := by decide +kernel
theorem dX0_addTrunk_1 : decode cX0_addTrunk 1 = .ok (.getfield 52, 3) := by decide +kernel
theorem dX0_addTrunk_4 : decode cX0_addTrunk 4 = .ok (.iconst 4, 1) := by decide +kernel
theorem dX0_addTrunk_5 : decode cX0_addTrunk 5 = .ok (.if_icmp .ge 23, 3) := by decide +kernel
theorem dX0_addTrunk_8 : decode cX0_addTrunk 8 = .ok (.aload_n 0, 1) := by decide +kernel
theorem dX0_addTrunk_9 : decode cX0_addTrunk 9 = .ok (.getfield 25, 3) := by decide +kernel
theorem dX0_addTrunk_12 : decode cX0_addTrunk 12 = .ok (.aload_n 0, 1) := by decide +kernel
theorem dX0_addTrunk_13 : decode cX0_addTrunk 13 = .ok (.getfield 52, 3) := by decide +kernel
theorem dX0_addTrunk_16 : decode cX0_addTrunk 16 = .ok (.iload_n 1, 1) := by decide +kernel
theorem dX0_addTrunk_17 : decode cX0_addTrunk 17 = .ok (.iastore, 1) := by decide +kernel
theorem dX0_addTrunk_18 : decode cX0_addTrunk 18 = .ok (.aload_n 0, 1) := by decide +kernel
theorem dX0_addTrunk_19 : decode cX0_addTrunk 19 = .ok (.dup, 1) := by decide +kernel
theorem dX0_addTrunk_20 : decode cX0_addTrunk 20 = .ok (.getfield 52, 3) := by decide +kernel
theorem dX0_addTrunk_23 : decode cX0_addTrunk 23 = .ok (.iconst 1, 1) := by decide +kernel
theorem dX0_addTrunk_24 : decode cX0_addTrunk 24 = .ok (.iadd, 1) := by decide +kernel
theorem dX0_addTrunk_25 : decode cX0_addTrunk 25 = .ok (.putfield 52, 3) := by decide +kernel
theorem dX0_addTrunk_28 : decode cX0_addTrunk 28 = .ok (.return_, 1) := by decide +kernel
theorem dX0_request_0 : decode cX0_request 0 = .ok (.aload_n 0, 1) := by decide +kernel
theorem dX0_request_1 : decode cX0_request 1 = .ok (.getfield 12, 3) := by decide +kernel
theorem dX0_request_4 : decode cX0_request 4 = .ok (.iload_n 1, 1) := by decide +kernel
theorem dX0_request_5 : decode cX0_request 5 = .ok (.invokevirtual 59, 3) := by decide +kernel
theorem dX0_request_8 : decode cX0_request 8 = .ok (.aload_n 0, 1) := by decide +kernel
theorem dX0_request_9 : decode cX0_request 9 = .ok (.getfield 12, 3) := by decide +kernel
theorem dX0_request_12 : decode cX0_request 12 = .ok (.iload_n 2, 1) := by decide +kernel
theorem dX0_request_13 : decode cX0_request 13 = .ok (.invokevirtual 59, 3) := by decide +kernel
theorem dX0_request_16 : decode cX0_request 16 = .ok (.ior, 1) := by decide +kernel
theorem dX0_request_17 : decode cX0_request 17 = .ok (.iload_n 3, 1) := by decide +kernel
theorem dX0_request_18 : decode cX0_request 18 = .ok (.invokestatic 63, 3) := by decide +kernel
theorem dX0_request_21 : decode cX0_request 21 = .ok (.ior, 1) := by decide +kernel
theorem dX0_request_22 : decode cX0_request 22 = .ok (.istore 5, 2) := by decide +kernel
theorem dX0_request_24 : decode cX0_request 24 = .ok (.aload_n 0, 1) := by decide +kernel
theorem dX0_request_25 : decode cX0_request 25 = .ok (.getfield 21, 3) := by decide +kernel
theorem dX0_request_28 : decode cX0_request 28 = .ok (.iload_n 1, 1) := by decide +kernel
theorem dX0_request_29 : decode cX0_request 29 = .ok (.iload_n 2, 1) := by decide +kernel
theorem dX0_request_30 : decode cX0_request 30 = .ok (.iload_n 3, 1) := by decide +kernel
theorem dX0_request_31 : decode cX0_request 31 = .ok (.iload 4, 2) := by decide +kernel
theorem dX0_request_33 : decode cX0_request 33 = .ok (.iload 5, 2) := by decide +kernel
theorem dX0_request_35 : decode cX0_request 35 = .ok (.invokevirtual 66, 3) := by decide +kernel
theorem dX0_request_38 : decode cX0_request 38 = .ok (.istore 6, 2) := by decide +kernel
theorem dX0_request_40 : decode cX0_request 40 = .ok (.iload 6, 2) := by decide +kernel
theorem dX0_request_42 : decode cX0_request 42 = .ok (.iconst (-1), 1) := by decide +kernel
theorem dX0_request_43 : decode cX0_request 43 = .ok (.if_icmp .eq 18, 3) := by decide +kernel
theorem dX0_request_46 : decode cX0_request 46 = .ok (.aload_n 0, 1) := by decide +kernel
theorem dX0_request_47 : decode cX0_request 47 = .ok (.iload 6, 2) := by decide +kernel
theorem dX0_request_49 : decode cX0_request 49 = .ok (.invokevirtual 70, 3) := by decide +kernel
theorem dX0_request_52 : decode cX0_request 52 = .ok (.ifCond .ne 9, 3) := by decide +kernel
theorem dX0_request_55 : decode cX0_request 55 = .ok (.aload_n 0, 1) := by decide +kernel
theorem dX0_request_56 : decode cX0_request 56 = .ok (.iload 6, 2) := by decide +kernel
theorem dX0_request_58 : decode cX0_request 58 = .ok (.invokevirtual 73, 3) := by decide +kernel
theorem dX0_request_61 : decode cX0_request 61 = .ok (.iload 6, 2) := by decide +kernel
theorem dX0_request_63 : decode cX0_request 63 = .ok (.ireturn, 1) := by decide +kernel
theorem dX0_finish_0 : decode cX0_finish 0 = .ok (.aload_n 0, 1) := by decide +kernel
theorem dX0_finish_1 : decode cX0_finish 1 = .ok (.getfield 21, 3) := by decide +kernel
theorem dX0_finish_4 : decode cX0_finish 4 = .ok (.getfield 77, 3) := by decide +kernel
theorem dX0_finish_7 : decode cX0_finish 7 = .ok (.iload_n 1, 1) := by decide +kernel
theorem dX0_finish_8 : decode cX0_finish 8 = .ok (.iaload, 1) := by decide +kernel
theorem dX0_finish_9 : decode cX0_finish 9 = .ok (.iconst 1, 1) := by decide +kernel
theorem dX0_finish_10 : decode cX0_finish 10 = .ok (.if_icmp .ne 7, 3) := by decide +kernel
theorem dX0_finish_13 : decode cX0_finish 13 = .ok (.iconst 1, 1) := by decide +kernel
theorem dX0_finish_14 : decode cX0_finish 14 = .ok (.goto 4, 3) := by decide +kernel
theorem dX0_finish_17 : decode cX0_finish 17 = .ok (.iconst 0, 1) := by decide +kernel
theorem dX0_finish_18 : decode cX0_finish 18 = .ok (.istore_n 2, 1) := by decide +kernel
theorem dX0_finish_19 : decode cX0_finish 19 = .ok (.aload_n 0, 1) := by decide +kernel
theorem dX0_finish_20 : decode cX0_finish 20 = .ok (.getfield 21, 3) := by decide +kernel
theorem dX0_finish_23 : decode cX0_finish 23 = .ok (.getfield 77, 3) := by decide +kernel
theorem dX0_finish_26 : decode cX0_finish 26 = .ok (.iload_n 1, 1) := by decide +kernel
theorem dX0_finish_27 : decode cX0_finish 27 = .ok (.iload_n 2, 1) := by decide +kernel
theorem dX0_finish_28 : decode cX0_finish 28 = .ok (.ifCond .eq 7, 3) := by decide +kernel
theorem dX0_finish_31 : decode cX0_finish 31 = .ok (.iconst 2, 1) := by decide +kernel
theorem dX0_finish_32 : decode cX0_finish 32 = .ok (.goto 4, 3) := by decide +kernel
theorem dX0_finish_35 : decode cX0_finish 35 = .ok (.iconst 3, 1) := by decide +kernel
theorem dX0_finish_36 : decode cX0_finish 36 = .ok (.iastore, 1) := by decide +kernel
theorem dX0_finish_37 : decode cX0_finish 37 = .ok (.aload_n 0, 1) := by decide +kernel
theorem dX0_finish_38 : decode cX0_finish 38 = .ok (.getfield 21, 3) := by decide +kernel
theorem dX0_finish_41 : decode cX0_finish 41 = .ok (.getfield 80, 3) := by decide +kernel
theorem dX0_finish_44 : decode cX0_finish 44 = .ok (.iload_n 1, 1) := by decide +kernel
theorem dX0_finish_45 : decode cX0_finish 45 = .ok (.aload_n 0, 1) := by decide +kernel
theorem dX0_finish_46 : decode cX0_finish 46 = .ok (.getfield 42, 3) := by decide +kernel
theorem dX0_finish_49 : decode cX0_finish 49 = .ok (.iastore, 1) := by decide +kernel
theorem dX0_finish_50 : decode cX0_finish 50 = .ok (.iload_n 2, 1) := by decide +kernel
theorem dX0_finish_51 : decode cX0_finish 51 = .ok (.ifCond .eq 24, 3) := by decide +kernel
theorem dX0_finish_54 : decode cX0_finish 54 = .ok (.aload_n 0, 1) := by decide +kernel
theorem dX0_finish_55 : decode cX0_finish 55 = .ok (.getfield 12, 3) := by decide +kernel
theorem dX0_finish_58 : decode cX0_finish 58 = .ok (.aload_n 0, 1) := by decide +kernel
theorem dX0_finish_59 : decode cX0_finish 59 = .ok (.getfield 21, 3) := by decide +kernel
theorem dX0_finish_62 : decode cX0_finish 62 = .ok (.getfield 83, 3) := by decide +kernel
theorem dX0_finish_65 : decode cX0_finish 65 = .ok (.iload_n 1, 1) := by decide +kernel
theorem dX0_finish_66 : decode cX0_finish 66 = .ok (.iaload, 1) := by decide +kernel
theorem dX0_finish_67 : decode cX0_finish 67 = .ok (.aload_n 0, 1) := by decide +kernel
theorem dX0_finish_68 : decode cX0_finish 68 = .ok (.iload_n 1, 1) := by decide +kernel
theorem dX0_finish_69 : decode cX0_finish 69 = .ok (.invokevirtual 86, 3) := by decide +kernel
theorem dX0_finish_72 : decode cX0_finish 72 = .ok (.invokevirtual 89, 3) := by decide +kernel
theorem dX0_finish_75 : decode cX0_finish 75 = .ok (.aload_n 0, 1) := by decide +kernel
theorem dX0_finish_76 : decode cX0_finish 76 = .ok (.iconst 1, 1) := by decide +kernel
theorem dX0_finish_77 : decode cX0_finish 77 = .ok (.invokevirtual 93, 3) := by decide +kernel
theorem dX0_finish_80 : decode cX0_finish 80 = .ok (.aload_n 0, 1) := by decide +kernel
theorem dX0_finish_81 : decode cX0_finish 81 = .ok (.iconst 0, 1) := by decide +kernel
theorem dX0_finish_82 : decode cX0_finish 82 = .ok (.invokevirtual 93, 3) := by decide +kernel
theorem dX0_finish_85 : decode cX0_finish 85 = .ok (.iadd, 1) := by decide +kernel
theorem dX0_finish_86 : decode cX0_finish 86 = .ok (.ireturn, 1) := by decide +kernel
theorem dX0_startWaiting_0 : decode cX0_startWaiting 0 = .ok (.iconst 0, 1) := by decide +kernel
theorem dX0_startWaiting_1 : decode cX0_startWaiting 1 = .ok (.istore_n 2, 1) := by decide +kernel
theorem dX0_startWaiting_2 : decode cX0_startWaiting 2 = .ok (.iconst 0, 1) := by decide +kernel
theorem dX0_startWaiting_3 : decode cX0_startWaiting 3 = .ok (.istore_n 3, 1) := by decide +kernel
theorem dX0_startWaiting_4 : decode cX0_startWaiting 4 = .ok (.iload_n 3, 1) := by decide +kernel
theorem dX0_startWaiting_5 : decode cX0_startWaiting 5 = .ok (.aload_n 0, 1) := by decide +kernel
theorem dX0_startWaiting_6 : decode cX0_startWaiting 6 = .ok (.getfield 21, 3) := by decide +kernel
theorem dX0_startWaiting_9 : decode cX0_startWaiting 9 = .ok (.getfield 58, 3) := by decide +kernel
theorem dX0_startWaiting_12 : decode cX0_startWaiting 12 = .ok (.if_icmp .ge 62, 3) := by decide +kernel
theorem dX0_startWaiting_15 : decode cX0_startWaiting 15 = .ok (.aload_n 0, 1) := by decide +kernel
theorem dX0_startWaiting_16 : decode cX0_startWaiting 16 = .ok (.getfield 21, 3) := by decide +kernel
theorem dX0_startWaiting_19 : decode cX0_startWaiting 19 = .ok (.getfield 77, 3) := by decide +kernel
theorem dX0_startWaiting_22 : decode cX0_startWaiting 22 = .ok (.iload_n 3, 1) := by decide +kernel
theorem dX0_startWaiting_23 : decode cX0_startWaiting 23 = .ok (.iaload, 1) := by decide +kernel
theorem dX0_startWaiting_24 : decode cX0_startWaiting 24 = .ok (.ifCond .ne 20, 3) := by decide +kernel
theorem dX0_startWaiting_27 : decode cX0_startWaiting 27 = .ok (.aload_n 0, 1) := by decide +kernel
theorem dX0_startWaiting_28 : decode cX0_startWaiting 28 = .ok (.getfield 21, 3) := by decide +kernel
theorem dX0_startWaiting_31 : decode cX0_startWaiting 31 = .ok (.getfield 97, 3) := by decide +kernel
theorem dX0_startWaiting_34 : decode cX0_startWaiting 34 = .ok (.iload_n 3, 1) := by decide +kernel
theorem dX0_startWaiting_35 : decode cX0_startWaiting 35 = .ok (.baload, 1) := by decide +kernel
theorem dX0_startWaiting_36 : decode cX0_startWaiting 36 = .ok (.iload_n 1, 1) := by decide +kernel
theorem dX0_startWaiting_37 : decode cX0_startWaiting 37 = .ok (.if_icmp .ne 7, 3) := by decide +kernel
theorem dX0_startWaiting_40 : decode cX0_startWaiting 40 = .ok (.iconst 1, 1) := by decide +kernel
theorem dX0_startWaiting_41 : decode cX0_startWaiting 41 = .ok (.goto 4, 3) := by decide +kernel
theorem dX0_startWaiting_44 : decode cX0_startWaiting 44 = .ok (.iconst 0, 1) := by decide +kernel
theorem dX0_startWaiting_45 : decode cX0_startWaiting 45 = .ok (.istore 4, 2) := by decide +kernel
theorem dX0_startWaiting_47 : decode cX0_startWaiting 47 = .ok (.iload 4, 2) := by decide +kernel
theorem dX0_startWaiting_49 : decode cX0_startWaiting 49 = .ok (.ifCond .eq 19, 3) := by decide +kernel
theorem dX0_startWaiting_52 : decode cX0_startWaiting 52 = .ok (.aload_n 0, 1) := by decide +kernel
theorem dX0_startWaiting_53 : decode cX0_startWaiting 53 = .ok (.iload_n 3, 1) := by decide +kernel
theorem dX0_startWaiting_54 : decode cX0_startWaiting 54 = .ok (.invokevirtual 70, 3) := by decide +kernel
theorem dX0_startWaiting_57 : decode cX0_startWaiting 57 = .ok (.ifCond .ne 11, 3) := by decide +kernel
theorem dX0_startWaiting_60 : decode cX0_startWaiting 60 = .ok (.aload_n 0, 1) := by decide +kernel
theorem dX0_startWaiting_61 : decode cX0_startWaiting 61 = .ok (.iload_n 3, 1) := by decide +kernel
theorem dX0_startWaiting_62 : decode cX0_startWaiting 62 = .ok (.invokevirtual 73, 3) := by decide +kernel
theorem dX0_startWaiting_65 : decode cX0_startWaiting 65 = .ok (.iinc 2 1, 3) := by decide +kernel
theorem dX0_startWaiting_68 : decode cX0_startWaiting 68 = .ok (.iinc 3 1, 3) := by decide +kernel
theorem dX0_startWaiting_71 : decode cX0_startWaiting 71 = .ok (.goto (-67), 3) := by decide +kernel
theorem dX0_startWaiting_74 : decode cX0_startWaiting 74 = .ok (.iload_n 2, 1) := by decide +kernel
theorem dX0_startWaiting_75 : decode cX0_startWaiting 75 = .ok (.ireturn, 1) := by decide +kernel
theorem dX0_start_0 : decode cX0_start 0 = .ok (.aload_n 0, 1) := by decide +kernel
theorem dX0_start_1 : decode cX0_start 1 = .ok (.getfield 21, 3) := by decide +kernel
theorem dX0_start_4 : decode cX0_start 4 = .ok (.getfield 83, 3) := by decide +kernel
theorem dX0_start_7 : decode cX0_start 7 = .ok (.iload_n 1, 1) := by decide +kernel
theorem dX0_start_8 : decode cX0_start 8 = .ok (.iaload, 1) := by decide +kernel
theorem dX0_start_9 : decode cX0_start 9 = .ok (.invokestatic 101, 3) := by decide +kernel
theorem dX0_start_12 : decode cX0_start 12 = .ok (.aload_n 0, 1) := by decide +kernel
theorem dX0_start_13 : decode cX0_start 13 = .ok (.getfield 21, 3) := by decide +kernel
theorem dX0_start_16 : decode cX0_start 16 = .ok (.getfield 104, 3) := by decide +kernel
theorem dX0_start_19 : decode cX0_start 19 = .ok (.iload_n 1, 1) := by decide +kernel
theorem dX0_start_20 : decode cX0_start 20 = .ok (.iaload, 1) := by decide +kernel
theorem dX0_start_21 : decode cX0_start 21 = .ok (.invokestatic 101, 3) := by decide +kernel
theorem dX0_start_24 : decode cX0_start 24 = .ok (.ior, 1) := by decide +kernel
theorem dX0_start_25 : decode cX0_start 25 = .ok (.istore_n 2, 1) := by decide +kernel
theorem dX0_start_26 : decode cX0_start 26 = .ok (.aload_n 0, 1) := by decide +kernel
theorem dX0_start_27 : decode cX0_start 27 = .ok (.getfield 12, 3) := by decide +kernel
theorem dX0_start_30 : decode cX0_start 30 = .ok (.aload_n 0, 1) := by decide +kernel
theorem dX0_start_31 : decode cX0_start 31 = .ok (.getfield 21, 3) := by decide +kernel
theorem dX0_start_34 : decode cX0_start 34 = .ok (.getfield 107, 3) := by decide +kernel
theorem dX0_start_37 : decode cX0_start 37 = .ok (.iload_n 1, 1) := by decide +kernel
theorem dX0_start_38 : decode cX0_start 38 = .ok (.iaload, 1) := by decide +kernel
theorem dX0_start_39 : decode cX0_start 39 = .ok (.iload_n 2, 1) := by decide +kernel
theorem dX0_start_40 : decode cX0_start 40 = .ok (.invokevirtual 110, 3) := by decide +kernel
theorem dX0_start_43 : decode cX0_start 43 = .ok (.istore_n 3, 1) := by decide +kernel
theorem dX0_start_44 : decode cX0_start 44 = .ok (.aload_n 0, 1) := by decide +kernel
theorem dX0_start_45 : decode cX0_start 45 = .ok (.getfield 21, 3) := by decide +kernel
theorem dX0_start_48 : decode cX0_start 48 = .ok (.getfield 77, 3) := by decide +kernel
theorem dX0_start_51 : decode cX0_start 51 = .ok (.iload_n 1, 1) := by decide +kernel
theorem dX0_start_52 : decode cX0_start 52 = .ok (.iconst 1, 1) := by decide +kernel
theorem dX0_start_53 : decode cX0_start 53 = .ok (.iastore, 1) := by decide +kernel
theorem dX0_start_54 : decode cX0_start 54 = .ok (.aload_n 0, 1) := by decide +kernel
theorem dX0_start_55 : decode cX0_start 55 = .ok (.getfield 21, 3) := by decide +kernel
theorem dX0_start_58 : decode cX0_start 58 = .ok (.getfield 114, 3) := by decide +kernel
theorem dX0_start_61 : decode cX0_start 61 = .ok (.iload_n 1, 1) := by decide +kernel
theorem dX0_start_62 : decode cX0_start 62 = .ok (.aload_n 0, 1) := by decide +kernel
theorem dX0_start_63 : decode cX0_start 63 = .ok (.getfield 42, 3) := by decide +kernel
theorem dX0_start_66 : decode cX0_start 66 = .ok (.iastore, 1) := by decide +kernel
theorem dX0_start_67 : decode cX0_start 67 = .ok (.aload_n 0, 1) := by decide +kernel
theorem dX0_start_68 : decode cX0_start 68 = .ok (.getfield 21, 3) := by decide +kernel
theorem dX0_start_71 : decode cX0_start 71 = .ok (.getfield 117, 3) := by decide +kernel
theorem dX0_start_74 : decode cX0_start 74 = .ok (.iload_n 1, 1) := by decide +kernel
theorem dX0_start_75 : decode cX0_start 75 = .ok (.iload_n 3, 1) := by decide +kernel
theorem dX0_start_76 : decode cX0_start 76 = .ok (.iastore, 1) := by decide +kernel
theorem dX0_start_77 : decode cX0_start 77 = .ok (.aload_n 0, 1) := by decide +kernel
theorem dX0_start_78 : decode cX0_start 78 = .ok (.getfield 12, 3) := by decide +kernel
theorem dX0_start_81 : decode cX0_start 81 = .ok (.iload_n 2, 1) := by decide +kernel
theorem dX0_start_82 : decode cX0_start 82 = .ok (.iload_n 3, 1) := by decide +kernel
theorem dX0_start_83 : decode cX0_start 83 = .ok (.invokevirtual 120, 3) := by decide +kernel
theorem dX0_start_86 : decode cX0_start 86 = .ok (.return_, 1) := by decide +kernel
theorem dX0_findBlocker_0 : decode cX0_findBlocker 0 = .ok (.aload_n 0, 1) := by decide +kernel
theorem dX0_findBlocker_1 : decode cX0_findBlocker 1 = .ok (.getfield 21, 3) := by decide +kernel
theorem dX0_findBlocker_4 : decode cX0_findBlocker 4 = .ok (.invokevirtual 123, 3) := by decide +kernel
theorem dX0_findBlocker_7 : decode cX0_findBlocker 7 = .ok (.istore_n 2, 1) := by decide +kernel
theorem dX0_findBlocker_8 : decode cX0_findBlocker 8 = .ok (.iload_n 2, 1) := by decide +kernel
theorem dX0_findBlocker_9 : decode cX0_findBlocker 9 = .ok (.aload_n 0, 1) := by decide +kernel
theorem dX0_findBlocker_10 : decode cX0_findBlocker 10 = .ok (.getfield 12, 3) := by decide +kernel
theorem dX0_findBlocker_13 : decode cX0_findBlocker 13 = .ok (.aload_n 0, 1) := by decide +kernel
theorem dX0_findBlocker_14 : decode cX0_findBlocker 14 = .ok (.getfield 21, 3) := by decide +kernel
theorem dX0_findBlocker_17 : decode cX0_findBlocker 17 = .ok (.getfield 83, 3) := by decide +kernel
theorem dX0_findBlocker_20 : decode cX0_findBlocker 20 = .ok (.iload_n 1, 1) := by decide +kernel
theorem dX0_findBlocker_21 : decode cX0_findBlocker 21 = .ok (.iaload, 1) := by decide +kernel
theorem dX0_findBlocker_22 : decode cX0_findBlocker 22 = .ok (.invokevirtual 59, 3) := by decide +kernel
theorem dX0_findBlocker_25 : decode cX0_findBlocker 25 = .ok (.iand, 1) := by decide +kernel
theorem dX0_findBlocker_26 : decode cX0_findBlocker 26 = .ok (.ifCond .eq 5, 3) := by decide +kernel
theorem dX0_findBlocker_29 : decode cX0_findBlocker 29 = .ok (.iconst 1, 1) := by decide +kernel
theorem dX0_findBlocker_30 : decode cX0_findBlocker 30 = .ok (.ireturn, 1) := by decide +kernel
theorem dX0_findBlocker_31 : decode cX0_findBlocker 31 = .ok (.iload_n 2, 1) := by decide +kernel
theorem dX0_findBlocker_32 : decode cX0_findBlocker 32 = .ok (.aload_n 0, 1) := by decide +kernel
theorem dX0_findBlocker_33 : decode cX0_findBlocker 33 = .ok (.getfield 21, 3) := by decide +kernel
theorem dX0_findBlocker_36 : decode cX0_findBlocker 36 = .ok (.getfield 107, 3) := by decide +kernel
theorem dX0_findBlocker_39 : decode cX0_findBlocker 39 = .ok (.iload_n 1, 1) := by decide +kernel
theorem dX0_findBlocker_40 : decode cX0_findBlocker 40 = .ok (.iaload, 1) := by decide +kernel
theorem dX0_findBlocker_41 : decode cX0_findBlocker 41 = .ok (.iand, 1) := by decide +kernel
theorem dX0_findBlocker_42 : decode cX0_findBlocker 42 = .ok (.ifCond .eq 5, 3) := by decide +kernel
theorem dX0_findBlocker_45 : decode cX0_findBlocker 45 = .ok (.iconst 2, 1) := by decide +kernel
theorem dX0_findBlocker_46 : decode cX0_findBlocker 46 = .ok (.ireturn, 1) := by decide +kernel
theorem dX0_findBlocker_47 : decode cX0_findBlocker 47 = .ok (.aload_n 0, 1) := by decide +kernel
theorem dX0_findBlocker_48 : decode cX0_findBlocker 48 = .ok (.getfield 21, 3) := by decide +kernel
theorem dX0_findBlocker_51 : decode cX0_findBlocker 51 = .ok (.getfield 127, 3) := by decide +kernel
theorem dX0_findBlocker_54 : decode cX0_findBlocker 54 = .ok (.iload_n 1, 1) := by decide +kernel
theorem dX0_findBlocker_55 : decode cX0_findBlocker 55 = .ok (.baload, 1) := by decide +kernel
theorem dX0_findBlocker_56 : decode cX0_findBlocker 56 = .ok (.ifCond .eq 21, 3) := by decide +kernel
theorem dX0_findBlocker_59 : decode cX0_findBlocker 59 = .ok (.aload_n 0, 1) := by decide +kernel
theorem dX0_findBlocker_60 : decode cX0_findBlocker 60 = .ok (.getfield 21, 3) := by decide +kernel
theorem dX0_findBlocker_63 : decode cX0_findBlocker 63 = .ok (.invokevirtual 130, 3) := by decide +kernel
theorem dX0_findBlocker_66 : decode cX0_findBlocker 66 = .ok (.aload_n 0, 1) := by decide +kernel
theorem dX0_findBlocker_67 : decode cX0_findBlocker 67 = .ok (.getfield 49, 3) := by decide +kernel
theorem dX0_findBlocker_70 : decode cX0_findBlocker 70 = .ok (.if_icmp .lt 7, 3) := by decide +kernel
theorem dX0_findBlocker_73 : decode cX0_findBlocker 73 = .ok (.iconst 3, 1) := by decide +kernel
theorem dX0_findBlocker_74 : decode cX0_findBlocker 74 = .ok (.goto 4, 3) := by decide +kernel
theorem dX0_findBlocker_77 : decode cX0_findBlocker 77 = .ok (.iconst 0, 1) := by decide +kernel
theorem dX0_findBlocker_78 : decode cX0_findBlocker 78 = .ok (.ireturn, 1) := by decide +kernel
theorem dX0_unusedCords_0 : decode cX0_unusedCords 0 = .ok (.aload_n 0, 1) := by decide +kernel
theorem dX0_unusedCords_1 : decode cX0_unusedCords 1 = .ok (.getfield 49, 3) := by decide +kernel
theorem dX0_unusedCords_4 : decode cX0_unusedCords 4 = .ok (.aload_n 0, 1) := by decide +kernel
theorem dX0_unusedCords_5 : decode cX0_unusedCords 5 = .ok (.getfield 21, 3) := by decide +kernel
theorem dX0_unusedCords_8 : decode cX0_unusedCords 8 = .ok (.invokevirtual 130, 3) := by decide +kernel
theorem dX0_unusedCords_11 : decode cX0_unusedCords 11 = .ok (.isub, 1) := by decide +kernel
theorem dX0_unusedCords_12 : decode cX0_unusedCords 12 = .ok (.ireturn, 1) := by decide +kernel
theorem dX0_chargeFor_0 : decode cX0_chargeFor 0 = .ok (.aload_n 0, 1) := by decide +kernel
theorem dX0_chargeFor_1 : decode cX0_chargeFor 1 = .ok (.getfield 21, 3) := by decide +kernel
theorem dX0_chargeFor_4 : decode cX0_chargeFor 4 = .ok (.getfield 77, 3) := by decide +kernel
theorem dX0_chargeFor_7 : decode cX0_chargeFor 7 = .ok (.iload_n 1, 1) := by decide +kernel
theorem dX0_chargeFor_8 : decode cX0_chargeFor 8 = .ok (.iaload, 1) := by decide +kernel
theorem dX0_chargeFor_9 : decode cX0_chargeFor 9 = .ok (.istore_n 2, 1) := by decide +kernel
theorem dX0_chargeFor_10 : decode cX0_chargeFor 10 = .ok (.iload_n 2, 1) := by decide +kernel
theorem dX0_chargeFor_11 : decode cX0_chargeFor 11 = .ok (.ifCond .eq 8, 3) := by decide +kernel
theorem dX0_chargeFor_14 : decode cX0_chargeFor 14 = .ok (.iload_n 2, 1) := by decide +kernel
theorem dX0_chargeFor_15 : decode cX0_chargeFor 15 = .ok (.iconst 3, 1) := by decide +kernel
theorem dX0_chargeFor_16 : decode cX0_chargeFor 16 = .ok (.if_icmp .ne 5, 3) := by decide +kernel
theorem dX0_chargeFor_19 : decode cX0_chargeFor 19 = .ok (.iconst 0, 1) := by decide +kernel
theorem dX0_chargeFor_20 : decode cX0_chargeFor 20 = .ok (.ireturn, 1) := by decide +kernel
theorem dX0_chargeFor_21 : decode cX0_chargeFor 21 = .ok (.aload_n 0, 1) := by decide +kernel
theorem dX0_chargeFor_22 : decode cX0_chargeFor 22 = .ok (.getfield 21, 3) := by decide +kernel
theorem dX0_chargeFor_25 : decode cX0_chargeFor 25 = .ok (.getfield 133, 3) := by decide +kernel
theorem dX0_chargeFor_28 : decode cX0_chargeFor 28 = .ok (.iload_n 1, 1) := by decide +kernel
theorem dX0_chargeFor_29 : decode cX0_chargeFor 29 = .ok (.iaload, 1) := by decide +kernel
theorem dX0_chargeFor_30 : decode cX0_chargeFor 30 = .ok (.istore_n 3, 1) := by decide +kernel
theorem dX0_chargeFor_31 : decode cX0_chargeFor 31 = .ok (.iload_n 3, 1) := by decide +kernel
theorem dX0_chargeFor_32 : decode cX0_chargeFor 32 = .ok (.ifCond .lt 11, 3) := by decide +kernel
theorem dX0_chargeFor_35 : decode cX0_chargeFor 35 = .ok (.iload_n 3, 1) := by decide +kernel
theorem dX0_chargeFor_36 : decode cX0_chargeFor 36 = .ok (.aload_n 0, 1) := by decide +kernel
theorem dX0_chargeFor_37 : decode cX0_chargeFor 37 = .ok (.getfield 52, 3) := by decide +kernel
theorem dX0_chargeFor_40 : decode cX0_chargeFor 40 = .ok (.if_icmp .lt 5, 3) := by decide +kernel
theorem dX0_chargeFor_43 : decode cX0_chargeFor 43 = .ok (.iconst 5, 1) := by decide +kernel
theorem dX0_chargeFor_44 : decode cX0_chargeFor 44 = .ok (.ireturn, 1) := by decide +kernel
theorem dX0_chargeFor_45 : decode cX0_chargeFor 45 = .ok (.iload_n 2, 1) := by decide +kernel
theorem dX0_chargeFor_46 : decode cX0_chargeFor 46 = .ok (.iconst 1, 1) := by decide +kernel
theorem dX0_chargeFor_47 : decode cX0_chargeFor 47 = .ok (.if_icmp .ne 10, 3) := by decide +kernel
theorem dX0_chargeFor_50 : decode cX0_chargeFor 50 = .ok (.aload_n 0, 1) := by decide +kernel
theorem dX0_chargeFor_51 : decode cX0_chargeFor 51 = .ok (.getfield 42, 3) := by decide +kernel
theorem dX0_chargeFor_54 : decode cX0_chargeFor 54 = .ok (.goto 12, 3) := by decide +kernel
theorem dX0_chargeFor_57 : decode cX0_chargeFor 57 = .ok (.aload_n 0, 1) := by decide +kernel
theorem dX0_chargeFor_58 : decode cX0_chargeFor 58 = .ok (.getfield 21, 3) := by decide +kernel
theorem dX0_chargeFor_61 : decode cX0_chargeFor 61 = .ok (.getfield 80, 3) := by decide +kernel
theorem dX0_chargeFor_64 : decode cX0_chargeFor 64 = .ok (.iload_n 1, 1) := by decide +kernel
theorem dX0_chargeFor_65 : decode cX0_chargeFor 65 = .ok (.iaload, 1) := by decide +kernel
theorem dX0_chargeFor_66 : decode cX0_chargeFor 66 = .ok (.istore 4, 2) := by decide +kernel
theorem dX0_chargeFor_68 : decode cX0_chargeFor 68 = .ok (.iload 4, 2) := by decide +kernel
theorem dX0_chargeFor_70 : decode cX0_chargeFor 70 = .ok (.aload_n 0, 1) := by decide +kernel
theorem dX0_chargeFor_71 : decode cX0_chargeFor 71 = .ok (.getfield 21, 3) := by decide +kernel
theorem dX0_chargeFor_74 : decode cX0_chargeFor 74 = .ok (.getfield 114, 3) := by decide +kernel
theorem dX0_chargeFor_77 : decode cX0_chargeFor 77 = .ok (.iload_n 1, 1) := by decide +kernel
theorem dX0_chargeFor_78 : decode cX0_chargeFor 78 = .ok (.iaload, 1) := by decide +kernel
theorem dX0_chargeFor_79 : decode cX0_chargeFor 79 = .ok (.isub, 1) := by decide +kernel
theorem dX0_chargeFor_80 : decode cX0_chargeFor 80 = .ok (.bipush 59, 2) := by decide +kernel
theorem dX0_chargeFor_82 : decode cX0_chargeFor 82 = .ok (.iadd, 1) := by decide +kernel
theorem dX0_chargeFor_83 : decode cX0_chargeFor 83 = .ok (.bipush 60, 2) := by decide +kernel
theorem dX0_chargeFor_85 : decode cX0_chargeFor 85 = .ok (.idiv, 1) := by decide +kernel
theorem dX0_chargeFor_86 : decode cX0_chargeFor 86 = .ok (.istore 5, 2) := by decide +kernel
theorem dX0_chargeFor_88 : decode cX0_chargeFor 88 = .ok (.iconst 1, 1) := by decide +kernel
theorem dX0_chargeFor_89 : decode cX0_chargeFor 89 = .ok (.iload 5, 2) := by decide +kernel
theorem dX0_chargeFor_91 : decode cX0_chargeFor 91 = .ok (.invokestatic 136, 3) := by decide +kernel
theorem dX0_chargeFor_94 : decode cX0_chargeFor 94 = .ok (.aload_n 0, 1) := by decide +kernel
theorem dX0_chargeFor_95 : decode cX0_chargeFor 95 = .ok (.getfield 25, 3) := by decide +kernel
theorem dX0_chargeFor_98 : decode cX0_chargeFor 98 = .ok (.iload_n 3, 1) := by decide +kernel
theorem dX0_chargeFor_99 : decode cX0_chargeFor 99 = .ok (.iaload, 1) := by decide +kernel
theorem dX0_chargeFor_100 : decode cX0_chargeFor 100 = .ok (.imul, 1) := by decide +kernel
theorem dX0_chargeFor_101 : decode cX0_chargeFor 101 = .ok (.ireturn, 1) := by decide +kernel
theorem dX0_cordFaults_0 : decode cX0_cordFaults 0 = .ok (.aload_n 0, 1) := by decide +kernel
theorem dX0_cordFaults_1 : decode cX0_cordFaults 1 = .ok (.getfield 49, 3) := by decide +kernel
theorem dX0_cordFaults_4 : decode cX0_cordFaults 4 = .ok (.aload_n 0, 1) := by decide +kernel
theorem dX0_cordFaults_5 : decode cX0_cordFaults 5 = .ok (.invokevirtual 141, 3) := by decide +kernel
theorem dX0_cordFaults_8 : decode cX0_cordFaults 8 = .ok (.isub, 1) := by decide +kernel
theorem dX0_cordFaults_9 : decode cX0_cordFaults 9 = .ok (.aload_n 0, 1) := by decide +kernel
theorem dX0_cordFaults_10 : decode cX0_cordFaults 10 = .ok (.getfield 21, 3) := by decide +kernel
theorem dX0_cordFaults_13 : decode cX0_cordFaults 13 = .ok (.invokevirtual 130, 3) := by decide +kernel
theorem dX0_cordFaults_16 : decode cX0_cordFaults 16 = .ok (.isub, 1) := by decide +kernel
theorem dX0_cordFaults_17 : decode cX0_cordFaults 17 = .ok (.invokestatic 144, 3) := by decide +kernel
theorem dX0_cordFaults_20 : decode cX0_cordFaults 20 = .ok (.ireturn, 1) := by decide +kernel
theorem dX0_billFaults_0 : decode cX0_billFaults 0 = .ok (.iconst 0, 1) := by decide +kernel
theorem dX0_billFaults_1 : decode cX0_billFaults 1 = .ok (.istore_n 1, 1) := by decide +kernel
theorem dX0_billFaults_2 : decode cX0_billFaults 2 = .ok (.iconst 0, 1) := by decide +kernel
theorem dX0_billFaults_3 : decode cX0_billFaults 3 = .ok (.istore_n 2, 1) := by decide +kernel
theorem dX0_billFaults_4 : decode cX0_billFaults 4 = .ok (.iload_n 2, 1) := by decide +kernel
theorem dX0_billFaults_5 : decode cX0_billFaults 5 = .ok (.aload_n 0, 1) := by decide +kernel
theorem dX0_billFaults_6 : decode cX0_billFaults 6 = .ok (.getfield 12, 3) := by decide +kernel
theorem dX0_billFaults_9 : decode cX0_billFaults 9 = .ok (.getfield 55, 3) := by decide +kernel
theorem dX0_billFaults_12 : decode cX0_billFaults 12 = .ok (.if_icmp .ge 21, 3) := by decide +kernel
theorem dX0_billFaults_15 : decode cX0_billFaults 15 = .ok (.iload_n 1, 1) := by decide +kernel
theorem dX0_billFaults_16 : decode cX0_billFaults 16 = .ok (.aload_n 0, 1) := by decide +kernel
theorem dX0_billFaults_17 : decode cX0_billFaults 17 = .ok (.getfield 12, 3) := by decide +kernel
theorem dX0_billFaults_20 : decode cX0_billFaults 20 = .ok (.getfield 147, 3) := by decide +kernel
theorem dX0_billFaults_23 : decode cX0_billFaults 23 = .ok (.iload_n 2, 1) := by decide +kernel
theorem dX0_billFaults_24 : decode cX0_billFaults 24 = .ok (.iaload, 1) := by decide +kernel
theorem dX0_billFaults_25 : decode cX0_billFaults 25 = .ok (.iadd, 1) := by decide +kernel
theorem dX0_billFaults_26 : decode cX0_billFaults 26 = .ok (.istore_n 1, 1) := by decide +kernel
theorem dX0_billFaults_27 : decode cX0_billFaults 27 = .ok (.iinc 2 1, 3) := by decide +kernel
theorem dX0_billFaults_30 : decode cX0_billFaults 30 = .ok (.goto (-26), 3) := by decide +kernel
theorem dX0_billFaults_33 : decode cX0_billFaults 33 = .ok (.iconst 0, 1) := by decide +kernel
theorem dX0_billFaults_34 : decode cX0_billFaults 34 = .ok (.istore_n 2, 1) := by decide +kernel
theorem dX0_billFaults_35 : decode cX0_billFaults 35 = .ok (.iload_n 2, 1) := by decide +kernel
theorem dX0_billFaults_36 : decode cX0_billFaults 36 = .ok (.aload_n 0, 1) := by decide +kernel
theorem dX0_billFaults_37 : decode cX0_billFaults 37 = .ok (.getfield 21, 3) := by decide +kernel
theorem dX0_billFaults_40 : decode cX0_billFaults 40 = .ok (.getfield 58, 3) := by decide +kernel
theorem dX0_billFaults_43 : decode cX0_billFaults 43 = .ok (.if_icmp .ge 30, 3) := by decide +kernel
theorem dX0_billFaults_46 : decode cX0_billFaults 46 = .ok (.aload_n 0, 1) := by decide +kernel
theorem dX0_billFaults_47 : decode cX0_billFaults 47 = .ok (.getfield 21, 3) := by decide +kernel
theorem dX0_billFaults_50 : decode cX0_billFaults 50 = .ok (.getfield 77, 3) := by decide +kernel
theorem dX0_billFaults_53 : decode cX0_billFaults 53 = .ok (.iload_n 2, 1) := by decide +kernel
theorem dX0_billFaults_54 : decode cX0_billFaults 54 = .ok (.iaload, 1) := by decide +kernel
theorem dX0_billFaults_55 : decode cX0_billFaults 55 = .ok (.iconst 2, 1) := by decide +kernel
theorem dX0_billFaults_56 : decode cX0_billFaults 56 = .ok (.if_icmp .ne 11, 3) := by decide +kernel
theorem dX0_billFaults_59 : decode cX0_billFaults 59 = .ok (.iload_n 1, 1) := by decide +kernel
theorem dX0_billFaults_60 : decode cX0_billFaults 60 = .ok (.aload_n 0, 1) := by decide +kernel
theorem dX0_billFaults_61 : decode cX0_billFaults 61 = .ok (.iload_n 2, 1) := by decide +kernel
theorem dX0_billFaults_62 : decode cX0_billFaults 62 = .ok (.invokevirtual 86, 3) := by decide +kernel
theorem dX0_billFaults_65 : decode cX0_billFaults 65 = .ok (.isub, 1) := by decide +kernel
theorem dX0_billFaults_66 : decode cX0_billFaults 66 = .ok (.istore_n 1, 1) := by decide +kernel
theorem dX0_billFaults_67 : decode cX0_billFaults 67 = .ok (.iinc 2 1, 3) := by decide +kernel
theorem dX0_billFaults_70 : decode cX0_billFaults 70 = .ok (.goto (-35), 3) := by decide +kernel
theorem dX0_billFaults_73 : decode cX0_billFaults 73 = .ok (.iload_n 1, 1) := by decide +kernel
theorem dX0_billFaults_74 : decode cX0_billFaults 74 = .ok (.invokestatic 144, 3) := by decide +kernel
theorem dX0_billFaults_77 : decode cX0_billFaults 77 = .ok (.ireturn, 1) := by decide +kernel
theorem dX1_init_0 : decode cX1_init 0 = .ok (.aload_n 0, 1) := by decide +kernel
theorem dX1_init_1 : decode cX1_init 1 = .ok (.invokespecial 3, 3) := by decide +kernel
theorem dX1_init_4 : decode cX1_init 4 = .ok (.aload_n 0, 1) := by decide +kernel
theorem dX1_init_5 : decode cX1_init 5 = .ok (.bipush 40, 2) := by decide +kernel
theorem dX1_init_7 : decode cX1_init 7 = .ok (.newarray .int, 2) := by decide +kernel
theorem dX1_init_9 : decode cX1_init 9 = .ok (.putfield 9, 3) := by decide +kernel
theorem dX1_init_12 : decode cX1_init 12 = .ok (.aload_n 0, 1) := by decide +kernel
theorem dX1_init_13 : decode cX1_init 13 = .ok (.bipush 40, 2) := by decide +kernel
theorem dX1_init_15 : decode cX1_init 15 = .ok (.newarray .int, 2) := by decide +kernel
theorem dX1_init_17 : decode cX1_init 17 = .ok (.putfield 15, 3) := by decide +kernel
theorem dX1_init_20 : decode cX1_init 20 = .ok (.aload_n 0, 1) := by decide +kernel
theorem dX1_init_21 : decode cX1_init 21 = .ok (.bipush 40, 2) := by decide +kernel
theorem dX1_init_23 : decode cX1_init 23 = .ok (.newarray .int, 2) := by decide +kernel
theorem dX1_init_25 : decode cX1_init 25 = .ok (.putfield 18, 3) := by decide +kernel
theorem dX1_init_28 : decode cX1_init 28 = .ok (.aload_n 0, 1) := by decide +kernel
theorem dX1_init_29 : decode cX1_init 29 = .ok (.bipush 40, 2) := by decide +kernel
theorem dX1_init_31 : decode cX1_init 31 = .ok (.newarray .int, 2) := by decide +kernel
theorem dX1_init_33 : decode cX1_init 33 = .ok (.putfield 21, 3) := by decide +kernel
theorem dX1_init_36 : decode cX1_init 36 = .ok (.aload_n 0, 1) := by decide +kernel
theorem dX1_init_37 : decode cX1_init 37 = .ok (.bipush 40, 2) := by decide +kernel
theorem dX1_init_39 : decode cX1_init 39 = .ok (.newarray .boolean, 2) := by decide +kernel
theorem dX1_init_41 : decode cX1_init 41 = .ok (.putfield 24, 3) := by decide +kernel
theorem dX1_init_44 : decode cX1_init 44 = .ok (.aload_n 0, 1) := by decide +kernel
theorem dX1_init_45 : decode cX1_init 45 = .ok (.bipush 40, 2) := by decide +kernel
theorem dX1_init_47 : decode cX1_init 47 = .ok (.newarray .int, 2) := by decide +kernel
theorem dX1_init_49 : decode cX1_init 49 = .ok (.putfield 28, 3) := by decide +kernel
theorem dX1_init_52 : decode cX1_init 52 = .ok (.aload_n 0, 1) := by decide +kernel
theorem dX1_init_53 : decode cX1_init 53 = .ok (.bipush 40, 2) := by decide +kernel
theorem dX1_init_55 : decode cX1_init 55 = .ok (.newarray .boolean, 2) := by decide +kernel
theorem dX1_init_57 : decode cX1_init 57 = .ok (.putfield 31, 3) := by decide +kernel
theorem dX1_init_60 : decode cX1_init 60 = .ok (.aload_n 0, 1) := by decide +kernel
theorem dX1_init_61 : decode cX1_init 61 = .ok (.bipush 40, 2) := by decide +kernel
theorem dX1_init_63 : decode cX1_init 63 = .ok (.newarray .int, 2) := by decide +kernel
theorem dX1_init_65 : decode cX1_init 65 = .ok (.putfield 34, 3) := by decide +kernel
theorem dX1_init_68 : decode cX1_init 68 = .ok (.aload_n 0, 1) := by decide +kernel
theorem dX1_init_69 : decode cX1_init 69 = .ok (.bipush 40, 2) := by decide +kernel
theorem dX1_init_71 : decode cX1_init 71 = .ok (.newarray .int, 2) := by decide +kernel
theorem dX1_init_73 : decode cX1_init 73 = .ok (.putfield 37, 3) := by decide +kernel
theorem dX1_init_76 : decode cX1_init 76 = .ok (.aload_n 0, 1) := by decide +kernel
theorem dX1_init_77 : decode cX1_init 77 = .ok (.bipush 40, 2) := by decide +kernel
theorem dX1_init_79 : decode cX1_init 79 = .ok (.newarray .int, 2) := by decide +kernel
theorem dX1_init_81 : decode cX1_init 81 = .ok (.putfield 40, 3) := by decide +kernel
theorem dX1_init_84 : decode cX1_init 84 = .ok (.return_, 1) := by decide +kernel
theorem dX1_copyFrom_0 : decode cX1_copyFrom 0 = .ok (.aload_n 1, 1) := by decide +kernel
theorem dX1_copyFrom_1 : decode cX1_copyFrom 1 = .ok (.getfield 9, 3) := by decide +kernel
theorem dX1_copyFrom_4 : decode cX1_copyFrom 4 = .ok (.iconst 0, 1) := by decide +kernel
theorem dX1_copyFrom_5 : decode cX1_copyFrom 5 = .ok (.aload_n 0, 1) := by decide +kernel
theorem dX1_copyFrom_6 : decode cX1_copyFrom 6 = .ok (.getfield 9, 3) := by decide +kernel
theorem dX1_copyFrom_9 : decode cX1_copyFrom 9 = .ok (.iconst 0, 1) := by decide +kernel
theorem dX1_copyFrom_10 : decode cX1_copyFrom 10 = .ok (.bipush 40, 2) := by decide +kernel
theorem dX1_copyFrom_12 : decode cX1_copyFrom 12 = .ok (.invokestatic 43, 3) := by decide +kernel
theorem dX1_copyFrom_15 : decode cX1_copyFrom 15 = .ok (.aload_n 1, 1) := by decide +kernel
theorem dX1_copyFrom_16 : decode cX1_copyFrom 16 = .ok (.getfield 15, 3) := by decide +kernel
theorem dX1_copyFrom_19 : decode cX1_copyFrom 19 = .ok (.iconst 0, 1) := by decide +kernel
theorem dX1_copyFrom_20 : decode cX1_copyFrom 20 = .ok (.aload_n 0, 1) := by decide +kernel
theorem dX1_copyFrom_21 : decode cX1_copyFrom 21 = .ok (.getfield 15, 3) := by decide +kernel
theorem dX1_copyFrom_24 : decode cX1_copyFrom 24 = .ok (.iconst 0, 1) := by decide +kernel
theorem dX1_copyFrom_25 : decode cX1_copyFrom 25 = .ok (.bipush 40, 2) := by decide +kernel
theorem dX1_copyFrom_27 : decode cX1_copyFrom 27 = .ok (.invokestatic 43, 3) := by decide +kernel
theorem dX1_copyFrom_30 : decode cX1_copyFrom 30 = .ok (.aload_n 1, 1) := by decide +kernel
theorem dX1_copyFrom_31 : decode cX1_copyFrom 31 = .ok (.getfield 18, 3) := by decide +kernel
theorem dX1_copyFrom_34 : decode cX1_copyFrom 34 = .ok (.iconst 0, 1) := by decide +kernel
theorem dX1_copyFrom_35 : decode cX1_copyFrom 35 = .ok (.aload_n 0, 1) := by decide +kernel
theorem dX1_copyFrom_36 : decode cX1_copyFrom 36 = .ok (.getfield 18, 3) := by decide +kernel
theorem dX1_copyFrom_39 : decode cX1_copyFrom 39 = .ok (.iconst 0, 1) := by decide +kernel
theorem dX1_copyFrom_40 : decode cX1_copyFrom 40 = .ok (.bipush 40, 2) := by decide +kernel
theorem dX1_copyFrom_42 : decode cX1_copyFrom 42 = .ok (.invokestatic 43, 3) := by decide +kernel
theorem dX1_copyFrom_45 : decode cX1_copyFrom 45 = .ok (.aload_n 1, 1) := by decide +kernel
theorem dX1_copyFrom_46 : decode cX1_copyFrom 46 = .ok (.getfield 21, 3) := by decide +kernel
theorem dX1_copyFrom_49 : decode cX1_copyFrom 49 = .ok (.iconst 0, 1) := by decide +kernel
theorem dX1_copyFrom_50 : decode cX1_copyFrom 50 = .ok (.aload_n 0, 1) := by decide +kernel
theorem dX1_copyFrom_51 : decode cX1_copyFrom 51 = .ok (.getfield 21, 3) := by decide +kernel
theorem dX1_copyFrom_54 : decode cX1_copyFrom 54 = .ok (.iconst 0, 1) := by decide +kernel
theorem dX1_copyFrom_55 : decode cX1_copyFrom 55 = .ok (.bipush 40, 2) := by decide +kernel
theorem dX1_copyFrom_57 : decode cX1_copyFrom 57 = .ok (.invokestatic 43, 3) := by decide +kernel
theorem dX1_copyFrom_60 : decode cX1_copyFrom 60 = .ok (.aload_n 1, 1) := by decide +kernel
theorem dX1_copyFrom_61 : decode cX1_copyFrom 61 = .ok (.getfield 24, 3) := by decide +kernel
theorem dX1_copyFrom_64 : decode cX1_copyFrom 64 = .ok (.iconst 0, 1) := by decide +kernel
theorem dX1_copyFrom_65 : decode cX1_copyFrom 65 = .ok (.aload_n 0, 1) := by decide +kernel
theorem dX1_copyFrom_66 : decode cX1_copyFrom 66 = .ok (.getfield 24, 3) := by decide +kernel
theorem dX1_copyFrom_69 : decode cX1_copyFrom 69 = .ok (.iconst 0, 1) := by decide +kernel
theorem dX1_copyFrom_70 : decode cX1_copyFrom 70 = .ok (.bipush 40, 2) := by decide +kernel
theorem dX1_copyFrom_72 : decode cX1_copyFrom 72 = .ok (.invokestatic 43, 3) := by decide +kernel
theorem dX1_copyFrom_75 : decode cX1_copyFrom 75 = .ok (.aload_n 1, 1) := by decide +kernel
theorem dX1_copyFrom_76 : decode cX1_copyFrom 76 = .ok (.getfield 28, 3) := by decide +kernel
theorem dX1_copyFrom_79 : decode cX1_copyFrom 79 = .ok (.iconst 0, 1) := by decide +kernel
theorem dX1_copyFrom_80 : decode cX1_copyFrom 80 = .ok (.aload_n 0, 1) := by decide +kernel
theorem dX1_copyFrom_81 : decode cX1_copyFrom 81 = .ok (.getfield 28, 3) := by decide +kernel
theorem dX1_copyFrom_84 : decode cX1_copyFrom 84 = .ok (.iconst 0, 1) := by decide +kernel
theorem dX1_copyFrom_85 : decode cX1_copyFrom 85 = .ok (.bipush 40, 2) := by decide +kernel
theorem dX1_copyFrom_87 : decode cX1_copyFrom 87 = .ok (.invokestatic 43, 3) := by decide +kernel
theorem dX1_copyFrom_90 : decode cX1_copyFrom 90 = .ok (.aload_n 1, 1) := by decide +kernel
theorem dX1_copyFrom_91 : decode cX1_copyFrom 91 = .ok (.getfield 31, 3) := by decide +kernel
theorem dX1_copyFrom_94 : decode cX1_copyFrom 94 = .ok (.iconst 0, 1) := by decide +kernel
theorem dX1_copyFrom_95 : decode cX1_copyFrom 95 = .ok (.aload_n 0, 1) := by decide +kernel
theorem dX1_copyFrom_96 : decode cX1_copyFrom 96 = .ok (.getfield 31, 3) := by decide +kernel
theorem dX1_copyFrom_99 : decode cX1_copyFrom 99 = .ok (.iconst 0, 1) := by decide +kernel
theorem dX1_copyFrom_100 : decode cX1_copyFrom 100 = .ok (.bipush 40, 2) := by decide +kernel
theorem dX1_copyFrom_102 : decode cX1_copyFrom 102 = .ok (.invokestatic 43, 3) := by decide +kernel
theorem dX1_copyFrom_105 : decode cX1_copyFrom 105 = .ok (.aload_n 1, 1) := by decide +kernel
theorem dX1_copyFrom_106 : decode cX1_copyFrom 106 = .ok (.getfield 34, 3) := by decide +kernel
theorem dX1_copyFrom_109 : decode cX1_copyFrom 109 = .ok (.iconst 0, 1) := by decide +kernel
theorem dX1_copyFrom_110 : decode cX1_copyFrom 110 = .ok (.aload_n 0, 1) := by decide +kernel
theorem dX1_copyFrom_111 : decode cX1_copyFrom 111 = .ok (.getfield 34, 3) := by decide +kernel
theorem dX1_copyFrom_114 : decode cX1_copyFrom 114 = .ok (.iconst 0, 1) := by decide +kernel
theorem dX1_copyFrom_115 : decode cX1_copyFrom 115 = .ok (.bipush 40, 2) := by decide +kernel
theorem dX1_copyFrom_117 : decode cX1_copyFrom 117 = .ok (.invokestatic 43, 3) := by decide +kernel
theorem dX1_copyFrom_120 : decode cX1_copyFrom 120 = .ok (.aload_n 1, 1) := by decide +kernel
theorem dX1_copyFrom_121 : decode cX1_copyFrom 121 = .ok (.getfield 37, 3) := by decide +kernel
theorem dX1_copyFrom_124 : decode cX1_copyFrom 124 = .ok (.iconst 0, 1) := by decide +kernel
theorem dX1_copyFrom_125 : decode cX1_copyFrom 125 = .ok (.aload_n 0, 1) := by decide +kernel
theorem dX1_copyFrom_126 : decode cX1_copyFrom 126 = .ok (.getfield 37, 3) := by decide +kernel
theorem dX1_copyFrom_129 : decode cX1_copyFrom 129 = .ok (.iconst 0, 1) := by decide +kernel
theorem dX1_copyFrom_130 : decode cX1_copyFrom 130 = .ok (.bipush 40, 2) := by decide +kernel
theorem dX1_copyFrom_132 : decode cX1_copyFrom 132 = .ok (.invokestatic 43, 3) := by decide +kernel
theorem dX1_copyFrom_135 : decode cX1_copyFrom 135 = .ok (.aload_n 1, 1) := by decide +kernel
theorem dX1_copyFrom_136 : decode cX1_copyFrom 136 = .ok (.getfield 40, 3) := by decide +kernel
theorem dX1_copyFrom_139 : decode cX1_copyFrom 139 = .ok (.iconst 0, 1) := by decide +kernel
theorem dX1_copyFrom_140 : decode cX1_copyFrom 140 = .ok (.aload_n 0, 1) := by decide +kernel
theorem dX1_copyFrom_141 : decode cX1_copyFrom 141 = .ok (.getfield 40, 3) := by decide +kernel
theorem dX1_copyFrom_144 : decode cX1_copyFrom 144 = .ok (.iconst 0, 1) := by decide +kernel
theorem dX1_copyFrom_145 : decode cX1_copyFrom 145 = .ok (.bipush 40, 2) := by decide +kernel
theorem dX1_copyFrom_147 : decode cX1_copyFrom 147 = .ok (.invokestatic 43, 3) := by decide +kernel
theorem dX1_copyFrom_150 : decode cX1_copyFrom 150 = .ok (.aload_n 0, 1) := by decide +kernel
theorem dX1_copyFrom_151 : decode cX1_copyFrom 151 = .ok (.aload_n 1, 1) := by decide +kernel
theorem dX1_copyFrom_152 : decode cX1_copyFrom 152 = .ok (.getfield 49, 3) := by decide +kernel
theorem dX1_copyFrom_155 : decode cX1_copyFrom 155 = .ok (.putfield 49, 3) := by decide +kernel
theorem dX1_copyFrom_158 : decode cX1_copyFrom 158 = .ok (.return_, 1) := by decide +kernel
theorem dX1_add_0 : decode cX1_add 0 = .ok (.aload_n 0, 1) := by decide +kernel
theorem dX1_add_1 : decode cX1_add 1 = .ok (.getfield 49, 3) := by decide +kernel
theorem dX1_add_4 : decode cX1_add 4 = .ok (.bipush 40, 2) := by decide +kernel
theorem dX1_add_6 : decode cX1_add 6 = .ok (.if_icmp .lt 5, 3) := by decide +kernel
theorem dX1_add_9 : decode cX1_add 9 = .ok (.iconst (-1), 1) := by decide +kernel
theorem dX1_add_10 : decode cX1_add 10 = .ok (.ireturn, 1) := by decide +kernel
theorem dX1_add_11 : decode cX1_add 11 = .ok (.aload_n 0, 1) := by decide +kernel
theorem dX1_add_12 : decode cX1_add 12 = .ok (.getfield 49, 3) := by decide +kernel
theorem dX1_add_15 : decode cX1_add 15 = .ok (.istore 6, 2) := by decide +kernel
theorem dX1_add_17 : decode cX1_add 17 = .ok (.aload_n 0, 1) := by decide +kernel
theorem dX1_add_18 : decode cX1_add 18 = .ok (.dup, 1) := by decide +kernel
theorem dX1_add_19 : decode cX1_add 19 = .ok (.getfield 49, 3) := by decide +kernel
theorem dX1_add_22 : decode cX1_add 22 = .ok (.iconst 1, 1) := by decide +kernel
theorem dX1_add_23 : decode cX1_add 23 = .ok (.iadd, 1) := by decide +kernel
theorem dX1_add_24 : decode cX1_add 24 = .ok (.putfield 49, 3) := by decide +kernel
theorem dX1_add_27 : decode cX1_add 27 = .ok (.aload_n 0, 1) := by decide +kernel
theorem dX1_add_28 : decode cX1_add 28 = .ok (.getfield 9, 3) := by decide +kernel
theorem dX1_add_31 : decode cX1_add 31 = .ok (.iload 6, 2) := by decide +kernel
theorem dX1_add_33 : decode cX1_add 33 = .ok (.iconst 0, 1) := by decide +kernel
theorem dX1_add_34 : decode cX1_add 34 = .ok (.iastore, 1) := by decide +kernel
theorem dX1_add_35 : decode cX1_add 35 = .ok (.aload_n 0, 1) := by decide +kernel
theorem dX1_add_36 : decode cX1_add 36 = .ok (.getfield 15, 3) := by decide +kernel
theorem dX1_add_39 : decode cX1_add 39 = .ok (.iload 6, 2) := by decide +kernel
theorem dX1_add_41 : decode cX1_add 41 = .ok (.iload_n 1, 1) := by decide +kernel
theorem dX1_add_42 : decode cX1_add 42 = .ok (.iastore, 1) := by decide +kernel
theorem dX1_add_43 : decode cX1_add 43 = .ok (.aload_n 0, 1) := by decide +kernel
theorem dX1_add_44 : decode cX1_add 44 = .ok (.getfield 18, 3) := by decide +kernel
theorem dX1_add_47 : decode cX1_add 47 = .ok (.iload 6, 2) := by decide +kernel
theorem dX1_add_49 : decode cX1_add 49 = .ok (.iload_n 2, 1) := by decide +kernel
theorem dX1_add_50 : decode cX1_add 50 = .ok (.iastore, 1) := by decide +kernel
theorem dX1_add_51 : decode cX1_add 51 = .ok (.aload_n 0, 1) := by decide +kernel
theorem dX1_add_52 : decode cX1_add 52 = .ok (.getfield 21, 3) := by decide +kernel
theorem dX1_add_55 : decode cX1_add 55 = .ok (.iload 6, 2) := by decide +kernel
theorem dX1_add_57 : decode cX1_add 57 = .ok (.iload_n 3, 1) := by decide +kernel
theorem dX1_add_58 : decode cX1_add 58 = .ok (.iastore, 1) := by decide +kernel
theorem dX1_add_59 : decode cX1_add 59 = .ok (.aload_n 0, 1) := by decide +kernel
theorem dX1_add_60 : decode cX1_add 60 = .ok (.getfield 24, 3) := by decide +kernel
theorem dX1_add_63 : decode cX1_add 63 = .ok (.iload 6, 2) := by decide +kernel
theorem dX1_add_65 : decode cX1_add 65 = .ok (.iload 4, 2) := by decide +kernel
theorem dX1_add_67 : decode cX1_add 67 = .ok (.bastore, 1) := by decide +kernel
theorem dX1_add_68 : decode cX1_add 68 = .ok (.aload_n 0, 1) := by decide +kernel
theorem dX1_add_69 : decode cX1_add 69 = .ok (.getfield 28, 3) := by decide +kernel
theorem dX1_add_72 : decode cX1_add 72 = .ok (.iload 6, 2) := by decide +kernel
theorem dX1_add_74 : decode cX1_add 74 = .ok (.iload 5, 2) := by decide +kernel
theorem dX1_add_76 : decode cX1_add 76 = .ok (.iastore, 1) := by decide +kernel
theorem dX1_add_77 : decode cX1_add 77 = .ok (.aload_n 0, 1) := by decide +kernel
theorem dX1_add_78 : decode cX1_add 78 = .ok (.getfield 31, 3) := by decide +kernel
theorem dX1_add_81 : decode cX1_add 81 = .ok (.iload 6, 2) := by decide +kernel
theorem dX1_add_83 : decode cX1_add 83 = .ok (.iload 5, 2) := by decide +kernel
theorem dX1_add_85 : decode cX1_add 85 = .ok (.invokestatic 53, 3) := by decide +kernel
theorem dX1_add_88 : decode cX1_add 88 = .ok (.iconst 1, 1) := by decide +kernel
theorem dX1_add_89 : decode cX1_add 89 = .ok (.if_icmp .le 7, 3) := by decide +kernel
theorem dX1_add_92 : decode cX1_add 92 = .ok (.iconst 1, 1) := by decide +kernel
theorem dX1_add_93 : decode cX1_add 93 = .ok (.goto 4, 3) := by decide +kernel
theorem dX1_add_96 : decode cX1_add 96 = .ok (.iconst 0, 1) := by decide +kernel
theorem dX1_add_97 : decode cX1_add 97 = .ok (.bastore, 1) := by decide +kernel
theorem dX1_add_98 : decode cX1_add 98 = .ok (.aload_n 0, 1) := by decide +kernel
theorem dX1_add_99 : decode cX1_add 99 = .ok (.getfield 34, 3) := by decide +kernel
theorem dX1_add_102 : decode cX1_add 102 = .ok (.iload 6, 2) := by decide +kernel
theorem dX1_add_104 : decode cX1_add 104 = .ok (.iconst (-1), 1) := by decide +kernel
theorem dX1_add_105 : decode cX1_add 105 = .ok (.iastore, 1) := by decide +kernel
theorem dX1_add_106 : decode cX1_add 106 = .ok (.aload_n 0, 1) := by decide +kernel
theorem dX1_add_107 : decode cX1_add 107 = .ok (.getfield 37, 3) := by decide +kernel
theorem dX1_add_110 : decode cX1_add 110 = .ok (.iload 6, 2) := by decide +kernel
theorem dX1_add_112 : decode cX1_add 112 = .ok (.iconst (-1), 1) := by decide +kernel
theorem dX1_add_113 : decode cX1_add 113 = .ok (.iastore, 1) := by decide +kernel
theorem dX1_add_114 : decode cX1_add 114 = .ok (.aload_n 0, 1) := by decide +kernel
theorem dX1_add_115 : decode cX1_add 115 = .ok (.getfield 40, 3) := by decide +kernel
theorem dX1_add_118 : decode cX1_add 118 = .ok (.iload 6, 2) := by decide +kernel
theorem dX1_add_120 : decode cX1_add 120 = .ok (.iconst 0, 1) := by decide +kernel
theorem dX1_add_121 : decode cX1_add 121 = .ok (.iastore, 1) := by decide +kernel
theorem dX1_add_122 : decode cX1_add 122 = .ok (.iload 6, 2) := by decide +kernel
theorem dX1_add_124 : decode cX1_add 124 = .ok (.ireturn, 1) := by decide +kernel
theorem dX1_has_0 : decode cX1_has 0 = .ok (.iload_n 1, 1) := by decide +kernel
theorem dX1_has_1 : decode cX1_has 1 = .ok (.ifCond .lt 15, 3) := by decide +kernel
theorem dX1_has_4 : decode cX1_has 4 = .ok (.iload_n 1, 1) := by decide +kernel
theorem dX1_has_5 : decode cX1_has 5 = .ok (.aload_n 0, 1) := by decide +kernel
theorem dX1_has_6 : decode cX1_has 6 = .ok (.getfield 49, 3) := by decide +kernel
theorem dX1_has_9 : decode cX1_has 9 = .ok (.if_icmp .ge 7, 3) := by decide +kernel
theorem dX1_has_12 : decode cX1_has 12 = .ok (.iconst 1, 1) := by decide +kernel
theorem dX1_has_13 : decode cX1_has 13 = .ok (.goto 4, 3) := by decide +kernel
theorem dX1_has_16 : decode cX1_has 16 = .ok (.iconst 0, 1) := by decide +kernel
theorem dX1_has_17 : decode cX1_has 17 = .ok (.ireturn, 1) := by decide +kernel
theorem dX1_isOver_0 : decode cX1_isOver 0 = .ok (.aload_n 0, 1) := by decide +kernel
theorem dX1_isOver_1 : decode cX1_isOver 1 = .ok (.getfield 9, 3) := by decide +kernel
theorem dX1_isOver_4 : decode cX1_isOver 4 = .ok (.iload_n 1, 1) := by decide +kernel
theorem dX1_isOver_5 : decode cX1_isOver 5 = .ok (.iaload, 1) := by decide +kernel
theorem dX1_isOver_6 : decode cX1_isOver 6 = .ok (.iconst 2, 1) := by decide +kernel
theorem dX1_isOver_7 : decode cX1_isOver 7 = .ok (.if_icmp .eq 13, 3) := by decide +kernel
theorem dX1_isOver_10 : decode cX1_isOver 10 = .ok (.aload_n 0, 1) := by decide +kernel
theorem dX1_isOver_11 : decode cX1_isOver 11 = .ok (.getfield 9, 3) := by decide +kernel
theorem dX1_isOver_14 : decode cX1_isOver 14 = .ok (.iload_n 1, 1) := by decide +kernel
theorem dX1_isOver_15 : decode cX1_isOver 15 = .ok (.iaload, 1) := by decide +kernel
theorem dX1_isOver_16 : decode cX1_isOver 16 = .ok (.iconst 3, 1) := by decide +kernel
theorem dX1_isOver_17 : decode cX1_isOver 17 = .ok (.if_icmp .ne 7, 3) := by decide +kernel
theorem dX1_isOver_20 : decode cX1_isOver 20 = .ok (.iconst 1, 1) := by decide +kernel
theorem dX1_isOver_21 : decode cX1_isOver 21 = .ok (.goto 4, 3) := by decide +kernel
theorem dX1_isOver_24 : decode cX1_isOver 24 = .ok (.iconst 0, 1) := by decide +kernel
theorem dX1_isOver_25 : decode cX1_isOver 25 = .ok (.ireturn, 1) := by decide +kernel
theorem dX1_countIn_0 : decode cX1_countIn 0 = .ok (.iconst 0, 1) := by decide +kernel
theorem dX1_countIn_1 : decode cX1_countIn 1 = .ok (.istore_n 2, 1) := by decide +kernel
theorem dX1_countIn_2 : decode cX1_countIn 2 = .ok (.iconst 0, 1) := by decide +kernel
theorem dX1_countIn_3 : decode cX1_countIn 3 = .ok (.istore_n 3, 1) := by decide +kernel
theorem dX1_countIn_4 : decode cX1_countIn 4 = .ok (.iload_n 3, 1) := by decide +kernel
theorem dX1_countIn_5 : decode cX1_countIn 5 = .ok (.aload_n 0, 1) := by decide +kernel
theorem dX1_countIn_6 : decode cX1_countIn 6 = .ok (.getfield 49, 3) := by decide +kernel
theorem dX1_countIn_9 : decode cX1_countIn 9 = .ok (.if_icmp .ge 22, 3) := by decide +kernel
theorem dX1_countIn_12 : decode cX1_countIn 12 = .ok (.aload_n 0, 1) := by decide +kernel
theorem dX1_countIn_13 : decode cX1_countIn 13 = .ok (.getfield 9, 3) := by decide +kernel
theorem dX1_countIn_16 : decode cX1_countIn 16 = .ok (.iload_n 3, 1) := by decide +kernel
theorem dX1_countIn_17 : decode cX1_countIn 17 = .ok (.iaload, 1) := by decide +kernel
theorem dX1_countIn_18 : decode cX1_countIn 18 = .ok (.iload_n 1, 1) := by decide +kernel
theorem dX1_countIn_19 : decode cX1_countIn 19 = .ok (.if_icmp .ne 6, 3) := by decide +kernel
theorem dX1_countIn_22 : decode cX1_countIn 22 = .ok (.iinc 2 1, 3) := by decide +kernel
theorem dX1_countIn_25 : decode cX1_countIn 25 = .ok (.iinc 3 1, 3) := by decide +kernel
theorem dX1_countIn_28 : decode cX1_countIn 28 = .ok (.goto (-24), 3) := by decide +kernel
theorem dX1_countIn_31 : decode cX1_countIn 31 = .ok (.iload_n 2, 1) := by decide +kernel
theorem dX1_countIn_32 : decode cX1_countIn 32 = .ok (.ireturn, 1) := by decide +kernel
theorem dX1_findBusy_0 : decode cX1_findBusy 0 = .ok (.iconst 0, 1) := by decide +kernel
theorem dX1_findBusy_1 : decode cX1_findBusy 1 = .ok (.istore_n 1, 1) := by decide +kernel
theorem dX1_findBusy_2 : decode cX1_findBusy 2 = .ok (.iconst 0, 1) := by decide +kernel
theorem dX1_findBusy_3 : decode cX1_findBusy 3 = .ok (.istore_n 2, 1) := by decide +kernel
theorem dX1_findBusy_4 : decode cX1_findBusy 4 = .ok (.iload_n 2, 1) := by decide +kernel
theorem dX1_findBusy_5 : decode cX1_findBusy 5 = .ok (.aload_n 0, 1) := by decide +kernel
theorem dX1_findBusy_6 : decode cX1_findBusy 6 = .ok (.getfield 49, 3) := by decide +kernel
theorem dX1_findBusy_9 : decode cX1_findBusy 9 = .ok (.if_icmp .ge 28, 3) := by decide +kernel
theorem dX1_findBusy_12 : decode cX1_findBusy 12 = .ok (.aload_n 0, 1) := by decide +kernel
theorem dX1_findBusy_13 : decode cX1_findBusy 13 = .ok (.getfield 9, 3) := by decide +kernel
theorem dX1_findBusy_16 : decode cX1_findBusy 16 = .ok (.iload_n 2, 1) := by decide +kernel
theorem dX1_findBusy_17 : decode cX1_findBusy 17 = .ok (.iaload, 1) := by decide +kernel
theorem dX1_findBusy_18 : decode cX1_findBusy 18 = .ok (.iconst 1, 1) := by decide +kernel
theorem dX1_findBusy_19 : decode cX1_findBusy 19 = .ok (.if_icmp .ne 12, 3) := by decide +kernel
theorem dX1_findBusy_22 : decode cX1_findBusy 22 = .ok (.iload_n 1, 1) := by decide +kernel
theorem dX1_findBusy_23 : decode cX1_findBusy 23 = .ok (.aload_n 0, 1) := by decide +kernel
theorem dX1_findBusy_24 : decode cX1_findBusy 24 = .ok (.getfield 28, 3) := by decide +kernel
theorem dX1_findBusy_27 : decode cX1_findBusy 27 = .ok (.iload_n 2, 1) := by decide +kernel
theorem dX1_findBusy_28 : decode cX1_findBusy 28 = .ok (.iaload, 1) := by decide +kernel
theorem dX1_findBusy_29 : decode cX1_findBusy 29 = .ok (.ior, 1) := by decide +kernel
theorem dX1_findBusy_30 : decode cX1_findBusy 30 = .ok (.istore_n 1, 1) := by decide +kernel
theorem dX1_findBusy_31 : decode cX1_findBusy 31 = .ok (.iinc 2 1, 3) := by decide +kernel
theorem dX1_findBusy_34 : decode cX1_findBusy 34 = .ok (.goto (-30), 3) := by decide +kernel
theorem dX1_findBusy_37 : decode cX1_findBusy 37 = .ok (.iload_n 1, 1) := by decide +kernel
theorem dX1_findBusy_38 : decode cX1_findBusy 38 = .ok (.ireturn, 1) := by decide +kernel
theorem dX1_countCords_0 : decode cX1_countCords 0 = .ok (.iconst 0, 1) := by decide +kernel
theorem dX1_countCords_1 : decode cX1_countCords 1 = .ok (.istore_n 1, 1) := by decide +kernel
theorem dX1_countCords_2 : decode cX1_countCords 2 = .ok (.iconst 0, 1) := by decide +kernel
theorem dX1_countCords_3 : decode cX1_countCords 3 = .ok (.istore_n 2, 1) := by decide +kernel
theorem dX1_countCords_4 : decode cX1_countCords 4 = .ok (.iload_n 2, 1) := by decide +kernel
theorem dX1_countCords_5 : decode cX1_countCords 5 = .ok (.aload_n 0, 1) := by decide +kernel
theorem dX1_countCords_6 : decode cX1_countCords 6 = .ok (.getfield 49, 3) := by decide +kernel
theorem dX1_countCords_9 : decode cX1_countCords 9 = .ok (.if_icmp .ge 31, 3) := by decide +kernel
theorem dX1_countCords_12 : decode cX1_countCords 12 = .ok (.aload_n 0, 1) := by decide +kernel
theorem dX1_countCords_13 : decode cX1_countCords 13 = .ok (.getfield 9, 3) := by decide +kernel
theorem dX1_countCords_16 : decode cX1_countCords 16 = .ok (.iload_n 2, 1) := by decide +kernel
theorem dX1_countCords_17 : decode cX1_countCords 17 = .ok (.iaload, 1) := by decide +kernel
theorem dX1_countCords_18 : decode cX1_countCords 18 = .ok (.iconst 1, 1) := by decide +kernel
theorem dX1_countCords_19 : decode cX1_countCords 19 = .ok (.if_icmp .ne 15, 3) := by decide +kernel
theorem dX1_countCords_22 : decode cX1_countCords 22 = .ok (.aload_n 0, 1) := by decide +kernel
theorem dX1_countCords_23 : decode cX1_countCords 23 = .ok (.getfield 31, 3) := by decide +kernel
theorem dX1_countCords_26 : decode cX1_countCords 26 = .ok (.iload_n 2, 1) := by decide +kernel
theorem dX1_countCords_27 : decode cX1_countCords 27 = .ok (.baload, 1) := by decide +kernel
theorem dX1_countCords_28 : decode cX1_countCords 28 = .ok (.ifCond .eq 6, 3) := by decide +kernel
theorem dX1_countCords_31 : decode cX1_countCords 31 = .ok (.iinc 1 1, 3) := by decide +kernel
theorem dX1_countCords_34 : decode cX1_countCords 34 = .ok (.iinc 2 1, 3) := by decide +kernel
theorem dX1_countCords_37 : decode cX1_countCords 37 = .ok (.goto (-33), 3) := by decide +kernel
theorem dX1_countCords_40 : decode cX1_countCords 40 = .ok (.iload_n 1, 1) := by decide +kernel
theorem dX1_countCords_41 : decode cX1_countCords 41 = .ok (.ireturn, 1) := by decide +kernel
theorem dX1_placeInQueue_0 : decode cX1_placeInQueue 0 = .ok (.aload_n 0, 1) := by decide +kernel
theorem dX1_placeInQueue_1 : decode cX1_placeInQueue 1 = .ok (.getfield 9, 3) := by decide +kernel
theorem dX1_placeInQueue_4 : decode cX1_placeInQueue 4 = .ok (.iload_n 1, 1) := by decide +kernel
theorem dX1_placeInQueue_5 : decode cX1_placeInQueue 5 = .ok (.iaload, 1) := by decide +kernel
theorem dX1_placeInQueue_6 : decode cX1_placeInQueue 6 = .ok (.ifCond .eq 5, 3) := by decide +kernel
theorem dX1_placeInQueue_9 : decode cX1_placeInQueue 9 = .ok (.iconst (-1), 1) := by decide +kernel
theorem dX1_placeInQueue_10 : decode cX1_placeInQueue 10 = .ok (.ireturn, 1) := by decide +kernel
theorem dX1_placeInQueue_11 : decode cX1_placeInQueue 11 = .ok (.iconst 0, 1) := by decide +kernel
theorem dX1_placeInQueue_12 : decode cX1_placeInQueue 12 = .ok (.istore_n 2, 1) := by decide +kernel
theorem dX1_placeInQueue_13 : decode cX1_placeInQueue 13 = .ok (.iconst 0, 1) := by decide +kernel
theorem dX1_placeInQueue_14 : decode cX1_placeInQueue 14 = .ok (.istore_n 3, 1) := by decide +kernel
theorem dX1_placeInQueue_15 : decode cX1_placeInQueue 15 = .ok (.iload_n 3, 1) := by decide +kernel
theorem dX1_placeInQueue_16 : decode cX1_placeInQueue 16 = .ok (.aload_n 0, 1) := by decide +kernel
theorem dX1_placeInQueue_17 : decode cX1_placeInQueue 17 = .ok (.getfield 49, 3) := by decide +kernel
theorem dX1_placeInQueue_20 : decode cX1_placeInQueue 20 = .ok (.if_icmp .ge 62, 3) := by decide +kernel
theorem dX1_placeInQueue_23 : decode cX1_placeInQueue 23 = .ok (.aload_n 0, 1) := by decide +kernel
theorem dX1_placeInQueue_24 : decode cX1_placeInQueue 24 = .ok (.getfield 24, 3) := by decide +kernel
theorem dX1_placeInQueue_27 : decode cX1_placeInQueue 27 = .ok (.iload_n 3, 1) := by decide +kernel
theorem dX1_placeInQueue_28 : decode cX1_placeInQueue 28 = .ok (.baload, 1) := by decide +kernel
theorem dX1_placeInQueue_29 : decode cX1_placeInQueue 29 = .ok (.aload_n 0, 1) := by decide +kernel
theorem dX1_placeInQueue_30 : decode cX1_placeInQueue 30 = .ok (.getfield 24, 3) := by decide +kernel
theorem dX1_placeInQueue_33 : decode cX1_placeInQueue 33 = .ok (.iload_n 1, 1) := by decide +kernel
theorem dX1_placeInQueue_34 : decode cX1_placeInQueue 34 = .ok (.baload, 1) := by decide +kernel
theorem dX1_placeInQueue_35 : decode cX1_placeInQueue 35 = .ok (.if_icmp .ne 16, 3) := by decide +kernel
theorem dX1_placeInQueue_38 : decode cX1_placeInQueue 38 = .ok (.iload_n 3, 1) := by decide +kernel
theorem dX1_placeInQueue_39 : decode cX1_placeInQueue 39 = .ok (.iload_n 1, 1) := by decide +kernel
theorem dX1_placeInQueue_40 : decode cX1_placeInQueue 40 = .ok (.if_icmp .ge 7, 3) := by decide +kernel
theorem dX1_placeInQueue_43 : decode cX1_placeInQueue 43 = .ok (.iconst 1, 1) := by decide +kernel
theorem dX1_placeInQueue_44 : decode cX1_placeInQueue 44 = .ok (.goto 13, 3) := by decide +kernel
theorem dX1_placeInQueue_47 : decode cX1_placeInQueue 47 = .ok (.iconst 0, 1) := by decide +kernel
theorem dX1_placeInQueue_48 : decode cX1_placeInQueue 48 = .ok (.goto 9, 3) := by decide +kernel
theorem dX1_placeInQueue_51 : decode cX1_placeInQueue 51 = .ok (.aload_n 0, 1) := by decide +kernel
theorem dX1_placeInQueue_52 : decode cX1_placeInQueue 52 = .ok (.getfield 24, 3) := by decide +kernel
theorem dX1_placeInQueue_55 : decode cX1_placeInQueue 55 = .ok (.iload_n 3, 1) := by decide +kernel
theorem dX1_placeInQueue_56 : decode cX1_placeInQueue 56 = .ok (.baload, 1) := by decide +kernel
theorem dX1_placeInQueue_57 : decode cX1_placeInQueue 57 = .ok (.istore 4, 2) := by decide +kernel
theorem dX1_placeInQueue_59 : decode cX1_placeInQueue 59 = .ok (.aload_n 0, 1) := by decide +kernel
theorem dX1_placeInQueue_60 : decode cX1_placeInQueue 60 = .ok (.getfield 9, 3) := by decide +kernel
theorem dX1_placeInQueue_63 : decode cX1_placeInQueue 63 = .ok (.iload_n 3, 1) := by decide +kernel
theorem dX1_placeInQueue_64 : decode cX1_placeInQueue 64 = .ok (.iaload, 1) := by decide +kernel
theorem dX1_placeInQueue_65 : decode cX1_placeInQueue 65 = .ok (.ifCond .ne 11, 3) := by decide +kernel
theorem dX1_placeInQueue_68 : decode cX1_placeInQueue 68 = .ok (.iload 4, 2) := by decide +kernel
theorem dX1_placeInQueue_70 : decode cX1_placeInQueue 70 = .ok (.ifCond .eq 6, 3) := by decide +kernel
theorem dX1_placeInQueue_73 : decode cX1_placeInQueue 73 = .ok (.iinc 2 1, 3) := by decide +kernel
theorem dX1_placeInQueue_76 : decode cX1_placeInQueue 76 = .ok (.iinc 3 1, 3) := by decide +kernel
theorem dX1_placeInQueue_79 : decode cX1_placeInQueue 79 = .ok (.goto (-64), 3) := by decide +kernel
theorem dX1_placeInQueue_82 : decode cX1_placeInQueue 82 = .ok (.iload_n 2, 1) := by decide +kernel
theorem dX1_placeInQueue_83 : decode cX1_placeInQueue 83 = .ok (.ireturn, 1) := by decide +kernel
theorem dX1_countShared_0 : decode cX1_countShared 0 = .ok (.iconst 0, 1) := by decide +kernel
theorem dX1_countShared_1 : decode cX1_countShared 1 = .ok (.istore_n 1, 1) := by decide +kernel
theorem dX1_countShared_2 : decode cX1_countShared 2 = .ok (.iconst 0, 1) := by decide +kernel
theorem dX1_countShared_3 : decode cX1_countShared 3 = .ok (.istore_n 2, 1) := by decide +kernel
theorem dX1_countShared_4 : decode cX1_countShared 4 = .ok (.iconst 0, 1) := by decide +kernel
theorem dX1_countShared_5 : decode cX1_countShared 5 = .ok (.istore_n 3, 1) := by decide +kernel
theorem dX1_countShared_6 : decode cX1_countShared 6 = .ok (.iload_n 3, 1) := by decide +kernel
theorem dX1_countShared_7 : decode cX1_countShared 7 = .ok (.aload_n 0, 1) := by decide +kernel
theorem dX1_countShared_8 : decode cX1_countShared 8 = .ok (.getfield 49, 3) := by decide +kernel
theorem dX1_countShared_11 : decode cX1_countShared 11 = .ok (.if_icmp .ge 39, 3) := by decide +kernel
theorem dX1_countShared_14 : decode cX1_countShared 14 = .ok (.aload_n 0, 1) := by decide +kernel
theorem dX1_countShared_15 : decode cX1_countShared 15 = .ok (.getfield 9, 3) := by decide +kernel
theorem dX1_countShared_18 : decode cX1_countShared 18 = .ok (.iload_n 3, 1) := by decide +kernel
theorem dX1_countShared_19 : decode cX1_countShared 19 = .ok (.iaload, 1) := by decide +kernel
theorem dX1_countShared_20 : decode cX1_countShared 20 = .ok (.iconst 1, 1) := by decide +kernel
theorem dX1_countShared_21 : decode cX1_countShared 21 = .ok (.if_icmp .ne 23, 3) := by decide +kernel
theorem dX1_countShared_24 : decode cX1_countShared 24 = .ok (.iload_n 2, 1) := by decide +kernel
theorem dX1_countShared_25 : decode cX1_countShared 25 = .ok (.iload_n 1, 1) := by decide +kernel
theorem dX1_countShared_26 : decode cX1_countShared 26 = .ok (.aload_n 0, 1) := by decide +kernel
theorem dX1_countShared_27 : decode cX1_countShared 27 = .ok (.getfield 28, 3) := by decide +kernel
theorem dX1_countShared_30 : decode cX1_countShared 30 = .ok (.iload_n 3, 1) := by decide +kernel
theorem dX1_countShared_31 : decode cX1_countShared 31 = .ok (.iaload, 1) := by decide +kernel
theorem dX1_countShared_32 : decode cX1_countShared 32 = .ok (.iand, 1) := by decide +kernel
theorem dX1_countShared_33 : decode cX1_countShared 33 = .ok (.ior, 1) := by decide +kernel
theorem dX1_countShared_34 : decode cX1_countShared 34 = .ok (.istore_n 2, 1) := by decide +kernel
theorem dX1_countShared_35 : decode cX1_countShared 35 = .ok (.iload_n 1, 1) := by decide +kernel
theorem dX1_countShared_36 : decode cX1_countShared 36 = .ok (.aload_n 0, 1) := by decide +kernel
theorem dX1_countShared_37 : decode cX1_countShared 37 = .ok (.getfield 28, 3) := by decide +kernel
theorem dX1_countShared_40 : decode cX1_countShared 40 = .ok (.iload_n 3, 1) := by decide +kernel
theorem dX1_countShared_41 : decode cX1_countShared 41 = .ok (.iaload, 1) := by decide +kernel
theorem dX1_countShared_42 : decode cX1_countShared 42 = .ok (.ior, 1) := by decide +kernel
theorem dX1_countShared_43 : decode cX1_countShared 43 = .ok (.istore_n 1, 1) := by decide +kernel
theorem dX1_countShared_44 : decode cX1_countShared 44 = .ok (.iinc 3 1, 3) := by decide +kernel
theorem dX1_countShared_47 : decode cX1_countShared 47 = .ok (.goto (-41), 3) := by decide +kernel
theorem dX1_countShared_50 : decode cX1_countShared 50 = .ok (.iload_n 2, 1) := by decide +kernel
theorem dX1_countShared_51 : decode cX1_countShared 51 = .ok (.invokestatic 53, 3) := by decide +kernel
theorem dX1_countShared_54 : decode cX1_countShared 54 = .ok (.ireturn, 1) := by decide +kernel
theorem dX2_init_0 : decode cX2_init 0 = .ok (.aload_n 0, 1) := by decide +kernel
theorem dX2_init_1 : decode cX2_init 1 = .ok (.invokespecial 3, 3) := by decide +kernel
theorem dX2_init_4 : decode cX2_init 4 = .ok (.aload_n 0, 1) := by decide +kernel
theorem dX2_init_5 : decode cX2_init 5 = .ok (.bipush 8, 2) := by decide +kernel
theorem dX2_init_7 : decode cX2_init 7 = .ok (.anewarray 9, 3) := by decide +kernel
theorem dX2_init_10 : decode cX2_init 10 = .ok (.putfield 11, 3) := by decide +kernel
theorem dX2_init_13 : decode cX2_init 13 = .ok (.iconst 0, 1) := by decide +kernel
theorem dX2_init_14 : decode cX2_init 14 = .ok (.istore_n 1, 1) := by decide +kernel
theorem dX2_init_15 : decode cX2_init 15 = .ok (.iload_n 1, 1) := by decide +kernel
theorem dX2_init_16 : decode cX2_init 16 = .ok (.bipush 8, 2) := by decide +kernel
theorem dX2_init_18 : decode cX2_init 18 = .ok (.if_icmp .ge 22, 3) := by decide +kernel
theorem dX2_init_21 : decode cX2_init 21 = .ok (.aload_n 0, 1) := by decide +kernel
theorem dX2_init_22 : decode cX2_init 22 = .ok (.getfield 11, 3) := by decide +kernel
theorem dX2_init_25 : decode cX2_init 25 = .ok (.iload_n 1, 1) := by decide +kernel
theorem dX2_init_26 : decode cX2_init 26 = .ok (.new 9, 3) := by decide +kernel
theorem dX2_init_29 : decode cX2_init 29 = .ok (.dup, 1) := by decide +kernel
theorem dX2_init_30 : decode cX2_init 30 = .ok (.invokespecial 17, 3) := by decide +kernel
theorem dX2_init_33 : decode cX2_init 33 = .ok (.aastore, 1) := by decide +kernel
theorem dX2_init_34 : decode cX2_init 34 = .ok (.iinc 1 1, 3) := by decide +kernel
theorem dX2_init_37 : decode cX2_init 37 = .ok (.goto (-22), 3) := by decide +kernel
theorem dX2_init_40 : decode cX2_init 40 = .ok (.return_, 1) := by decide +kernel
theorem dX2_push_0 : decode cX2_push 0 = .ok (.aload_n 0, 1) := by decide +kernel
theorem dX2_push_1 : decode cX2_push 1 = .ok (.getfield 11, 3) := by decide +kernel
theorem dX2_push_4 : decode cX2_push 4 = .ok (.aload_n 0, 1) := by decide +kernel
theorem dX2_push_5 : decode cX2_push 5 = .ok (.getfield 18, 3) := by decide +kernel
theorem dX2_push_8 : decode cX2_push 8 = .ok (.aload_n 0, 1) := by decide +kernel
theorem dX2_push_9 : decode cX2_push 9 = .ok (.getfield 22, 3) := by decide +kernel
theorem dX2_push_12 : decode cX2_push 12 = .ok (.iadd, 1) := by decide +kernel
theorem dX2_push_13 : decode cX2_push 13 = .ok (.bipush 8, 2) := by decide +kernel
theorem dX2_push_15 : decode cX2_push 15 = .ok (.irem, 1) := by decide +kernel
theorem dX2_push_16 : decode cX2_push 16 = .ok (.aaload, 1) := by decide +kernel
theorem dX2_push_17 : decode cX2_push 17 = .ok (.aload_n 1, 1) := by decide +kernel
theorem dX2_push_18 : decode cX2_push 18 = .ok (.invokevirtual 25, 3) := by decide +kernel
theorem dX2_push_21 : decode cX2_push 21 = .ok (.aload_n 0, 1) := by decide +kernel
theorem dX2_push_22 : decode cX2_push 22 = .ok (.getfield 22, 3) := by decide +kernel
theorem dX2_push_25 : decode cX2_push 25 = .ok (.bipush 8, 2) := by decide +kernel
theorem dX2_push_27 : decode cX2_push 27 = .ok (.if_icmp .ge 16, 3) := by decide +kernel
theorem dX2_push_30 : decode cX2_push 30 = .ok (.aload_n 0, 1) := by decide +kernel
theorem dX2_push_31 : decode cX2_push 31 = .ok (.dup, 1) := by decide +kernel
theorem dX2_push_32 : decode cX2_push 32 = .ok (.getfield 22, 3) := by decide +kernel
theorem dX2_push_35 : decode cX2_push 35 = .ok (.iconst 1, 1) := by decide +kernel
theorem dX2_push_36 : decode cX2_push 36 = .ok (.iadd, 1) := by decide +kernel
theorem dX2_push_37 : decode cX2_push 37 = .ok (.putfield 22, 3) := by decide +kernel
theorem dX2_push_40 : decode cX2_push 40 = .ok (.goto 16, 3) := by decide +kernel
theorem dX2_push_43 : decode cX2_push 43 = .ok (.aload_n 0, 1) := by decide +kernel
theorem dX2_push_44 : decode cX2_push 44 = .ok (.aload_n 0, 1) := by decide +kernel
theorem dX2_push_45 : decode cX2_push 45 = .ok (.getfield 18, 3) := by decide +kernel
theorem dX2_push_48 : decode cX2_push 48 = .ok (.iconst 1, 1) := by decide +kernel
theorem dX2_push_49 : decode cX2_push 49 = .ok (.iadd, 1) := by decide +kernel
theorem dX2_push_50 : decode cX2_push 50 = .ok (.bipush 8, 2) := by decide +kernel
theorem dX2_push_52 : decode cX2_push 52 = .ok (.irem, 1) := by decide +kernel
theorem dX2_push_53 : decode cX2_push 53 = .ok (.putfield 18, 3) := by decide +kernel
theorem dX2_push_56 : decode cX2_push 56 = .ok (.return_, 1) := by decide +kernel
theorem dX2_popInto_0 : decode cX2_popInto 0 = .ok (.aload_n 0, 1) := by decide +kernel
theorem dX2_popInto_1 : decode cX2_popInto 1 = .ok (.getfield 22, 3) := by decide +kernel
theorem dX2_popInto_4 : decode cX2_popInto 4 = .ok (.ifCond .le 34, 3) := by decide +kernel
theorem dX2_popInto_7 : decode cX2_popInto 7 = .ok (.aload_n 0, 1) := by decide +kernel
theorem dX2_popInto_8 : decode cX2_popInto 8 = .ok (.dup, 1) := by decide +kernel
theorem dX2_popInto_9 : decode cX2_popInto 9 = .ok (.getfield 22, 3) := by decide +kernel
theorem dX2_popInto_12 : decode cX2_popInto 12 = .ok (.iconst 1, 1) := by decide +kernel
theorem dX2_popInto_13 : decode cX2_popInto 13 = .ok (.isub, 1) := by decide +kernel
theorem dX2_popInto_14 : decode cX2_popInto 14 = .ok (.putfield 22, 3) := by decide +kernel
theorem dX2_popInto_17 : decode cX2_popInto 17 = .ok (.aload_n 1, 1) := by decide +kernel
theorem dX2_popInto_18 : decode cX2_popInto 18 = .ok (.aload_n 0, 1) := by decide +kernel
theorem dX2_popInto_19 : decode cX2_popInto 19 = .ok (.getfield 11, 3) := by decide +kernel
theorem dX2_popInto_22 : decode cX2_popInto 22 = .ok (.aload_n 0, 1) := by decide +kernel
theorem dX2_popInto_23 : decode cX2_popInto 23 = .ok (.getfield 18, 3) := by decide +kernel
theorem dX2_popInto_26 : decode cX2_popInto 26 = .ok (.aload_n 0, 1) := by decide +kernel
theorem dX2_popInto_27 : decode cX2_popInto 27 = .ok (.getfield 22, 3) := by decide +kernel
theorem dX2_popInto_30 : decode cX2_popInto 30 = .ok (.iadd, 1) := by decide +kernel
theorem dX2_popInto_31 : decode cX2_popInto 31 = .ok (.bipush 8, 2) := by decide +kernel
theorem dX2_popInto_33 : decode cX2_popInto 33 = .ok (.irem, 1) := by decide +kernel
theorem dX2_popInto_34 : decode cX2_popInto 34 = .ok (.aaload, 1) := by decide +kernel
theorem dX2_popInto_35 : decode cX2_popInto 35 = .ok (.invokevirtual 25, 3) := by decide +kernel
theorem dX2_popInto_38 : decode cX2_popInto 38 = .ok (.return_, 1) := by decide +kernel
theorem dX3_init_0 : decode cX3_init 0 = .ok (.aload_n 0, 1) := by decide +kernel
theorem dX3_init_1 : decode cX3_init 1 = .ok (.invokespecial 3, 3) := by decide +kernel
theorem dX3_init_4 : decode cX3_init 4 = .ok (.aload_n 0, 1) := by decide +kernel
theorem dX3_init_5 : decode cX3_init 5 = .ok (.sipush 700, 3) := by decide +kernel
theorem dX3_init_8 : decode cX3_init 8 = .ok (.newarray .int, 2) := by decide +kernel
theorem dX3_init_10 : decode cX3_init 10 = .ok (.putfield 9, 3) := by decide +kernel
theorem dX3_init_13 : decode cX3_init 13 = .ok (.return_, 1) := by decide +kernel
theorem dX3_addByte_0 : decode cX3_addByte 0 = .ok (.aload_n 0, 1) := by decide +kernel
theorem dX3_addByte_1 : decode cX3_addByte 1 = .ok (.getfield 15, 3) := by decide +kernel
theorem dX3_addByte_4 : decode cX3_addByte 4 = .ok (.sipush 700, 3) := by decide +kernel
theorem dX3_addByte_7 : decode cX3_addByte 7 = .ok (.if_icmp .ge 27, 3) := by decide +kernel
theorem dX3_addByte_10 : decode cX3_addByte 10 = .ok (.aload_n 0, 1) := by decide +kernel
theorem dX3_addByte_11 : decode cX3_addByte 11 = .ok (.getfield 9, 3) := by decide +kernel
theorem dX3_addByte_14 : decode cX3_addByte 14 = .ok (.aload_n 0, 1) := by decide +kernel
theorem dX3_addByte_15 : decode cX3_addByte 15 = .ok (.getfield 15, 3) := by decide +kernel
theorem dX3_addByte_18 : decode cX3_addByte 18 = .ok (.iload_n 1, 1) := by decide +kernel
theorem dX3_addByte_19 : decode cX3_addByte 19 = .ok (.sipush 255, 3) := by decide +kernel
theorem dX3_addByte_22 : decode cX3_addByte 22 = .ok (.iand, 1) := by decide +kernel
theorem dX3_addByte_23 : decode cX3_addByte 23 = .ok (.iastore, 1) := by decide +kernel
theorem dX3_addByte_24 : decode cX3_addByte 24 = .ok (.aload_n 0, 1) := by decide +kernel
theorem dX3_addByte_25 : decode cX3_addByte 25 = .ok (.dup, 1) := by decide +kernel
theorem dX3_addByte_26 : decode cX3_addByte 26 = .ok (.getfield 15, 3) := by decide +kernel
theorem dX3_addByte_29 : decode cX3_addByte 29 = .ok (.iconst 1, 1) := by decide +kernel
theorem dX3_addByte_30 : decode cX3_addByte 30 = .ok (.iadd, 1) := by decide +kernel
theorem dX3_addByte_31 : decode cX3_addByte 31 = .ok (.putfield 15, 3) := by decide +kernel
theorem dX3_addByte_34 : decode cX3_addByte 34 = .ok (.return_, 1) := by decide +kernel
theorem dX3_addFour_0 : decode cX3_addFour 0 = .ok (.aload_n 0, 1) := by decide +kernel
theorem dX3_addFour_1 : decode cX3_addFour 1 = .ok (.iload_n 1, 1) := by decide +kernel
theorem dX3_addFour_2 : decode cX3_addFour 2 = .ok (.bipush 24, 2) := by decide +kernel
theorem dX3_addFour_4 : decode cX3_addFour 4 = .ok (.ishr, 1) := by decide +kernel
theorem dX3_addFour_5 : decode cX3_addFour 5 = .ok (.invokevirtual 19, 3) := by decide +kernel
theorem dX3_addFour_8 : decode cX3_addFour 8 = .ok (.aload_n 0, 1) := by decide +kernel
theorem dX3_addFour_9 : decode cX3_addFour 9 = .ok (.iload_n 1, 1) := by decide +kernel
theorem dX3_addFour_10 : decode cX3_addFour 10 = .ok (.bipush 16, 2) := by decide +kernel
theorem dX3_addFour_12 : decode cX3_addFour 12 = .ok (.ishr, 1) := by decide +kernel
theorem dX3_addFour_13 : decode cX3_addFour 13 = .ok (.invokevirtual 19, 3) := by decide +kernel
theorem dX3_addFour_16 : decode cX3_addFour 16 = .ok (.aload_n 0, 1) := by decide +kernel
theorem dX3_addFour_17 : decode cX3_addFour 17 = .ok (.iload_n 1, 1) := by decide +kernel
theorem dX3_addFour_18 : decode cX3_addFour 18 = .ok (.bipush 8, 2) := by decide +kernel
theorem dX3_addFour_20 : decode cX3_addFour 20 = .ok (.ishr, 1) := by decide +kernel
theorem dX3_addFour_21 : decode cX3_addFour 21 = .ok (.invokevirtual 19, 3) := by decide +kernel
theorem dX3_addFour_24 : decode cX3_addFour 24 = .ok (.aload_n 0, 1) := by decide +kernel
theorem dX3_addFour_25 : decode cX3_addFour 25 = .ok (.iload_n 1, 1) := by decide +kernel
theorem dX3_addFour_26 : decode cX3_addFour 26 = .ok (.invokevirtual 19, 3) := by decide +kernel
theorem dX3_addFour_29 : decode cX3_addFour 29 = .ok (.return_, 1) := by decide +kernel
theorem dX3_fill_0 : decode cX3_fill 0 = .ok (.iconst 0, 1) := by decide +kernel
theorem dX3_fill_1 : decode cX3_fill 1 = .ok (.istore_n 2, 1) := by decide +kernel
theorem dX3_fill_2 : decode cX3_fill 2 = .ok (.iload_n 2, 1) := by decide +kernel
theorem dX3_fill_3 : decode cX3_fill 3 = .ok (.aload_n 1, 1) := by decide +kernel
theorem dX3_fill_4 : decode cX3_fill 4 = .ok (.invokevirtual 23, 3) := by decide +kernel
theorem dX3_fill_7 : decode cX3_fill 7 = .ok (.if_icmp .ge 18, 3) := by decide +kernel
theorem dX3_fill_10 : decode cX3_fill 10 = .ok (.aload_n 0, 1) := by decide +kernel
theorem dX3_fill_11 : decode cX3_fill 11 = .ok (.aload_n 1, 1) := by decide +kernel
theorem dX3_fill_12 : decode cX3_fill 12 = .ok (.iload_n 2, 1) := by decide +kernel
theorem dX3_fill_13 : decode cX3_fill 13 = .ok (.invokevirtual 28, 3) := by decide +kernel
theorem dX3_fill_16 : decode cX3_fill 16 = .ok (.invokevirtual 19, 3) := by decide +kernel
theorem dX3_fill_19 : decode cX3_fill 19 = .ok (.iinc 2 1, 3) := by decide +kernel
theorem dX3_fill_22 : decode cX3_fill 22 = .ok (.goto (-20), 3) := by decide +kernel
theorem dX3_fill_25 : decode cX3_fill 25 = .ok (.return_, 1) := by decide +kernel
theorem dX3_shorten_0 : decode cX3_shorten 0 = .ok (.aload_n 0, 1) := by decide +kernel
theorem dX3_shorten_1 : decode cX3_shorten 1 = .ok (.iload_n 1, 1) := by decide +kernel
theorem dX3_shorten_2 : decode cX3_shorten 2 = .ok (.putfield 15, 3) := by decide +kernel
theorem dX3_shorten_5 : decode cX3_shorten 5 = .ok (.return_, 1) := by decide +kernel
theorem dX3_rewind_0 : decode cX3_rewind 0 = .ok (.aload_n 0, 1) := by decide +kernel
theorem dX3_rewind_1 : decode cX3_rewind 1 = .ok (.iconst 0, 1) := by decide +kernel
theorem dX3_rewind_2 : decode cX3_rewind 2 = .ok (.putfield 32, 3) := by decide +kernel
theorem dX3_rewind_5 : decode cX3_rewind 5 = .ok (.aload_n 0, 1) := by decide +kernel
theorem dX3_rewind_6 : decode cX3_rewind 6 = .ok (.invokevirtual 35, 3) := by decide +kernel
theorem dX3_rewind_9 : decode cX3_rewind 9 = .ok (.return_, 1) := by decide +kernel
theorem dX3_peek_0 : decode cX3_peek 0 = .ok (.aload_n 0, 1) := by decide +kernel
theorem dX3_peek_1 : decode cX3_peek 1 = .ok (.getfield 32, 3) := by decide +kernel
theorem dX3_peek_4 : decode cX3_peek 4 = .ok (.aload_n 0, 1) := by decide +kernel
theorem dX3_peek_5 : decode cX3_peek 5 = .ok (.getfield 15, 3) := by decide +kernel
theorem dX3_peek_8 : decode cX3_peek 8 = .ok (.if_icmp .ge 25, 3) := by decide +kernel
theorem dX3_peek_11 : decode cX3_peek 11 = .ok (.aload_n 0, 1) := by decide +kernel
theorem dX3_peek_12 : decode cX3_peek 12 = .ok (.getfield 32, 3) := by decide +kernel
theorem dX3_peek_15 : decode cX3_peek 15 = .ok (.sipush 700, 3) := by decide +kernel
theorem dX3_peek_18 : decode cX3_peek 18 = .ok (.if_icmp .ge 15, 3) := by decide +kernel
theorem dX3_peek_21 : decode cX3_peek 21 = .ok (.aload_n 0, 1) := by decide +kernel
theorem dX3_peek_22 : decode cX3_peek 22 = .ok (.getfield 9, 3) := by decide +kernel
theorem dX3_peek_25 : decode cX3_peek 25 = .ok (.aload_n 0, 1) := by decide +kernel
theorem dX3_peek_26 : decode cX3_peek 26 = .ok (.getfield 32, 3) := by decide +kernel
theorem dX3_peek_29 : decode cX3_peek 29 = .ok (.iaload, 1) := by decide +kernel
theorem dX3_peek_30 : decode cX3_peek 30 = .ok (.goto 4, 3) := by decide +kernel
theorem dX3_peek_33 : decode cX3_peek 33 = .ok (.iconst (-1), 1) := by decide +kernel
theorem dX3_peek_34 : decode cX3_peek 34 = .ok (.ireturn, 1) := by decide +kernel
theorem dX3_advance_0 : decode cX3_advance 0 = .ok (.aload_n 0, 1) := by decide +kernel
theorem dX3_advance_1 : decode cX3_advance 1 = .ok (.getfield 32, 3) := by decide +kernel
theorem dX3_advance_4 : decode cX3_advance 4 = .ok (.aload_n 0, 1) := by decide +kernel
theorem dX3_advance_5 : decode cX3_advance 5 = .ok (.getfield 15, 3) := by decide +kernel
theorem dX3_advance_8 : decode cX3_advance 8 = .ok (.if_icmp .ge 25, 3) := by decide +kernel
theorem dX3_advance_11 : decode cX3_advance 11 = .ok (.aload_n 0, 1) := by decide +kernel
theorem dX3_advance_12 : decode cX3_advance 12 = .ok (.invokevirtual 38, 3) := by decide +kernel
theorem dX3_advance_15 : decode cX3_advance 15 = .ok (.bipush 32, 2) := by decide +kernel
theorem dX3_advance_17 : decode cX3_advance 17 = .ok (.if_icmp .ne 16, 3) := by decide +kernel
theorem dX3_advance_20 : decode cX3_advance 20 = .ok (.aload_n 0, 1) := by decide +kernel
theorem dX3_advance_21 : decode cX3_advance 21 = .ok (.dup, 1) := by decide +kernel
theorem dX3_advance_22 : decode cX3_advance 22 = .ok (.getfield 32, 3) := by decide +kernel
theorem dX3_advance_25 : decode cX3_advance 25 = .ok (.iconst 1, 1) := by decide +kernel
theorem dX3_advance_26 : decode cX3_advance 26 = .ok (.iadd, 1) := by decide +kernel
theorem dX3_advance_27 : decode cX3_advance 27 = .ok (.putfield 32, 3) := by decide +kernel
theorem dX3_advance_30 : decode cX3_advance 30 = .ok (.goto (-30), 3) := by decide +kernel
theorem dX3_advance_33 : decode cX3_advance 33 = .ok (.aload_n 0, 1) := by decide +kernel
theorem dX3_advance_34 : decode cX3_advance 34 = .ok (.aload_n 0, 1) := by decide +kernel
theorem dX3_advance_35 : decode cX3_advance 35 = .ok (.getfield 32, 3) := by decide +kernel
theorem dX3_advance_38 : decode cX3_advance 38 = .ok (.putfield 41, 3) := by decide +kernel
theorem dX3_advance_41 : decode cX3_advance 41 = .ok (.aload_n 0, 1) := by decide +kernel
theorem dX3_advance_42 : decode cX3_advance 42 = .ok (.invokevirtual 38, 3) := by decide +kernel
theorem dX3_advance_45 : decode cX3_advance 45 = .ok (.istore_n 1, 1) := by decide +kernel
theorem dX3_advance_46 : decode cX3_advance 46 = .ok (.iload_n 1, 1) := by decide +kernel
theorem dX3_advance_47 : decode cX3_advance 47 = .ok (.iconst (-1), 1) := by decide +kernel
theorem dX3_advance_48 : decode cX3_advance 48 = .ok (.if_icmp .ne 11, 3) := by decide +kernel
theorem dX3_advance_51 : decode cX3_advance 51 = .ok (.aload_n 0, 1) := by decide +kernel
theorem dX3_advance_52 : decode cX3_advance 52 = .ok (.iconst 0, 1) := by decide +kernel
theorem dX3_advance_53 : decode cX3_advance 53 = .ok (.putfield 44, 3) := by decide +kernel
theorem dX3_advance_56 : decode cX3_advance 56 = .ok (.goto 66, 3) := by decide +kernel
theorem dX3_advance_59 : decode cX3_advance 59 = .ok (.iload_n 1, 1) := by decide +kernel
theorem dX3_advance_60 : decode cX3_advance 60 = .ok (.invokestatic 47, 3) := by decide +kernel
theorem dX3_advance_63 : decode cX3_advance 63 = .ok (.ifCond .eq 15, 3) := by decide +kernel
theorem dX3_advance_66 : decode cX3_advance 66 = .ok (.aload_n 0, 1) := by decide +kernel
theorem dX3_advance_67 : decode cX3_advance 67 = .ok (.iconst 1, 1) := by decide +kernel
theorem dX3_advance_68 : decode cX3_advance 68 = .ok (.putfield 44, 3) := by decide +kernel
theorem dX3_advance_71 : decode cX3_advance 71 = .ok (.aload_n 0, 1) := by decide +kernel
theorem dX3_advance_72 : decode cX3_advance 72 = .ok (.invokevirtual 51, 3) := by decide +kernel
theorem dX3_advance_75 : decode cX3_advance 75 = .ok (.goto 47, 3) := by decide +kernel
theorem dX3_advance_78 : decode cX3_advance 78 = .ok (.iload_n 1, 1) := by decide +kernel
theorem dX3_advance_79 : decode cX3_advance 79 = .ok (.invokestatic 54, 3) := by decide +kernel
theorem dX3_advance_82 : decode cX3_advance 82 = .ok (.ifCond .eq 15, 3) := by decide +kernel
theorem dX3_advance_85 : decode cX3_advance 85 = .ok (.aload_n 0, 1) := by decide +kernel
theorem dX3_advance_86 : decode cX3_advance 86 = .ok (.iconst 2, 1) := by decide +kernel
theorem dX3_advance_87 : decode cX3_advance 87 = .ok (.putfield 44, 3) := by decide +kernel
theorem dX3_advance_90 : decode cX3_advance 90 = .ok (.aload_n 0, 1) := by decide +kernel
theorem dX3_advance_91 : decode cX3_advance 91 = .ok (.invokevirtual 57, 3) := by decide +kernel
theorem dX3_advance_94 : decode cX3_advance 94 = .ok (.goto 28, 3) := by decide +kernel
theorem dX3_advance_97 : decode cX3_advance 97 = .ok (.aload_n 0, 1) := by decide +kernel
theorem dX3_advance_98 : decode cX3_advance 98 = .ok (.iload_n 1, 1) := by decide +kernel
theorem dX3_advance_99 : decode cX3_advance 99 = .ok (.bipush 59, 2) := by decide +kernel
theorem dX3_advance_101 : decode cX3_advance 101 = .ok (.if_icmp .ne 7, 3) := by decide +kernel
theorem dX3_advance_104 : decode cX3_advance 104 = .ok (.iconst 3, 1) := by decide +kernel
theorem dX3_advance_105 : decode cX3_advance 105 = .ok (.goto 4, 3) := by decide +kernel
theorem dX3_advance_108 : decode cX3_advance 108 = .ok (.iconst 4, 1) := by decide +kernel
theorem dX3_advance_109 : decode cX3_advance 109 = .ok (.putfield 44, 3) := by decide +kernel
theorem dX3_advance_112 : decode cX3_advance 112 = .ok (.aload_n 0, 1) := by decide +kernel
theorem dX3_advance_113 : decode cX3_advance 113 = .ok (.dup, 1) := by decide +kernel
theorem dX3_advance_114 : decode cX3_advance 114 = .ok (.getfield 32, 3) := by decide +kernel
theorem dX3_advance_117 : decode cX3_advance 117 = .ok (.iconst 1, 1) := by decide +kernel
theorem dX3_advance_118 : decode cX3_advance 118 = .ok (.iadd, 1) := by decide +kernel
theorem dX3_advance_119 : decode cX3_advance 119 = .ok (.putfield 32, 3) := by decide +kernel
theorem dX3_advance_122 : decode cX3_advance 122 = .ok (.return_, 1) := by decide +kernel
theorem dX3_skipWord_0 : decode cX3_skipWord 0 = .ok (.aload_n 0, 1) := by decide +kernel
theorem dX3_skipWord_1 : decode cX3_skipWord 1 = .ok (.getfield 32, 3) := by decide +kernel
theorem dX3_skipWord_4 : decode cX3_skipWord 4 = .ok (.aload_n 0, 1) := by decide +kernel
theorem dX3_skipWord_5 : decode cX3_skipWord 5 = .ok (.getfield 15, 3) := by decide +kernel
theorem dX3_skipWord_8 : decode cX3_skipWord 8 = .ok (.if_icmp .ge 26, 3) := by decide +kernel
theorem dX3_skipWord_11 : decode cX3_skipWord 11 = .ok (.aload_n 0, 1) := by decide +kernel
theorem dX3_skipWord_12 : decode cX3_skipWord 12 = .ok (.invokevirtual 38, 3) := by decide +kernel
theorem dX3_skipWord_15 : decode cX3_skipWord 15 = .ok (.invokestatic 47, 3) := by decide +kernel
theorem dX3_skipWord_18 : decode cX3_skipWord 18 = .ok (.ifCond .eq 16, 3) := by decide +kernel
theorem dX3_skipWord_21 : decode cX3_skipWord 21 = .ok (.aload_n 0, 1) := by decide +kernel
theorem dX3_skipWord_22 : decode cX3_skipWord 22 = .ok (.dup, 1) := by decide +kernel
theorem dX3_skipWord_23 : decode cX3_skipWord 23 = .ok (.getfield 32, 3) := by decide +kernel
theorem dX3_skipWord_26 : decode cX3_skipWord 26 = .ok (.iconst 1, 1) := by decide +kernel
theorem dX3_skipWord_27 : decode cX3_skipWord 27 = .ok (.iadd, 1) := by decide +kernel
theorem dX3_skipWord_28 : decode cX3_skipWord 28 = .ok (.putfield 32, 3) := by decide +kernel
theorem dX3_skipWord_31 : decode cX3_skipWord 31 = .ok (.goto (-31), 3) := by decide +kernel
theorem dX3_skipWord_34 : decode cX3_skipWord 34 = .ok (.return_, 1) := by decide +kernel
theorem dX3_scanNumber_0 : decode cX3_scanNumber 0 = .ok (.aload_n 0, 1) := by decide +kernel
theorem dX3_scanNumber_1 : decode cX3_scanNumber 1 = .ok (.iconst 0, 1) := by decide +kernel
theorem dX3_scanNumber_2 : decode cX3_scanNumber 2 = .ok (.putfield 60, 3) := by decide +kernel
theorem dX3_scanNumber_5 : decode cX3_scanNumber 5 = .ok (.aload_n 0, 1) := by decide +kernel
theorem dX3_scanNumber_6 : decode cX3_scanNumber 6 = .ok (.getfield 32, 3) := by decide +kernel
theorem dX3_scanNumber_9 : decode cX3_scanNumber 9 = .ok (.aload_n 0, 1) := by decide +kernel
theorem dX3_scanNumber_10 : decode cX3_scanNumber 10 = .ok (.getfield 15, 3) := by decide +kernel
theorem dX3_scanNumber_13 : decode cX3_scanNumber 13 = .ok (.if_icmp .ge 54, 3) := by decide +kernel
theorem dX3_scanNumber_16 : decode cX3_scanNumber 16 = .ok (.aload_n 0, 1) := by decide +kernel
theorem dX3_scanNumber_17 : decode cX3_scanNumber 17 = .ok (.invokevirtual 38, 3) := by decide +kernel
theorem dX3_scanNumber_20 : decode cX3_scanNumber 20 = .ok (.invokestatic 54, 3) := by decide +kernel
theorem dX3_scanNumber_23 : decode cX3_scanNumber 23 = .ok (.ifCond .eq 44, 3) := by decide +kernel
theorem dX3_scanNumber_26 : decode cX3_scanNumber 26 = .ok (.aload_n 0, 1) := by decide +kernel
theorem dX3_scanNumber_27 : decode cX3_scanNumber 27 = .ok (.getfield 60, 3) := by decide +kernel
theorem dX3_scanNumber_30 : decode cX3_scanNumber 30 = .ok (.ldc 63, 2) := by decide +kernel
theorem dX3_scanNumber_32 : decode cX3_scanNumber 32 = .ok (.if_icmp .ge 22, 3) := by decide +kernel
theorem dX3_scanNumber_35 : decode cX3_scanNumber 35 = .ok (.aload_n 0, 1) := by decide +kernel
theorem dX3_scanNumber_36 : decode cX3_scanNumber 36 = .ok (.bipush 10, 2) := by decide +kernel
theorem dX3_scanNumber_38 : decode cX3_scanNumber 38 = .ok (.aload_n 0, 1) := by decide +kernel
theorem dX3_scanNumber_39 : decode cX3_scanNumber 39 = .ok (.getfield 60, 3) := by decide +kernel
theorem dX3_scanNumber_42 : decode cX3_scanNumber 42 = .ok (.imul, 1) := by decide +kernel
theorem dX3_scanNumber_43 : decode cX3_scanNumber 43 = .ok (.aload_n 0, 1) := by decide +kernel
theorem dX3_scanNumber_44 : decode cX3_scanNumber 44 = .ok (.invokevirtual 38, 3) := by decide +kernel
theorem dX3_scanNumber_47 : decode cX3_scanNumber 47 = .ok (.iadd, 1) := by decide +kernel
theorem dX3_scanNumber_48 : decode cX3_scanNumber 48 = .ok (.bipush 48, 2) := by decide +kernel
theorem dX3_scanNumber_50 : decode cX3_scanNumber 50 = .ok (.isub, 1) := by decide +kernel
theorem dX3_scanNumber_51 : decode cX3_scanNumber 51 = .ok (.putfield 60, 3) := by decide +kernel
theorem dX3_scanNumber_54 : decode cX3_scanNumber 54 = .ok (.aload_n 0, 1) := by decide +kernel
theorem dX3_scanNumber_55 : decode cX3_scanNumber 55 = .ok (.dup, 1) := by decide +kernel
theorem dX3_scanNumber_56 : decode cX3_scanNumber 56 = .ok (.getfield 32, 3) := by decide +kernel
theorem dX3_scanNumber_59 : decode cX3_scanNumber 59 = .ok (.iconst 1, 1) := by decide +kernel
theorem dX3_scanNumber_60 : decode cX3_scanNumber 60 = .ok (.iadd, 1) := by decide +kernel
theorem dX3_scanNumber_61 : decode cX3_scanNumber 61 = .ok (.putfield 32, 3) := by decide +kernel
theorem dX3_scanNumber_64 : decode cX3_scanNumber 64 = .ok (.goto (-59), 3) := by decide +kernel
theorem dX3_scanNumber_67 : decode cX3_scanNumber 67 = .ok (.return_, 1) := by decide +kernel
theorem dX3_isLetter_0 : decode cX3_isLetter 0 = .ok (.iload_n 0, 1) := by decide +kernel
theorem dX3_isLetter_1 : decode cX3_isLetter 1 = .ok (.bipush 97, 2) := by decide +kernel
theorem dX3_isLetter_3 : decode cX3_isLetter 3 = .ok (.if_icmp .lt 13, 3) := by decide +kernel
theorem dX3_isLetter_6 : decode cX3_isLetter 6 = .ok (.iload_n 0, 1) := by decide +kernel
theorem dX3_isLetter_7 : decode cX3_isLetter 7 = .ok (.bipush 122, 2) := by decide +kernel
theorem dX3_isLetter_9 : decode cX3_isLetter 9 = .ok (.if_icmp .gt 7, 3) := by decide +kernel
theorem dX3_isLetter_12 : decode cX3_isLetter 12 = .ok (.iconst 1, 1) := by decide +kernel
theorem dX3_isLetter_13 : decode cX3_isLetter 13 = .ok (.goto 4, 3) := by decide +kernel
theorem dX3_isLetter_16 : decode cX3_isLetter 16 = .ok (.iconst 0, 1) := by decide +kernel
theorem dX3_isLetter_17 : decode cX3_isLetter 17 = .ok (.ireturn, 1) := by decide +kernel
theorem dX3_isDigit_0 : decode cX3_isDigit 0 = .ok (.iload_n 0, 1) := by decide +kernel
theorem dX3_isDigit_1 : decode cX3_isDigit 1 = .ok (.bipush 48, 2) := by decide +kernel
theorem dX3_isDigit_3 : decode cX3_isDigit 3 = .ok (.if_icmp .lt 13, 3) := by decide +kernel
theorem dX3_isDigit_6 : decode cX3_isDigit 6 = .ok (.iload_n 0, 1) := by decide +kernel
theorem dX3_isDigit_7 : decode cX3_isDigit 7 = .ok (.bipush 57, 2) := by decide +kernel
theorem dX3_isDigit_9 : decode cX3_isDigit 9 = .ok (.if_icmp .gt 7, 3) := by decide +kernel
theorem dX3_isDigit_12 : decode cX3_isDigit 12 = .ok (.iconst 1, 1) := by decide +kernel
theorem dX3_isDigit_13 : decode cX3_isDigit 13 = .ok (.goto 4, 3) := by decide +kernel
theorem dX3_isDigit_16 : decode cX3_isDigit 16 = .ok (.iconst 0, 1) := by decide +kernel
theorem dX3_isDigit_17 : decode cX3_isDigit 17 = .ok (.ireturn, 1) := by decide +kernel
theorem dX3_wordLength_0 : decode cX3_wordLength 0 = .ok (.aload_n 0, 1) := by decide +kernel
theorem dX3_wordLength_1 : decode cX3_wordLength 1 = .ok (.getfield 44, 3) := by decide +kernel
theorem dX3_wordLength_4 : decode cX3_wordLength 4 = .ok (.iconst 1, 1) := by decide +kernel
theorem dX3_wordLength_5 : decode cX3_wordLength 5 = .ok (.if_icmp .ne 15, 3) := by decide +kernel
theorem dX3_wordLength_8 : decode cX3_wordLength 8 = .ok (.aload_n 0, 1) := by decide +kernel
theorem dX3_wordLength_9 : decode cX3_wordLength 9 = .ok (.getfield 32, 3) := by decide +kernel
theorem dX3_wordLength_12 : decode cX3_wordLength 12 = .ok (.aload_n 0, 1) := by decide +kernel
theorem dX3_wordLength_13 : decode cX3_wordLength 13 = .ok (.getfield 41, 3) := by decide +kernel
theorem dX3_wordLength_16 : decode cX3_wordLength 16 = .ok (.isub, 1) := by decide +kernel
theorem dX3_wordLength_17 : decode cX3_wordLength 17 = .ok (.goto 4, 3) := by decide +kernel
theorem dX3_wordLength_20 : decode cX3_wordLength 20 = .ok (.iconst 0, 1) := by decide +kernel
theorem dX3_wordLength_21 : decode cX3_wordLength 21 = .ok (.ireturn, 1) := by decide +kernel
theorem dX3_letterAt_0 : decode cX3_letterAt 0 = .ok (.iload_n 1, 1) := by decide +kernel
theorem dX3_letterAt_1 : decode cX3_letterAt 1 = .ok (.ifCond .lt 37, 3) := by decide +kernel
theorem dX3_letterAt_4 : decode cX3_letterAt 4 = .ok (.iload_n 1, 1) := by decide +kernel
theorem dX3_letterAt_5 : decode cX3_letterAt 5 = .ok (.aload_n 0, 1) := by decide +kernel
theorem dX3_letterAt_6 : decode cX3_letterAt 6 = .ok (.invokevirtual 64, 3) := by decide +kernel
theorem dX3_letterAt_9 : decode cX3_letterAt 9 = .ok (.if_icmp .ge 29, 3) := by decide +kernel
theorem dX3_letterAt_12 : decode cX3_letterAt 12 = .ok (.aload_n 0, 1) := by decide +kernel
theorem dX3_letterAt_13 : decode cX3_letterAt 13 = .ok (.getfield 41, 3) := by decide +kernel
theorem dX3_letterAt_16 : decode cX3_letterAt 16 = .ok (.iload_n 1, 1) := by decide +kernel
theorem dX3_letterAt_17 : decode cX3_letterAt 17 = .ok (.iadd, 1) := by decide +kernel
theorem dX3_letterAt_18 : decode cX3_letterAt 18 = .ok (.sipush 700, 3) := by decide +kernel
theorem dX3_letterAt_21 : decode cX3_letterAt 21 = .ok (.if_icmp .ge 17, 3) := by decide +kernel
theorem dX3_letterAt_24 : decode cX3_letterAt 24 = .ok (.aload_n 0, 1) := by decide +kernel
theorem dX3_letterAt_25 : decode cX3_letterAt 25 = .ok (.getfield 9, 3) := by decide +kernel
theorem dX3_letterAt_28 : decode cX3_letterAt 28 = .ok (.aload_n 0, 1) := by decide +kernel
theorem dX3_letterAt_29 : decode cX3_letterAt 29 = .ok (.getfield 41, 3) := by decide +kernel
theorem dX3_letterAt_32 : decode cX3_letterAt 32 = .ok (.iload_n 1, 1) := by decide +kernel
theorem dX3_letterAt_33 : decode cX3_letterAt 33 = .ok (.iadd, 1) := by decide +kernel
theorem dX3_letterAt_34 : decode cX3_letterAt 34 = .ok (.iaload, 1) := by decide +kernel
theorem dX3_letterAt_35 : decode cX3_letterAt 35 = .ok (.goto 4, 3) := by decide +kernel
theorem dX3_letterAt_38 : decode cX3_letterAt 38 = .ok (.iconst 0, 1) := by decide +kernel
theorem dX3_letterAt_39 : decode cX3_letterAt 39 = .ok (.ireturn, 1) := by decide +kernel
theorem dX3_isWord_0 : decode cX3_isWord 0 = .ok (.aload_n 0, 1) := by decide +kernel
theorem dX3_isWord_1 : decode cX3_isWord 1 = .ok (.invokevirtual 64, 3) := by decide +kernel
theorem dX3_isWord_4 : decode cX3_isWord 4 = .ok (.aload_n 1, 1) := by decide +kernel
theorem dX3_isWord_5 : decode cX3_isWord 5 = .ok (.invokevirtual 23, 3) := by decide +kernel
theorem dX3_isWord_8 : decode cX3_isWord 8 = .ok (.if_icmp .eq 5, 3) := by decide +kernel
theorem dX3_isWord_11 : decode cX3_isWord 11 = .ok (.iconst 0, 1) := by decide +kernel
theorem dX3_isWord_12 : decode cX3_isWord 12 = .ok (.ireturn, 1) := by decide +kernel
theorem dX3_isWord_13 : decode cX3_isWord 13 = .ok (.iconst 0, 1) := by decide +kernel
theorem dX3_isWord_14 : decode cX3_isWord 14 = .ok (.istore_n 2, 1) := by decide +kernel
theorem dX3_isWord_15 : decode cX3_isWord 15 = .ok (.iload_n 2, 1) := by decide +kernel
theorem dX3_isWord_16 : decode cX3_isWord 16 = .ok (.aload_n 1, 1) := by decide +kernel
theorem dX3_isWord_17 : decode cX3_isWord 17 = .ok (.invokevirtual 23, 3) := by decide +kernel
theorem dX3_isWord_20 : decode cX3_isWord 20 = .ok (.if_icmp .ge 24, 3) := by decide +kernel
theorem dX3_isWord_23 : decode cX3_isWord 23 = .ok (.aload_n 0, 1) := by decide +kernel
theorem dX3_isWord_24 : decode cX3_isWord 24 = .ok (.iload_n 2, 1) := by decide +kernel
theorem dX3_isWord_25 : decode cX3_isWord 25 = .ok (.invokevirtual 67, 3) := by decide +kernel
theorem dX3_isWord_28 : decode cX3_isWord 28 = .ok (.aload_n 1, 1) := by decide +kernel
theorem dX3_isWord_29 : decode cX3_isWord 29 = .ok (.iload_n 2, 1) := by decide +kernel
theorem dX3_isWord_30 : decode cX3_isWord 30 = .ok (.invokevirtual 28, 3) := by decide +kernel
theorem dX3_isWord_33 : decode cX3_isWord 33 = .ok (.if_icmp .eq 5, 3) := by decide +kernel
theorem dX3_isWord_36 : decode cX3_isWord 36 = .ok (.iconst 0, 1) := by decide +kernel
theorem dX3_isWord_37 : decode cX3_isWord 37 = .ok (.ireturn, 1) := by decide +kernel
theorem dX3_isWord_38 : decode cX3_isWord 38 = .ok (.iinc 2 1, 3) := by decide +kernel
theorem dX3_isWord_41 : decode cX3_isWord 41 = .ok (.goto (-26), 3) := by decide +kernel
theorem dX3_isWord_44 : decode cX3_isWord 44 = .ok (.iconst 1, 1) := by decide +kernel
theorem dX3_isWord_45 : decode cX3_isWord 45 = .ok (.ireturn, 1) := by decide +kernel
theorem dX3_isName_0 : decode cX3_isName 0 = .ok (.aload_n 0, 1) := by decide +kernel
theorem dX3_isName_1 : decode cX3_isName 1 = .ok (.getfield 44, 3) := by decide +kernel
theorem dX3_isName_4 : decode cX3_isName 4 = .ok (.iconst 1, 1) := by decide +kernel
theorem dX3_isName_5 : decode cX3_isName 5 = .ok (.if_icmp .ne 16, 3) := by decide +kernel
theorem dX3_isName_8 : decode cX3_isName 8 = .ok (.aload_n 0, 1) := by decide +kernel
theorem dX3_isName_9 : decode cX3_isName 9 = .ok (.invokevirtual 64, 3) := by decide +kernel
theorem dX3_isName_12 : decode cX3_isName 12 = .ok (.bipush 6, 2) := by decide +kernel
theorem dX3_isName_14 : decode cX3_isName 14 = .ok (.if_icmp .gt 7, 3) := by decide +kernel
theorem dX3_isName_17 : decode cX3_isName 17 = .ok (.iconst 1, 1) := by decide +kernel
theorem dX3_isName_18 : decode cX3_isName 18 = .ok (.goto 4, 3) := by decide +kernel
theorem dX3_isName_21 : decode cX3_isName 21 = .ok (.iconst 0, 1) := by decide +kernel
theorem dX3_isName_22 : decode cX3_isName 22 = .ok (.ireturn, 1) := by decide +kernel
theorem dX3_wordAsName_0 : decode cX3_wordAsName 0 = .ok (.lconst 0, 1) := by decide +kernel
theorem dX3_wordAsName_1 : decode cX3_wordAsName 1 = .ok (.lstore_n 1, 1) := by decide +kernel
theorem dX3_wordAsName_2 : decode cX3_wordAsName 2 = .ok (.iconst 0, 1) := by decide +kernel
theorem dX3_wordAsName_3 : decode cX3_wordAsName 3 = .ok (.istore_n 3, 1) := by decide +kernel
theorem dX3_wordAsName_4 : decode cX3_wordAsName 4 = .ok (.iload_n 3, 1) := by decide +kernel
theorem dX3_wordAsName_5 : decode cX3_wordAsName 5 = .ok (.bipush 6, 2) := by decide +kernel
theorem dX3_wordAsName_7 : decode cX3_wordAsName 7 = .ok (.if_icmp .ge 23, 3) := by decide +kernel
theorem dX3_wordAsName_10 : decode cX3_wordAsName 10 = .ok (.lload_n 1, 1) := by decide +kernel
theorem dX3_wordAsName_11 : decode cX3_wordAsName 11 = .ok (.aload_n 0, 1) := by decide +kernel
theorem dX3_wordAsName_12 : decode cX3_wordAsName 12 = .ok (.iload_n 3, 1) := by decide +kernel
theorem dX3_wordAsName_13 : decode cX3_wordAsName 13 = .ok (.invokevirtual 67, 3) := by decide +kernel
theorem dX3_wordAsName_16 : decode cX3_wordAsName 16 = .ok (.i2l, 1) := by decide +kernel
theorem dX3_wordAsName_17 : decode cX3_wordAsName 17 = .ok (.bipush 8, 2) := by decide +kernel
theorem dX3_wordAsName_19 : decode cX3_wordAsName 19 = .ok (.iload_n 3, 1) := by decide +kernel
theorem dX3_wordAsName_20 : decode cX3_wordAsName 20 = .ok (.imul, 1) := by decide +kernel
theorem dX3_wordAsName_21 : decode cX3_wordAsName 21 = .ok (.lshl, 1) := by decide +kernel
theorem dX3_wordAsName_22 : decode cX3_wordAsName 22 = .ok (.lor, 1) := by decide +kernel
theorem dX3_wordAsName_23 : decode cX3_wordAsName 23 = .ok (.lstore_n 1, 1) := by decide +kernel
theorem dX3_wordAsName_24 : decode cX3_wordAsName 24 = .ok (.iinc 3 1, 3) := by decide +kernel
theorem dX3_wordAsName_27 : decode cX3_wordAsName 27 = .ok (.goto (-23), 3) := by decide +kernel
theorem dX3_wordAsName_30 : decode cX3_wordAsName 30 = .ok (.lload_n 1, 1) := by decide +kernel
theorem dX3_wordAsName_31 : decode cX3_wordAsName 31 = .ok (.lreturn, 1) := by decide +kernel
theorem dX3_wordAsCode_0 : decode cX3_wordAsCode 0 = .ok (.aload_n 0, 1) := by decide +kernel
theorem dX3_wordAsCode_1 : decode cX3_wordAsCode 1 = .ok (.getfield 44, 3) := by decide +kernel
theorem dX3_wordAsCode_4 : decode cX3_wordAsCode 4 = .ok (.iconst 1, 1) := by decide +kernel
theorem dX3_wordAsCode_5 : decode cX3_wordAsCode 5 = .ok (.if_icmp .ne 11, 3) := by decide +kernel
theorem dX3_wordAsCode_8 : decode cX3_wordAsCode 8 = .ok (.aload_n 0, 1) := by decide +kernel
theorem dX3_wordAsCode_9 : decode cX3_wordAsCode 9 = .ok (.invokevirtual 64, 3) := by decide +kernel
theorem dX3_wordAsCode_12 : decode cX3_wordAsCode 12 = .ok (.iconst 5, 1) := by decide +kernel
theorem dX3_wordAsCode_13 : decode cX3_wordAsCode 13 = .ok (.if_icmp .le 5, 3) := by decide +kernel
theorem dX3_wordAsCode_16 : decode cX3_wordAsCode 16 = .ok (.iconst (-1), 1) := by decide +kernel
theorem dX3_wordAsCode_17 : decode cX3_wordAsCode 17 = .ok (.ireturn, 1) := by decide +kernel
theorem dX3_wordAsCode_18 : decode cX3_wordAsCode 18 = .ok (.iconst 1, 1) := by decide +kernel
theorem dX3_wordAsCode_19 : decode cX3_wordAsCode 19 = .ok (.istore_n 1, 1) := by decide +kernel
theorem dX3_wordAsCode_20 : decode cX3_wordAsCode 20 = .ok (.iconst 0, 1) := by decide +kernel
theorem dX3_wordAsCode_21 : decode cX3_wordAsCode 21 = .ok (.istore_n 2, 1) := by decide +kernel
theorem dX3_wordAsCode_22 : decode cX3_wordAsCode 22 = .ok (.iload_n 2, 1) := by decide +kernel
theorem dX3_wordAsCode_23 : decode cX3_wordAsCode 23 = .ok (.aload_n 0, 1) := by decide +kernel
theorem dX3_wordAsCode_24 : decode cX3_wordAsCode 24 = .ok (.invokevirtual 64, 3) := by decide +kernel
theorem dX3_wordAsCode_27 : decode cX3_wordAsCode 27 = .ok (.if_icmp .ge 51, 3) := by decide +kernel
theorem dX3_wordAsCode_30 : decode cX3_wordAsCode 30 = .ok (.aload_n 0, 1) := by decide +kernel
theorem dX3_wordAsCode_31 : decode cX3_wordAsCode 31 = .ok (.iload_n 2, 1) := by decide +kernel
theorem dX3_wordAsCode_32 : decode cX3_wordAsCode 32 = .ok (.invokevirtual 67, 3) := by decide +kernel
theorem dX3_wordAsCode_35 : decode cX3_wordAsCode 35 = .ok (.bipush 115, 2) := by decide +kernel
theorem dX3_wordAsCode_37 : decode cX3_wordAsCode 37 = .ok (.if_icmp .eq 15, 3) := by decide +kernel
theorem dX3_wordAsCode_40 : decode cX3_wordAsCode 40 = .ok (.aload_n 0, 1) := by decide +kernel
theorem dX3_wordAsCode_41 : decode cX3_wordAsCode 41 = .ok (.iload_n 2, 1) := by decide +kernel
theorem dX3_wordAsCode_42 : decode cX3_wordAsCode 42 = .ok (.invokevirtual 67, 3) := by decide +kernel
theorem dX3_wordAsCode_45 : decode cX3_wordAsCode 45 = .ok (.bipush 108, 2) := by decide +kernel
theorem dX3_wordAsCode_47 : decode cX3_wordAsCode 47 = .ok (.if_icmp .eq 5, 3) := by decide +kernel
theorem dX3_wordAsCode_50 : decode cX3_wordAsCode 50 = .ok (.iconst (-1), 1) := by decide +kernel
theorem dX3_wordAsCode_51 : decode cX3_wordAsCode 51 = .ok (.ireturn, 1) := by decide +kernel
theorem dX3_wordAsCode_52 : decode cX3_wordAsCode 52 = .ok (.iconst 2, 1) := by decide +kernel
theorem dX3_wordAsCode_53 : decode cX3_wordAsCode 53 = .ok (.iload_n 1, 1) := by decide +kernel
theorem dX3_wordAsCode_54 : decode cX3_wordAsCode 54 = .ok (.imul, 1) := by decide +kernel
theorem dX3_wordAsCode_55 : decode cX3_wordAsCode 55 = .ok (.aload_n 0, 1) := by decide +kernel
theorem dX3_wordAsCode_56 : decode cX3_wordAsCode 56 = .ok (.iload_n 2, 1) := by decide +kernel
theorem dX3_wordAsCode_57 : decode cX3_wordAsCode 57 = .ok (.invokevirtual 67, 3) := by decide +kernel
theorem dX3_wordAsCode_60 : decode cX3_wordAsCode 60 = .ok (.bipush 108, 2) := by decide +kernel
theorem dX3_wordAsCode_62 : decode cX3_wordAsCode 62 = .ok (.if_icmp .ne 7, 3) := by decide +kernel
theorem dX3_wordAsCode_65 : decode cX3_wordAsCode 65 = .ok (.iconst 1, 1) := by decide +kernel
theorem dX3_wordAsCode_66 : decode cX3_wordAsCode 66 = .ok (.goto 4, 3) := by decide +kernel
theorem dX3_wordAsCode_69 : decode cX3_wordAsCode 69 = .ok (.iconst 0, 1) := by decide +kernel
theorem dX3_wordAsCode_70 : decode cX3_wordAsCode 70 = .ok (.iadd, 1) := by decide +kernel
theorem dX3_wordAsCode_71 : decode cX3_wordAsCode 71 = .ok (.istore_n 1, 1) := by decide +kernel
theorem dX3_wordAsCode_72 : decode cX3_wordAsCode 72 = .ok (.iinc 2 1, 3) := by decide +kernel
theorem dX3_wordAsCode_75 : decode cX3_wordAsCode 75 = .ok (.goto (-53), 3) := by decide +kernel
theorem dX3_wordAsCode_78 : decode cX3_wordAsCode 78 = .ok (.iload_n 1, 1) := by decide +kernel
theorem dX3_wordAsCode_79 : decode cX3_wordAsCode 79 = .ok (.ireturn, 1) := by decide +kernel
theorem dX4_init_0 : decode cX4_init 0 = .ok (.aload_n 0, 1) := by decide +kernel
theorem dX4_init_1 : decode cX4_init 1 = .ok (.invokespecial 3, 3) := by decide +kernel
theorem dX4_init_4 : decode cX4_init 4 = .ok (.aload_n 0, 1) := by decide +kernel
theorem dX4_init_5 : decode cX4_init 5 = .ok (.new 9, 3) := by decide +kernel
theorem dX4_init_8 : decode cX4_init 8 = .ok (.dup, 1) := by decide +kernel
theorem dX4_init_9 : decode cX4_init 9 = .ok (.invokespecial 11, 3) := by decide +kernel
theorem dX4_init_12 : decode cX4_init 12 = .ok (.putfield 12, 3) := by decide +kernel
theorem dX4_init_15 : decode cX4_init 15 = .ok (.aload_n 0, 1) := by decide +kernel
theorem dX4_init_16 : decode cX4_init 16 = .ok (.new 18, 3) := by decide +kernel
theorem dX4_init_19 : decode cX4_init 19 = .ok (.dup, 1) := by decide +kernel
theorem dX4_init_20 : decode cX4_init 20 = .ok (.invokespecial 20, 3) := by decide +kernel
theorem dX4_init_23 : decode cX4_init 23 = .ok (.putfield 21, 3) := by decide +kernel
theorem dX4_init_26 : decode cX4_init 26 = .ok (.aload_n 0, 1) := by decide +kernel
theorem dX4_init_27 : decode cX4_init 27 = .ok (.iconst (-1), 1) := by decide +kernel
theorem dX4_init_28 : decode cX4_init 28 = .ok (.putfield 25, 3) := by decide +kernel
theorem dX4_init_31 : decode cX4_init 31 = .ok (.return_, 1) := by decide +kernel
theorem dX4_startText_0 : decode cX4_startText 0 = .ok (.aload_n 0, 1) := by decide +kernel
theorem dX4_startText_1 : decode cX4_startText 1 = .ok (.iconst 0, 1) := by decide +kernel
theorem dX4_startText_2 : decode cX4_startText 2 = .ok (.putfield 29, 3) := by decide +kernel
theorem dX4_startText_5 : decode cX4_startText 5 = .ok (.aload_n 0, 1) := by decide +kernel
theorem dX4_startText_6 : decode cX4_startText 6 = .ok (.iconst (-1), 1) := by decide +kernel
theorem dX4_startText_7 : decode cX4_startText 7 = .ok (.putfield 25, 3) := by decide +kernel
theorem dX4_startText_10 : decode cX4_startText 10 = .ok (.aload_n 0, 1) := by decide +kernel
theorem dX4_startText_11 : decode cX4_startText 11 = .ok (.getfield 12, 3) := by decide +kernel
theorem dX4_startText_14 : decode cX4_startText 14 = .ok (.invokevirtual 32, 3) := by decide +kernel
theorem dX4_startText_17 : decode cX4_startText 17 = .ok (.return_, 1) := by decide +kernel
theorem dX4_readBoard_0 : decode cX4_readBoard 0 = .ok (.aload_n 0, 1) := by decide +kernel
theorem dX4_readBoard_1 : decode cX4_readBoard 1 = .ok (.getfield 12, 3) := by decide +kernel
theorem dX4_readBoard_4 : decode cX4_readBoard 4 = .ok (.ldc 42, 2) := by decide +kernel
theorem dX4_readBoard_6 : decode cX4_readBoard 6 = .ok (.invokevirtual 44, 3) := by decide +kernel
theorem dX4_readBoard_9 : decode cX4_readBoard 9 = .ok (.ifCond .ne 9, 3) := by decide +kernel
theorem dX4_readBoard_12 : decode cX4_readBoard 12 = .ok (.aload_n 0, 1) := by decide +kernel
theorem dX4_readBoard_13 : decode cX4_readBoard 13 = .ok (.iconst 1, 1) := by decide +kernel
theorem dX4_readBoard_14 : decode cX4_readBoard 14 = .ok (.invokevirtual 48, 3) := by decide +kernel
theorem dX4_readBoard_17 : decode cX4_readBoard 17 = .ok (.ireturn, 1) := by decide +kernel
theorem dX4_readBoard_18 : decode cX4_readBoard 18 = .ok (.aload_n 0, 1) := by decide +kernel
theorem dX4_readBoard_19 : decode cX4_readBoard 19 = .ok (.getfield 12, 3) := by decide +kernel
theorem dX4_readBoard_22 : decode cX4_readBoard 22 = .ok (.invokevirtual 52, 3) := by decide +kernel
theorem dX4_readBoard_25 : decode cX4_readBoard 25 = .ok (.aload_n 0, 1) := by decide +kernel
theorem dX4_readBoard_26 : decode cX4_readBoard 26 = .ok (.iconst 1, 1) := by decide +kernel
theorem dX4_readBoard_27 : decode cX4_readBoard 27 = .ok (.bipush 6, 2) := by decide +kernel
theorem dX4_readBoard_29 : decode cX4_readBoard 29 = .ok (.invokevirtual 55, 3) := by decide +kernel
theorem dX4_readBoard_32 : decode cX4_readBoard 32 = .ok (.istore_n 1, 1) := by decide +kernel
theorem dX4_readBoard_33 : decode cX4_readBoard 33 = .ok (.iload_n 1, 1) := by decide +kernel
theorem dX4_readBoard_34 : decode cX4_readBoard 34 = .ok (.iconst (-1), 1) := by decide +kernel
theorem dX4_readBoard_35 : decode cX4_readBoard 35 = .ok (.if_icmp .ne 5, 3) := by decide +kernel
theorem dX4_readBoard_38 : decode cX4_readBoard 38 = .ok (.iconst 0, 1) := by decide +kernel
theorem dX4_readBoard_39 : decode cX4_readBoard 39 = .ok (.ireturn, 1) := by decide +kernel
theorem dX4_readBoard_40 : decode cX4_readBoard 40 = .ok (.aload_n 0, 1) := by decide +kernel
theorem dX4_readBoard_41 : decode cX4_readBoard 41 = .ok (.iconst 1, 1) := by decide +kernel
theorem dX4_readBoard_42 : decode cX4_readBoard 42 = .ok (.bipush 6, 2) := by decide +kernel
theorem dX4_readBoard_44 : decode cX4_readBoard 44 = .ok (.invokevirtual 55, 3) := by decide +kernel
theorem dX4_readBoard_47 : decode cX4_readBoard 47 = .ok (.istore_n 2, 1) := by decide +kernel
theorem dX4_readBoard_48 : decode cX4_readBoard 48 = .ok (.iload_n 2, 1) := by decide +kernel
theorem dX4_readBoard_49 : decode cX4_readBoard 49 = .ok (.iconst (-1), 1) := by decide +kernel
theorem dX4_readBoard_50 : decode cX4_readBoard 50 = .ok (.if_icmp .eq 10, 3) := by decide +kernel
theorem dX4_readBoard_53 : decode cX4_readBoard 53 = .ok (.aload_n 0, 1) := by decide +kernel
theorem dX4_readBoard_54 : decode cX4_readBoard 54 = .ok (.invokevirtual 59, 3) := by decide +kernel
theorem dX4_readBoard_57 : decode cX4_readBoard 57 = .ok (.ifCond .ne 5, 3) := by decide +kernel
theorem dX4_readBoard_60 : decode cX4_readBoard 60 = .ok (.iconst 0, 1) := by decide +kernel
theorem dX4_readBoard_61 : decode cX4_readBoard 61 = .ok (.ireturn, 1) := by decide +kernel
theorem dX4_readBoard_62 : decode cX4_readBoard 62 = .ok (.aload_n 0, 1) := by decide +kernel
theorem dX4_readBoard_63 : decode cX4_readBoard 63 = .ok (.getfield 21, 3) := by decide +kernel
theorem dX4_readBoard_66 : decode cX4_readBoard 66 = .ok (.iload_n 1, 1) := by decide +kernel
theorem dX4_readBoard_67 : decode cX4_readBoard 67 = .ok (.iload_n 2, 1) := by decide +kernel
theorem dX4_readBoard_68 : decode cX4_readBoard 68 = .ok (.invokevirtual 63, 3) := by decide +kernel
theorem dX4_readBoard_71 : decode cX4_readBoard 71 = .ok (.aload_n 0, 1) := by decide +kernel
theorem dX4_readBoard_72 : decode cX4_readBoard 72 = .ok (.getfield 12, 3) := by decide +kernel
theorem dX4_readBoard_75 : decode cX4_readBoard 75 = .ok (.invokevirtual 52, 3) := by decide +kernel
theorem dX4_readBoard_78 : decode cX4_readBoard 78 = .ok (.iconst 1, 1) := by decide +kernel
theorem dX4_readBoard_79 : decode cX4_readBoard 79 = .ok (.ireturn, 1) := by decide +kernel
theorem dX4_readTrunks_0 : decode cX4_readTrunks 0 = .ok (.iconst 0, 1) := by decide +kernel
theorem dX4_readTrunks_1 : decode cX4_readTrunks 1 = .ok (.istore_n 1, 1) := by decide +kernel
theorem dX4_readTrunks_2 : decode cX4_readTrunks 2 = .ok (.iload_n 1, 1) := by decide +kernel
theorem dX4_readTrunks_3 : decode cX4_readTrunks 3 = .ok (.iconst 4, 1) := by decide +kernel
theorem dX4_readTrunks_4 : decode cX4_readTrunks 4 = .ok (.if_icmp .gt 77, 3) := by decide +kernel
theorem dX4_readTrunks_7 : decode cX4_readTrunks 7 = .ok (.aload_n 0, 1) := by decide +kernel
theorem dX4_readTrunks_8 : decode cX4_readTrunks 8 = .ok (.getfield 12, 3) := by decide +kernel
theorem dX4_readTrunks_11 : decode cX4_readTrunks 11 = .ok (.ldc 67, 2) := by decide +kernel
theorem dX4_readTrunks_13 : decode cX4_readTrunks 13 = .ok (.invokevirtual 44, 3) := by decide +kernel
theorem dX4_readTrunks_16 : decode cX4_readTrunks 16 = .ok (.ifCond .eq 65, 3) := by decide +kernel
theorem dX4_readTrunks_19 : decode cX4_readTrunks 19 = .ok (.iload_n 1, 1) := by decide +kernel
theorem dX4_readTrunks_20 : decode cX4_readTrunks 20 = .ok (.iconst 4, 1) := by decide +kernel
theorem dX4_readTrunks_21 : decode cX4_readTrunks 21 = .ok (.if_icmp .ne 10, 3) := by decide +kernel
theorem dX4_readTrunks_24 : decode cX4_readTrunks 24 = .ok (.aload_n 0, 1) := by decide +kernel
theorem dX4_readTrunks_25 : decode cX4_readTrunks 25 = .ok (.bipush 6, 2) := by decide +kernel
theorem dX4_readTrunks_27 : decode cX4_readTrunks 27 = .ok (.invokevirtual 48, 3) := by decide +kernel
theorem dX4_readTrunks_30 : decode cX4_readTrunks 30 = .ok (.ireturn, 1) := by decide +kernel
theorem dX4_readTrunks_31 : decode cX4_readTrunks 31 = .ok (.aload_n 0, 1) := by decide +kernel
theorem dX4_readTrunks_32 : decode cX4_readTrunks 32 = .ok (.getfield 12, 3) := by decide +kernel
theorem dX4_readTrunks_35 : decode cX4_readTrunks 35 = .ok (.invokevirtual 52, 3) := by decide +kernel
theorem dX4_readTrunks_38 : decode cX4_readTrunks 38 = .ok (.aload_n 0, 1) := by decide +kernel
theorem dX4_readTrunks_39 : decode cX4_readTrunks 39 = .ok (.iconst 1, 1) := by decide +kernel
theorem dX4_readTrunks_40 : decode cX4_readTrunks 40 = .ok (.bipush 99, 2) := by decide +kernel
theorem dX4_readTrunks_42 : decode cX4_readTrunks 42 = .ok (.invokevirtual 55, 3) := by decide +kernel
theorem dX4_readTrunks_45 : decode cX4_readTrunks 45 = .ok (.istore_n 2, 1) := by decide +kernel
theorem dX4_readTrunks_46 : decode cX4_readTrunks 46 = .ok (.iload_n 2, 1) := by decide +kernel
theorem dX4_readTrunks_47 : decode cX4_readTrunks 47 = .ok (.iconst (-1), 1) := by decide +kernel
theorem dX4_readTrunks_48 : decode cX4_readTrunks 48 = .ok (.if_icmp .eq 10, 3) := by decide +kernel
theorem dX4_readTrunks_51 : decode cX4_readTrunks 51 = .ok (.aload_n 0, 1) := by decide +kernel
theorem dX4_readTrunks_52 : decode cX4_readTrunks 52 = .ok (.invokevirtual 59, 3) := by decide +kernel
theorem dX4_readTrunks_55 : decode cX4_readTrunks 55 = .ok (.ifCond .ne 5, 3) := by decide +kernel
theorem dX4_readTrunks_58 : decode cX4_readTrunks 58 = .ok (.iconst 0, 1) := by decide +kernel
theorem dX4_readTrunks_59 : decode cX4_readTrunks 59 = .ok (.ireturn, 1) := by decide +kernel
theorem dX4_readTrunks_60 : decode cX4_readTrunks 60 = .ok (.aload_n 0, 1) := by decide +kernel
theorem dX4_readTrunks_61 : decode cX4_readTrunks 61 = .ok (.getfield 21, 3) := by decide +kernel
theorem dX4_readTrunks_64 : decode cX4_readTrunks 64 = .ok (.iload_n 2, 1) := by decide +kernel
theorem dX4_readTrunks_65 : decode cX4_readTrunks 65 = .ok (.invokevirtual 69, 3) := by decide +kernel
theorem dX4_readTrunks_68 : decode cX4_readTrunks 68 = .ok (.aload_n 0, 1) := by decide +kernel
theorem dX4_readTrunks_69 : decode cX4_readTrunks 69 = .ok (.getfield 12, 3) := by decide +kernel
theorem dX4_readTrunks_72 : decode cX4_readTrunks 72 = .ok (.invokevirtual 52, 3) := by decide +kernel
theorem dX4_readTrunks_75 : decode cX4_readTrunks 75 = .ok (.iinc 1 1, 3) := by decide +kernel
theorem dX4_readTrunks_78 : decode cX4_readTrunks 78 = .ok (.goto (-76), 3) := by decide +kernel
theorem dX4_readTrunks_81 : decode cX4_readTrunks 81 = .ok (.iconst 1, 1) := by decide +kernel
theorem dX4_readTrunks_82 : decode cX4_readTrunks 82 = .ok (.ireturn, 1) := by decide +kernel
theorem dX4_readSubscribers_0 : decode cX4_readSubscribers 0 = .ok (.aload_n 0, 1) := by decide +kernel
theorem dX4_readSubscribers_1 : decode cX4_readSubscribers 1 = .ok (.getfield 12, 3) := by decide +kernel
theorem dX4_readSubscribers_4 : decode cX4_readSubscribers 4 = .ok (.ldc 73, 2) := by decide +kernel
theorem dX4_readSubscribers_6 : decode cX4_readSubscribers 6 = .ok (.invokevirtual 44, 3) := by decide +kernel
theorem dX4_readSubscribers_9 : decode cX4_readSubscribers 9 = .ok (.ifCond .ne 9, 3) := by decide +kernel
theorem dX4_readSubscribers_12 : decode cX4_readSubscribers 12 = .ok (.aload_n 0, 1) := by decide +kernel
theorem dX4_readSubscribers_13 : decode cX4_readSubscribers 13 = .ok (.iconst 1, 1) := by decide +kernel
theorem dX4_readSubscribers_14 : decode cX4_readSubscribers 14 = .ok (.invokevirtual 48, 3) := by decide +kernel
theorem dX4_readSubscribers_17 : decode cX4_readSubscribers 17 = .ok (.ireturn, 1) := by decide +kernel
theorem dX4_readSubscribers_18 : decode cX4_readSubscribers 18 = .ok (.iconst 0, 1) := by decide +kernel
theorem dX4_readSubscribers_19 : decode cX4_readSubscribers 19 = .ok (.istore_n 1, 1) := by decide +kernel
theorem dX4_readSubscribers_20 : decode cX4_readSubscribers 20 = .ok (.iload_n 1, 1) := by decide +kernel
theorem dX4_readSubscribers_21 : decode cX4_readSubscribers 21 = .ok (.bipush 15, 2) := by decide +kernel
theorem dX4_readSubscribers_23 : decode cX4_readSubscribers 23 = .ok (.if_icmp .gt 43, 3) := by decide +kernel
theorem dX4_readSubscribers_26 : decode cX4_readSubscribers 26 = .ok (.aload_n 0, 1) := by decide +kernel
theorem dX4_readSubscribers_27 : decode cX4_readSubscribers 27 = .ok (.getfield 12, 3) := by decide +kernel
theorem dX4_readSubscribers_30 : decode cX4_readSubscribers 30 = .ok (.ldc 73, 2) := by decide +kernel
theorem dX4_readSubscribers_32 : decode cX4_readSubscribers 32 = .ok (.invokevirtual 44, 3) := by decide +kernel
theorem dX4_readSubscribers_35 : decode cX4_readSubscribers 35 = .ok (.ifCond .eq 31, 3) := by decide +kernel
theorem dX4_readSubscribers_38 : decode cX4_readSubscribers 38 = .ok (.iload_n 1, 1) := by decide +kernel
theorem dX4_readSubscribers_39 : decode cX4_readSubscribers 39 = .ok (.bipush 15, 2) := by decide +kernel
theorem dX4_readSubscribers_41 : decode cX4_readSubscribers 41 = .ok (.if_icmp .ne 10, 3) := by decide +kernel
theorem dX4_readSubscribers_44 : decode cX4_readSubscribers 44 = .ok (.aload_n 0, 1) := by decide +kernel
theorem dX4_readSubscribers_45 : decode cX4_readSubscribers 45 = .ok (.bipush 6, 2) := by decide +kernel
theorem dX4_readSubscribers_47 : decode cX4_readSubscribers 47 = .ok (.invokevirtual 48, 3) := by decide +kernel
theorem dX4_readSubscribers_50 : decode cX4_readSubscribers 50 = .ok (.ireturn, 1) := by decide +kernel
theorem dX4_readSubscribers_51 : decode cX4_readSubscribers 51 = .ok (.aload_n 0, 1) := by decide +kernel
theorem dX4_readSubscribers_52 : decode cX4_readSubscribers 52 = .ok (.invokevirtual 75, 3) := by decide +kernel
theorem dX4_readSubscribers_55 : decode cX4_readSubscribers 55 = .ok (.ifCond .ne 5, 3) := by decide +kernel
theorem dX4_readSubscribers_58 : decode cX4_readSubscribers 58 = .ok (.iconst 0, 1) := by decide +kernel
theorem dX4_readSubscribers_59 : decode cX4_readSubscribers 59 = .ok (.ireturn, 1) := by decide +kernel
theorem dX4_readSubscribers_60 : decode cX4_readSubscribers 60 = .ok (.iinc 1 1, 3) := by decide +kernel
theorem dX4_readSubscribers_63 : decode cX4_readSubscribers 63 = .ok (.goto (-43), 3) := by decide +kernel
theorem dX4_readSubscribers_66 : decode cX4_readSubscribers 66 = .ok (.iconst 1, 1) := by decide +kernel
theorem dX4_readSubscribers_67 : decode cX4_readSubscribers 67 = .ok (.ireturn, 1) := by decide +kernel
theorem dX4_readSubscriber_0 : decode cX4_readSubscriber 0 = .ok (.aload_n 0, 1) := by decide +kernel
theorem dX4_readSubscriber_1 : decode cX4_readSubscriber 1 = .ok (.getfield 12, 3) := by decide +kernel
theorem dX4_readSubscriber_4 : decode cX4_readSubscriber 4 = .ok (.invokevirtual 52, 3) := by decide +kernel
theorem dX4_readSubscriber_7 : decode cX4_readSubscriber 7 = .ok (.aload_n 0, 1) := by decide +kernel
theorem dX4_readSubscriber_8 : decode cX4_readSubscriber 8 = .ok (.invokevirtual 78, 3) := by decide +kernel
theorem dX4_readSubscriber_11 : decode cX4_readSubscriber 11 = .ok (.lstore_n 1, 1) := by decide +kernel
theorem dX4_readSubscriber_12 : decode cX4_readSubscriber 12 = .ok (.lload_n 1, 1) := by decide +kernel
theorem dX4_readSubscriber_13 : decode cX4_readSubscriber 13 = .ok (.lconst 0, 1) := by decide +kernel
theorem dX4_readSubscriber_14 : decode cX4_readSubscriber 14 = .ok (.lcmp, 1) := by decide +kernel
theorem dX4_readSubscriber_15 : decode cX4_readSubscriber 15 = .ok (.ifCond .ne 5, 3) := by decide +kernel
theorem dX4_readSubscriber_18 : decode cX4_readSubscriber 18 = .ok (.iconst 0, 1) := by decide +kernel
theorem dX4_readSubscriber_19 : decode cX4_readSubscriber 19 = .ok (.ireturn, 1) := by decide +kernel
theorem dX4_readSubscriber_20 : decode cX4_readSubscriber 20 = .ok (.aload_n 0, 1) := by decide +kernel
theorem dX4_readSubscriber_21 : decode cX4_readSubscriber 21 = .ok (.iconst 0, 1) := by decide +kernel
theorem dX4_readSubscriber_22 : decode cX4_readSubscriber 22 = .ok (.aload_n 0, 1) := by decide +kernel
theorem dX4_readSubscriber_23 : decode cX4_readSubscriber 23 = .ok (.getfield 21, 3) := by decide +kernel
theorem dX4_readSubscriber_26 : decode cX4_readSubscriber 26 = .ok (.getfield 82, 3) := by decide +kernel
theorem dX4_readSubscriber_29 : decode cX4_readSubscriber 29 = .ok (.iconst 1, 1) := by decide +kernel
theorem dX4_readSubscriber_30 : decode cX4_readSubscriber 30 = .ok (.isub, 1) := by decide +kernel
theorem dX4_readSubscriber_31 : decode cX4_readSubscriber 31 = .ok (.invokevirtual 55, 3) := by decide +kernel
theorem dX4_readSubscriber_34 : decode cX4_readSubscriber 34 = .ok (.istore_n 3, 1) := by decide +kernel
theorem dX4_readSubscriber_35 : decode cX4_readSubscriber 35 = .ok (.iload_n 3, 1) := by decide +kernel
theorem dX4_readSubscriber_36 : decode cX4_readSubscriber 36 = .ok (.iconst (-1), 1) := by decide +kernel
theorem dX4_readSubscriber_37 : decode cX4_readSubscriber 37 = .ok (.if_icmp .ne 5, 3) := by decide +kernel
theorem dX4_readSubscriber_40 : decode cX4_readSubscriber 40 = .ok (.iconst 0, 1) := by decide +kernel
theorem dX4_readSubscriber_41 : decode cX4_readSubscriber 41 = .ok (.ireturn, 1) := by decide +kernel
theorem dX4_readSubscriber_42 : decode cX4_readSubscriber 42 = .ok (.aload_n 0, 1) := by decide +kernel
theorem dX4_readSubscriber_43 : decode cX4_readSubscriber 43 = .ok (.iload_n 3, 1) := by decide +kernel
theorem dX4_readSubscriber_44 : decode cX4_readSubscriber 44 = .ok (.invokevirtual 85, 3) := by decide +kernel
theorem dX4_readSubscriber_47 : decode cX4_readSubscriber 47 = .ok (.istore 4, 2) := by decide +kernel
theorem dX4_readSubscriber_49 : decode cX4_readSubscriber 49 = .ok (.iload 4, 2) := by decide +kernel
theorem dX4_readSubscriber_51 : decode cX4_readSubscriber 51 = .ok (.iconst (-1), 1) := by decide +kernel
theorem dX4_readSubscriber_52 : decode cX4_readSubscriber 52 = .ok (.if_icmp .ne 5, 3) := by decide +kernel
theorem dX4_readSubscriber_55 : decode cX4_readSubscriber 55 = .ok (.iconst 0, 1) := by decide +kernel
theorem dX4_readSubscriber_56 : decode cX4_readSubscriber 56 = .ok (.ireturn, 1) := by decide +kernel
theorem dX4_readSubscriber_57 : decode cX4_readSubscriber 57 = .ok (.aload_n 0, 1) := by decide +kernel
theorem dX4_readSubscriber_58 : decode cX4_readSubscriber 58 = .ok (.iconst 0, 1) := by decide +kernel
theorem dX4_readSubscriber_59 : decode cX4_readSubscriber 59 = .ok (.bipush 9, 2) := by decide +kernel
theorem dX4_readSubscriber_61 : decode cX4_readSubscriber 61 = .ok (.invokevirtual 55, 3) := by decide +kernel
theorem dX4_readSubscriber_64 : decode cX4_readSubscriber 64 = .ok (.istore 5, 2) := by decide +kernel
theorem dX4_readSubscriber_66 : decode cX4_readSubscriber 66 = .ok (.iload 5, 2) := by decide +kernel
theorem dX4_readSubscriber_68 : decode cX4_readSubscriber 68 = .ok (.iconst (-1), 1) := by decide +kernel
theorem dX4_readSubscriber_69 : decode cX4_readSubscriber 69 = .ok (.if_icmp .eq 10, 3) := by decide +kernel
theorem dX4_readSubscriber_72 : decode cX4_readSubscriber 72 = .ok (.aload_n 0, 1) := by decide +kernel
theorem dX4_readSubscriber_73 : decode cX4_readSubscriber 73 = .ok (.invokevirtual 59, 3) := by decide +kernel
theorem dX4_readSubscriber_76 : decode cX4_readSubscriber 76 = .ok (.ifCond .ne 5, 3) := by decide +kernel
theorem dX4_readSubscriber_79 : decode cX4_readSubscriber 79 = .ok (.iconst 0, 1) := by decide +kernel
theorem dX4_readSubscriber_80 : decode cX4_readSubscriber 80 = .ok (.ireturn, 1) := by decide +kernel
theorem dX4_readSubscriber_81 : decode cX4_readSubscriber 81 = .ok (.aload_n 0, 1) := by decide +kernel
theorem dX4_readSubscriber_82 : decode cX4_readSubscriber 82 = .ok (.getfield 21, 3) := by decide +kernel
theorem dX4_readSubscriber_85 : decode cX4_readSubscriber 85 = .ok (.getfield 89, 3) := by decide +kernel
theorem dX4_readSubscriber_88 : decode cX4_readSubscriber 88 = .ok (.lload_n 1, 1) := by decide +kernel
theorem dX4_readSubscriber_89 : decode cX4_readSubscriber 89 = .ok (.iload_n 3, 1) := by decide +kernel
theorem dX4_readSubscriber_90 : decode cX4_readSubscriber 90 = .ok (.iload 4, 2) := by decide +kernel
theorem dX4_readSubscriber_92 : decode cX4_readSubscriber 92 = .ok (.iload 5, 2) := by decide +kernel
theorem dX4_readSubscriber_94 : decode cX4_readSubscriber 94 = .ok (.invokevirtual 93, 3) := by decide +kernel
theorem dX4_readSubscriber_97 : decode cX4_readSubscriber 97 = .ok (.aload_n 0, 1) := by decide +kernel
theorem dX4_readSubscriber_98 : decode cX4_readSubscriber 98 = .ok (.getfield 12, 3) := by decide +kernel
theorem dX4_readSubscriber_101 : decode cX4_readSubscriber 101 = .ok (.invokevirtual 52, 3) := by decide +kernel
theorem dX4_readSubscriber_104 : decode cX4_readSubscriber 104 = .ok (.iconst 1, 1) := by decide +kernel
theorem dX4_readSubscriber_105 : decode cX4_readSubscriber 105 = .ok (.ireturn, 1) := by decide +kernel
theorem dX4_readCommands_0 : decode cX4_readCommands 0 = .ok (.iconst 0, 1) := by decide +kernel
theorem dX4_readCommands_1 : decode cX4_readCommands 1 = .ok (.istore_n 1, 1) := by decide +kernel
theorem dX4_readCommands_2 : decode cX4_readCommands 2 = .ok (.aload_n 0, 1) := by decide +kernel
theorem dX4_readCommands_3 : decode cX4_readCommands 3 = .ok (.getfield 12, 3) := by decide +kernel
theorem dX4_readCommands_6 : decode cX4_readCommands 6 = .ok (.getfield 99, 3) := by decide +kernel
theorem dX4_readCommands_9 : decode cX4_readCommands 9 = .ok (.ifCond .eq 127, 3) := by decide +kernel
theorem dX4_readCommands_12 : decode cX4_readCommands 12 = .ok (.iload_n 1, 1) := by decide +kernel
theorem dX4_readCommands_13 : decode cX4_readCommands 13 = .ok (.sipush 700, 3) := by decide +kernel
theorem dX4_readCommands_16 : decode cX4_readCommands 16 = .ok (.if_icmp .ge 120, 3) := by decide +kernel
theorem dX4_readCommands_19 : decode cX4_readCommands 19 = .ok (.aload_n 0, 1) := by decide +kernel
theorem dX4_readCommands_20 : decode cX4_readCommands 20 = .ok (.getfield 12, 3) := by decide +kernel
theorem dX4_readCommands_23 : decode cX4_readCommands 23 = .ok (.ldc 102, 2) := by decide +kernel
theorem dX4_readCommands_25 : decode cX4_readCommands 25 = .ok (.invokevirtual 44, 3) := by decide +kernel
theorem dX4_readCommands_28 : decode cX4_readCommands 28 = .ok (.ifCond .eq 11, 3) := by decide +kernel
theorem dX4_readCommands_31 : decode cX4_readCommands 31 = .ok (.aload_n 0, 1) := by decide +kernel
theorem dX4_readCommands_32 : decode cX4_readCommands 32 = .ok (.invokevirtual 104, 3) := by decide +kernel
theorem dX4_readCommands_35 : decode cX4_readCommands 35 = .ok (.istore_n 2, 1) := by decide +kernel
theorem dX4_readCommands_36 : decode cX4_readCommands 36 = .ok (.goto 88, 3) := by decide +kernel
theorem dX4_readCommands_39 : decode cX4_readCommands 39 = .ok (.aload_n 0, 1) := by decide +kernel
theorem dX4_readCommands_40 : decode cX4_readCommands 40 = .ok (.getfield 12, 3) := by decide +kernel
theorem dX4_readCommands_43 : decode cX4_readCommands 43 = .ok (.ldc 67, 2) := by decide +kernel
theorem dX4_readCommands_45 : decode cX4_readCommands 45 = .ok (.invokevirtual 44, 3) := by decide +kernel
theorem dX4_readCommands_48 : decode cX4_readCommands 48 = .ok (.ifCond .eq 11, 3) := by decide +kernel
theorem dX4_readCommands_51 : decode cX4_readCommands 51 = .ok (.aload_n 0, 1) := by decide +kernel
theorem dX4_readCommands_52 : decode cX4_readCommands 52 = .ok (.invokevirtual 107, 3) := by decide +kernel
theorem dX4_readCommands_55 : decode cX4_readCommands 55 = .ok (.istore_n 2, 1) := by decide +kernel
theorem dX4_readCommands_56 : decode cX4_readCommands 56 = .ok (.goto 68, 3) := by decide +kernel
theorem dX4_readCommands_59 : decode cX4_readCommands 59 = .ok (.aload_n 0, 1) := by decide +kernel
theorem dX4_readCommands_60 : decode cX4_readCommands 60 = .ok (.getfield 12, 3) := by decide +kernel
theorem dX4_readCommands_63 : decode cX4_readCommands 63 = .ok (.ldc 110, 2) := by decide +kernel
theorem dX4_readCommands_65 : decode cX4_readCommands 65 = .ok (.invokevirtual 44, 3) := by decide +kernel
theorem dX4_readCommands_68 : decode cX4_readCommands 68 = .ok (.ifCond .eq 11, 3) := by decide +kernel
theorem dX4_readCommands_71 : decode cX4_readCommands 71 = .ok (.aload_n 0, 1) := by decide +kernel
theorem dX4_readCommands_72 : decode cX4_readCommands 72 = .ok (.invokevirtual 112, 3) := by decide +kernel
theorem dX4_readCommands_75 : decode cX4_readCommands 75 = .ok (.istore_n 2, 1) := by decide +kernel
theorem dX4_readCommands_76 : decode cX4_readCommands 76 = .ok (.goto 48, 3) := by decide +kernel
theorem dX4_readCommands_79 : decode cX4_readCommands 79 = .ok (.aload_n 0, 1) := by decide +kernel
theorem dX4_readCommands_80 : decode cX4_readCommands 80 = .ok (.getfield 12, 3) := by decide +kernel
theorem dX4_readCommands_83 : decode cX4_readCommands 83 = .ok (.ldc 115, 2) := by decide +kernel
theorem dX4_readCommands_85 : decode cX4_readCommands 85 = .ok (.invokevirtual 44, 3) := by decide +kernel
theorem dX4_readCommands_88 : decode cX4_readCommands 88 = .ok (.ifCond .eq 11, 3) := by decide +kernel
theorem dX4_readCommands_91 : decode cX4_readCommands 91 = .ok (.aload_n 0, 1) := by decide +kernel
theorem dX4_readCommands_92 : decode cX4_readCommands 92 = .ok (.invokevirtual 117, 3) := by decide +kernel
theorem dX4_readCommands_95 : decode cX4_readCommands 95 = .ok (.istore_n 2, 1) := by decide +kernel
theorem dX4_readCommands_96 : decode cX4_readCommands 96 = .ok (.goto 28, 3) := by decide +kernel
theorem dX4_readCommands_99 : decode cX4_readCommands 99 = .ok (.aload_n 0, 1) := by decide +kernel
theorem dX4_readCommands_100 : decode cX4_readCommands 100 = .ok (.getfield 12, 3) := by decide +kernel
theorem dX4_readCommands_103 : decode cX4_readCommands 103 = .ok (.ldc 120, 2) := by decide +kernel
theorem dX4_readCommands_105 : decode cX4_readCommands 105 = .ok (.invokevirtual 44, 3) := by decide +kernel
theorem dX4_readCommands_108 : decode cX4_readCommands 108 = .ok (.ifCond .eq 10, 3) := by decide +kernel
theorem dX4_readCommands_111 : decode cX4_readCommands 111 = .ok (.aload_n 0, 1) := by decide +kernel
theorem dX4_readCommands_112 : decode cX4_readCommands 112 = .ok (.invokevirtual 122, 3) := by decide +kernel
theorem dX4_readCommands_115 : decode cX4_readCommands 115 = .ok (.goto 8, 3) := by decide +kernel
theorem dX4_readCommands_118 : decode cX4_readCommands 118 = .ok (.aload_n 0, 1) := by decide +kernel
theorem dX4_readCommands_119 : decode cX4_readCommands 119 = .ok (.iconst 1, 1) := by decide +kernel
theorem dX4_readCommands_120 : decode cX4_readCommands 120 = .ok (.invokevirtual 48, 3) := by decide +kernel
theorem dX4_readCommands_123 : decode cX4_readCommands 123 = .ok (.istore_n 2, 1) := by decide +kernel
theorem dX4_readCommands_124 : decode cX4_readCommands 124 = .ok (.iload_n 2, 1) := by decide +kernel
theorem dX4_readCommands_125 : decode cX4_readCommands 125 = .ok (.ifCond .ne 5, 3) := by decide +kernel
theorem dX4_readCommands_128 : decode cX4_readCommands 128 = .ok (.iconst (-1), 1) := by decide +kernel
theorem dX4_readCommands_129 : decode cX4_readCommands 129 = .ok (.ireturn, 1) := by decide +kernel
theorem dX4_readCommands_130 : decode cX4_readCommands 130 = .ok (.iinc 1 1, 3) := by decide +kernel
theorem dX4_readCommands_133 : decode cX4_readCommands 133 = .ok (.goto (-131), 3) := by decide +kernel
theorem dX4_readCommands_136 : decode cX4_readCommands 136 = .ok (.iload_n 1, 1) := by decide +kernel
theorem dX4_readCommands_137 : decode cX4_readCommands 137 = .ok (.ireturn, 1) := by decide +kernel
theorem dX4_readCall_0 : decode cX4_readCall 0 = .ok (.aload_n 0, 1) := by decide +kernel
theorem dX4_readCall_1 : decode cX4_readCall 1 = .ok (.getfield 12, 3) := by decide +kernel
theorem dX4_readCall_4 : decode cX4_readCall 4 = .ok (.invokevirtual 52, 3) := by decide +kernel
theorem dX4_readCall_7 : decode cX4_readCall 7 = .ok (.aload_n 0, 1) := by decide +kernel
theorem dX4_readCall_8 : decode cX4_readCall 8 = .ok (.iconst (-1), 1) := by decide +kernel
theorem dX4_readCall_9 : decode cX4_readCall 9 = .ok (.invokevirtual 125, 3) := by decide +kernel
theorem dX4_readCall_12 : decode cX4_readCall 12 = .ok (.istore_n 1, 1) := by decide +kernel
theorem dX4_readCall_13 : decode cX4_readCall 13 = .ok (.iload_n 1, 1) := by decide +kernel
theorem dX4_readCall_14 : decode cX4_readCall 14 = .ok (.iconst (-1), 1) := by decide +kernel
theorem dX4_readCall_15 : decode cX4_readCall 15 = .ok (.if_icmp .ne 5, 3) := by decide +kernel
theorem dX4_readCall_18 : decode cX4_readCall 18 = .ok (.iconst 0, 1) := by decide +kernel
theorem dX4_readCall_19 : decode cX4_readCall 19 = .ok (.ireturn, 1) := by decide +kernel
theorem dX4_readCall_20 : decode cX4_readCall 20 = .ok (.aload_n 0, 1) := by decide +kernel
theorem dX4_readCall_21 : decode cX4_readCall 21 = .ok (.iload_n 1, 1) := by decide +kernel
theorem dX4_readCall_22 : decode cX4_readCall 22 = .ok (.invokevirtual 125, 3) := by decide +kernel
theorem dX4_readCall_25 : decode cX4_readCall 25 = .ok (.istore_n 2, 1) := by decide +kernel
theorem dX4_readCall_26 : decode cX4_readCall 26 = .ok (.iload_n 2, 1) := by decide +kernel
theorem dX4_readCall_27 : decode cX4_readCall 27 = .ok (.iconst (-1), 1) := by decide +kernel
theorem dX4_readCall_28 : decode cX4_readCall 28 = .ok (.if_icmp .eq 17, 3) := by decide +kernel
theorem dX4_readCall_31 : decode cX4_readCall 31 = .ok (.aload_n 0, 1) := by decide +kernel
theorem dX4_readCall_32 : decode cX4_readCall 32 = .ok (.iload_n 1, 1) := by decide +kernel
theorem dX4_readCall_33 : decode cX4_readCall 33 = .ok (.iload_n 2, 1) := by decide +kernel
theorem dX4_readCall_34 : decode cX4_readCall 34 = .ok (.iconst (-1), 1) := by decide +kernel
theorem dX4_readCall_35 : decode cX4_readCall 35 = .ok (.invokevirtual 128, 3) := by decide +kernel
theorem dX4_readCall_38 : decode cX4_readCall 38 = .ok (.ifCond .eq 7, 3) := by decide +kernel
theorem dX4_readCall_41 : decode cX4_readCall 41 = .ok (.iconst 1, 1) := by decide +kernel
theorem dX4_readCall_42 : decode cX4_readCall 42 = .ok (.goto 4, 3) := by decide +kernel
theorem dX4_readCall_45 : decode cX4_readCall 45 = .ok (.iconst 0, 1) := by decide +kernel
theorem dX4_readCall_46 : decode cX4_readCall 46 = .ok (.ireturn, 1) := by decide +kernel
theorem dX4_readTrunkCall_0 : decode cX4_readTrunkCall 0 = .ok (.aload_n 0, 1) := by decide +kernel
theorem dX4_readTrunkCall_1 : decode cX4_readTrunkCall 1 = .ok (.getfield 12, 3) := by decide +kernel
theorem dX4_readTrunkCall_4 : decode cX4_readTrunkCall 4 = .ok (.invokevirtual 52, 3) := by decide +kernel
theorem dX4_readTrunkCall_7 : decode cX4_readTrunkCall 7 = .ok (.aload_n 0, 1) := by decide +kernel
theorem dX4_readTrunkCall_8 : decode cX4_readTrunkCall 8 = .ok (.iconst (-1), 1) := by decide +kernel
theorem dX4_readTrunkCall_9 : decode cX4_readTrunkCall 9 = .ok (.invokevirtual 125, 3) := by decide +kernel
theorem dX4_readTrunkCall_12 : decode cX4_readTrunkCall 12 = .ok (.istore_n 1, 1) := by decide +kernel
theorem dX4_readTrunkCall_13 : decode cX4_readTrunkCall 13 = .ok (.iload_n 1, 1) := by decide +kernel
theorem dX4_readTrunkCall_14 : decode cX4_readTrunkCall 14 = .ok (.iconst (-1), 1) := by decide +kernel
theorem dX4_readTrunkCall_15 : decode cX4_readTrunkCall 15 = .ok (.if_icmp .ne 5, 3) := by decide +kernel
theorem dX4_readTrunkCall_18 : decode cX4_readTrunkCall 18 = .ok (.iconst 0, 1) := by decide +kernel
theorem dX4_readTrunkCall_19 : decode cX4_readTrunkCall 19 = .ok (.ireturn, 1) := by decide +kernel
theorem dX4_readTrunkCall_20 : decode cX4_readTrunkCall 20 = .ok (.aload_n 0, 1) := by decide +kernel
theorem dX4_readTrunkCall_21 : decode cX4_readTrunkCall 21 = .ok (.iconst 0, 1) := by decide +kernel
theorem dX4_readTrunkCall_22 : decode cX4_readTrunkCall 22 = .ok (.aload_n 0, 1) := by decide +kernel
theorem dX4_readTrunkCall_23 : decode cX4_readTrunkCall 23 = .ok (.getfield 21, 3) := by decide +kernel
theorem dX4_readTrunkCall_26 : decode cX4_readTrunkCall 26 = .ok (.getfield 132, 3) := by decide +kernel
theorem dX4_readTrunkCall_29 : decode cX4_readTrunkCall 29 = .ok (.iconst 1, 1) := by decide +kernel
theorem dX4_readTrunkCall_30 : decode cX4_readTrunkCall 30 = .ok (.isub, 1) := by decide +kernel
theorem dX4_readTrunkCall_31 : decode cX4_readTrunkCall 31 = .ok (.invokevirtual 55, 3) := by decide +kernel
theorem dX4_readTrunkCall_34 : decode cX4_readTrunkCall 34 = .ok (.istore_n 2, 1) := by decide +kernel
theorem dX4_readTrunkCall_35 : decode cX4_readTrunkCall 35 = .ok (.iload_n 2, 1) := by decide +kernel
theorem dX4_readTrunkCall_36 : decode cX4_readTrunkCall 36 = .ok (.iconst (-1), 1) := by decide +kernel
theorem dX4_readTrunkCall_37 : decode cX4_readTrunkCall 37 = .ok (.if_icmp .eq 17, 3) := by decide +kernel
theorem dX4_readTrunkCall_40 : decode cX4_readTrunkCall 40 = .ok (.aload_n 0, 1) := by decide +kernel
theorem dX4_readTrunkCall_41 : decode cX4_readTrunkCall 41 = .ok (.iload_n 1, 1) := by decide +kernel
theorem dX4_readTrunkCall_42 : decode cX4_readTrunkCall 42 = .ok (.iconst (-1), 1) := by decide +kernel
theorem dX4_readTrunkCall_43 : decode cX4_readTrunkCall 43 = .ok (.iload_n 2, 1) := by decide +kernel
theorem dX4_readTrunkCall_44 : decode cX4_readTrunkCall 44 = .ok (.invokevirtual 128, 3) := by decide +kernel
theorem dX4_readTrunkCall_47 : decode cX4_readTrunkCall 47 = .ok (.ifCond .eq 7, 3) := by decide +kernel
theorem dX4_readTrunkCall_50 : decode cX4_readTrunkCall 50 = .ok (.iconst 1, 1) := by decide +kernel
theorem dX4_readTrunkCall_51 : decode cX4_readTrunkCall 51 = .ok (.goto 4, 3) := by decide +kernel
theorem dX4_readTrunkCall_54 : decode cX4_readTrunkCall 54 = .ok (.iconst 0, 1) := by decide +kernel
theorem dX4_readTrunkCall_55 : decode cX4_readTrunkCall 55 = .ok (.ireturn, 1) := by decide +kernel
theorem dX4_readRequest_0 : decode cX4_readRequest 0 = .ok (.aload_n 0, 1) := by decide +kernel
theorem dX4_readRequest_1 : decode cX4_readRequest 1 = .ok (.getfield 12, 3) := by decide +kernel
theorem dX4_readRequest_4 : decode cX4_readRequest 4 = .ok (.ldc 135, 2) := by decide +kernel
theorem dX4_readRequest_6 : decode cX4_readRequest 6 = .ok (.invokevirtual 44, 3) := by decide +kernel
theorem dX4_readRequest_9 : decode cX4_readRequest 9 = .ok (.istore 4, 2) := by decide +kernel
theorem dX4_readRequest_11 : decode cX4_readRequest 11 = .ok (.iload 4, 2) := by decide +kernel
theorem dX4_readRequest_13 : decode cX4_readRequest 13 = .ok (.ifCond .eq 10, 3) := by decide +kernel
theorem dX4_readRequest_16 : decode cX4_readRequest 16 = .ok (.aload_n 0, 1) := by decide +kernel
theorem dX4_readRequest_17 : decode cX4_readRequest 17 = .ok (.getfield 12, 3) := by decide +kernel
theorem dX4_readRequest_20 : decode cX4_readRequest 20 = .ok (.invokevirtual 52, 3) := by decide +kernel
theorem dX4_readRequest_23 : decode cX4_readRequest 23 = .ok (.aload_n 0, 1) := by decide +kernel
theorem dX4_readRequest_24 : decode cX4_readRequest 24 = .ok (.invokevirtual 59, 3) := by decide +kernel
theorem dX4_readRequest_27 : decode cX4_readRequest 27 = .ok (.ifCond .ne 5, 3) := by decide +kernel
theorem dX4_readRequest_30 : decode cX4_readRequest 30 = .ok (.iconst 0, 1) := by decide +kernel
theorem dX4_readRequest_31 : decode cX4_readRequest 31 = .ok (.ireturn, 1) := by decide +kernel
theorem dX4_readRequest_32 : decode cX4_readRequest 32 = .ok (.aload_n 0, 1) := by decide +kernel
theorem dX4_readRequest_33 : decode cX4_readRequest 33 = .ok (.getfield 21, 3) := by decide +kernel
theorem dX4_readRequest_36 : decode cX4_readRequest 36 = .ok (.getfield 137, 3) := by decide +kernel
theorem dX4_readRequest_39 : decode cX4_readRequest 39 = .ok (.getfield 141, 3) := by decide +kernel
theorem dX4_readRequest_42 : decode cX4_readRequest 42 = .ok (.bipush 40, 2) := by decide +kernel
theorem dX4_readRequest_44 : decode cX4_readRequest 44 = .ok (.if_icmp .lt 10, 3) := by decide +kernel
theorem dX4_readRequest_47 : decode cX4_readRequest 47 = .ok (.aload_n 0, 1) := by decide +kernel
theorem dX4_readRequest_48 : decode cX4_readRequest 48 = .ok (.bipush 6, 2) := by decide +kernel
theorem dX4_readRequest_50 : decode cX4_readRequest 50 = .ok (.invokevirtual 48, 3) := by decide +kernel
theorem dX4_readRequest_53 : decode cX4_readRequest 53 = .ok (.ireturn, 1) := by decide +kernel
theorem dX4_readRequest_54 : decode cX4_readRequest 54 = .ok (.aload_n 0, 1) := by decide +kernel
theorem dX4_readRequest_55 : decode cX4_readRequest 55 = .ok (.getfield 21, 3) := by decide +kernel
theorem dX4_readRequest_58 : decode cX4_readRequest 58 = .ok (.iload_n 1, 1) := by decide +kernel
theorem dX4_readRequest_59 : decode cX4_readRequest 59 = .ok (.iload_n 2, 1) := by decide +kernel
theorem dX4_readRequest_60 : decode cX4_readRequest 60 = .ok (.iload_n 3, 1) := by decide +kernel
theorem dX4_readRequest_61 : decode cX4_readRequest 61 = .ok (.iload 4, 2) := by decide +kernel
theorem dX4_readRequest_63 : decode cX4_readRequest 63 = .ok (.invokevirtual 146, 3) := by decide +kernel
theorem dX4_readRequest_66 : decode cX4_readRequest 66 = .ok (.pop, 1) := by decide +kernel
theorem dX4_readRequest_67 : decode cX4_readRequest 67 = .ok (.aload_n 0, 1) := by decide +kernel
theorem dX4_readRequest_68 : decode cX4_readRequest 68 = .ok (.getfield 12, 3) := by decide +kernel
theorem dX4_readRequest_71 : decode cX4_readRequest 71 = .ok (.invokevirtual 52, 3) := by decide +kernel
theorem dX4_readRequest_74 : decode cX4_readRequest 74 = .ok (.iconst 1, 1) := by decide +kernel
theorem dX4_readRequest_75 : decode cX4_readRequest 75 = .ok (.ireturn, 1) := by decide +kernel
theorem dX4_readEnd_0 : decode cX4_readEnd 0 = .ok (.aload_n 0, 1) := by decide +kernel
theorem dX4_readEnd_1 : decode cX4_readEnd 1 = .ok (.getfield 12, 3) := by decide +kernel
theorem dX4_readEnd_4 : decode cX4_readEnd 4 = .ok (.invokevirtual 52, 3) := by decide +kernel
theorem dX4_readEnd_7 : decode cX4_readEnd 7 = .ok (.aload_n 0, 1) := by decide +kernel
theorem dX4_readEnd_8 : decode cX4_readEnd 8 = .ok (.iconst 0, 1) := by decide +kernel
theorem dX4_readEnd_9 : decode cX4_readEnd 9 = .ok (.aload_n 0, 1) := by decide +kernel
theorem dX4_readEnd_10 : decode cX4_readEnd 10 = .ok (.getfield 21, 3) := by decide +kernel
theorem dX4_readEnd_13 : decode cX4_readEnd 13 = .ok (.getfield 137, 3) := by decide +kernel
theorem dX4_readEnd_16 : decode cX4_readEnd 16 = .ok (.getfield 141, 3) := by decide +kernel
theorem dX4_readEnd_19 : decode cX4_readEnd 19 = .ok (.iconst 1, 1) := by decide +kernel
theorem dX4_readEnd_20 : decode cX4_readEnd 20 = .ok (.isub, 1) := by decide +kernel
theorem dX4_readEnd_21 : decode cX4_readEnd 21 = .ok (.invokevirtual 55, 3) := by decide +kernel
theorem dX4_readEnd_24 : decode cX4_readEnd 24 = .ok (.istore_n 1, 1) := by decide +kernel
theorem dX4_readEnd_25 : decode cX4_readEnd 25 = .ok (.iload_n 1, 1) := by decide +kernel
theorem dX4_readEnd_26 : decode cX4_readEnd 26 = .ok (.iconst (-1), 1) := by decide +kernel
theorem dX4_readEnd_27 : decode cX4_readEnd 27 = .ok (.if_icmp .eq 10, 3) := by decide +kernel
theorem dX4_readEnd_30 : decode cX4_readEnd 30 = .ok (.aload_n 0, 1) := by decide +kernel
theorem dX4_readEnd_31 : decode cX4_readEnd 31 = .ok (.invokevirtual 59, 3) := by decide +kernel
theorem dX4_readEnd_34 : decode cX4_readEnd 34 = .ok (.ifCond .ne 5, 3) := by decide +kernel
theorem dX4_readEnd_37 : decode cX4_readEnd 37 = .ok (.iconst 0, 1) := by decide +kernel
theorem dX4_readEnd_38 : decode cX4_readEnd 38 = .ok (.ireturn, 1) := by decide +kernel
theorem dX4_readEnd_39 : decode cX4_readEnd 39 = .ok (.aload_n 0, 1) := by decide +kernel
theorem dX4_readEnd_40 : decode cX4_readEnd 40 = .ok (.getfield 21, 3) := by decide +kernel
theorem dX4_readEnd_43 : decode cX4_readEnd 43 = .ok (.getfield 137, 3) := by decide +kernel
theorem dX4_readEnd_46 : decode cX4_readEnd 46 = .ok (.iload_n 1, 1) := by decide +kernel
theorem dX4_readEnd_47 : decode cX4_readEnd 47 = .ok (.invokevirtual 150, 3) := by decide +kernel
theorem dX4_readEnd_50 : decode cX4_readEnd 50 = .ok (.ifCond .eq 10, 3) := by decide +kernel
theorem dX4_readEnd_53 : decode cX4_readEnd 53 = .ok (.aload_n 0, 1) := by decide +kernel
theorem dX4_readEnd_54 : decode cX4_readEnd 54 = .ok (.bipush 7, 2) := by decide +kernel
theorem dX4_readEnd_56 : decode cX4_readEnd 56 = .ok (.invokevirtual 48, 3) := by decide +kernel
theorem dX4_readEnd_59 : decode cX4_readEnd 59 = .ok (.ireturn, 1) := by decide +kernel
theorem dX4_readEnd_60 : decode cX4_readEnd 60 = .ok (.aload_n 0, 1) := by decide +kernel
theorem dX4_readEnd_61 : decode cX4_readEnd 61 = .ok (.getfield 21, 3) := by decide +kernel
theorem dX4_readEnd_64 : decode cX4_readEnd 64 = .ok (.iload_n 1, 1) := by decide +kernel
theorem dX4_readEnd_65 : decode cX4_readEnd 65 = .ok (.invokevirtual 153, 3) := by decide +kernel
theorem dX4_readEnd_68 : decode cX4_readEnd 68 = .ok (.pop, 1) := by decide +kernel
theorem dX4_readEnd_69 : decode cX4_readEnd 69 = .ok (.aload_n 0, 1) := by decide +kernel
theorem dX4_readEnd_70 : decode cX4_readEnd 70 = .ok (.getfield 12, 3) := by decide +kernel
theorem dX4_readEnd_73 : decode cX4_readEnd 73 = .ok (.invokevirtual 52, 3) := by decide +kernel
theorem dX4_readEnd_76 : decode cX4_readEnd 76 = .ok (.iconst 1, 1) := by decide +kernel
theorem dX4_readEnd_77 : decode cX4_readEnd 77 = .ok (.ireturn, 1) := by decide +kernel
theorem dX4_readWait_0 : decode cX4_readWait 0 = .ok (.aload_n 0, 1) := by decide +kernel
theorem dX4_readWait_1 : decode cX4_readWait 1 = .ok (.getfield 12, 3) := by decide +kernel
theorem dX4_readWait_4 : decode cX4_readWait 4 = .ok (.invokevirtual 52, 3) := by decide +kernel
theorem dX4_readWait_7 : decode cX4_readWait 7 = .ok (.aload_n 0, 1) := by decide +kernel
theorem dX4_readWait_8 : decode cX4_readWait 8 = .ok (.iconst 1, 1) := by decide +kernel
theorem dX4_readWait_9 : decode cX4_readWait 9 = .ok (.sipush 9999, 3) := by decide +kernel
theorem dX4_readWait_12 : decode cX4_readWait 12 = .ok (.ldc 156, 2) := by decide +kernel
theorem dX4_readWait_14 : decode cX4_readWait 14 = .ok (.aload_n 0, 1) := by decide +kernel
theorem dX4_readWait_15 : decode cX4_readWait 15 = .ok (.getfield 21, 3) := by decide +kernel
theorem dX4_readWait_18 : decode cX4_readWait 18 = .ok (.getfield 157, 3) := by decide +kernel
theorem dX4_readWait_21 : decode cX4_readWait 21 = .ok (.isub, 1) := by decide +kernel
theorem dX4_readWait_22 : decode cX4_readWait 22 = .ok (.invokestatic 160, 3) := by decide +kernel
theorem dX4_readWait_25 : decode cX4_readWait 25 = .ok (.invokevirtual 55, 3) := by decide +kernel
theorem dX4_readWait_28 : decode cX4_readWait 28 = .ok (.istore_n 1, 1) := by decide +kernel
theorem dX4_readWait_29 : decode cX4_readWait 29 = .ok (.iload_n 1, 1) := by decide +kernel
theorem dX4_readWait_30 : decode cX4_readWait 30 = .ok (.iconst (-1), 1) := by decide +kernel
theorem dX4_readWait_31 : decode cX4_readWait 31 = .ok (.if_icmp .eq 10, 3) := by decide +kernel
theorem dX4_readWait_34 : decode cX4_readWait 34 = .ok (.aload_n 0, 1) := by decide +kernel
theorem dX4_readWait_35 : decode cX4_readWait 35 = .ok (.invokevirtual 59, 3) := by decide +kernel
theorem dX4_readWait_38 : decode cX4_readWait 38 = .ok (.ifCond .ne 5, 3) := by decide +kernel
theorem dX4_readWait_41 : decode cX4_readWait 41 = .ok (.iconst 0, 1) := by decide +kernel
theorem dX4_readWait_42 : decode cX4_readWait 42 = .ok (.ireturn, 1) := by decide +kernel
theorem dX4_readWait_43 : decode cX4_readWait 43 = .ok (.aload_n 0, 1) := by decide +kernel
theorem dX4_readWait_44 : decode cX4_readWait 44 = .ok (.getfield 21, 3) := by decide +kernel
theorem dX4_readWait_47 : decode cX4_readWait 47 = .ok (.dup, 1) := by decide +kernel
theorem dX4_readWait_48 : decode cX4_readWait 48 = .ok (.getfield 157, 3) := by decide +kernel
theorem dX4_readWait_51 : decode cX4_readWait 51 = .ok (.iload_n 1, 1) := by decide +kernel
theorem dX4_readWait_52 : decode cX4_readWait 52 = .ok (.iadd, 1) := by decide +kernel
theorem dX4_readWait_53 : decode cX4_readWait 53 = .ok (.putfield 157, 3) := by decide +kernel
theorem dX4_readWait_56 : decode cX4_readWait 56 = .ok (.aload_n 0, 1) := by decide +kernel
theorem dX4_readWait_57 : decode cX4_readWait 57 = .ok (.getfield 12, 3) := by decide +kernel
theorem dX4_readWait_60 : decode cX4_readWait 60 = .ok (.invokevirtual 52, 3) := by decide +kernel
theorem dX4_readWait_63 : decode cX4_readWait 63 = .ok (.iconst 1, 1) := by decide +kernel
theorem dX4_readWait_64 : decode cX4_readWait 64 = .ok (.ireturn, 1) := by decide +kernel
theorem dX4_readMood_0 : decode cX4_readMood 0 = .ok (.aload_n 0, 1) := by decide +kernel
theorem dX4_readMood_1 : decode cX4_readMood 1 = .ok (.getfield 12, 3) := by decide +kernel
theorem dX4_readMood_4 : decode cX4_readMood 4 = .ok (.invokevirtual 52, 3) := by decide +kernel
theorem dX4_readMood_7 : decode cX4_readMood 7 = .ok (.aload_n 0, 1) := by decide +kernel
theorem dX4_readMood_8 : decode cX4_readMood 8 = .ok (.iconst (-1), 1) := by decide +kernel
theorem dX4_readMood_9 : decode cX4_readMood 9 = .ok (.invokevirtual 125, 3) := by decide +kernel
theorem dX4_readMood_12 : decode cX4_readMood 12 = .ok (.istore_n 1, 1) := by decide +kernel
theorem dX4_readMood_13 : decode cX4_readMood 13 = .ok (.iload_n 1, 1) := by decide +kernel
theorem dX4_readMood_14 : decode cX4_readMood 14 = .ok (.iconst (-1), 1) := by decide +kernel
theorem dX4_readMood_15 : decode cX4_readMood 15 = .ok (.if_icmp .ne 5, 3) := by decide +kernel
theorem dX4_readMood_18 : decode cX4_readMood 18 = .ok (.iconst 0, 1) := by decide +kernel
theorem dX4_readMood_19 : decode cX4_readMood 19 = .ok (.ireturn, 1) := by decide +kernel
theorem dX4_readMood_20 : decode cX4_readMood 20 = .ok (.aload_n 0, 1) := by decide +kernel
theorem dX4_readMood_21 : decode cX4_readMood 21 = .ok (.iconst 0, 1) := by decide +kernel
theorem dX4_readMood_22 : decode cX4_readMood 22 = .ok (.bipush 9, 2) := by decide +kernel
theorem dX4_readMood_24 : decode cX4_readMood 24 = .ok (.invokevirtual 55, 3) := by decide +kernel
theorem dX4_readMood_27 : decode cX4_readMood 27 = .ok (.istore_n 2, 1) := by decide +kernel
theorem dX4_readMood_28 : decode cX4_readMood 28 = .ok (.iload_n 2, 1) := by decide +kernel
theorem dX4_readMood_29 : decode cX4_readMood 29 = .ok (.iconst (-1), 1) := by decide +kernel
theorem dX4_readMood_30 : decode cX4_readMood 30 = .ok (.if_icmp .eq 10, 3) := by decide +kernel
theorem dX4_readMood_33 : decode cX4_readMood 33 = .ok (.aload_n 0, 1) := by decide +kernel
theorem dX4_readMood_34 : decode cX4_readMood 34 = .ok (.invokevirtual 59, 3) := by decide +kernel
theorem dX4_readMood_37 : decode cX4_readMood 37 = .ok (.ifCond .ne 5, 3) := by decide +kernel
theorem dX4_readMood_40 : decode cX4_readMood 40 = .ok (.iconst 0, 1) := by decide +kernel
theorem dX4_readMood_41 : decode cX4_readMood 41 = .ok (.ireturn, 1) := by decide +kernel
theorem dX4_readMood_42 : decode cX4_readMood 42 = .ok (.aload_n 0, 1) := by decide +kernel
theorem dX4_readMood_43 : decode cX4_readMood 43 = .ok (.getfield 21, 3) := by decide +kernel
theorem dX4_readMood_46 : decode cX4_readMood 46 = .ok (.getfield 89, 3) := by decide +kernel
theorem dX4_readMood_49 : decode cX4_readMood 49 = .ok (.getfield 165, 3) := by decide +kernel
theorem dX4_readMood_52 : decode cX4_readMood 52 = .ok (.iload_n 1, 1) := by decide +kernel
theorem dX4_readMood_53 : decode cX4_readMood 53 = .ok (.iload_n 2, 1) := by decide +kernel
theorem dX4_readMood_54 : decode cX4_readMood 54 = .ok (.iastore, 1) := by decide +kernel
theorem dX4_readMood_55 : decode cX4_readMood 55 = .ok (.aload_n 0, 1) := by decide +kernel
theorem dX4_readMood_56 : decode cX4_readMood 56 = .ok (.getfield 12, 3) := by decide +kernel
theorem dX4_readMood_59 : decode cX4_readMood 59 = .ok (.invokevirtual 52, 3) := by decide +kernel
theorem dX4_readMood_62 : decode cX4_readMood 62 = .ok (.iconst 1, 1) := by decide +kernel
theorem dX4_readMood_63 : decode cX4_readMood 63 = .ok (.ireturn, 1) := by decide +kernel
theorem dX4_readNumber_0 : decode cX4_readNumber 0 = .ok (.aload_n 0, 1) := by decide +kernel
theorem dX4_readNumber_1 : decode cX4_readNumber 1 = .ok (.getfield 12, 3) := by decide +kernel
theorem dX4_readNumber_4 : decode cX4_readNumber 4 = .ok (.getfield 99, 3) := by decide +kernel
theorem dX4_readNumber_7 : decode cX4_readNumber 7 = .ok (.iconst 2, 1) := by decide +kernel
theorem dX4_readNumber_8 : decode cX4_readNumber 8 = .ok (.if_icmp .eq 11, 3) := by decide +kernel
theorem dX4_readNumber_11 : decode cX4_readNumber 11 = .ok (.aload_n 0, 1) := by decide +kernel
theorem dX4_readNumber_12 : decode cX4_readNumber 12 = .ok (.iconst 1, 1) := by decide +kernel
theorem dX4_readNumber_13 : decode cX4_readNumber 13 = .ok (.invokevirtual 48, 3) := by decide +kernel
theorem dX4_readNumber_16 : decode cX4_readNumber 16 = .ok (.pop, 1) := by decide +kernel
theorem dX4_readNumber_17 : decode cX4_readNumber 17 = .ok (.iconst (-1), 1) := by decide +kernel
theorem dX4_readNumber_18 : decode cX4_readNumber 18 = .ok (.ireturn, 1) := by decide +kernel
theorem dX4_readNumber_19 : decode cX4_readNumber 19 = .ok (.aload_n 0, 1) := by decide +kernel
theorem dX4_readNumber_20 : decode cX4_readNumber 20 = .ok (.getfield 12, 3) := by decide +kernel
theorem dX4_readNumber_23 : decode cX4_readNumber 23 = .ok (.getfield 169, 3) := by decide +kernel
theorem dX4_readNumber_26 : decode cX4_readNumber 26 = .ok (.istore_n 3, 1) := by decide +kernel
theorem dX4_readNumber_27 : decode cX4_readNumber 27 = .ok (.iload_n 3, 1) := by decide +kernel
theorem dX4_readNumber_28 : decode cX4_readNumber 28 = .ok (.iload_n 1, 1) := by decide +kernel
theorem dX4_readNumber_29 : decode cX4_readNumber 29 = .ok (.if_icmp .lt 8, 3) := by decide +kernel
theorem dX4_readNumber_32 : decode cX4_readNumber 32 = .ok (.iload_n 3, 1) := by decide +kernel
theorem dX4_readNumber_33 : decode cX4_readNumber 33 = .ok (.iload_n 2, 1) := by decide +kernel
theorem dX4_readNumber_34 : decode cX4_readNumber 34 = .ok (.if_icmp .le 11, 3) := by decide +kernel
theorem dX4_readNumber_37 : decode cX4_readNumber 37 = .ok (.aload_n 0, 1) := by decide +kernel
theorem dX4_readNumber_38 : decode cX4_readNumber 38 = .ok (.iconst 2, 1) := by decide +kernel
theorem dX4_readNumber_39 : decode cX4_readNumber 39 = .ok (.invokevirtual 48, 3) := by decide +kernel
theorem dX4_readNumber_42 : decode cX4_readNumber 42 = .ok (.pop, 1) := by decide +kernel
theorem dX4_readNumber_43 : decode cX4_readNumber 43 = .ok (.iconst (-1), 1) := by decide +kernel
theorem dX4_readNumber_44 : decode cX4_readNumber 44 = .ok (.ireturn, 1) := by decide +kernel
theorem dX4_readNumber_45 : decode cX4_readNumber 45 = .ok (.aload_n 0, 1) := by decide +kernel
theorem dX4_readNumber_46 : decode cX4_readNumber 46 = .ok (.getfield 12, 3) := by decide +kernel
theorem dX4_readNumber_49 : decode cX4_readNumber 49 = .ok (.invokevirtual 52, 3) := by decide +kernel
theorem dX4_readNumber_52 : decode cX4_readNumber 52 = .ok (.iload_n 3, 1) := by decide +kernel
theorem dX4_readNumber_53 : decode cX4_readNumber 53 = .ok (.ireturn, 1) := by decide +kernel
theorem dX4_readKnownName_0 : decode cX4_readKnownName 0 = .ok (.aload_n 0, 1) := by decide +kernel
theorem dX4_readKnownName_1 : decode cX4_readKnownName 1 = .ok (.getfield 12, 3) := by decide +kernel
theorem dX4_readKnownName_4 : decode cX4_readKnownName 4 = .ok (.invokevirtual 172, 3) := by decide +kernel
theorem dX4_readKnownName_7 : decode cX4_readKnownName 7 = .ok (.ifCond .ne 11, 3) := by decide +kernel
theorem dX4_readKnownName_10 : decode cX4_readKnownName 10 = .ok (.aload_n 0, 1) := by decide +kernel
theorem dX4_readKnownName_11 : decode cX4_readKnownName 11 = .ok (.iconst 1, 1) := by decide +kernel
theorem dX4_readKnownName_12 : decode cX4_readKnownName 12 = .ok (.invokevirtual 48, 3) := by decide +kernel
theorem dX4_readKnownName_15 : decode cX4_readKnownName 15 = .ok (.pop, 1) := by decide +kernel
theorem dX4_readKnownName_16 : decode cX4_readKnownName 16 = .ok (.iconst (-1), 1) := by decide +kernel
theorem dX4_readKnownName_17 : decode cX4_readKnownName 17 = .ok (.ireturn, 1) := by decide +kernel
theorem dX4_readKnownName_18 : decode cX4_readKnownName 18 = .ok (.aload_n 0, 1) := by decide +kernel
theorem dX4_readKnownName_19 : decode cX4_readKnownName 19 = .ok (.getfield 21, 3) := by decide +kernel
theorem dX4_readKnownName_22 : decode cX4_readKnownName 22 = .ok (.getfield 89, 3) := by decide +kernel
theorem dX4_readKnownName_25 : decode cX4_readKnownName 25 = .ok (.aload_n 0, 1) := by decide +kernel
theorem dX4_readKnownName_26 : decode cX4_readKnownName 26 = .ok (.getfield 12, 3) := by decide +kernel
theorem dX4_readKnownName_29 : decode cX4_readKnownName 29 = .ok (.invokevirtual 175, 3) := by decide +kernel
theorem dX4_readKnownName_32 : decode cX4_readKnownName 32 = .ok (.invokevirtual 178, 3) := by decide +kernel
theorem dX4_readKnownName_35 : decode cX4_readKnownName 35 = .ok (.istore_n 2, 1) := by decide +kernel
theorem dX4_readKnownName_36 : decode cX4_readKnownName 36 = .ok (.iload_n 2, 1) := by decide +kernel
theorem dX4_readKnownName_37 : decode cX4_readKnownName 37 = .ok (.iconst (-1), 1) := by decide +kernel
theorem dX4_readKnownName_38 : decode cX4_readKnownName 38 = .ok (.if_icmp .eq 8, 3) := by decide +kernel
theorem dX4_readKnownName_41 : decode cX4_readKnownName 41 = .ok (.iload_n 2, 1) := by decide +kernel
theorem dX4_readKnownName_42 : decode cX4_readKnownName 42 = .ok (.iload_n 1, 1) := by decide +kernel
theorem dX4_readKnownName_43 : decode cX4_readKnownName 43 = .ok (.if_icmp .ne 11, 3) := by decide +kernel
theorem dX4_readKnownName_46 : decode cX4_readKnownName 46 = .ok (.aload_n 0, 1) := by decide +kernel
theorem dX4_readKnownName_47 : decode cX4_readKnownName 47 = .ok (.iconst 3, 1) := by decide +kernel
theorem dX4_readKnownName_48 : decode cX4_readKnownName 48 = .ok (.invokevirtual 48, 3) := by decide +kernel
theorem dX4_readKnownName_51 : decode cX4_readKnownName 51 = .ok (.pop, 1) := by decide +kernel
theorem dX4_readKnownName_52 : decode cX4_readKnownName 52 = .ok (.iconst (-1), 1) := by decide +kernel
theorem dX4_readKnownName_53 : decode cX4_readKnownName 53 = .ok (.ireturn, 1) := by decide +kernel
theorem dX4_readKnownName_54 : decode cX4_readKnownName 54 = .ok (.aload_n 0, 1) := by decide +kernel
theorem dX4_readKnownName_55 : decode cX4_readKnownName 55 = .ok (.getfield 12, 3) := by decide +kernel
theorem dX4_readKnownName_58 : decode cX4_readKnownName 58 = .ok (.invokevirtual 52, 3) := by decide +kernel
theorem dX4_readKnownName_61 : decode cX4_readKnownName 61 = .ok (.iload_n 2, 1) := by decide +kernel
theorem dX4_readKnownName_62 : decode cX4_readKnownName 62 = .ok (.ireturn, 1) := by decide +kernel
theorem dX4_readNewName_0 : decode cX4_readNewName 0 = .ok (.aload_n 0, 1) := by decide +kernel
theorem dX4_readNewName_1 : decode cX4_readNewName 1 = .ok (.getfield 12, 3) := by decide +kernel
theorem dX4_readNewName_4 : decode cX4_readNewName 4 = .ok (.invokevirtual 172, 3) := by decide +kernel
theorem dX4_readNewName_7 : decode cX4_readNewName 7 = .ok (.ifCond .ne 11, 3) := by decide +kernel
theorem dX4_readNewName_10 : decode cX4_readNewName 10 = .ok (.aload_n 0, 1) := by decide +kernel
theorem dX4_readNewName_11 : decode cX4_readNewName 11 = .ok (.iconst 1, 1) := by decide +kernel
theorem dX4_readNewName_12 : decode cX4_readNewName 12 = .ok (.invokevirtual 48, 3) := by decide +kernel
theorem dX4_readNewName_15 : decode cX4_readNewName 15 = .ok (.pop, 1) := by decide +kernel
theorem dX4_readNewName_16 : decode cX4_readNewName 16 = .ok (.lconst 0, 1) := by decide +kernel
theorem dX4_readNewName_17 : decode cX4_readNewName 17 = .ok (.lreturn, 1) := by decide +kernel
theorem dX4_readNewName_18 : decode cX4_readNewName 18 = .ok (.aload_n 0, 1) := by decide +kernel
theorem dX4_readNewName_19 : decode cX4_readNewName 19 = .ok (.getfield 12, 3) := by decide +kernel
theorem dX4_readNewName_22 : decode cX4_readNewName 22 = .ok (.invokevirtual 175, 3) := by decide +kernel
theorem dX4_readNewName_25 : decode cX4_readNewName 25 = .ok (.lstore_n 1, 1) := by decide +kernel
theorem dX4_readNewName_26 : decode cX4_readNewName 26 = .ok (.aload_n 0, 1) := by decide +kernel
theorem dX4_readNewName_27 : decode cX4_readNewName 27 = .ok (.getfield 21, 3) := by decide +kernel
theorem dX4_readNewName_30 : decode cX4_readNewName 30 = .ok (.getfield 89, 3) := by decide +kernel
theorem dX4_readNewName_33 : decode cX4_readNewName 33 = .ok (.lload_n 1, 1) := by decide +kernel
theorem dX4_readNewName_34 : decode cX4_readNewName 34 = .ok (.invokevirtual 178, 3) := by decide +kernel
theorem dX4_readNewName_37 : decode cX4_readNewName 37 = .ok (.iconst (-1), 1) := by decide +kernel
theorem dX4_readNewName_38 : decode cX4_readNewName 38 = .ok (.if_icmp .eq 11, 3) := by decide +kernel
theorem dX4_readNewName_41 : decode cX4_readNewName 41 = .ok (.aload_n 0, 1) := by decide +kernel
theorem dX4_readNewName_42 : decode cX4_readNewName 42 = .ok (.iconst 4, 1) := by decide +kernel
theorem dX4_readNewName_43 : decode cX4_readNewName 43 = .ok (.invokevirtual 48, 3) := by decide +kernel
theorem dX4_readNewName_46 : decode cX4_readNewName 46 = .ok (.pop, 1) := by decide +kernel
theorem dX4_readNewName_47 : decode cX4_readNewName 47 = .ok (.lconst 0, 1) := by decide +kernel
theorem dX4_readNewName_48 : decode cX4_readNewName 48 = .ok (.lreturn, 1) := by decide +kernel
theorem dX4_readNewName_49 : decode cX4_readNewName 49 = .ok (.aload_n 0, 1) := by decide +kernel
theorem dX4_readNewName_50 : decode cX4_readNewName 50 = .ok (.getfield 12, 3) := by decide +kernel
theorem dX4_readNewName_53 : decode cX4_readNewName 53 = .ok (.invokevirtual 52, 3) := by decide +kernel
theorem dX4_readNewName_56 : decode cX4_readNewName 56 = .ok (.lload_n 1, 1) := by decide +kernel
theorem dX4_readNewName_57 : decode cX4_readNewName 57 = .ok (.lreturn, 1) := by decide +kernel
theorem dX4_readCode_0 : decode cX4_readCode 0 = .ok (.aload_n 0, 1) := by decide +kernel
theorem dX4_readCode_1 : decode cX4_readCode 1 = .ok (.getfield 12, 3) := by decide +kernel
theorem dX4_readCode_4 : decode cX4_readCode 4 = .ok (.invokevirtual 182, 3) := by decide +kernel
theorem dX4_readCode_7 : decode cX4_readCode 7 = .ok (.istore_n 2, 1) := by decide +kernel
theorem dX4_readCode_8 : decode cX4_readCode 8 = .ok (.iload_n 2, 1) := by decide +kernel
theorem dX4_readCode_9 : decode cX4_readCode 9 = .ok (.iconst (-1), 1) := by decide +kernel
theorem dX4_readCode_10 : decode cX4_readCode 10 = .ok (.if_icmp .ne 11, 3) := by decide +kernel
theorem dX4_readCode_13 : decode cX4_readCode 13 = .ok (.aload_n 0, 1) := by decide +kernel
theorem dX4_readCode_14 : decode cX4_readCode 14 = .ok (.iconst 1, 1) := by decide +kernel
theorem dX4_readCode_15 : decode cX4_readCode 15 = .ok (.invokevirtual 48, 3) := by decide +kernel
theorem dX4_readCode_18 : decode cX4_readCode 18 = .ok (.pop, 1) := by decide +kernel
theorem dX4_readCode_19 : decode cX4_readCode 19 = .ok (.iconst (-1), 1) := by decide +kernel
theorem dX4_readCode_20 : decode cX4_readCode 20 = .ok (.ireturn, 1) := by decide +kernel
theorem dX4_readCode_21 : decode cX4_readCode 21 = .ok (.aload_n 0, 1) := by decide +kernel
theorem dX4_readCode_22 : decode cX4_readCode 22 = .ok (.getfield 21, 3) := by decide +kernel
theorem dX4_readCode_25 : decode cX4_readCode 25 = .ok (.getfield 89, 3) := by decide +kernel
theorem dX4_readCode_28 : decode cX4_readCode 28 = .ok (.iload_n 1, 1) := by decide +kernel
theorem dX4_readCode_29 : decode cX4_readCode 29 = .ok (.iload_n 2, 1) := by decide +kernel
theorem dX4_readCode_30 : decode cX4_readCode 30 = .ok (.invokevirtual 186, 3) := by decide +kernel
theorem dX4_readCode_33 : decode cX4_readCode 33 = .ok (.ifCond .eq 11, 3) := by decide +kernel
theorem dX4_readCode_36 : decode cX4_readCode 36 = .ok (.aload_n 0, 1) := by decide +kernel
theorem dX4_readCode_37 : decode cX4_readCode 37 = .ok (.iconst 5, 1) := by decide +kernel
theorem dX4_readCode_38 : decode cX4_readCode 38 = .ok (.invokevirtual 48, 3) := by decide +kernel
theorem dX4_readCode_41 : decode cX4_readCode 41 = .ok (.pop, 1) := by decide +kernel
theorem dX4_readCode_42 : decode cX4_readCode 42 = .ok (.iconst (-1), 1) := by decide +kernel
theorem dX4_readCode_43 : decode cX4_readCode 43 = .ok (.ireturn, 1) := by decide +kernel
theorem dX4_readCode_44 : decode cX4_readCode 44 = .ok (.aload_n 0, 1) := by decide +kernel
theorem dX4_readCode_45 : decode cX4_readCode 45 = .ok (.getfield 12, 3) := by decide +kernel
theorem dX4_readCode_48 : decode cX4_readCode 48 = .ok (.invokevirtual 52, 3) := by decide +kernel
theorem dX4_readCode_51 : decode cX4_readCode 51 = .ok (.iload_n 2, 1) := by decide +kernel
theorem dX4_readCode_52 : decode cX4_readCode 52 = .ok (.ireturn, 1) := by decide +kernel
theorem dX4_isAtSemicolon_0 : decode cX4_isAtSemicolon 0 = .ok (.aload_n 0, 1) := by decide +kernel
theorem dX4_isAtSemicolon_1 : decode cX4_isAtSemicolon 1 = .ok (.getfield 12, 3) := by decide +kernel
theorem dX4_isAtSemicolon_4 : decode cX4_isAtSemicolon 4 = .ok (.getfield 99, 3) := by decide +kernel
theorem dX4_isAtSemicolon_7 : decode cX4_isAtSemicolon 7 = .ok (.iconst 3, 1) := by decide +kernel
theorem dX4_isAtSemicolon_8 : decode cX4_isAtSemicolon 8 = .ok (.if_icmp .eq 11, 3) := by decide +kernel
theorem dX4_isAtSemicolon_11 : decode cX4_isAtSemicolon 11 = .ok (.aload_n 0, 1) := by decide +kernel
theorem dX4_isAtSemicolon_12 : decode cX4_isAtSemicolon 12 = .ok (.iconst 1, 1) := by decide +kernel
theorem dX4_isAtSemicolon_13 : decode cX4_isAtSemicolon 13 = .ok (.invokevirtual 48, 3) := by decide +kernel
theorem dX4_isAtSemicolon_16 : decode cX4_isAtSemicolon 16 = .ok (.ifCond .eq 7, 3) := by decide +kernel
theorem dX4_isAtSemicolon_19 : decode cX4_isAtSemicolon 19 = .ok (.iconst 1, 1) := by decide +kernel
theorem dX4_isAtSemicolon_20 : decode cX4_isAtSemicolon 20 = .ok (.goto 4, 3) := by decide +kernel
theorem dX4_isAtSemicolon_23 : decode cX4_isAtSemicolon 23 = .ok (.iconst 0, 1) := by decide +kernel
theorem dX4_isAtSemicolon_24 : decode cX4_isAtSemicolon 24 = .ok (.ireturn, 1) := by decide +kernel
theorem dX4_fail_0 : decode cX4_fail 0 = .ok (.aload_n 0, 1) := by decide +kernel
theorem dX4_fail_1 : decode cX4_fail 1 = .ok (.iload_n 1, 1) := by decide +kernel
theorem dX4_fail_2 : decode cX4_fail 2 = .ok (.putfield 29, 3) := by decide +kernel
theorem dX4_fail_5 : decode cX4_fail 5 = .ok (.aload_n 0, 1) := by decide +kernel
theorem dX4_fail_6 : decode cX4_fail 6 = .ok (.aload_n 0, 1) := by decide +kernel
theorem dX4_fail_7 : decode cX4_fail 7 = .ok (.getfield 12, 3) := by decide +kernel
theorem dX4_fail_10 : decode cX4_fail 10 = .ok (.getfield 190, 3) := by decide +kernel
theorem dX4_fail_13 : decode cX4_fail 13 = .ok (.putfield 25, 3) := by decide +kernel
theorem dX4_fail_16 : decode cX4_fail 16 = .ok (.iconst 0, 1) := by decide +kernel
theorem dX4_fail_17 : decode cX4_fail 17 = .ok (.ireturn, 1) := by decide +kernel
theorem dX5_init_0 : decode cX5_init 0 = .ok (.aload_n 0, 1) := by decide +kernel
theorem dX5_init_1 : decode cX5_init 1 = .ok (.invokespecial 3, 3) := by decide +kernel
theorem dX5_init_4 : decode cX5_init 4 = .ok (.aload_n 0, 1) := by decide +kernel
theorem dX5_init_5 : decode cX5_init 5 = .ok (.bipush 15, 2) := by decide +kernel
theorem dX5_init_7 : decode cX5_init 7 = .ok (.newarray .long, 2) := by decide +kernel
theorem dX5_init_9 : decode cX5_init 9 = .ok (.putfield 9, 3) := by decide +kernel
theorem dX5_init_12 : decode cX5_init 12 = .ok (.aload_n 0, 1) := by decide +kernel
theorem dX5_init_13 : decode cX5_init 13 = .ok (.bipush 15, 2) := by decide +kernel
theorem dX5_init_15 : decode cX5_init 15 = .ok (.newarray .int, 2) := by decide +kernel
theorem dX5_init_17 : decode cX5_init 17 = .ok (.putfield 15, 3) := by decide +kernel
theorem dX5_init_20 : decode cX5_init 20 = .ok (.aload_n 0, 1) := by decide +kernel
theorem dX5_init_21 : decode cX5_init 21 = .ok (.bipush 15, 2) := by decide +kernel
theorem dX5_init_23 : decode cX5_init 23 = .ok (.newarray .int, 2) := by decide +kernel
theorem dX5_init_25 : decode cX5_init 25 = .ok (.putfield 19, 3) := by decide +kernel
theorem dX5_init_28 : decode cX5_init 28 = .ok (.aload_n 0, 1) := by decide +kernel
theorem dX5_init_29 : decode cX5_init 29 = .ok (.bipush 15, 2) := by decide +kernel
theorem dX5_init_31 : decode cX5_init 31 = .ok (.newarray .int, 2) := by decide +kernel
theorem dX5_init_33 : decode cX5_init 33 = .ok (.putfield 22, 3) := by decide +kernel
theorem dX5_init_36 : decode cX5_init 36 = .ok (.aload_n 0, 1) := by decide +kernel
theorem dX5_init_37 : decode cX5_init 37 = .ok (.bipush 15, 2) := by decide +kernel
theorem dX5_init_39 : decode cX5_init 39 = .ok (.newarray .int, 2) := by decide +kernel
theorem dX5_init_41 : decode cX5_init 41 = .ok (.putfield 25, 3) := by decide +kernel
theorem dX5_init_44 : decode cX5_init 44 = .ok (.aload_n 0, 1) := by decide +kernel
theorem dX5_init_45 : decode cX5_init 45 = .ok (.bipush 15, 2) := by decide +kernel
theorem dX5_init_47 : decode cX5_init 47 = .ok (.newarray .int, 2) := by decide +kernel
theorem dX5_init_49 : decode cX5_init 49 = .ok (.putfield 28, 3) := by decide +kernel
theorem dX5_init_52 : decode cX5_init 52 = .ok (.return_, 1) := by decide +kernel
theorem dX5_copyFrom_0 : decode cX5_copyFrom 0 = .ok (.aload_n 1, 1) := by decide +kernel
theorem dX5_copyFrom_1 : decode cX5_copyFrom 1 = .ok (.getfield 9, 3) := by decide +kernel
theorem dX5_copyFrom_4 : decode cX5_copyFrom 4 = .ok (.iconst 0, 1) := by decide +kernel
theorem dX5_copyFrom_5 : decode cX5_copyFrom 5 = .ok (.aload_n 0, 1) := by decide +kernel
theorem dX5_copyFrom_6 : decode cX5_copyFrom 6 = .ok (.getfield 9, 3) := by decide +kernel
theorem dX5_copyFrom_9 : decode cX5_copyFrom 9 = .ok (.iconst 0, 1) := by decide +kernel
theorem dX5_copyFrom_10 : decode cX5_copyFrom 10 = .ok (.bipush 15, 2) := by decide +kernel
theorem dX5_copyFrom_12 : decode cX5_copyFrom 12 = .ok (.invokestatic 31, 3) := by decide +kernel
theorem dX5_copyFrom_15 : decode cX5_copyFrom 15 = .ok (.aload_n 1, 1) := by decide +kernel
theorem dX5_copyFrom_16 : decode cX5_copyFrom 16 = .ok (.getfield 15, 3) := by decide +kernel
theorem dX5_copyFrom_19 : decode cX5_copyFrom 19 = .ok (.iconst 0, 1) := by decide +kernel
theorem dX5_copyFrom_20 : decode cX5_copyFrom 20 = .ok (.aload_n 0, 1) := by decide +kernel
theorem dX5_copyFrom_21 : decode cX5_copyFrom 21 = .ok (.getfield 15, 3) := by decide +kernel
theorem dX5_copyFrom_24 : decode cX5_copyFrom 24 = .ok (.iconst 0, 1) := by decide +kernel
theorem dX5_copyFrom_25 : decode cX5_copyFrom 25 = .ok (.bipush 15, 2) := by decide +kernel
theorem dX5_copyFrom_27 : decode cX5_copyFrom 27 = .ok (.invokestatic 31, 3) := by decide +kernel
theorem dX5_copyFrom_30 : decode cX5_copyFrom 30 = .ok (.aload_n 1, 1) := by decide +kernel
theorem dX5_copyFrom_31 : decode cX5_copyFrom 31 = .ok (.getfield 19, 3) := by decide +kernel
theorem dX5_copyFrom_34 : decode cX5_copyFrom 34 = .ok (.iconst 0, 1) := by decide +kernel
theorem dX5_copyFrom_35 : decode cX5_copyFrom 35 = .ok (.aload_n 0, 1) := by decide +kernel
theorem dX5_copyFrom_36 : decode cX5_copyFrom 36 = .ok (.getfield 19, 3) := by decide +kernel
theorem dX5_copyFrom_39 : decode cX5_copyFrom 39 = .ok (.iconst 0, 1) := by decide +kernel
theorem dX5_copyFrom_40 : decode cX5_copyFrom 40 = .ok (.bipush 15, 2) := by decide +kernel
theorem dX5_copyFrom_42 : decode cX5_copyFrom 42 = .ok (.invokestatic 31, 3) := by decide +kernel
theorem dX5_copyFrom_45 : decode cX5_copyFrom 45 = .ok (.aload_n 1, 1) := by decide +kernel
theorem dX5_copyFrom_46 : decode cX5_copyFrom 46 = .ok (.getfield 22, 3) := by decide +kernel
theorem dX5_copyFrom_49 : decode cX5_copyFrom 49 = .ok (.iconst 0, 1) := by decide +kernel
theorem dX5_copyFrom_50 : decode cX5_copyFrom 50 = .ok (.aload_n 0, 1) := by decide +kernel
theorem dX5_copyFrom_51 : decode cX5_copyFrom 51 = .ok (.getfield 22, 3) := by decide +kernel
theorem dX5_copyFrom_54 : decode cX5_copyFrom 54 = .ok (.iconst 0, 1) := by decide +kernel
theorem dX5_copyFrom_55 : decode cX5_copyFrom 55 = .ok (.bipush 15, 2) := by decide +kernel
theorem dX5_copyFrom_57 : decode cX5_copyFrom 57 = .ok (.invokestatic 31, 3) := by decide +kernel
theorem dX5_copyFrom_60 : decode cX5_copyFrom 60 = .ok (.aload_n 1, 1) := by decide +kernel
theorem dX5_copyFrom_61 : decode cX5_copyFrom 61 = .ok (.getfield 25, 3) := by decide +kernel
theorem dX5_copyFrom_64 : decode cX5_copyFrom 64 = .ok (.iconst 0, 1) := by decide +kernel
theorem dX5_copyFrom_65 : decode cX5_copyFrom 65 = .ok (.aload_n 0, 1) := by decide +kernel
theorem dX5_copyFrom_66 : decode cX5_copyFrom 66 = .ok (.getfield 25, 3) := by decide +kernel
theorem dX5_copyFrom_69 : decode cX5_copyFrom 69 = .ok (.iconst 0, 1) := by decide +kernel
theorem dX5_copyFrom_70 : decode cX5_copyFrom 70 = .ok (.bipush 15, 2) := by decide +kernel
theorem dX5_copyFrom_72 : decode cX5_copyFrom 72 = .ok (.invokestatic 31, 3) := by decide +kernel
theorem dX5_copyFrom_75 : decode cX5_copyFrom 75 = .ok (.aload_n 1, 1) := by decide +kernel
theorem dX5_copyFrom_76 : decode cX5_copyFrom 76 = .ok (.getfield 28, 3) := by decide +kernel
theorem dX5_copyFrom_79 : decode cX5_copyFrom 79 = .ok (.iconst 0, 1) := by decide +kernel
theorem dX5_copyFrom_80 : decode cX5_copyFrom 80 = .ok (.aload_n 0, 1) := by decide +kernel
theorem dX5_copyFrom_81 : decode cX5_copyFrom 81 = .ok (.getfield 28, 3) := by decide +kernel
theorem dX5_copyFrom_84 : decode cX5_copyFrom 84 = .ok (.iconst 0, 1) := by decide +kernel
theorem dX5_copyFrom_85 : decode cX5_copyFrom 85 = .ok (.bipush 15, 2) := by decide +kernel
theorem dX5_copyFrom_87 : decode cX5_copyFrom 87 = .ok (.invokestatic 31, 3) := by decide +kernel
theorem dX5_copyFrom_90 : decode cX5_copyFrom 90 = .ok (.aload_n 0, 1) := by decide +kernel
theorem dX5_copyFrom_91 : decode cX5_copyFrom 91 = .ok (.aload_n 1, 1) := by decide +kernel
theorem dX5_copyFrom_92 : decode cX5_copyFrom 92 = .ok (.getfield 37, 3) := by decide +kernel
theorem dX5_copyFrom_95 : decode cX5_copyFrom 95 = .ok (.putfield 37, 3) := by decide +kernel
theorem dX5_copyFrom_98 : decode cX5_copyFrom 98 = .ok (.return_, 1) := by decide +kernel
theorem dX5_add_0 : decode cX5_add 0 = .ok (.aload_n 0, 1) := by decide +kernel
theorem dX5_add_1 : decode cX5_add 1 = .ok (.getfield 37, 3) := by decide +kernel
theorem dX5_add_4 : decode cX5_add 4 = .ok (.bipush 15, 2) := by decide +kernel
theorem dX5_add_6 : decode cX5_add 6 = .ok (.if_icmp .ge 81, 3) := by decide +kernel
theorem dX5_add_9 : decode cX5_add 9 = .ok (.aload_n 0, 1) := by decide +kernel
theorem dX5_add_10 : decode cX5_add 10 = .ok (.getfield 9, 3) := by decide +kernel
theorem dX5_add_13 : decode cX5_add 13 = .ok (.aload_n 0, 1) := by decide +kernel
theorem dX5_add_14 : decode cX5_add 14 = .ok (.getfield 37, 3) := by decide +kernel
theorem dX5_add_17 : decode cX5_add 17 = .ok (.lload_n 1, 1) := by decide +kernel
theorem dX5_add_18 : decode cX5_add 18 = .ok (.lastore, 1) := by decide +kernel
theorem dX5_add_19 : decode cX5_add 19 = .ok (.aload_n 0, 1) := by decide +kernel
theorem dX5_add_20 : decode cX5_add 20 = .ok (.getfield 15, 3) := by decide +kernel
theorem dX5_add_23 : decode cX5_add 23 = .ok (.aload_n 0, 1) := by decide +kernel
theorem dX5_add_24 : decode cX5_add 24 = .ok (.getfield 37, 3) := by decide +kernel
theorem dX5_add_27 : decode cX5_add 27 = .ok (.iload_n 3, 1) := by decide +kernel
theorem dX5_add_28 : decode cX5_add 28 = .ok (.iastore, 1) := by decide +kernel
theorem dX5_add_29 : decode cX5_add 29 = .ok (.aload_n 0, 1) := by decide +kernel
theorem dX5_add_30 : decode cX5_add 30 = .ok (.getfield 19, 3) := by decide +kernel
theorem dX5_add_33 : decode cX5_add 33 = .ok (.aload_n 0, 1) := by decide +kernel
theorem dX5_add_34 : decode cX5_add 34 = .ok (.getfield 37, 3) := by decide +kernel
theorem dX5_add_37 : decode cX5_add 37 = .ok (.iload 4, 2) := by decide +kernel
theorem dX5_add_39 : decode cX5_add 39 = .ok (.iastore, 1) := by decide +kernel
theorem dX5_add_40 : decode cX5_add 40 = .ok (.aload_n 0, 1) := by decide +kernel
theorem dX5_add_41 : decode cX5_add 41 = .ok (.getfield 22, 3) := by decide +kernel
theorem dX5_add_44 : decode cX5_add 44 = .ok (.aload_n 0, 1) := by decide +kernel
theorem dX5_add_45 : decode cX5_add 45 = .ok (.getfield 37, 3) := by decide +kernel
theorem dX5_add_48 : decode cX5_add 48 = .ok (.iload 5, 2) := by decide +kernel
theorem dX5_add_50 : decode cX5_add 50 = .ok (.iastore, 1) := by decide +kernel
theorem dX5_add_51 : decode cX5_add 51 = .ok (.aload_n 0, 1) := by decide +kernel
theorem dX5_add_52 : decode cX5_add 52 = .ok (.getfield 25, 3) := by decide +kernel
theorem dX5_add_55 : decode cX5_add 55 = .ok (.aload_n 0, 1) := by decide +kernel
theorem dX5_add_56 : decode cX5_add 56 = .ok (.getfield 37, 3) := by decide +kernel
theorem dX5_add_59 : decode cX5_add 59 = .ok (.iconst 0, 1) := by decide +kernel
theorem dX5_add_60 : decode cX5_add 60 = .ok (.iastore, 1) := by decide +kernel
theorem dX5_add_61 : decode cX5_add 61 = .ok (.aload_n 0, 1) := by decide +kernel
theorem dX5_add_62 : decode cX5_add 62 = .ok (.getfield 28, 3) := by decide +kernel
theorem dX5_add_65 : decode cX5_add 65 = .ok (.aload_n 0, 1) := by decide +kernel
theorem dX5_add_66 : decode cX5_add 66 = .ok (.getfield 37, 3) := by decide +kernel
theorem dX5_add_69 : decode cX5_add 69 = .ok (.aload_n 0, 1) := by decide +kernel
theorem dX5_add_70 : decode cX5_add 70 = .ok (.getfield 37, 3) := by decide +kernel
theorem dX5_add_73 : decode cX5_add 73 = .ok (.invokestatic 41, 3) := by decide +kernel
theorem dX5_add_76 : decode cX5_add 76 = .ok (.iastore, 1) := by decide +kernel
theorem dX5_add_77 : decode cX5_add 77 = .ok (.aload_n 0, 1) := by decide +kernel
theorem dX5_add_78 : decode cX5_add 78 = .ok (.dup, 1) := by decide +kernel
theorem dX5_add_79 : decode cX5_add 79 = .ok (.getfield 37, 3) := by decide +kernel
theorem dX5_add_82 : decode cX5_add 82 = .ok (.iconst 1, 1) := by decide +kernel
theorem dX5_add_83 : decode cX5_add 83 = .ok (.iadd, 1) := by decide +kernel
theorem dX5_add_84 : decode cX5_add 84 = .ok (.putfield 37, 3) := by decide +kernel
theorem dX5_add_87 : decode cX5_add 87 = .ok (.return_, 1) := by decide +kernel
theorem dX5_has_0 : decode cX5_has 0 = .ok (.iload_n 1, 1) := by decide +kernel
theorem dX5_has_1 : decode cX5_has 1 = .ok (.ifCond .lt 15, 3) := by decide +kernel
theorem dX5_has_4 : decode cX5_has 4 = .ok (.iload_n 1, 1) := by decide +kernel
theorem dX5_has_5 : decode cX5_has 5 = .ok (.aload_n 0, 1) := by decide +kernel
theorem dX5_has_6 : decode cX5_has 6 = .ok (.getfield 37, 3) := by decide +kernel
theorem dX5_has_9 : decode cX5_has 9 = .ok (.if_icmp .ge 7, 3) := by decide +kernel
theorem dX5_has_12 : decode cX5_has 12 = .ok (.iconst 1, 1) := by decide +kernel
theorem dX5_has_13 : decode cX5_has 13 = .ok (.goto 4, 3) := by decide +kernel
theorem dX5_has_16 : decode cX5_has 16 = .ok (.iconst 0, 1) := by decide +kernel
theorem dX5_has_17 : decode cX5_has 17 = .ok (.ireturn, 1) := by decide +kernel
theorem dX5_lineUsed_0 : decode cX5_lineUsed 0 = .ok (.aload_n 0, 1) := by decide +kernel
theorem dX5_lineUsed_1 : decode cX5_lineUsed 1 = .ok (.iload_n 1, 1) := by decide +kernel
theorem dX5_lineUsed_2 : decode cX5_lineUsed 2 = .ok (.invokevirtual 45, 3) := by decide +kernel
theorem dX5_lineUsed_5 : decode cX5_lineUsed 5 = .ok (.ifCond .eq 14, 3) := by decide +kernel
theorem dX5_lineUsed_8 : decode cX5_lineUsed 8 = .ok (.iconst 1, 1) := by decide +kernel
theorem dX5_lineUsed_9 : decode cX5_lineUsed 9 = .ok (.aload_n 0, 1) := by decide +kernel
theorem dX5_lineUsed_10 : decode cX5_lineUsed 10 = .ok (.getfield 15, 3) := by decide +kernel
theorem dX5_lineUsed_13 : decode cX5_lineUsed 13 = .ok (.iload_n 1, 1) := by decide +kernel
theorem dX5_lineUsed_14 : decode cX5_lineUsed 14 = .ok (.iaload, 1) := by decide +kernel
theorem dX5_lineUsed_15 : decode cX5_lineUsed 15 = .ok (.ishl, 1) := by decide +kernel
theorem dX5_lineUsed_16 : decode cX5_lineUsed 16 = .ok (.goto 4, 3) := by decide +kernel
theorem dX5_lineUsed_19 : decode cX5_lineUsed 19 = .ok (.iconst 0, 1) := by decide +kernel
theorem dX5_lineUsed_20 : decode cX5_lineUsed 20 = .ok (.ireturn, 1) := by decide +kernel
theorem dX5_addToBill_0 : decode cX5_addToBill 0 = .ok (.aload_n 0, 1) := by decide +kernel
theorem dX5_addToBill_1 : decode cX5_addToBill 1 = .ok (.iload_n 1, 1) := by decide +kernel
theorem dX5_addToBill_2 : decode cX5_addToBill 2 = .ok (.invokevirtual 45, 3) := by decide +kernel
theorem dX5_addToBill_5 : decode cX5_addToBill 5 = .ok (.ifCond .eq 13, 3) := by decide +kernel
theorem dX5_addToBill_8 : decode cX5_addToBill 8 = .ok (.aload_n 0, 1) := by decide +kernel
theorem dX5_addToBill_9 : decode cX5_addToBill 9 = .ok (.getfield 25, 3) := by decide +kernel
theorem dX5_addToBill_12 : decode cX5_addToBill 12 = .ok (.iload_n 1, 1) := by decide +kernel
theorem dX5_addToBill_13 : decode cX5_addToBill 13 = .ok (.dup2, 1) := by decide +kernel
theorem dX5_addToBill_14 : decode cX5_addToBill 14 = .ok (.iaload, 1) := by decide +kernel
theorem dX5_addToBill_15 : decode cX5_addToBill 15 = .ok (.iload_n 2, 1) := by decide +kernel
theorem dX5_addToBill_16 : decode cX5_addToBill 16 = .ok (.iadd, 1) := by decide +kernel
theorem dX5_addToBill_17 : decode cX5_addToBill 17 = .ok (.iastore, 1) := by decide +kernel
theorem dX5_addToBill_18 : decode cX5_addToBill 18 = .ok (.return_, 1) := by decide +kernel
theorem dX5_findName_0 : decode cX5_findName 0 = .ok (.iconst 0, 1) := by decide +kernel
theorem dX5_findName_1 : decode cX5_findName 1 = .ok (.istore_n 3, 1) := by decide +kernel
theorem dX5_findName_2 : decode cX5_findName 2 = .ok (.iload_n 3, 1) := by decide +kernel
theorem dX5_findName_3 : decode cX5_findName 3 = .ok (.aload_n 0, 1) := by decide +kernel
theorem dX5_findName_4 : decode cX5_findName 4 = .ok (.getfield 37, 3) := by decide +kernel
theorem dX5_findName_7 : decode cX5_findName 7 = .ok (.if_icmp .ge 22, 3) := by decide +kernel
theorem dX5_findName_10 : decode cX5_findName 10 = .ok (.aload_n 0, 1) := by decide +kernel
theorem dX5_findName_11 : decode cX5_findName 11 = .ok (.getfield 9, 3) := by decide +kernel
theorem dX5_findName_14 : decode cX5_findName 14 = .ok (.iload_n 3, 1) := by decide +kernel
theorem dX5_findName_15 : decode cX5_findName 15 = .ok (.laload, 1) := by decide +kernel
theorem dX5_findName_16 : decode cX5_findName 16 = .ok (.lload_n 1, 1) := by decide +kernel
theorem dX5_findName_17 : decode cX5_findName 17 = .ok (.lcmp, 1) := by decide +kernel
theorem dX5_findName_18 : decode cX5_findName 18 = .ok (.ifCond .ne 5, 3) := by decide +kernel
theorem dX5_findName_21 : decode cX5_findName 21 = .ok (.iload_n 3, 1) := by decide +kernel
theorem dX5_findName_22 : decode cX5_findName 22 = .ok (.ireturn, 1) := by decide +kernel
theorem dX5_findName_23 : decode cX5_findName 23 = .ok (.iinc 3 1, 3) := by decide +kernel
theorem dX5_findName_26 : decode cX5_findName 26 = .ok (.goto (-24), 3) := by decide +kernel
theorem dX5_findName_29 : decode cX5_findName 29 = .ok (.iconst (-1), 1) := by decide +kernel
theorem dX5_findName_30 : decode cX5_findName 30 = .ok (.ireturn, 1) := by decide +kernel
theorem dX5_isAmbiguous_0 : decode cX5_isAmbiguous 0 = .ok (.iconst 0, 1) := by decide +kernel
theorem dX5_isAmbiguous_1 : decode cX5_isAmbiguous 1 = .ok (.istore_n 3, 1) := by decide +kernel
theorem dX5_isAmbiguous_2 : decode cX5_isAmbiguous 2 = .ok (.iload_n 3, 1) := by decide +kernel
theorem dX5_isAmbiguous_3 : decode cX5_isAmbiguous 3 = .ok (.aload_n 0, 1) := by decide +kernel
theorem dX5_isAmbiguous_4 : decode cX5_isAmbiguous 4 = .ok (.getfield 37, 3) := by decide +kernel
theorem dX5_isAmbiguous_7 : decode cX5_isAmbiguous 7 = .ok (.if_icmp .ge 34, 3) := by decide +kernel
theorem dX5_isAmbiguous_10 : decode cX5_isAmbiguous 10 = .ok (.aload_n 0, 1) := by decide +kernel
theorem dX5_isAmbiguous_11 : decode cX5_isAmbiguous 11 = .ok (.getfield 15, 3) := by decide +kernel
theorem dX5_isAmbiguous_14 : decode cX5_isAmbiguous 14 = .ok (.iload_n 3, 1) := by decide +kernel
theorem dX5_isAmbiguous_15 : decode cX5_isAmbiguous 15 = .ok (.iaload, 1) := by decide +kernel
theorem dX5_isAmbiguous_16 : decode cX5_isAmbiguous 16 = .ok (.iload_n 1, 1) := by decide +kernel
theorem dX5_isAmbiguous_17 : decode cX5_isAmbiguous 17 = .ok (.if_icmp .ne 18, 3) := by decide +kernel
theorem dX5_isAmbiguous_20 : decode cX5_isAmbiguous 20 = .ok (.aload_n 0, 1) := by decide +kernel
theorem dX5_isAmbiguous_21 : decode cX5_isAmbiguous 21 = .ok (.getfield 19, 3) := by decide +kernel
theorem dX5_isAmbiguous_24 : decode cX5_isAmbiguous 24 = .ok (.iload_n 3, 1) := by decide +kernel
theorem dX5_isAmbiguous_25 : decode cX5_isAmbiguous 25 = .ok (.iaload, 1) := by decide +kernel
theorem dX5_isAmbiguous_26 : decode cX5_isAmbiguous 26 = .ok (.iload_n 2, 1) := by decide +kernel
theorem dX5_isAmbiguous_27 : decode cX5_isAmbiguous 27 = .ok (.invokestatic 49, 3) := by decide +kernel
theorem dX5_isAmbiguous_30 : decode cX5_isAmbiguous 30 = .ok (.ifCond .eq 5, 3) := by decide +kernel
theorem dX5_isAmbiguous_33 : decode cX5_isAmbiguous 33 = .ok (.iconst 1, 1) := by decide +kernel
theorem dX5_isAmbiguous_34 : decode cX5_isAmbiguous 34 = .ok (.ireturn, 1) := by decide +kernel
theorem dX5_isAmbiguous_35 : decode cX5_isAmbiguous 35 = .ok (.iinc 3 1, 3) := by decide +kernel
theorem dX5_isAmbiguous_38 : decode cX5_isAmbiguous 38 = .ok (.goto (-36), 3) := by decide +kernel
theorem dX5_isAmbiguous_41 : decode cX5_isAmbiguous 41 = .ok (.iconst 0, 1) := by decide +kernel
theorem dX5_isAmbiguous_42 : decode cX5_isAmbiguous 42 = .ok (.ireturn, 1) := by decide +kernel
theorem dX5_beginAlike_0 : decode cX5_beginAlike 0 = .ok (.iload_n 0, 1) := by decide +kernel
theorem dX5_beginAlike_1 : decode cX5_beginAlike 1 = .ok (.invokestatic 53, 3) := by decide +kernel
theorem dX5_beginAlike_4 : decode cX5_beginAlike 4 = .ok (.iload_n 1, 1) := by decide +kernel
theorem dX5_beginAlike_5 : decode cX5_beginAlike 5 = .ok (.invokestatic 53, 3) := by decide +kernel
theorem dX5_beginAlike_8 : decode cX5_beginAlike 8 = .ok (.invokestatic 56, 3) := by decide +kernel
theorem dX5_beginAlike_11 : decode cX5_beginAlike 11 = .ok (.istore_n 2, 1) := by decide +kernel
theorem dX5_beginAlike_12 : decode cX5_beginAlike 12 = .ok (.iload_n 0, 1) := by decide +kernel
theorem dX5_beginAlike_13 : decode cX5_beginAlike 13 = .ok (.iload_n 0, 1) := by decide +kernel
theorem dX5_beginAlike_14 : decode cX5_beginAlike 14 = .ok (.invokestatic 53, 3) := by decide +kernel
theorem dX5_beginAlike_17 : decode cX5_beginAlike 17 = .ok (.iload_n 2, 1) := by decide +kernel
theorem dX5_beginAlike_18 : decode cX5_beginAlike 18 = .ok (.isub, 1) := by decide +kernel
theorem dX5_beginAlike_19 : decode cX5_beginAlike 19 = .ok (.ishr, 1) := by decide +kernel
theorem dX5_beginAlike_20 : decode cX5_beginAlike 20 = .ok (.iload_n 1, 1) := by decide +kernel
theorem dX5_beginAlike_21 : decode cX5_beginAlike 21 = .ok (.iload_n 1, 1) := by decide +kernel
theorem dX5_beginAlike_22 : decode cX5_beginAlike 22 = .ok (.invokestatic 53, 3) := by decide +kernel
theorem dX5_beginAlike_25 : decode cX5_beginAlike 25 = .ok (.iload_n 2, 1) := by decide +kernel
theorem dX5_beginAlike_26 : decode cX5_beginAlike 26 = .ok (.isub, 1) := by decide +kernel
theorem dX5_beginAlike_27 : decode cX5_beginAlike 27 = .ok (.ishr, 1) := by decide +kernel
theorem dX5_beginAlike_28 : decode cX5_beginAlike 28 = .ok (.if_icmp .ne 7, 3) := by decide +kernel
theorem dX5_beginAlike_31 : decode cX5_beginAlike 31 = .ok (.iconst 1, 1) := by decide +kernel
theorem dX5_beginAlike_32 : decode cX5_beginAlike 32 = .ok (.goto 4, 3) := by decide +kernel
theorem dX5_beginAlike_35 : decode cX5_beginAlike 35 = .ok (.iconst 0, 1) := by decide +kernel
theorem dX5_beginAlike_36 : decode cX5_beginAlike 36 = .ok (.ireturn, 1) := by decide +kernel
theorem dX5_curiousOn_0 : decode cX5_curiousOn 0 = .ok (.iconst 0, 1) := by decide +kernel
theorem dX5_curiousOn_1 : decode cX5_curiousOn 1 = .ok (.istore_n 3, 1) := by decide +kernel
theorem dX5_curiousOn_2 : decode cX5_curiousOn 2 = .ok (.iconst 0, 1) := by decide +kernel
theorem dX5_curiousOn_3 : decode cX5_curiousOn 3 = .ok (.istore 4, 2) := by decide +kernel
theorem dX5_curiousOn_5 : decode cX5_curiousOn 5 = .ok (.iload 4, 2) := by decide +kernel
theorem dX5_curiousOn_7 : decode cX5_curiousOn 7 = .ok (.aload_n 0, 1) := by decide +kernel
theorem dX5_curiousOn_8 : decode cX5_curiousOn 8 = .ok (.getfield 37, 3) := by decide +kernel
theorem dX5_curiousOn_11 : decode cX5_curiousOn 11 = .ok (.if_icmp .ge 55, 3) := by decide +kernel
theorem dX5_curiousOn_14 : decode cX5_curiousOn 14 = .ok (.iload_n 1, 1) := by decide +kernel
theorem dX5_curiousOn_15 : decode cX5_curiousOn 15 = .ok (.aload_n 0, 1) := by decide +kernel
theorem dX5_curiousOn_16 : decode cX5_curiousOn 16 = .ok (.getfield 15, 3) := by decide +kernel
theorem dX5_curiousOn_19 : decode cX5_curiousOn 19 = .ok (.iload 4, 2) := by decide +kernel
theorem dX5_curiousOn_21 : decode cX5_curiousOn 21 = .ok (.iaload, 1) := by decide +kernel
theorem dX5_curiousOn_22 : decode cX5_curiousOn 22 = .ok (.invokestatic 41, 3) := by decide +kernel
theorem dX5_curiousOn_25 : decode cX5_curiousOn 25 = .ok (.iand, 1) := by decide +kernel
theorem dX5_curiousOn_26 : decode cX5_curiousOn 26 = .ok (.ifCond .eq 7, 3) := by decide +kernel
theorem dX5_curiousOn_29 : decode cX5_curiousOn 29 = .ok (.iconst 1, 1) := by decide +kernel
theorem dX5_curiousOn_30 : decode cX5_curiousOn 30 = .ok (.goto 4, 3) := by decide +kernel
theorem dX5_curiousOn_33 : decode cX5_curiousOn 33 = .ok (.iconst 0, 1) := by decide +kernel
theorem dX5_curiousOn_34 : decode cX5_curiousOn 34 = .ok (.istore 5, 2) := by decide +kernel
theorem dX5_curiousOn_36 : decode cX5_curiousOn 36 = .ok (.iload 5, 2) := by decide +kernel
theorem dX5_curiousOn_38 : decode cX5_curiousOn 38 = .ok (.ifCond .eq 22, 3) := by decide +kernel
theorem dX5_curiousOn_41 : decode cX5_curiousOn 41 = .ok (.aload_n 0, 1) := by decide +kernel
theorem dX5_curiousOn_42 : decode cX5_curiousOn 42 = .ok (.getfield 22, 3) := by decide +kernel
theorem dX5_curiousOn_45 : decode cX5_curiousOn 45 = .ok (.iload 4, 2) := by decide +kernel
theorem dX5_curiousOn_47 : decode cX5_curiousOn 47 = .ok (.iaload, 1) := by decide +kernel
theorem dX5_curiousOn_48 : decode cX5_curiousOn 48 = .ok (.iconst 5, 1) := by decide +kernel
theorem dX5_curiousOn_49 : decode cX5_curiousOn 49 = .ok (.if_icmp .lt 11, 3) := by decide +kernel
theorem dX5_curiousOn_52 : decode cX5_curiousOn 52 = .ok (.iload_n 3, 1) := by decide +kernel
theorem dX5_curiousOn_53 : decode cX5_curiousOn 53 = .ok (.iload 4, 2) := by decide +kernel
theorem dX5_curiousOn_55 : decode cX5_curiousOn 55 = .ok (.invokestatic 41, 3) := by decide +kernel
theorem dX5_curiousOn_58 : decode cX5_curiousOn 58 = .ok (.ior, 1) := by decide +kernel
theorem dX5_curiousOn_59 : decode cX5_curiousOn 59 = .ok (.istore_n 3, 1) := by decide +kernel
theorem dX5_curiousOn_60 : decode cX5_curiousOn 60 = .ok (.iinc 4 1, 3) := by decide +kernel
theorem dX5_curiousOn_63 : decode cX5_curiousOn 63 = .ok (.goto (-58), 3) := by decide +kernel
theorem dX5_curiousOn_66 : decode cX5_curiousOn 66 = .ok (.iload_n 3, 1) := by decide +kernel
theorem dX5_curiousOn_67 : decode cX5_curiousOn 67 = .ok (.iload_n 2, 1) := by decide +kernel
theorem dX5_curiousOn_68 : decode cX5_curiousOn 68 = .ok (.iconst (-1), 1) := by decide +kernel
theorem dX5_curiousOn_69 : decode cX5_curiousOn 69 = .ok (.ixor, 1) := by decide +kernel
theorem dX5_curiousOn_70 : decode cX5_curiousOn 70 = .ok (.iand, 1) := by decide +kernel
theorem dX5_curiousOn_71 : decode cX5_curiousOn 71 = .ok (.ireturn, 1) := by decide +kernel
theorem dX5_curiousBetween_0 : decode cX5_curiousBetween 0 = .ok (.aload_n 0, 1) := by decide +kernel
theorem dX5_curiousBetween_1 : decode cX5_curiousBetween 1 = .ok (.aload_n 0, 1) := by decide +kernel
theorem dX5_curiousBetween_2 : decode cX5_curiousBetween 2 = .ok (.iload_n 1, 1) := by decide +kernel
theorem dX5_curiousBetween_3 : decode cX5_curiousBetween 3 = .ok (.invokevirtual 62, 3) := by decide +kernel
theorem dX5_curiousBetween_6 : decode cX5_curiousBetween 6 = .ok (.aload_n 0, 1) := by decide +kernel
theorem dX5_curiousBetween_7 : decode cX5_curiousBetween 7 = .ok (.iload_n 2, 1) := by decide +kernel
theorem dX5_curiousBetween_8 : decode cX5_curiousBetween 8 = .ok (.invokevirtual 62, 3) := by decide +kernel
theorem dX5_curiousBetween_11 : decode cX5_curiousBetween 11 = .ok (.ior, 1) := by decide +kernel
theorem dX5_curiousBetween_12 : decode cX5_curiousBetween 12 = .ok (.iload_n 1, 1) := by decide +kernel
theorem dX5_curiousBetween_13 : decode cX5_curiousBetween 13 = .ok (.invokestatic 41, 3) := by decide +kernel
theorem dX5_curiousBetween_16 : decode cX5_curiousBetween 16 = .ok (.iload_n 2, 1) := by decide +kernel
theorem dX5_curiousBetween_17 : decode cX5_curiousBetween 17 = .ok (.invokestatic 41, 3) := by decide +kernel
theorem dX5_curiousBetween_20 : decode cX5_curiousBetween 20 = .ok (.ior, 1) := by decide +kernel
theorem dX5_curiousBetween_21 : decode cX5_curiousBetween 21 = .ok (.invokevirtual 65, 3) := by decide +kernel
theorem dX5_curiousBetween_24 : decode cX5_curiousBetween 24 = .ok (.ireturn, 1) := by decide +kernel
theorem dX5_tellSecrets_0 : decode cX5_tellSecrets 0 = .ok (.iconst 0, 1) := by decide +kernel
theorem dX5_tellSecrets_1 : decode cX5_tellSecrets 1 = .ok (.istore_n 3, 1) := by decide +kernel
theorem dX5_tellSecrets_2 : decode cX5_tellSecrets 2 = .ok (.iconst 0, 1) := by decide +kernel
theorem dX5_tellSecrets_3 : decode cX5_tellSecrets 3 = .ok (.istore 4, 2) := by decide +kernel
theorem dX5_tellSecrets_5 : decode cX5_tellSecrets 5 = .ok (.iload 4, 2) := by decide +kernel
theorem dX5_tellSecrets_7 : decode cX5_tellSecrets 7 = .ok (.aload_n 0, 1) := by decide +kernel
theorem dX5_tellSecrets_8 : decode cX5_tellSecrets 8 = .ok (.getfield 37, 3) := by decide +kernel
theorem dX5_tellSecrets_11 : decode cX5_tellSecrets 11 = .ok (.if_icmp .ge 29, 3) := by decide +kernel
theorem dX5_tellSecrets_14 : decode cX5_tellSecrets 14 = .ok (.iload_n 1, 1) := by decide +kernel
theorem dX5_tellSecrets_15 : decode cX5_tellSecrets 15 = .ok (.iload 4, 2) := by decide +kernel
theorem dX5_tellSecrets_17 : decode cX5_tellSecrets 17 = .ok (.invokestatic 41, 3) := by decide +kernel
theorem dX5_tellSecrets_20 : decode cX5_tellSecrets 20 = .ok (.iand, 1) := by decide +kernel
theorem dX5_tellSecrets_21 : decode cX5_tellSecrets 21 = .ok (.ifCond .eq 13, 3) := by decide +kernel
theorem dX5_tellSecrets_24 : decode cX5_tellSecrets 24 = .ok (.iload_n 3, 1) := by decide +kernel
theorem dX5_tellSecrets_25 : decode cX5_tellSecrets 25 = .ok (.aload_n 0, 1) := by decide +kernel
theorem dX5_tellSecrets_26 : decode cX5_tellSecrets 26 = .ok (.getfield 28, 3) := by decide +kernel
theorem dX5_tellSecrets_29 : decode cX5_tellSecrets 29 = .ok (.iload 4, 2) := by decide +kernel
theorem dX5_tellSecrets_31 : decode cX5_tellSecrets 31 = .ok (.iaload, 1) := by decide +kernel
theorem dX5_tellSecrets_32 : decode cX5_tellSecrets 32 = .ok (.ior, 1) := by decide +kernel
theorem dX5_tellSecrets_33 : decode cX5_tellSecrets 33 = .ok (.istore_n 3, 1) := by decide +kernel
theorem dX5_tellSecrets_34 : decode cX5_tellSecrets 34 = .ok (.iinc 4 1, 3) := by decide +kernel
theorem dX5_tellSecrets_37 : decode cX5_tellSecrets 37 = .ok (.goto (-32), 3) := by decide +kernel
theorem dX5_tellSecrets_40 : decode cX5_tellSecrets 40 = .ok (.iconst 0, 1) := by decide +kernel
theorem dX5_tellSecrets_41 : decode cX5_tellSecrets 41 = .ok (.istore 4, 2) := by decide +kernel
theorem dX5_tellSecrets_43 : decode cX5_tellSecrets 43 = .ok (.iload 4, 2) := by decide +kernel
theorem dX5_tellSecrets_45 : decode cX5_tellSecrets 45 = .ok (.aload_n 0, 1) := by decide +kernel
theorem dX5_tellSecrets_46 : decode cX5_tellSecrets 46 = .ok (.getfield 37, 3) := by decide +kernel
theorem dX5_tellSecrets_49 : decode cX5_tellSecrets 49 = .ok (.if_icmp .ge 32, 3) := by decide +kernel
theorem dX5_tellSecrets_52 : decode cX5_tellSecrets 52 = .ok (.iload_n 1, 1) := by decide +kernel
theorem dX5_tellSecrets_53 : decode cX5_tellSecrets 53 = .ok (.iload_n 2, 1) := by decide +kernel
theorem dX5_tellSecrets_54 : decode cX5_tellSecrets 54 = .ok (.ior, 1) := by decide +kernel
theorem dX5_tellSecrets_55 : decode cX5_tellSecrets 55 = .ok (.iload 4, 2) := by decide +kernel
theorem dX5_tellSecrets_57 : decode cX5_tellSecrets 57 = .ok (.invokestatic 41, 3) := by decide +kernel
theorem dX5_tellSecrets_60 : decode cX5_tellSecrets 60 = .ok (.iand, 1) := by decide +kernel
theorem dX5_tellSecrets_61 : decode cX5_tellSecrets 61 = .ok (.ifCond .eq 14, 3) := by decide +kernel
theorem dX5_tellSecrets_64 : decode cX5_tellSecrets 64 = .ok (.aload_n 0, 1) := by decide +kernel
theorem dX5_tellSecrets_65 : decode cX5_tellSecrets 65 = .ok (.getfield 28, 3) := by decide +kernel
theorem dX5_tellSecrets_68 : decode cX5_tellSecrets 68 = .ok (.iload 4, 2) := by decide +kernel
theorem dX5_tellSecrets_70 : decode cX5_tellSecrets 70 = .ok (.dup2, 1) := by decide +kernel
theorem dX5_tellSecrets_71 : decode cX5_tellSecrets 71 = .ok (.iaload, 1) := by decide +kernel
theorem dX5_tellSecrets_72 : decode cX5_tellSecrets 72 = .ok (.iload_n 3, 1) := by decide +kernel
theorem dX5_tellSecrets_73 : decode cX5_tellSecrets 73 = .ok (.ior, 1) := by decide +kernel
theorem dX5_tellSecrets_74 : decode cX5_tellSecrets 74 = .ok (.iastore, 1) := by decide +kernel
theorem dX5_tellSecrets_75 : decode cX5_tellSecrets 75 = .ok (.iinc 4 1, 3) := by decide +kernel
theorem dX5_tellSecrets_78 : decode cX5_tellSecrets 78 = .ok (.goto (-35), 3) := by decide +kernel
theorem dX5_tellSecrets_81 : decode cX5_tellSecrets 81 = .ok (.return_, 1) := by decide +kernel
theorem dX5_countKnowing_0 : decode cX5_countKnowing 0 = .ok (.iconst 0, 1) := by decide +kernel
theorem dX5_countKnowing_1 : decode cX5_countKnowing 1 = .ok (.istore_n 2, 1) := by decide +kernel
theorem dX5_countKnowing_2 : decode cX5_countKnowing 2 = .ok (.iconst 0, 1) := by decide +kernel
theorem dX5_countKnowing_3 : decode cX5_countKnowing 3 = .ok (.istore_n 3, 1) := by decide +kernel
theorem dX5_countKnowing_4 : decode cX5_countKnowing 4 = .ok (.iload_n 3, 1) := by decide +kernel
theorem dX5_countKnowing_5 : decode cX5_countKnowing 5 = .ok (.aload_n 0, 1) := by decide +kernel
theorem dX5_countKnowing_6 : decode cX5_countKnowing 6 = .ok (.getfield 37, 3) := by decide +kernel
theorem dX5_countKnowing_9 : decode cX5_countKnowing 9 = .ok (.if_icmp .ge 26, 3) := by decide +kernel
theorem dX5_countKnowing_12 : decode cX5_countKnowing 12 = .ok (.aload_n 0, 1) := by decide +kernel
theorem dX5_countKnowing_13 : decode cX5_countKnowing 13 = .ok (.getfield 28, 3) := by decide +kernel
theorem dX5_countKnowing_16 : decode cX5_countKnowing 16 = .ok (.iload_n 3, 1) := by decide +kernel
theorem dX5_countKnowing_17 : decode cX5_countKnowing 17 = .ok (.iaload, 1) := by decide +kernel
theorem dX5_countKnowing_18 : decode cX5_countKnowing 18 = .ok (.iload_n 1, 1) := by decide +kernel
theorem dX5_countKnowing_19 : decode cX5_countKnowing 19 = .ok (.invokestatic 41, 3) := by decide +kernel
theorem dX5_countKnowing_22 : decode cX5_countKnowing 22 = .ok (.iand, 1) := by decide +kernel
theorem dX5_countKnowing_23 : decode cX5_countKnowing 23 = .ok (.ifCond .eq 6, 3) := by decide +kernel
theorem dX5_countKnowing_26 : decode cX5_countKnowing 26 = .ok (.iinc 2 1, 3) := by decide +kernel
theorem dX5_countKnowing_29 : decode cX5_countKnowing 29 = .ok (.iinc 3 1, 3) := by decide +kernel
theorem dX5_countKnowing_32 : decode cX5_countKnowing 32 = .ok (.goto (-28), 3) := by decide +kernel
theorem dX5_countKnowing_35 : decode cX5_countKnowing 35 = .ok (.iload_n 2, 1) := by decide +kernel
theorem dX5_countKnowing_36 : decode cX5_countKnowing 36 = .ok (.ireturn, 1) := by decide +kernel
theorem dX5_countSecretsKnown_0 : decode cX5_countSecretsKnown 0 = .ok (.iconst 0, 1) := by decide +kernel
theorem dX5_countSecretsKnown_1 : decode cX5_countSecretsKnown 1 = .ok (.istore_n 1, 1) := by decide +kernel
theorem dX5_countSecretsKnown_2 : decode cX5_countSecretsKnown 2 = .ok (.iconst 0, 1) := by decide +kernel
theorem dX5_countSecretsKnown_3 : decode cX5_countSecretsKnown 3 = .ok (.istore_n 2, 1) := by decide +kernel
theorem dX5_countSecretsKnown_4 : decode cX5_countSecretsKnown 4 = .ok (.iload_n 2, 1) := by decide +kernel
theorem dX5_countSecretsKnown_5 : decode cX5_countSecretsKnown 5 = .ok (.aload_n 0, 1) := by decide +kernel
theorem dX5_countSecretsKnown_6 : decode cX5_countSecretsKnown 6 = .ok (.getfield 37, 3) := by decide +kernel
theorem dX5_countSecretsKnown_9 : decode cX5_countSecretsKnown 9 = .ok (.if_icmp .ge 21, 3) := by decide +kernel
theorem dX5_countSecretsKnown_12 : decode cX5_countSecretsKnown 12 = .ok (.iload_n 1, 1) := by decide +kernel
theorem dX5_countSecretsKnown_13 : decode cX5_countSecretsKnown 13 = .ok (.aload_n 0, 1) := by decide +kernel
theorem dX5_countSecretsKnown_14 : decode cX5_countSecretsKnown 14 = .ok (.getfield 28, 3) := by decide +kernel
theorem dX5_countSecretsKnown_17 : decode cX5_countSecretsKnown 17 = .ok (.iload_n 2, 1) := by decide +kernel
theorem dX5_countSecretsKnown_18 : decode cX5_countSecretsKnown 18 = .ok (.iaload, 1) := by decide +kernel
theorem dX5_countSecretsKnown_19 : decode cX5_countSecretsKnown 19 = .ok (.invokestatic 71, 3) := by decide +kernel
theorem dX5_countSecretsKnown_22 : decode cX5_countSecretsKnown 22 = .ok (.iadd, 1) := by decide +kernel
theorem dX5_countSecretsKnown_23 : decode cX5_countSecretsKnown 23 = .ok (.istore_n 1, 1) := by decide +kernel
theorem dX5_countSecretsKnown_24 : decode cX5_countSecretsKnown 24 = .ok (.iinc 2 1, 3) := by decide +kernel
theorem dX5_countSecretsKnown_27 : decode cX5_countSecretsKnown 27 = .ok (.goto (-23), 3) := by decide +kernel
theorem dX5_countSecretsKnown_30 : decode cX5_countSecretsKnown 30 = .ok (.iload_n 1, 1) := by decide +kernel
theorem dX5_countSecretsKnown_31 : decode cX5_countSecretsKnown 31 = .ok (.ireturn, 1) := by decide +kernel
theorem dX5_findBestInformed_0 : decode cX5_findBestInformed 0 = .ok (.iconst 0, 1) := by decide +kernel
theorem dX5_findBestInformed_1 : decode cX5_findBestInformed 1 = .ok (.istore_n 1, 1) := by decide +kernel
theorem dX5_findBestInformed_2 : decode cX5_findBestInformed 2 = .ok (.iconst 0, 1) := by decide +kernel
theorem dX5_findBestInformed_3 : decode cX5_findBestInformed 3 = .ok (.istore_n 2, 1) := by decide +kernel
theorem dX5_findBestInformed_4 : decode cX5_findBestInformed 4 = .ok (.iconst 0, 1) := by decide +kernel
theorem dX5_findBestInformed_5 : decode cX5_findBestInformed 5 = .ok (.istore_n 3, 1) := by decide +kernel
theorem dX5_findBestInformed_6 : decode cX5_findBestInformed 6 = .ok (.iload_n 3, 1) := by decide +kernel
theorem dX5_findBestInformed_7 : decode cX5_findBestInformed 7 = .ok (.aload_n 0, 1) := by decide +kernel
theorem dX5_findBestInformed_8 : decode cX5_findBestInformed 8 = .ok (.getfield 37, 3) := by decide +kernel
theorem dX5_findBestInformed_11 : decode cX5_findBestInformed 11 = .ok (.if_icmp .ge 31, 3) := by decide +kernel
theorem dX5_findBestInformed_14 : decode cX5_findBestInformed 14 = .ok (.aload_n 0, 1) := by decide +kernel
theorem dX5_findBestInformed_15 : decode cX5_findBestInformed 15 = .ok (.getfield 28, 3) := by decide +kernel
theorem dX5_findBestInformed_18 : decode cX5_findBestInformed 18 = .ok (.iload_n 3, 1) := by decide +kernel
theorem dX5_findBestInformed_19 : decode cX5_findBestInformed 19 = .ok (.iaload, 1) := by decide +kernel
theorem dX5_findBestInformed_20 : decode cX5_findBestInformed 20 = .ok (.invokestatic 71, 3) := by decide +kernel
theorem dX5_findBestInformed_23 : decode cX5_findBestInformed 23 = .ok (.istore 4, 2) := by decide +kernel
theorem dX5_findBestInformed_25 : decode cX5_findBestInformed 25 = .ok (.iload 4, 2) := by decide +kernel
theorem dX5_findBestInformed_27 : decode cX5_findBestInformed 27 = .ok (.iload_n 2, 1) := by decide +kernel
theorem dX5_findBestInformed_28 : decode cX5_findBestInformed 28 = .ok (.if_icmp .le 8, 3) := by decide +kernel
theorem dX5_findBestInformed_31 : decode cX5_findBestInformed 31 = .ok (.iload_n 3, 1) := by decide +kernel
theorem dX5_findBestInformed_32 : decode cX5_findBestInformed 32 = .ok (.istore_n 1, 1) := by decide +kernel
theorem dX5_findBestInformed_33 : decode cX5_findBestInformed 33 = .ok (.iload 4, 2) := by decide +kernel
theorem dX5_findBestInformed_35 : decode cX5_findBestInformed 35 = .ok (.istore_n 2, 1) := by decide +kernel
theorem dX5_findBestInformed_36 : decode cX5_findBestInformed 36 = .ok (.iinc 3 1, 3) := by decide +kernel
theorem dX5_findBestInformed_39 : decode cX5_findBestInformed 39 = .ok (.goto (-33), 3) := by decide +kernel
theorem dX5_findBestInformed_42 : decode cX5_findBestInformed 42 = .ok (.iload_n 1, 1) := by decide +kernel
theorem dX5_findBestInformed_43 : decode cX5_findBestInformed 43 = .ok (.ireturn, 1) := by decide +kernel
theorem dJ5_init_d00df_0 : decode cJ5_init_d00df 0 = .ok (.aload_n 0, 1) := by decide +kernel
theorem dJ5_init_d00df_1 : decode cJ5_init_d00df 1 = .ok (.invokespecial 3, 3) := by decide +kernel
theorem dJ5_init_d00df_4 : decode cJ5_init_d00df 4 = .ok (.getstatic 18, 3) := by decide +kernel
theorem dJ5_init_d00df_7 : decode cJ5_init_d00df 7 = .ok (.ifCond .eq 18, 3) := by decide +kernel
theorem dJ5_init_d00df_10 : decode cJ5_init_d00df 10 = .ok (.aload_n 0, 1) := by decide +kernel
theorem dJ5_init_d00df_11 : decode cJ5_init_d00df 11 = .ok (.iload_n 1, 1) := by decide +kernel
theorem dJ5_init_d00df_12 : decode cJ5_init_d00df 12 = .ok (.newarray .byte, 2) := by decide +kernel
theorem dJ5_init_d00df_14 : decode cJ5_init_d00df 14 = .ok (.putfield 15, 3) := by decide +kernel
theorem dJ5_init_d00df_17 : decode cJ5_init_d00df 17 = .ok (.aload_n 0, 1) := by decide +kernel
theorem dJ5_init_d00df_18 : decode cJ5_init_d00df 18 = .ok (.iconst 0, 1) := by decide +kernel
theorem dJ5_init_d00df_19 : decode cJ5_init_d00df 19 = .ok (.putfield 22, 3) := by decide +kernel
theorem dJ5_init_d00df_22 : decode cJ5_init_d00df 22 = .ok (.goto 16, 3) := by decide +kernel
theorem dJ5_init_d00df_25 : decode cJ5_init_d00df 25 = .ok (.aload_n 0, 1) := by decide +kernel
theorem dJ5_init_d00df_26 : decode cJ5_init_d00df 26 = .ok (.iload_n 1, 1) := by decide +kernel
theorem dJ5_init_d00df_27 : decode cJ5_init_d00df 27 = .ok (.invokestatic 26, 3) := by decide +kernel
theorem dJ5_init_d00df_30 : decode cJ5_init_d00df 30 = .ok (.putfield 15, 3) := by decide +kernel
theorem dJ5_init_d00df_33 : decode cJ5_init_d00df 33 = .ok (.aload_n 0, 1) := by decide +kernel
theorem dJ5_init_d00df_34 : decode cJ5_init_d00df 34 = .ok (.iconst 1, 1) := by decide +kernel
theorem dJ5_init_d00df_35 : decode cJ5_init_d00df 35 = .ok (.putfield 22, 3) := by decide +kernel
theorem dJ5_init_d00df_38 : decode cJ5_init_d00df 38 = .ok (.return_, 1) := by decide +kernel
theorem dJ5_init_a7421_0 : decode cJ5_init_a7421 0 = .ok (.aload_n 0, 1) := by decide +kernel
theorem dJ5_init_a7421_1 : decode cJ5_init_a7421 1 = .ok (.invokespecial 3, 3) := by decide +kernel
theorem dJ5_init_a7421_4 : decode cJ5_init_a7421 4 = .ok (.aload_n 1, 1) := by decide +kernel
theorem dJ5_init_a7421_5 : decode cJ5_init_a7421 5 = .ok (.invokevirtual 32, 3) := by decide +kernel
theorem dJ5_init_a7421_8 : decode cJ5_init_a7421 8 = .ok (.istore_n 2, 1) := by decide +kernel
theorem dJ5_init_a7421_9 : decode cJ5_init_a7421 9 = .ok (.iload_n 2, 1) := by decide +kernel
theorem dJ5_init_a7421_10 : decode cJ5_init_a7421 10 = .ok (.ldc 38, 2) := by decide +kernel
theorem dJ5_init_a7421_12 : decode cJ5_init_a7421 12 = .ok (.if_icmp .ge 10, 3) := by decide +kernel
theorem dJ5_init_a7421_15 : decode cJ5_init_a7421 15 = .ok (.iload_n 2, 1) := by decide +kernel
theorem dJ5_init_a7421_16 : decode cJ5_init_a7421 16 = .ok (.bipush 16, 2) := by decide +kernel
theorem dJ5_init_a7421_18 : decode cJ5_init_a7421 18 = .ok (.iadd, 1) := by decide +kernel
theorem dJ5_init_a7421_19 : decode cJ5_init_a7421 19 = .ok (.goto 5, 3) := by decide +kernel
theorem dJ5_init_a7421_22 : decode cJ5_init_a7421 22 = .ok (.ldc 39, 2) := by decide +kernel
theorem dJ5_init_a7421_24 : decode cJ5_init_a7421 24 = .ok (.istore_n 3, 1) := by decide +kernel
theorem dJ5_init_a7421_25 : decode cJ5_init_a7421 25 = .ok (.aload_n 1, 1) := by decide +kernel
theorem dJ5_init_a7421_26 : decode cJ5_init_a7421 26 = .ok (.invokevirtual 40, 3) := by decide +kernel
theorem dJ5_init_a7421_29 : decode cJ5_init_a7421 29 = .ok (.istore 4, 2) := by decide +kernel
theorem dJ5_init_a7421_31 : decode cJ5_init_a7421 31 = .ok (.aload_n 0, 1) := by decide +kernel
theorem dJ5_init_a7421_32 : decode cJ5_init_a7421 32 = .ok (.iload 4, 2) := by decide +kernel
theorem dJ5_init_a7421_34 : decode cJ5_init_a7421 34 = .ok (.putfield 22, 3) := by decide +kernel
theorem dJ5_init_a7421_37 : decode cJ5_init_a7421 37 = .ok (.aload_n 0, 1) := by decide +kernel
theorem dJ5_init_a7421_38 : decode cJ5_init_a7421 38 = .ok (.iload 4, 2) := by decide +kernel
theorem dJ5_init_a7421_40 : decode cJ5_init_a7421 40 = .ok (.ifCond .ne 9, 3) := by decide +kernel
theorem dJ5_init_a7421_43 : decode cJ5_init_a7421 43 = .ok (.iload_n 3, 1) := by decide +kernel
theorem dJ5_init_a7421_44 : decode cJ5_init_a7421 44 = .ok (.newarray .byte, 2) := by decide +kernel
theorem dJ5_init_a7421_46 : decode cJ5_init_a7421 46 = .ok (.goto 7, 3) := by decide +kernel
theorem dJ5_init_a7421_49 : decode cJ5_init_a7421 49 = .ok (.iload_n 3, 1) := by decide +kernel
theorem dJ5_init_a7421_50 : decode cJ5_init_a7421 50 = .ok (.invokestatic 26, 3) := by decide +kernel
theorem dJ5_init_a7421_53 : decode cJ5_init_a7421 53 = .ok (.putfield 15, 3) := by decide +kernel
theorem dJ5_init_a7421_56 : decode cJ5_init_a7421 56 = .ok (.aload_n 0, 1) := by decide +kernel
theorem dJ5_init_a7421_57 : decode cJ5_init_a7421 57 = .ok (.aload_n 1, 1) := by decide +kernel
theorem dJ5_init_a7421_58 : decode cJ5_init_a7421 58 = .ok (.invokevirtual 43, 3) := by decide +kernel
theorem dJ5_init_a7421_61 : decode cJ5_init_a7421 61 = .ok (.pop, 1) := by decide +kernel
theorem dJ5_init_a7421_62 : decode cJ5_init_a7421 62 = .ok (.return_, 1) := by decide +kernel
theorem dJ5_length_8abf5_0 : decode cJ5_length_8abf5 0 = .ok (.aload_n 0, 1) := by decide +kernel
theorem dJ5_length_8abf5_1 : decode cJ5_length_8abf5 1 = .ok (.getfield 79, 3) := by decide +kernel
theorem dJ5_length_8abf5_4 : decode cJ5_length_8abf5 4 = .ok (.ireturn, 1) := by decide +kernel
theorem dJ5_ensureCapacityInternal_d00df_0 : decode cJ5_ensureCapacityInternal_d00df 0 = .ok (.aload_n 0, 1) := by decide +kernel
theorem dJ5_ensureCapacityInternal_d00df_1 : decode cJ5_ensureCapacityInternal_d00df 1 = .ok (.getfield 15, 3) := by decide +kernel
theorem dJ5_ensureCapacityInternal_d00df_4 : decode cJ5_ensureCapacityInternal_d00df 4 = .ok (.arraylength, 1) := by decide +kernel
theorem dJ5_ensureCapacityInternal_d00df_5 : decode cJ5_ensureCapacityInternal_d00df 5 = .ok (.aload_n 0, 1) := by decide +kernel
theorem dJ5_ensureCapacityInternal_d00df_6 : decode cJ5_ensureCapacityInternal_d00df 6 = .ok (.getfield 22, 3) := by decide +kernel
theorem dJ5_ensureCapacityInternal_d00df_9 : decode cJ5_ensureCapacityInternal_d00df 9 = .ok (.ishr, 1) := by decide +kernel
theorem dJ5_ensureCapacityInternal_d00df_10 : decode cJ5_ensureCapacityInternal_d00df 10 = .ok (.istore_n 2, 1) := by decide +kernel
theorem dJ5_ensureCapacityInternal_d00df_11 : decode cJ5_ensureCapacityInternal_d00df 11 = .ok (.iload_n 1, 1) := by decide +kernel
theorem dJ5_ensureCapacityInternal_d00df_12 : decode cJ5_ensureCapacityInternal_d00df 12 = .ok (.iload_n 2, 1) := by decide +kernel
theorem dJ5_ensureCapacityInternal_d00df_13 : decode cJ5_ensureCapacityInternal_d00df 13 = .ok (.isub, 1) := by decide +kernel
theorem dJ5_ensureCapacityInternal_d00df_14 : decode cJ5_ensureCapacityInternal_d00df 14 = .ok (.ifCond .le 24, 3) := by decide +kernel
theorem dJ5_ensureCapacityInternal_d00df_17 : decode cJ5_ensureCapacityInternal_d00df 17 = .ok (.aload_n 0, 1) := by decide +kernel
theorem dJ5_ensureCapacityInternal_d00df_18 : decode cJ5_ensureCapacityInternal_d00df 18 = .ok (.aload_n 0, 1) := by decide +kernel
theorem dJ5_ensureCapacityInternal_d00df_19 : decode cJ5_ensureCapacityInternal_d00df 19 = .ok (.getfield 15, 3) := by decide +kernel
theorem dJ5_ensureCapacityInternal_d00df_22 : decode cJ5_ensureCapacityInternal_d00df 22 = .ok (.aload_n 0, 1) := by decide +kernel
theorem dJ5_ensureCapacityInternal_d00df_23 : decode cJ5_ensureCapacityInternal_d00df 23 = .ok (.iload_n 1, 1) := by decide +kernel
theorem dJ5_ensureCapacityInternal_d00df_24 : decode cJ5_ensureCapacityInternal_d00df 24 = .ok (.invokevirtual 104, 3) := by decide +kernel
theorem dJ5_ensureCapacityInternal_d00df_27 : decode cJ5_ensureCapacityInternal_d00df 27 = .ok (.aload_n 0, 1) := by decide +kernel
theorem dJ5_ensureCapacityInternal_d00df_28 : decode cJ5_ensureCapacityInternal_d00df 28 = .ok (.getfield 22, 3) := by decide +kernel
theorem dJ5_ensureCapacityInternal_d00df_31 : decode cJ5_ensureCapacityInternal_d00df 31 = .ok (.ishl, 1) := by decide +kernel
theorem dJ5_ensureCapacityInternal_d00df_32 : decode cJ5_ensureCapacityInternal_d00df 32 = .ok (.invokestatic 108, 3) := by decide +kernel
theorem dJ5_ensureCapacityInternal_d00df_35 : decode cJ5_ensureCapacityInternal_d00df 35 = .ok (.putfield 15, 3) := by decide +kernel
theorem dJ5_ensureCapacityInternal_d00df_38 : decode cJ5_ensureCapacityInternal_d00df 38 = .ok (.return_, 1) := by decide +kernel
theorem dJ5_newCapacity_0f7a4_0 : decode cJ5_newCapacity_0f7a4 0 = .ok (.aload_n 0, 1) := by decide +kernel
theorem dJ5_newCapacity_0f7a4_1 : decode cJ5_newCapacity_0f7a4 1 = .ok (.getfield 15, 3) := by decide +kernel
theorem dJ5_newCapacity_0f7a4_4 : decode cJ5_newCapacity_0f7a4 4 = .ok (.arraylength, 1) := by decide +kernel
theorem dJ5_newCapacity_0f7a4_5 : decode cJ5_newCapacity_0f7a4 5 = .ok (.istore_n 2, 1) := by decide +kernel
theorem dJ5_newCapacity_0f7a4_6 : decode cJ5_newCapacity_0f7a4 6 = .ok (.iload_n 1, 1) := by decide +kernel
theorem dJ5_newCapacity_0f7a4_7 : decode cJ5_newCapacity_0f7a4 7 = .ok (.aload_n 0, 1) := by decide +kernel
theorem dJ5_newCapacity_0f7a4_8 : decode cJ5_newCapacity_0f7a4 8 = .ok (.getfield 22, 3) := by decide +kernel
theorem dJ5_newCapacity_0f7a4_11 : decode cJ5_newCapacity_0f7a4 11 = .ok (.ishl, 1) := by decide +kernel
theorem dJ5_newCapacity_0f7a4_12 : decode cJ5_newCapacity_0f7a4 12 = .ok (.istore_n 3, 1) := by decide +kernel
theorem dJ5_newCapacity_0f7a4_13 : decode cJ5_newCapacity_0f7a4 13 = .ok (.iload_n 3, 1) := by decide +kernel
theorem dJ5_newCapacity_0f7a4_14 : decode cJ5_newCapacity_0f7a4 14 = .ok (.iload_n 2, 1) := by decide +kernel
theorem dJ5_newCapacity_0f7a4_15 : decode cJ5_newCapacity_0f7a4 15 = .ok (.isub, 1) := by decide +kernel
theorem dJ5_newCapacity_0f7a4_16 : decode cJ5_newCapacity_0f7a4 16 = .ok (.istore 4, 2) := by decide +kernel
theorem dJ5_newCapacity_0f7a4_18 : decode cJ5_newCapacity_0f7a4 18 = .ok (.iload_n 2, 1) := by decide +kernel
theorem dJ5_newCapacity_0f7a4_19 : decode cJ5_newCapacity_0f7a4 19 = .ok (.iload 4, 2) := by decide +kernel
theorem dJ5_newCapacity_0f7a4_21 : decode cJ5_newCapacity_0f7a4 21 = .ok (.iload_n 2, 1) := by decide +kernel
theorem dJ5_newCapacity_0f7a4_22 : decode cJ5_newCapacity_0f7a4 22 = .ok (.iconst 2, 1) := by decide +kernel
theorem dJ5_newCapacity_0f7a4_23 : decode cJ5_newCapacity_0f7a4 23 = .ok (.aload_n 0, 1) := by decide +kernel
theorem dJ5_newCapacity_0f7a4_24 : decode cJ5_newCapacity_0f7a4 24 = .ok (.getfield 22, 3) := by decide +kernel
theorem dJ5_newCapacity_0f7a4_27 : decode cJ5_newCapacity_0f7a4 27 = .ok (.ishl, 1) := by decide +kernel
theorem dJ5_newCapacity_0f7a4_28 : decode cJ5_newCapacity_0f7a4 28 = .ok (.iadd, 1) := by decide +kernel
theorem dJ5_newCapacity_0f7a4_29 : decode cJ5_newCapacity_0f7a4 29 = .ok (.invokestatic 114, 3) := by decide +kernel
theorem dJ5_newCapacity_0f7a4_32 : decode cJ5_newCapacity_0f7a4 32 = .ok (.istore 5, 2) := by decide +kernel
theorem dJ5_newCapacity_0f7a4_34 : decode cJ5_newCapacity_0f7a4 34 = .ok (.iload 5, 2) := by decide +kernel
theorem dJ5_newCapacity_0f7a4_36 : decode cJ5_newCapacity_0f7a4 36 = .ok (.ldc 39, 2) := by decide +kernel
theorem dJ5_newCapacity_0f7a4_38 : decode cJ5_newCapacity_0f7a4 38 = .ok (.if_icmp .ne 13, 3) := by decide +kernel
theorem dJ5_newCapacity_0f7a4_41 : decode cJ5_newCapacity_0f7a4 41 = .ok (.new 120, 3) := by decide +kernel
theorem dJ5_newCapacity_0f7a4_44 : decode cJ5_newCapacity_0f7a4 44 = .ok (.dup, 1) := by decide +kernel
theorem dJ5_newCapacity_0f7a4_45 : decode cJ5_newCapacity_0f7a4 45 = .ok (.ldc 122, 2) := by decide +kernel
theorem dJ5_newCapacity_0f7a4_47 : decode cJ5_newCapacity_0f7a4 47 = .ok (.invokespecial 124, 3) := by decide +kernel
theorem dJ5_newCapacity_0f7a4_50 : decode cJ5_newCapacity_0f7a4 50 = .ok (.athrow, 1) := by decide +kernel
theorem dJ5_newCapacity_0f7a4_51 : decode cJ5_newCapacity_0f7a4 51 = .ok (.iload 5, 2) := by decide +kernel
theorem dJ5_newCapacity_0f7a4_53 : decode cJ5_newCapacity_0f7a4 53 = .ok (.aload_n 0, 1) := by decide +kernel
theorem dJ5_newCapacity_0f7a4_54 : decode cJ5_newCapacity_0f7a4 54 = .ok (.getfield 22, 3) := by decide +kernel
theorem dJ5_newCapacity_0f7a4_57 : decode cJ5_newCapacity_0f7a4 57 = .ok (.ishr, 1) := by decide +kernel
theorem dJ5_newCapacity_0f7a4_58 : decode cJ5_newCapacity_0f7a4 58 = .ok (.ireturn, 1) := by decide +kernel
theorem dJ5_inflate_da8c8_0 : decode cJ5_inflate_da8c8 0 = .ok (.aload_n 0, 1) := by decide +kernel
theorem dJ5_inflate_da8c8_1 : decode cJ5_inflate_da8c8 1 = .ok (.invokevirtual 83, 3) := by decide +kernel
theorem dJ5_inflate_da8c8_4 : decode cJ5_inflate_da8c8 4 = .ok (.ifCond .ne 4, 3) := by decide +kernel
theorem dJ5_inflate_da8c8_7 : decode cJ5_inflate_da8c8 7 = .ok (.return_, 1) := by decide +kernel
theorem dJ5_inflate_da8c8_8 : decode cJ5_inflate_da8c8 8 = .ok (.aload_n 0, 1) := by decide +kernel
theorem dJ5_inflate_da8c8_9 : decode cJ5_inflate_da8c8 9 = .ok (.getfield 15, 3) := by decide +kernel
theorem dJ5_inflate_da8c8_12 : decode cJ5_inflate_da8c8 12 = .ok (.arraylength, 1) := by decide +kernel
theorem dJ5_inflate_da8c8_13 : decode cJ5_inflate_da8c8 13 = .ok (.invokestatic 26, 3) := by decide +kernel
theorem dJ5_inflate_da8c8_16 : decode cJ5_inflate_da8c8 16 = .ok (.astore_n 1, 1) := by decide +kernel
theorem dJ5_inflate_da8c8_17 : decode cJ5_inflate_da8c8 17 = .ok (.aload_n 0, 1) := by decide +kernel
theorem dJ5_inflate_da8c8_18 : decode cJ5_inflate_da8c8 18 = .ok (.getfield 15, 3) := by decide +kernel
theorem dJ5_inflate_da8c8_21 : decode cJ5_inflate_da8c8 21 = .ok (.iconst 0, 1) := by decide +kernel
theorem dJ5_inflate_da8c8_22 : decode cJ5_inflate_da8c8 22 = .ok (.aload_n 1, 1) := by decide +kernel
theorem dJ5_inflate_da8c8_23 : decode cJ5_inflate_da8c8 23 = .ok (.iconst 0, 1) := by decide +kernel
theorem dJ5_inflate_da8c8_24 : decode cJ5_inflate_da8c8 24 = .ok (.aload_n 0, 1) := by decide +kernel
theorem dJ5_inflate_da8c8_25 : decode cJ5_inflate_da8c8 25 = .ok (.getfield 79, 3) := by decide +kernel
theorem dJ5_inflate_da8c8_28 : decode cJ5_inflate_da8c8 28 = .ok (.invokestatic 125, 3) := by decide +kernel
theorem dJ5_inflate_da8c8_31 : decode cJ5_inflate_da8c8 31 = .ok (.aload_n 0, 1) := by decide +kernel
theorem dJ5_inflate_da8c8_32 : decode cJ5_inflate_da8c8 32 = .ok (.aload_n 1, 1) := by decide +kernel
theorem dJ5_inflate_da8c8_33 : decode cJ5_inflate_da8c8 33 = .ok (.putfield 15, 3) := by decide +kernel
theorem dJ5_inflate_da8c8_36 : decode cJ5_inflate_da8c8 36 = .ok (.aload_n 0, 1) := by decide +kernel
theorem dJ5_inflate_da8c8_37 : decode cJ5_inflate_da8c8 37 = .ok (.iconst 1, 1) := by decide +kernel
theorem dJ5_inflate_da8c8_38 : decode cJ5_inflate_da8c8 38 = .ok (.putfield 22, 3) := by decide +kernel
theorem dJ5_inflate_da8c8_41 : decode cJ5_inflate_da8c8 41 = .ok (.return_, 1) := by decide +kernel
theorem dJ5_append_cf1ce_0 : decode cJ5_append_cf1ce 0 = .ok (.aload_n 1, 1) := by decide +kernel
theorem dJ5_append_cf1ce_1 : decode cJ5_append_cf1ce 1 = .ok (.ifnonnull 8, 3) := by decide +kernel
theorem dJ5_append_cf1ce_4 : decode cJ5_append_cf1ce 4 = .ok (.aload_n 0, 1) := by decide +kernel
theorem dJ5_append_cf1ce_5 : decode cJ5_append_cf1ce 5 = .ok (.invokevirtual 204, 3) := by decide +kernel
theorem dJ5_append_cf1ce_8 : decode cJ5_append_cf1ce 8 = .ok (.areturn, 1) := by decide +kernel
theorem dJ5_append_cf1ce_9 : decode cJ5_append_cf1ce 9 = .ok (.aload_n 1, 1) := by decide +kernel
theorem dJ5_append_cf1ce_10 : decode cJ5_append_cf1ce 10 = .ok (.invokevirtual 32, 3) := by decide +kernel
theorem dJ5_append_cf1ce_13 : decode cJ5_append_cf1ce 13 = .ok (.istore_n 2, 1) := by decide +kernel
theorem dJ5_append_cf1ce_14 : decode cJ5_append_cf1ce 14 = .ok (.aload_n 0, 1) := by decide +kernel
theorem dJ5_append_cf1ce_15 : decode cJ5_append_cf1ce 15 = .ok (.aload_n 0, 1) := by decide +kernel
theorem dJ5_append_cf1ce_16 : decode cJ5_append_cf1ce 16 = .ok (.getfield 79, 3) := by decide +kernel
theorem dJ5_append_cf1ce_19 : decode cJ5_append_cf1ce 19 = .ok (.iload_n 2, 1) := by decide +kernel
theorem dJ5_append_cf1ce_20 : decode cJ5_append_cf1ce 20 = .ok (.iadd, 1) := by decide +kernel
theorem dJ5_append_cf1ce_21 : decode cJ5_append_cf1ce 21 = .ok (.invokevirtual 100, 3) := by decide +kernel
theorem dJ5_append_cf1ce_24 : decode cJ5_append_cf1ce 24 = .ok (.aload_n 0, 1) := by decide +kernel
theorem dJ5_append_cf1ce_25 : decode cJ5_append_cf1ce 25 = .ok (.aload_n 0, 1) := by decide +kernel
theorem dJ5_append_cf1ce_26 : decode cJ5_append_cf1ce 26 = .ok (.getfield 79, 3) := by decide +kernel
theorem dJ5_append_cf1ce_29 : decode cJ5_append_cf1ce 29 = .ok (.aload_n 1, 1) := by decide +kernel
theorem dJ5_append_cf1ce_30 : decode cJ5_append_cf1ce 30 = .ok (.invokevirtual 208, 3) := by decide +kernel
theorem dJ5_append_cf1ce_33 : decode cJ5_append_cf1ce 33 = .ok (.aload_n 0, 1) := by decide +kernel
theorem dJ5_append_cf1ce_34 : decode cJ5_append_cf1ce 34 = .ok (.dup, 1) := by decide +kernel
theorem dJ5_append_cf1ce_35 : decode cJ5_append_cf1ce 35 = .ok (.getfield 79, 3) := by decide +kernel
theorem dJ5_append_cf1ce_38 : decode cJ5_append_cf1ce 38 = .ok (.iload_n 2, 1) := by decide +kernel
theorem dJ5_append_cf1ce_39 : decode cJ5_append_cf1ce 39 = .ok (.iadd, 1) := by decide +kernel
theorem dJ5_append_cf1ce_40 : decode cJ5_append_cf1ce 40 = .ok (.putfield 79, 3) := by decide +kernel
theorem dJ5_append_cf1ce_43 : decode cJ5_append_cf1ce 43 = .ok (.aload_n 0, 1) := by decide +kernel
theorem dJ5_append_cf1ce_44 : decode cJ5_append_cf1ce 44 = .ok (.areturn, 1) := by decide +kernel
theorem dJ5_appendNull_278bc_0 : decode cJ5_appendNull_278bc 0 = .ok (.aload_n 0, 1) := by decide +kernel
theorem dJ5_appendNull_278bc_1 : decode cJ5_appendNull_278bc 1 = .ok (.aload_n 0, 1) := by decide +kernel
theorem dJ5_appendNull_278bc_2 : decode cJ5_appendNull_278bc 2 = .ok (.getfield 79, 3) := by decide +kernel
theorem dJ5_appendNull_278bc_5 : decode cJ5_appendNull_278bc 5 = .ok (.iconst 4, 1) := by decide +kernel
theorem dJ5_appendNull_278bc_6 : decode cJ5_appendNull_278bc 6 = .ok (.iadd, 1) := by decide +kernel
theorem dJ5_appendNull_278bc_7 : decode cJ5_appendNull_278bc 7 = .ok (.invokevirtual 100, 3) := by decide +kernel
theorem dJ5_appendNull_278bc_10 : decode cJ5_appendNull_278bc 10 = .ok (.aload_n 0, 1) := by decide +kernel
theorem dJ5_appendNull_278bc_11 : decode cJ5_appendNull_278bc 11 = .ok (.getfield 79, 3) := by decide +kernel
theorem dJ5_appendNull_278bc_14 : decode cJ5_appendNull_278bc 14 = .ok (.istore_n 1, 1) := by decide +kernel
theorem dJ5_appendNull_278bc_15 : decode cJ5_appendNull_278bc 15 = .ok (.aload_n 0, 1) := by decide +kernel
theorem dJ5_appendNull_278bc_16 : decode cJ5_appendNull_278bc 16 = .ok (.getfield 15, 3) := by decide +kernel
theorem dJ5_appendNull_278bc_19 : decode cJ5_appendNull_278bc 19 = .ok (.astore_n 2, 1) := by decide +kernel
theorem dJ5_appendNull_278bc_20 : decode cJ5_appendNull_278bc 20 = .ok (.aload_n 0, 1) := by decide +kernel
theorem dJ5_appendNull_278bc_21 : decode cJ5_appendNull_278bc 21 = .ok (.invokevirtual 83, 3) := by decide +kernel
theorem dJ5_appendNull_278bc_24 : decode cJ5_appendNull_278bc 24 = .ok (.ifCond .eq 38, 3) := by decide +kernel
theorem dJ5_appendNull_278bc_27 : decode cJ5_appendNull_278bc 27 = .ok (.aload_n 2, 1) := by decide +kernel
theorem dJ5_appendNull_278bc_28 : decode cJ5_appendNull_278bc 28 = .ok (.iload_n 1, 1) := by decide +kernel
theorem dJ5_appendNull_278bc_29 : decode cJ5_appendNull_278bc 29 = .ok (.iinc 1 1, 3) := by decide +kernel
theorem dJ5_appendNull_278bc_32 : decode cJ5_appendNull_278bc 32 = .ok (.bipush 110, 2) := by decide +kernel
theorem dJ5_appendNull_278bc_34 : decode cJ5_appendNull_278bc 34 = .ok (.bastore, 1) := by decide +kernel
theorem dJ5_appendNull_278bc_35 : decode cJ5_appendNull_278bc 35 = .ok (.aload_n 2, 1) := by decide +kernel
theorem dJ5_appendNull_278bc_36 : decode cJ5_appendNull_278bc 36 = .ok (.iload_n 1, 1) := by decide +kernel
theorem dJ5_appendNull_278bc_37 : decode cJ5_appendNull_278bc 37 = .ok (.iinc 1 1, 3) := by decide +kernel
theorem dJ5_appendNull_278bc_40 : decode cJ5_appendNull_278bc 40 = .ok (.bipush 117, 2) := by decide +kernel
theorem dJ5_appendNull_278bc_42 : decode cJ5_appendNull_278bc 42 = .ok (.bastore, 1) := by decide +kernel
theorem dJ5_appendNull_278bc_43 : decode cJ5_appendNull_278bc 43 = .ok (.aload_n 2, 1) := by decide +kernel
theorem dJ5_appendNull_278bc_44 : decode cJ5_appendNull_278bc 44 = .ok (.iload_n 1, 1) := by decide +kernel
theorem dJ5_appendNull_278bc_45 : decode cJ5_appendNull_278bc 45 = .ok (.iinc 1 1, 3) := by decide +kernel
theorem dJ5_appendNull_278bc_48 : decode cJ5_appendNull_278bc 48 = .ok (.bipush 108, 2) := by decide +kernel
theorem dJ5_appendNull_278bc_50 : decode cJ5_appendNull_278bc 50 = .ok (.bastore, 1) := by decide +kernel
theorem dJ5_appendNull_278bc_51 : decode cJ5_appendNull_278bc 51 = .ok (.aload_n 2, 1) := by decide +kernel
theorem dJ5_appendNull_278bc_52 : decode cJ5_appendNull_278bc 52 = .ok (.iload_n 1, 1) := by decide +kernel
theorem dJ5_appendNull_278bc_53 : decode cJ5_appendNull_278bc 53 = .ok (.iinc 1 1, 3) := by decide +kernel
theorem dJ5_appendNull_278bc_56 : decode cJ5_appendNull_278bc 56 = .ok (.bipush 108, 2) := by decide +kernel
theorem dJ5_appendNull_278bc_58 : decode cJ5_appendNull_278bc 58 = .ok (.bastore, 1) := by decide +kernel
theorem dJ5_appendNull_278bc_59 : decode cJ5_appendNull_278bc 59 = .ok (.goto 17, 3) := by decide +kernel
theorem dJ5_appendNull_278bc_62 : decode cJ5_appendNull_278bc 62 = .ok (.aload_n 2, 1) := by decide +kernel
theorem dJ5_appendNull_278bc_63 : decode cJ5_appendNull_278bc 63 = .ok (.iload_n 1, 1) := by decide +kernel
theorem dJ5_appendNull_278bc_64 : decode cJ5_appendNull_278bc 64 = .ok (.bipush 110, 2) := by decide +kernel
theorem dJ5_appendNull_278bc_66 : decode cJ5_appendNull_278bc 66 = .ok (.bipush 117, 2) := by decide +kernel
theorem dJ5_appendNull_278bc_68 : decode cJ5_appendNull_278bc 68 = .ok (.bipush 108, 2) := by decide +kernel
theorem dJ5_appendNull_278bc_70 : decode cJ5_appendNull_278bc 70 = .ok (.bipush 108, 2) := by decide +kernel
theorem dJ5_appendNull_278bc_72 : decode cJ5_appendNull_278bc 72 = .ok (.invokestatic 226, 3) := by decide +kernel
theorem dJ5_appendNull_278bc_75 : decode cJ5_appendNull_278bc 75 = .ok (.istore_n 1, 1) := by decide +kernel
theorem dJ5_appendNull_278bc_76 : decode cJ5_appendNull_278bc 76 = .ok (.aload_n 0, 1) := by decide +kernel
theorem dJ5_appendNull_278bc_77 : decode cJ5_appendNull_278bc 77 = .ok (.iload_n 1, 1) := by decide +kernel
theorem dJ5_appendNull_278bc_78 : decode cJ5_appendNull_278bc 78 = .ok (.putfield 79, 3) := by decide +kernel
theorem dJ5_appendNull_278bc_81 : decode cJ5_appendNull_278bc 81 = .ok (.aload_n 0, 1) := by decide +kernel
theorem dJ5_appendNull_278bc_82 : decode cJ5_appendNull_278bc 82 = .ok (.areturn, 1) := by decide +kernel
theorem dJ5_append_3fe6f_0 : decode cJ5_append_3fe6f 0 = .ok (.aload_n 0, 1) := by decide +kernel
theorem dJ5_append_3fe6f_1 : decode cJ5_append_3fe6f 1 = .ok (.aload_n 0, 1) := by decide +kernel
theorem dJ5_append_3fe6f_2 : decode cJ5_append_3fe6f 2 = .ok (.getfield 79, 3) := by decide +kernel
theorem dJ5_append_3fe6f_5 : decode cJ5_append_3fe6f 5 = .ok (.iconst 1, 1) := by decide +kernel
theorem dJ5_append_3fe6f_6 : decode cJ5_append_3fe6f 6 = .ok (.iadd, 1) := by decide +kernel
theorem dJ5_append_3fe6f_7 : decode cJ5_append_3fe6f 7 = .ok (.invokevirtual 100, 3) := by decide +kernel
theorem dJ5_append_3fe6f_10 : decode cJ5_append_3fe6f 10 = .ok (.aload_n 0, 1) := by decide +kernel
theorem dJ5_append_3fe6f_11 : decode cJ5_append_3fe6f 11 = .ok (.invokevirtual 83, 3) := by decide +kernel
theorem dJ5_append_3fe6f_14 : decode cJ5_append_3fe6f 14 = .ok (.ifCond .eq 31, 3) := by decide +kernel
theorem dJ5_append_3fe6f_17 : decode cJ5_append_3fe6f 17 = .ok (.iload_n 1, 1) := by decide +kernel
theorem dJ5_append_3fe6f_18 : decode cJ5_append_3fe6f 18 = .ok (.invokestatic 191, 3) := by decide +kernel
theorem dJ5_append_3fe6f_21 : decode cJ5_append_3fe6f 21 = .ok (.ifCond .eq 24, 3) := by decide +kernel
theorem dJ5_append_3fe6f_24 : decode cJ5_append_3fe6f 24 = .ok (.aload_n 0, 1) := by decide +kernel
theorem dJ5_append_3fe6f_25 : decode cJ5_append_3fe6f 25 = .ok (.getfield 15, 3) := by decide +kernel
theorem dJ5_append_3fe6f_28 : decode cJ5_append_3fe6f 28 = .ok (.aload_n 0, 1) := by decide +kernel
theorem dJ5_append_3fe6f_29 : decode cJ5_append_3fe6f 29 = .ok (.dup, 1) := by decide +kernel
theorem dJ5_append_3fe6f_30 : decode cJ5_append_3fe6f 30 = .ok (.getfield 79, 3) := by decide +kernel
theorem dJ5_append_3fe6f_33 : decode cJ5_append_3fe6f 33 = .ok (.dup_x1, 1) := by decide +kernel
theorem dJ5_append_3fe6f_34 : decode cJ5_append_3fe6f 34 = .ok (.iconst 1, 1) := by decide +kernel
theorem dJ5_append_3fe6f_35 : decode cJ5_append_3fe6f 35 = .ok (.iadd, 1) := by decide +kernel
theorem dJ5_append_3fe6f_36 : decode cJ5_append_3fe6f 36 = .ok (.putfield 79, 3) := by decide +kernel
theorem dJ5_append_3fe6f_39 : decode cJ5_append_3fe6f 39 = .ok (.iload_n 1, 1) := by decide +kernel
theorem dJ5_append_3fe6f_40 : decode cJ5_append_3fe6f 40 = .ok (.i2b, 1) := by decide +kernel
theorem dJ5_append_3fe6f_41 : decode cJ5_append_3fe6f 41 = .ok (.bastore, 1) := by decide +kernel
theorem dJ5_append_3fe6f_42 : decode cJ5_append_3fe6f 42 = .ok (.goto 33, 3) := by decide +kernel
theorem dJ5_append_3fe6f_45 : decode cJ5_append_3fe6f 45 = .ok (.aload_n 0, 1) := by decide +kernel
theorem dJ5_append_3fe6f_46 : decode cJ5_append_3fe6f 46 = .ok (.invokevirtual 83, 3) := by decide +kernel
theorem dJ5_append_3fe6f_49 : decode cJ5_append_3fe6f 49 = .ok (.ifCond .eq 7, 3) := by decide +kernel
theorem dJ5_append_3fe6f_52 : decode cJ5_append_3fe6f 52 = .ok (.aload_n 0, 1) := by decide +kernel
theorem dJ5_append_3fe6f_53 : decode cJ5_append_3fe6f 53 = .ok (.invokevirtual 195, 3) := by decide +kernel
theorem dJ5_append_3fe6f_56 : decode cJ5_append_3fe6f 56 = .ok (.aload_n 0, 1) := by decide +kernel
theorem dJ5_append_3fe6f_57 : decode cJ5_append_3fe6f 57 = .ok (.getfield 15, 3) := by decide +kernel
theorem dJ5_append_3fe6f_60 : decode cJ5_append_3fe6f 60 = .ok (.aload_n 0, 1) := by decide +kernel
theorem dJ5_append_3fe6f_61 : decode cJ5_append_3fe6f 61 = .ok (.dup, 1) := by decide +kernel
theorem dJ5_append_3fe6f_62 : decode cJ5_append_3fe6f 62 = .ok (.getfield 79, 3) := by decide +kernel
theorem dJ5_append_3fe6f_65 : decode cJ5_append_3fe6f 65 = .ok (.dup_x1, 1) := by decide +kernel
theorem dJ5_append_3fe6f_66 : decode cJ5_append_3fe6f 66 = .ok (.iconst 1, 1) := by decide +kernel
theorem dJ5_append_3fe6f_67 : decode cJ5_append_3fe6f 67 = .ok (.iadd, 1) := by decide +kernel
theorem dJ5_append_3fe6f_68 : decode cJ5_append_3fe6f 68 = .ok (.putfield 79, 3) := by decide +kernel
theorem dJ5_append_3fe6f_71 : decode cJ5_append_3fe6f 71 = .ok (.iload_n 1, 1) := by decide +kernel
theorem dJ5_append_3fe6f_72 : decode cJ5_append_3fe6f 72 = .ok (.invokestatic 197, 3) := by decide +kernel
theorem dJ5_append_3fe6f_75 : decode cJ5_append_3fe6f 75 = .ok (.aload_n 0, 1) := by decide +kernel
theorem dJ5_append_3fe6f_76 : decode cJ5_append_3fe6f 76 = .ok (.areturn, 1) := by decide +kernel
theorem dJ5_append_c97b9_0 : decode cJ5_append_c97b9 0 = .ok (.aload_n 0, 1) := by decide +kernel
theorem dJ5_append_c97b9_1 : decode cJ5_append_c97b9 1 = .ok (.getfield 79, 3) := by decide +kernel
theorem dJ5_append_c97b9_4 : decode cJ5_append_c97b9 4 = .ok (.istore_n 2, 1) := by decide +kernel
theorem dJ5_append_c97b9_5 : decode cJ5_append_c97b9 5 = .ok (.iload_n 2, 1) := by decide +kernel
theorem dJ5_append_c97b9_6 : decode cJ5_append_c97b9 6 = .ok (.iload_n 1, 1) := by decide +kernel
theorem dJ5_append_c97b9_7 : decode cJ5_append_c97b9 7 = .ok (.invokestatic 245, 3) := by decide +kernel
theorem dJ5_append_c97b9_10 : decode cJ5_append_c97b9 10 = .ok (.iadd, 1) := by decide +kernel
theorem dJ5_append_c97b9_11 : decode cJ5_append_c97b9 11 = .ok (.istore_n 3, 1) := by decide +kernel
theorem dJ5_append_c97b9_12 : decode cJ5_append_c97b9 12 = .ok (.aload_n 0, 1) := by decide +kernel
theorem dJ5_append_c97b9_13 : decode cJ5_append_c97b9 13 = .ok (.iload_n 3, 1) := by decide +kernel
theorem dJ5_append_c97b9_14 : decode cJ5_append_c97b9 14 = .ok (.invokevirtual 100, 3) := by decide +kernel
theorem dJ5_append_c97b9_17 : decode cJ5_append_c97b9 17 = .ok (.aload_n 0, 1) := by decide +kernel
theorem dJ5_append_c97b9_18 : decode cJ5_append_c97b9 18 = .ok (.invokevirtual 83, 3) := by decide +kernel
theorem dJ5_append_c97b9_21 : decode cJ5_append_c97b9 21 = .ok (.ifCond .eq 16, 3) := by decide +kernel
theorem dJ5_append_c97b9_24 : decode cJ5_append_c97b9 24 = .ok (.iload_n 1, 1) := by decide +kernel
theorem dJ5_append_c97b9_25 : decode cJ5_append_c97b9 25 = .ok (.iload_n 3, 1) := by decide +kernel
theorem dJ5_append_c97b9_26 : decode cJ5_append_c97b9 26 = .ok (.aload_n 0, 1) := by decide +kernel
theorem dJ5_append_c97b9_27 : decode cJ5_append_c97b9 27 = .ok (.getfield 15, 3) := by decide +kernel
theorem dJ5_append_c97b9_30 : decode cJ5_append_c97b9 30 = .ok (.invokestatic 248, 3) := by decide +kernel
theorem dJ5_append_c97b9_33 : decode cJ5_append_c97b9 33 = .ok (.pop, 1) := by decide +kernel
theorem dJ5_append_c97b9_34 : decode cJ5_append_c97b9 34 = .ok (.goto 14, 3) := by decide +kernel
theorem dJ5_append_c97b9_37 : decode cJ5_append_c97b9 37 = .ok (.iload_n 1, 1) := by decide +kernel
theorem dJ5_append_c97b9_38 : decode cJ5_append_c97b9 38 = .ok (.iload_n 2, 1) := by decide +kernel
theorem dJ5_append_c97b9_39 : decode cJ5_append_c97b9 39 = .ok (.iload_n 3, 1) := by decide +kernel
theorem dJ5_append_c97b9_40 : decode cJ5_append_c97b9 40 = .ok (.aload_n 0, 1) := by decide +kernel
theorem dJ5_append_c97b9_41 : decode cJ5_append_c97b9 41 = .ok (.getfield 15, 3) := by decide +kernel
theorem dJ5_append_c97b9_44 : decode cJ5_append_c97b9 44 = .ok (.invokestatic 251, 3) := by decide +kernel
theorem dJ5_append_c97b9_47 : decode cJ5_append_c97b9 47 = .ok (.pop, 1) := by decide +kernel
theorem dJ5_append_c97b9_48 : decode cJ5_append_c97b9 48 = .ok (.aload_n 0, 1) := by decide +kernel
theorem dJ5_append_c97b9_49 : decode cJ5_append_c97b9 49 = .ok (.iload_n 3, 1) := by decide +kernel
theorem dJ5_append_c97b9_50 : decode cJ5_append_c97b9 50 = .ok (.putfield 79, 3) := by decide +kernel
theorem dJ5_append_c97b9_53 : decode cJ5_append_c97b9 53 = .ok (.aload_n 0, 1) := by decide +kernel
theorem dJ5_append_c97b9_54 : decode cJ5_append_c97b9 54 = .ok (.areturn, 1) := by decide +kernel
theorem dJ5_getValue_6d5f1_0 : decode cJ5_getValue_6d5f1 0 = .ok (.aload_n 0, 1) := by decide +kernel
theorem dJ5_getValue_6d5f1_1 : decode cJ5_getValue_6d5f1 1 = .ok (.getfield 15, 3) := by decide +kernel
theorem dJ5_getValue_6d5f1_4 : decode cJ5_getValue_6d5f1 4 = .ok (.areturn, 1) := by decide +kernel
theorem dJ5_isLatin1_aae02_0 : decode cJ5_isLatin1_aae02 0 = .ok (.getstatic 18, 3) := by decide +kernel
theorem dJ5_isLatin1_aae02_3 : decode cJ5_isLatin1_aae02 3 = .ok (.ifCond .eq 14, 3) := by decide +kernel
theorem dJ5_isLatin1_aae02_6 : decode cJ5_isLatin1_aae02 6 = .ok (.aload_n 0, 1) := by decide +kernel
theorem dJ5_isLatin1_aae02_7 : decode cJ5_isLatin1_aae02 7 = .ok (.getfield 22, 3) := by decide +kernel
theorem dJ5_isLatin1_aae02_10 : decode cJ5_isLatin1_aae02 10 = .ok (.ifCond .ne 7, 3) := by decide +kernel
theorem dJ5_isLatin1_aae02_13 : decode cJ5_isLatin1_aae02 13 = .ok (.iconst 1, 1) := by decide +kernel
theorem dJ5_isLatin1_aae02_14 : decode cJ5_isLatin1_aae02 14 = .ok (.goto 4, 3) := by decide +kernel
theorem dJ5_isLatin1_aae02_17 : decode cJ5_isLatin1_aae02 17 = .ok (.iconst 0, 1) := by decide +kernel
theorem dJ5_isLatin1_aae02_18 : decode cJ5_isLatin1_aae02 18 = .ok (.ireturn, 1) := by decide +kernel
theorem dJ5_inflateIfNeededFor_a7421_0 : decode cJ5_inflateIfNeededFor_a7421 0 = .ok (.getstatic 18, 3) := by decide +kernel
theorem dJ5_inflateIfNeededFor_a7421_3 : decode cJ5_inflateIfNeededFor_a7421 3 = .ok (.ifCond .eq 18, 3) := by decide +kernel
theorem dJ5_inflateIfNeededFor_a7421_6 : decode cJ5_inflateIfNeededFor_a7421 6 = .ok (.aload_n 0, 1) := by decide +kernel
theorem dJ5_inflateIfNeededFor_a7421_7 : decode cJ5_inflateIfNeededFor_a7421 7 = .ok (.getfield 22, 3) := by decide +kernel
theorem dJ5_inflateIfNeededFor_a7421_10 : decode cJ5_inflateIfNeededFor_a7421 10 = .ok (.aload_n 1, 1) := by decide +kernel
theorem dJ5_inflateIfNeededFor_a7421_11 : decode cJ5_inflateIfNeededFor_a7421 11 = .ok (.invokevirtual 40, 3) := by decide +kernel
theorem dJ5_inflateIfNeededFor_a7421_14 : decode cJ5_inflateIfNeededFor_a7421 14 = .ok (.if_icmp .eq 7, 3) := by decide +kernel
theorem dJ5_inflateIfNeededFor_a7421_17 : decode cJ5_inflateIfNeededFor_a7421 17 = .ok (.aload_n 0, 1) := by decide +kernel
theorem dJ5_inflateIfNeededFor_a7421_18 : decode cJ5_inflateIfNeededFor_a7421 18 = .ok (.invokevirtual 195, 3) := by decide +kernel
theorem dJ5_inflateIfNeededFor_a7421_21 : decode cJ5_inflateIfNeededFor_a7421 21 = .ok (.return_, 1) := by decide +kernel
theorem dJ5_putStringAt_47b60_0 : decode cJ5_putStringAt_47b60 0 = .ok (.aload_n 0, 1) := by decide +kernel
theorem dJ5_putStringAt_47b60_1 : decode cJ5_putStringAt_47b60 1 = .ok (.aload_n 2, 1) := by decide +kernel
theorem dJ5_putStringAt_47b60_2 : decode cJ5_putStringAt_47b60 2 = .ok (.invokevirtual 397, 3) := by decide +kernel
theorem dJ5_putStringAt_47b60_5 : decode cJ5_putStringAt_47b60 5 = .ok (.aload_n 2, 1) := by decide +kernel
theorem dJ5_putStringAt_47b60_6 : decode cJ5_putStringAt_47b60 6 = .ok (.aload_n 0, 1) := by decide +kernel
theorem dJ5_putStringAt_47b60_7 : decode cJ5_putStringAt_47b60 7 = .ok (.getfield 15, 3) := by decide +kernel
theorem dJ5_putStringAt_47b60_10 : decode cJ5_putStringAt_47b60 10 = .ok (.iload_n 1, 1) := by decide +kernel
theorem dJ5_putStringAt_47b60_11 : decode cJ5_putStringAt_47b60 11 = .ok (.aload_n 0, 1) := by decide +kernel
theorem dJ5_putStringAt_47b60_12 : decode cJ5_putStringAt_47b60 12 = .ok (.getfield 22, 3) := by decide +kernel
theorem dJ5_putStringAt_47b60_15 : decode cJ5_putStringAt_47b60 15 = .ok (.invokevirtual 399, 3) := by decide +kernel
theorem dJ5_putStringAt_47b60_18 : decode cJ5_putStringAt_47b60 18 = .ok (.return_, 1) := by decide +kernel
theorem dJ6_getChars_ba4f3_0 : decode cJ6_getChars_ba4f3 0 = .ok (.iload_n 1, 1) := by decide +kernel
theorem dJ6_getChars_ba4f3_1 : decode cJ6_getChars_ba4f3 1 = .ok (.istore 5, 2) := by decide +kernel
theorem dJ6_getChars_ba4f3_3 : decode cJ6_getChars_ba4f3 3 = .ok (.iload_n 0, 1) := by decide +kernel
theorem dJ6_getChars_ba4f3_4 : decode cJ6_getChars_ba4f3 4 = .ok (.ifCond .ge 7, 3) := by decide +kernel
theorem dJ6_getChars_ba4f3_7 : decode cJ6_getChars_ba4f3 7 = .ok (.iconst 1, 1) := by decide +kernel
theorem dJ6_getChars_ba4f3_8 : decode cJ6_getChars_ba4f3 8 = .ok (.goto 4, 3) := by decide +kernel
theorem dJ6_getChars_ba4f3_11 : decode cJ6_getChars_ba4f3 11 = .ok (.iconst 0, 1) := by decide +kernel
theorem dJ6_getChars_ba4f3_12 : decode cJ6_getChars_ba4f3 12 = .ok (.istore 6, 2) := by decide +kernel
theorem dJ6_getChars_ba4f3_14 : decode cJ6_getChars_ba4f3 14 = .ok (.iload 6, 2) := by decide +kernel
theorem dJ6_getChars_ba4f3_16 : decode cJ6_getChars_ba4f3 16 = .ok (.ifCond .ne 6, 3) := by decide +kernel
theorem dJ6_getChars_ba4f3_19 : decode cJ6_getChars_ba4f3 19 = .ok (.iload_n 0, 1) := by decide +kernel
theorem dJ6_getChars_ba4f3_20 : decode cJ6_getChars_ba4f3 20 = .ok (.ineg, 1) := by decide +kernel
theorem dJ6_getChars_ba4f3_21 : decode cJ6_getChars_ba4f3 21 = .ok (.istore_n 0, 1) := by decide +kernel
theorem dJ6_getChars_ba4f3_22 : decode cJ6_getChars_ba4f3 22 = .ok (.iload_n 0, 1) := by decide +kernel
theorem dJ6_getChars_ba4f3_23 : decode cJ6_getChars_ba4f3 23 = .ok (.bipush (-100), 2) := by decide +kernel
theorem dJ6_getChars_ba4f3_25 : decode cJ6_getChars_ba4f3 25 = .ok (.if_icmp .gt 47, 3) := by decide +kernel
theorem dJ6_getChars_ba4f3_28 : decode cJ6_getChars_ba4f3 28 = .ok (.iload_n 0, 1) := by decide +kernel
theorem dJ6_getChars_ba4f3_29 : decode cJ6_getChars_ba4f3 29 = .ok (.bipush 100, 2) := by decide +kernel
theorem dJ6_getChars_ba4f3_31 : decode cJ6_getChars_ba4f3 31 = .ok (.idiv, 1) := by decide +kernel
theorem dJ6_getChars_ba4f3_32 : decode cJ6_getChars_ba4f3 32 = .ok (.istore_n 3, 1) := by decide +kernel
theorem dJ6_getChars_ba4f3_33 : decode cJ6_getChars_ba4f3 33 = .ok (.iload_n 3, 1) := by decide +kernel
theorem dJ6_getChars_ba4f3_34 : decode cJ6_getChars_ba4f3 34 = .ok (.bipush 100, 2) := by decide +kernel
theorem dJ6_getChars_ba4f3_36 : decode cJ6_getChars_ba4f3 36 = .ok (.imul, 1) := by decide +kernel
theorem dJ6_getChars_ba4f3_37 : decode cJ6_getChars_ba4f3 37 = .ok (.iload_n 0, 1) := by decide +kernel
theorem dJ6_getChars_ba4f3_38 : decode cJ6_getChars_ba4f3 38 = .ok (.isub, 1) := by decide +kernel
theorem dJ6_getChars_ba4f3_39 : decode cJ6_getChars_ba4f3 39 = .ok (.istore 4, 2) := by decide +kernel
theorem dJ6_getChars_ba4f3_41 : decode cJ6_getChars_ba4f3 41 = .ok (.iload_n 3, 1) := by decide +kernel
theorem dJ6_getChars_ba4f3_42 : decode cJ6_getChars_ba4f3 42 = .ok (.istore_n 0, 1) := by decide +kernel
theorem dJ6_getChars_ba4f3_43 : decode cJ6_getChars_ba4f3 43 = .ok (.aload_n 2, 1) := by decide +kernel
theorem dJ6_getChars_ba4f3_44 : decode cJ6_getChars_ba4f3 44 = .ok (.iinc 5 (-1), 3) := by decide +kernel
theorem dJ6_getChars_ba4f3_47 : decode cJ6_getChars_ba4f3 47 = .ok (.iload 5, 2) := by decide +kernel
theorem dJ6_getChars_ba4f3_49 : decode cJ6_getChars_ba4f3 49 = .ok (.getstatic 83, 3) := by decide +kernel
theorem dJ6_getChars_ba4f3_52 : decode cJ6_getChars_ba4f3 52 = .ok (.iload 4, 2) := by decide +kernel
theorem dJ6_getChars_ba4f3_54 : decode cJ6_getChars_ba4f3 54 = .ok (.baload, 1) := by decide +kernel
theorem dJ6_getChars_ba4f3_55 : decode cJ6_getChars_ba4f3 55 = .ok (.bastore, 1) := by decide +kernel
theorem dJ6_getChars_ba4f3_56 : decode cJ6_getChars_ba4f3 56 = .ok (.aload_n 2, 1) := by decide +kernel
theorem dJ6_getChars_ba4f3_57 : decode cJ6_getChars_ba4f3 57 = .ok (.iinc 5 (-1), 3) := by decide +kernel
theorem dJ6_getChars_ba4f3_60 : decode cJ6_getChars_ba4f3 60 = .ok (.iload 5, 2) := by decide +kernel
theorem dJ6_getChars_ba4f3_62 : decode cJ6_getChars_ba4f3 62 = .ok (.getstatic 87, 3) := by decide +kernel
theorem dJ6_getChars_ba4f3_65 : decode cJ6_getChars_ba4f3 65 = .ok (.iload 4, 2) := by decide +kernel
theorem dJ6_getChars_ba4f3_67 : decode cJ6_getChars_ba4f3 67 = .ok (.baload, 1) := by decide +kernel
theorem dJ6_getChars_ba4f3_68 : decode cJ6_getChars_ba4f3 68 = .ok (.bastore, 1) := by decide +kernel
theorem dJ6_getChars_ba4f3_69 : decode cJ6_getChars_ba4f3 69 = .ok (.goto (-47), 3) := by decide +kernel
theorem dJ6_getChars_ba4f3_72 : decode cJ6_getChars_ba4f3 72 = .ok (.aload_n 2, 1) := by decide +kernel
theorem dJ6_getChars_ba4f3_73 : decode cJ6_getChars_ba4f3 73 = .ok (.iinc 5 (-1), 3) := by decide +kernel
theorem dJ6_getChars_ba4f3_76 : decode cJ6_getChars_ba4f3 76 = .ok (.iload 5, 2) := by decide +kernel
theorem dJ6_getChars_ba4f3_78 : decode cJ6_getChars_ba4f3 78 = .ok (.getstatic 83, 3) := by decide +kernel
theorem dJ6_getChars_ba4f3_81 : decode cJ6_getChars_ba4f3 81 = .ok (.iload_n 0, 1) := by decide +kernel
theorem dJ6_getChars_ba4f3_82 : decode cJ6_getChars_ba4f3 82 = .ok (.ineg, 1) := by decide +kernel
theorem dJ6_getChars_ba4f3_83 : decode cJ6_getChars_ba4f3 83 = .ok (.baload, 1) := by decide +kernel
theorem dJ6_getChars_ba4f3_84 : decode cJ6_getChars_ba4f3 84 = .ok (.bastore, 1) := by decide +kernel
theorem dJ6_getChars_ba4f3_85 : decode cJ6_getChars_ba4f3 85 = .ok (.iload_n 0, 1) := by decide +kernel
theorem dJ6_getChars_ba4f3_86 : decode cJ6_getChars_ba4f3 86 = .ok (.bipush (-9), 2) := by decide +kernel
theorem dJ6_getChars_ba4f3_88 : decode cJ6_getChars_ba4f3 88 = .ok (.if_icmp .ge 16, 3) := by decide +kernel
theorem dJ6_getChars_ba4f3_91 : decode cJ6_getChars_ba4f3 91 = .ok (.aload_n 2, 1) := by decide +kernel
theorem dJ6_getChars_ba4f3_92 : decode cJ6_getChars_ba4f3 92 = .ok (.iinc 5 (-1), 3) := by decide +kernel
theorem dJ6_getChars_ba4f3_95 : decode cJ6_getChars_ba4f3 95 = .ok (.iload 5, 2) := by decide +kernel
theorem dJ6_getChars_ba4f3_97 : decode cJ6_getChars_ba4f3 97 = .ok (.getstatic 87, 3) := by decide +kernel
theorem dJ6_getChars_ba4f3_100 : decode cJ6_getChars_ba4f3 100 = .ok (.iload_n 0, 1) := by decide +kernel
theorem dJ6_getChars_ba4f3_101 : decode cJ6_getChars_ba4f3 101 = .ok (.ineg, 1) := by decide +kernel
theorem dJ6_getChars_ba4f3_102 : decode cJ6_getChars_ba4f3 102 = .ok (.baload, 1) := by decide +kernel
theorem dJ6_getChars_ba4f3_103 : decode cJ6_getChars_ba4f3 103 = .ok (.bastore, 1) := by decide +kernel
theorem dJ6_getChars_ba4f3_104 : decode cJ6_getChars_ba4f3 104 = .ok (.iload 6, 2) := by decide +kernel
theorem dJ6_getChars_ba4f3_106 : decode cJ6_getChars_ba4f3 106 = .ok (.ifCond .eq 12, 3) := by decide +kernel
theorem dJ6_getChars_ba4f3_109 : decode cJ6_getChars_ba4f3 109 = .ok (.aload_n 2, 1) := by decide +kernel
theorem dJ6_getChars_ba4f3_110 : decode cJ6_getChars_ba4f3 110 = .ok (.iinc 5 (-1), 3) := by decide +kernel
theorem dJ6_getChars_ba4f3_113 : decode cJ6_getChars_ba4f3 113 = .ok (.iload 5, 2) := by decide +kernel
theorem dJ6_getChars_ba4f3_115 : decode cJ6_getChars_ba4f3 115 = .ok (.bipush 45, 2) := by decide +kernel
theorem dJ6_getChars_ba4f3_117 : decode cJ6_getChars_ba4f3 117 = .ok (.bastore, 1) := by decide +kernel
theorem dJ6_getChars_ba4f3_118 : decode cJ6_getChars_ba4f3 118 = .ok (.iload 5, 2) := by decide +kernel
theorem dJ6_getChars_ba4f3_120 : decode cJ6_getChars_ba4f3 120 = .ok (.ireturn, 1) := by decide +kernel
theorem dJ6_stringSize_0f7a4_0 : decode cJ6_stringSize_0f7a4 0 = .ok (.iconst 1, 1) := by decide +kernel
theorem dJ6_stringSize_0f7a4_1 : decode cJ6_stringSize_0f7a4 1 = .ok (.istore_n 1, 1) := by decide +kernel
theorem dJ6_stringSize_0f7a4_2 : decode cJ6_stringSize_0f7a4 2 = .ok (.iload_n 0, 1) := by decide +kernel
theorem dJ6_stringSize_0f7a4_3 : decode cJ6_stringSize_0f7a4 3 = .ok (.ifCond .lt 8, 3) := by decide +kernel
theorem dJ6_stringSize_0f7a4_6 : decode cJ6_stringSize_0f7a4 6 = .ok (.iconst 0, 1) := by decide +kernel
theorem dJ6_stringSize_0f7a4_7 : decode cJ6_stringSize_0f7a4 7 = .ok (.istore_n 1, 1) := by decide +kernel
theorem dJ6_stringSize_0f7a4_8 : decode cJ6_stringSize_0f7a4 8 = .ok (.iload_n 0, 1) := by decide +kernel
theorem dJ6_stringSize_0f7a4_9 : decode cJ6_stringSize_0f7a4 9 = .ok (.ineg, 1) := by decide +kernel
theorem dJ6_stringSize_0f7a4_10 : decode cJ6_stringSize_0f7a4 10 = .ok (.istore_n 0, 1) := by decide +kernel
theorem dJ6_stringSize_0f7a4_11 : decode cJ6_stringSize_0f7a4 11 = .ok (.bipush (-10), 2) := by decide +kernel
theorem dJ6_stringSize_0f7a4_13 : decode cJ6_stringSize_0f7a4 13 = .ok (.istore_n 2, 1) := by decide +kernel
theorem dJ6_stringSize_0f7a4_14 : decode cJ6_stringSize_0f7a4 14 = .ok (.iconst 1, 1) := by decide +kernel
theorem dJ6_stringSize_0f7a4_15 : decode cJ6_stringSize_0f7a4 15 = .ok (.istore_n 3, 1) := by decide +kernel
theorem dJ6_stringSize_0f7a4_16 : decode cJ6_stringSize_0f7a4 16 = .ok (.iload_n 3, 1) := by decide +kernel
theorem dJ6_stringSize_0f7a4_17 : decode cJ6_stringSize_0f7a4 17 = .ok (.bipush 10, 2) := by decide +kernel
theorem dJ6_stringSize_0f7a4_19 : decode cJ6_stringSize_0f7a4 19 = .ok (.if_icmp .ge 23, 3) := by decide +kernel
theorem dJ6_stringSize_0f7a4_22 : decode cJ6_stringSize_0f7a4 22 = .ok (.iload_n 0, 1) := by decide +kernel
theorem dJ6_stringSize_0f7a4_23 : decode cJ6_stringSize_0f7a4 23 = .ok (.iload_n 2, 1) := by decide +kernel
theorem dJ6_stringSize_0f7a4_24 : decode cJ6_stringSize_0f7a4 24 = .ok (.if_icmp .le 7, 3) := by decide +kernel
theorem dJ6_stringSize_0f7a4_27 : decode cJ6_stringSize_0f7a4 27 = .ok (.iload_n 3, 1) := by decide +kernel
theorem dJ6_stringSize_0f7a4_28 : decode cJ6_stringSize_0f7a4 28 = .ok (.iload_n 1, 1) := by decide +kernel
theorem dJ6_stringSize_0f7a4_29 : decode cJ6_stringSize_0f7a4 29 = .ok (.iadd, 1) := by decide +kernel
theorem dJ6_stringSize_0f7a4_30 : decode cJ6_stringSize_0f7a4 30 = .ok (.ireturn, 1) := by decide +kernel
theorem dJ6_stringSize_0f7a4_31 : decode cJ6_stringSize_0f7a4 31 = .ok (.bipush 10, 2) := by decide +kernel
theorem dJ6_stringSize_0f7a4_33 : decode cJ6_stringSize_0f7a4 33 = .ok (.iload_n 2, 1) := by decide +kernel
theorem dJ6_stringSize_0f7a4_34 : decode cJ6_stringSize_0f7a4 34 = .ok (.imul, 1) := by decide +kernel
theorem dJ6_stringSize_0f7a4_35 : decode cJ6_stringSize_0f7a4 35 = .ok (.istore_n 2, 1) := by decide +kernel
theorem dJ6_stringSize_0f7a4_36 : decode cJ6_stringSize_0f7a4 36 = .ok (.iinc 3 1, 3) := by decide +kernel
theorem dJ6_stringSize_0f7a4_39 : decode cJ6_stringSize_0f7a4 39 = .ok (.goto (-23), 3) := by decide +kernel
theorem dJ6_stringSize_0f7a4_42 : decode cJ6_stringSize_0f7a4 42 = .ok (.bipush 10, 2) := by decide +kernel
theorem dJ6_stringSize_0f7a4_44 : decode cJ6_stringSize_0f7a4 44 = .ok (.iload_n 1, 1) := by decide +kernel
theorem dJ6_stringSize_0f7a4_45 : decode cJ6_stringSize_0f7a4 45 = .ok (.iadd, 1) := by decide +kernel
theorem dJ6_stringSize_0f7a4_46 : decode cJ6_stringSize_0f7a4 46 = .ok (.ireturn, 1) := by decide +kernel
theorem dJ6_numberOfLeadingZeros_0f7a4_0 : decode cJ6_numberOfLeadingZeros_0f7a4 0 = .ok (.iload_n 0, 1) := by decide +kernel
theorem dJ6_numberOfLeadingZeros_0f7a4_1 : decode cJ6_numberOfLeadingZeros_0f7a4 1 = .ok (.ifCond .gt 14, 3) := by decide +kernel
theorem dJ6_numberOfLeadingZeros_0f7a4_4 : decode cJ6_numberOfLeadingZeros_0f7a4 4 = .ok (.iload_n 0, 1) := by decide +kernel
theorem dJ6_numberOfLeadingZeros_0f7a4_5 : decode cJ6_numberOfLeadingZeros_0f7a4 5 = .ok (.ifCond .ne 8, 3) := by decide +kernel
theorem dJ6_numberOfLeadingZeros_0f7a4_8 : decode cJ6_numberOfLeadingZeros_0f7a4 8 = .ok (.bipush 32, 2) := by decide +kernel
theorem dJ6_numberOfLeadingZeros_0f7a4_10 : decode cJ6_numberOfLeadingZeros_0f7a4 10 = .ok (.goto 4, 3) := by decide +kernel
theorem dJ6_numberOfLeadingZeros_0f7a4_13 : decode cJ6_numberOfLeadingZeros_0f7a4 13 = .ok (.iconst 0, 1) := by decide +kernel
theorem dJ6_numberOfLeadingZeros_0f7a4_14 : decode cJ6_numberOfLeadingZeros_0f7a4 14 = .ok (.ireturn, 1) := by decide +kernel
theorem dJ6_numberOfLeadingZeros_0f7a4_15 : decode cJ6_numberOfLeadingZeros_0f7a4 15 = .ok (.bipush 31, 2) := by decide +kernel
theorem dJ6_numberOfLeadingZeros_0f7a4_17 : decode cJ6_numberOfLeadingZeros_0f7a4 17 = .ok (.istore_n 1, 1) := by decide +kernel
theorem dJ6_numberOfLeadingZeros_0f7a4_18 : decode cJ6_numberOfLeadingZeros_0f7a4 18 = .ok (.iload_n 0, 1) := by decide +kernel
theorem dJ6_numberOfLeadingZeros_0f7a4_19 : decode cJ6_numberOfLeadingZeros_0f7a4 19 = .ok (.ldc_w 264, 3) := by decide +kernel
theorem dJ6_numberOfLeadingZeros_0f7a4_22 : decode cJ6_numberOfLeadingZeros_0f7a4 22 = .ok (.if_icmp .lt 11, 3) := by decide +kernel
theorem dJ6_numberOfLeadingZeros_0f7a4_25 : decode cJ6_numberOfLeadingZeros_0f7a4 25 = .ok (.iinc 1 (-16), 3) := by decide +kernel
theorem dJ6_numberOfLeadingZeros_0f7a4_28 : decode cJ6_numberOfLeadingZeros_0f7a4 28 = .ok (.iload_n 0, 1) := by decide +kernel
theorem dJ6_numberOfLeadingZeros_0f7a4_29 : decode cJ6_numberOfLeadingZeros_0f7a4 29 = .ok (.bipush 16, 2) := by decide +kernel
theorem dJ6_numberOfLeadingZeros_0f7a4_31 : decode cJ6_numberOfLeadingZeros_0f7a4 31 = .ok (.iushr, 1) := by decide +kernel
theorem dJ6_numberOfLeadingZeros_0f7a4_32 : decode cJ6_numberOfLeadingZeros_0f7a4 32 = .ok (.istore_n 0, 1) := by decide +kernel
theorem dJ6_numberOfLeadingZeros_0f7a4_33 : decode cJ6_numberOfLeadingZeros_0f7a4 33 = .ok (.iload_n 0, 1) := by decide +kernel
theorem dJ6_numberOfLeadingZeros_0f7a4_34 : decode cJ6_numberOfLeadingZeros_0f7a4 34 = .ok (.sipush 256, 3) := by decide +kernel
theorem dJ6_numberOfLeadingZeros_0f7a4_37 : decode cJ6_numberOfLeadingZeros_0f7a4 37 = .ok (.if_icmp .lt 11, 3) := by decide +kernel
theorem dJ6_numberOfLeadingZeros_0f7a4_40 : decode cJ6_numberOfLeadingZeros_0f7a4 40 = .ok (.iinc 1 (-8), 3) := by decide +kernel
theorem dJ6_numberOfLeadingZeros_0f7a4_43 : decode cJ6_numberOfLeadingZeros_0f7a4 43 = .ok (.iload_n 0, 1) := by decide +kernel
theorem dJ6_numberOfLeadingZeros_0f7a4_44 : decode cJ6_numberOfLeadingZeros_0f7a4 44 = .ok (.bipush 8, 2) := by decide +kernel
theorem dJ6_numberOfLeadingZeros_0f7a4_46 : decode cJ6_numberOfLeadingZeros_0f7a4 46 = .ok (.iushr, 1) := by decide +kernel
theorem dJ6_numberOfLeadingZeros_0f7a4_47 : decode cJ6_numberOfLeadingZeros_0f7a4 47 = .ok (.istore_n 0, 1) := by decide +kernel
theorem dJ6_numberOfLeadingZeros_0f7a4_48 : decode cJ6_numberOfLeadingZeros_0f7a4 48 = .ok (.iload_n 0, 1) := by decide +kernel
theorem dJ6_numberOfLeadingZeros_0f7a4_49 : decode cJ6_numberOfLeadingZeros_0f7a4 49 = .ok (.bipush 16, 2) := by decide +kernel
theorem dJ6_numberOfLeadingZeros_0f7a4_51 : decode cJ6_numberOfLeadingZeros_0f7a4 51 = .ok (.if_icmp .lt 10, 3) := by decide +kernel
theorem dJ6_numberOfLeadingZeros_0f7a4_54 : decode cJ6_numberOfLeadingZeros_0f7a4 54 = .ok (.iinc 1 (-4), 3) := by decide +kernel
theorem dJ6_numberOfLeadingZeros_0f7a4_57 : decode cJ6_numberOfLeadingZeros_0f7a4 57 = .ok (.iload_n 0, 1) := by decide +kernel
theorem dJ6_numberOfLeadingZeros_0f7a4_58 : decode cJ6_numberOfLeadingZeros_0f7a4 58 = .ok (.iconst 4, 1) := by decide +kernel
theorem dJ6_numberOfLeadingZeros_0f7a4_59 : decode cJ6_numberOfLeadingZeros_0f7a4 59 = .ok (.iushr, 1) := by decide +kernel
theorem dJ6_numberOfLeadingZeros_0f7a4_60 : decode cJ6_numberOfLeadingZeros_0f7a4 60 = .ok (.istore_n 0, 1) := by decide +kernel
theorem dJ6_numberOfLeadingZeros_0f7a4_61 : decode cJ6_numberOfLeadingZeros_0f7a4 61 = .ok (.iload_n 0, 1) := by decide +kernel
theorem dJ6_numberOfLeadingZeros_0f7a4_62 : decode cJ6_numberOfLeadingZeros_0f7a4 62 = .ok (.iconst 4, 1) := by decide +kernel
theorem dJ6_numberOfLeadingZeros_0f7a4_63 : decode cJ6_numberOfLeadingZeros_0f7a4 63 = .ok (.if_icmp .lt 10, 3) := by decide +kernel
theorem dJ6_numberOfLeadingZeros_0f7a4_66 : decode cJ6_numberOfLeadingZeros_0f7a4 66 = .ok (.iinc 1 (-2), 3) := by decide +kernel
theorem dJ6_numberOfLeadingZeros_0f7a4_69 : decode cJ6_numberOfLeadingZeros_0f7a4 69 = .ok (.iload_n 0, 1) := by decide +kernel
theorem dJ6_numberOfLeadingZeros_0f7a4_70 : decode cJ6_numberOfLeadingZeros_0f7a4 70 = .ok (.iconst 2, 1) := by decide +kernel
theorem dJ6_numberOfLeadingZeros_0f7a4_71 : decode cJ6_numberOfLeadingZeros_0f7a4 71 = .ok (.iushr, 1) := by decide +kernel
theorem dJ6_numberOfLeadingZeros_0f7a4_72 : decode cJ6_numberOfLeadingZeros_0f7a4 72 = .ok (.istore_n 0, 1) := by decide +kernel
theorem dJ6_numberOfLeadingZeros_0f7a4_73 : decode cJ6_numberOfLeadingZeros_0f7a4 73 = .ok (.iload_n 1, 1) := by decide +kernel
theorem dJ6_numberOfLeadingZeros_0f7a4_74 : decode cJ6_numberOfLeadingZeros_0f7a4 74 = .ok (.iload_n 0, 1) := by decide +kernel
theorem dJ6_numberOfLeadingZeros_0f7a4_75 : decode cJ6_numberOfLeadingZeros_0f7a4 75 = .ok (.iconst 1, 1) := by decide +kernel
theorem dJ6_numberOfLeadingZeros_0f7a4_76 : decode cJ6_numberOfLeadingZeros_0f7a4 76 = .ok (.iushr, 1) := by decide +kernel
theorem dJ6_numberOfLeadingZeros_0f7a4_77 : decode cJ6_numberOfLeadingZeros_0f7a4 77 = .ok (.isub, 1) := by decide +kernel
theorem dJ6_numberOfLeadingZeros_0f7a4_78 : decode cJ6_numberOfLeadingZeros_0f7a4 78 = .ok (.ireturn, 1) := by decide +kernel
theorem dJ6_bitCount_0f7a4_0 : decode cJ6_bitCount_0f7a4 0 = .ok (.iload_n 0, 1) := by decide +kernel
theorem dJ6_bitCount_0f7a4_1 : decode cJ6_bitCount_0f7a4 1 = .ok (.iload_n 0, 1) := by decide +kernel
theorem dJ6_bitCount_0f7a4_2 : decode cJ6_bitCount_0f7a4 2 = .ok (.iconst 1, 1) := by decide +kernel
theorem dJ6_bitCount_0f7a4_3 : decode cJ6_bitCount_0f7a4 3 = .ok (.iushr, 1) := by decide +kernel
theorem dJ6_bitCount_0f7a4_4 : decode cJ6_bitCount_0f7a4 4 = .ok (.ldc_w 265, 3) := by decide +kernel
theorem dJ6_bitCount_0f7a4_7 : decode cJ6_bitCount_0f7a4 7 = .ok (.iand, 1) := by decide +kernel
theorem dJ6_bitCount_0f7a4_8 : decode cJ6_bitCount_0f7a4 8 = .ok (.isub, 1) := by decide +kernel
theorem dJ6_bitCount_0f7a4_9 : decode cJ6_bitCount_0f7a4 9 = .ok (.istore_n 0, 1) := by decide +kernel
theorem dJ6_bitCount_0f7a4_10 : decode cJ6_bitCount_0f7a4 10 = .ok (.iload_n 0, 1) := by decide +kernel
theorem dJ6_bitCount_0f7a4_11 : decode cJ6_bitCount_0f7a4 11 = .ok (.ldc_w 266, 3) := by decide +kernel
theorem dJ6_bitCount_0f7a4_14 : decode cJ6_bitCount_0f7a4 14 = .ok (.iand, 1) := by decide +kernel
theorem dJ6_bitCount_0f7a4_15 : decode cJ6_bitCount_0f7a4 15 = .ok (.iload_n 0, 1) := by decide +kernel
theorem dJ6_bitCount_0f7a4_16 : decode cJ6_bitCount_0f7a4 16 = .ok (.iconst 2, 1) := by decide +kernel
theorem dJ6_bitCount_0f7a4_17 : decode cJ6_bitCount_0f7a4 17 = .ok (.iushr, 1) := by decide +kernel
theorem dJ6_bitCount_0f7a4_18 : decode cJ6_bitCount_0f7a4 18 = .ok (.ldc_w 266, 3) := by decide +kernel
theorem dJ6_bitCount_0f7a4_21 : decode cJ6_bitCount_0f7a4 21 = .ok (.iand, 1) := by decide +kernel
theorem dJ6_bitCount_0f7a4_22 : decode cJ6_bitCount_0f7a4 22 = .ok (.iadd, 1) := by decide +kernel
theorem dJ6_bitCount_0f7a4_23 : decode cJ6_bitCount_0f7a4 23 = .ok (.istore_n 0, 1) := by decide +kernel
theorem dJ6_bitCount_0f7a4_24 : decode cJ6_bitCount_0f7a4 24 = .ok (.iload_n 0, 1) := by decide +kernel
theorem dJ6_bitCount_0f7a4_25 : decode cJ6_bitCount_0f7a4 25 = .ok (.iload_n 0, 1) := by decide +kernel
theorem dJ6_bitCount_0f7a4_26 : decode cJ6_bitCount_0f7a4 26 = .ok (.iconst 4, 1) := by decide +kernel
theorem dJ6_bitCount_0f7a4_27 : decode cJ6_bitCount_0f7a4 27 = .ok (.iushr, 1) := by decide +kernel
theorem dJ6_bitCount_0f7a4_28 : decode cJ6_bitCount_0f7a4 28 = .ok (.iadd, 1) := by decide +kernel
theorem dJ6_bitCount_0f7a4_29 : decode cJ6_bitCount_0f7a4 29 = .ok (.ldc_w 267, 3) := by decide +kernel
theorem dJ6_bitCount_0f7a4_32 : decode cJ6_bitCount_0f7a4 32 = .ok (.iand, 1) := by decide +kernel
theorem dJ6_bitCount_0f7a4_33 : decode cJ6_bitCount_0f7a4 33 = .ok (.istore_n 0, 1) := by decide +kernel
theorem dJ6_bitCount_0f7a4_34 : decode cJ6_bitCount_0f7a4 34 = .ok (.iload_n 0, 1) := by decide +kernel
theorem dJ6_bitCount_0f7a4_35 : decode cJ6_bitCount_0f7a4 35 = .ok (.iload_n 0, 1) := by decide +kernel
theorem dJ6_bitCount_0f7a4_36 : decode cJ6_bitCount_0f7a4 36 = .ok (.bipush 8, 2) := by decide +kernel
theorem dJ6_bitCount_0f7a4_38 : decode cJ6_bitCount_0f7a4 38 = .ok (.iushr, 1) := by decide +kernel
theorem dJ6_bitCount_0f7a4_39 : decode cJ6_bitCount_0f7a4 39 = .ok (.iadd, 1) := by decide +kernel
theorem dJ6_bitCount_0f7a4_40 : decode cJ6_bitCount_0f7a4 40 = .ok (.istore_n 0, 1) := by decide +kernel
theorem dJ6_bitCount_0f7a4_41 : decode cJ6_bitCount_0f7a4 41 = .ok (.iload_n 0, 1) := by decide +kernel
theorem dJ6_bitCount_0f7a4_42 : decode cJ6_bitCount_0f7a4 42 = .ok (.iload_n 0, 1) := by decide +kernel
theorem dJ6_bitCount_0f7a4_43 : decode cJ6_bitCount_0f7a4 43 = .ok (.bipush 16, 2) := by decide +kernel
theorem dJ6_bitCount_0f7a4_45 : decode cJ6_bitCount_0f7a4 45 = .ok (.iushr, 1) := by decide +kernel
theorem dJ6_bitCount_0f7a4_46 : decode cJ6_bitCount_0f7a4 46 = .ok (.iadd, 1) := by decide +kernel
theorem dJ6_bitCount_0f7a4_47 : decode cJ6_bitCount_0f7a4 47 = .ok (.istore_n 0, 1) := by decide +kernel
theorem dJ6_bitCount_0f7a4_48 : decode cJ6_bitCount_0f7a4 48 = .ok (.iload_n 0, 1) := by decide +kernel
theorem dJ6_bitCount_0f7a4_49 : decode cJ6_bitCount_0f7a4 49 = .ok (.bipush 63, 2) := by decide +kernel
theorem dJ6_bitCount_0f7a4_51 : decode cJ6_bitCount_0f7a4 51 = .ok (.iand, 1) := by decide +kernel
theorem dJ6_bitCount_0f7a4_52 : decode cJ6_bitCount_0f7a4 52 = .ok (.ireturn, 1) := by decide +kernel
theorem dJ9_abs_0f7a4_0 : decode cJ9_abs_0f7a4 0 = .ok (.iload_n 0, 1) := by decide +kernel
theorem dJ9_abs_0f7a4_1 : decode cJ9_abs_0f7a4 1 = .ok (.ifCond .ge 8, 3) := by decide +kernel
theorem dJ9_abs_0f7a4_4 : decode cJ9_abs_0f7a4 4 = .ok (.iload_n 0, 1) := by decide +kernel
theorem dJ9_abs_0f7a4_5 : decode cJ9_abs_0f7a4 5 = .ok (.ineg, 1) := by decide +kernel
theorem dJ9_abs_0f7a4_6 : decode cJ9_abs_0f7a4 6 = .ok (.goto 4, 3) := by decide +kernel
theorem dJ9_abs_0f7a4_9 : decode cJ9_abs_0f7a4 9 = .ok (.iload_n 0, 1) := by decide +kernel
theorem dJ9_abs_0f7a4_10 : decode cJ9_abs_0f7a4 10 = .ok (.ireturn, 1) := by decide +kernel
theorem dJ9_max_7cf53_0 : decode cJ9_max_7cf53 0 = .ok (.iload_n 0, 1) := by decide +kernel
theorem dJ9_max_7cf53_1 : decode cJ9_max_7cf53 1 = .ok (.iload_n 1, 1) := by decide +kernel
theorem dJ9_max_7cf53_2 : decode cJ9_max_7cf53 2 = .ok (.if_icmp .lt 7, 3) := by decide +kernel
theorem dJ9_max_7cf53_5 : decode cJ9_max_7cf53 5 = .ok (.iload_n 0, 1) := by decide +kernel
theorem dJ9_max_7cf53_6 : decode cJ9_max_7cf53 6 = .ok (.goto 4, 3) := by decide +kernel
theorem dJ9_max_7cf53_9 : decode cJ9_max_7cf53 9 = .ok (.iload_n 1, 1) := by decide +kernel
theorem dJ9_max_7cf53_10 : decode cJ9_max_7cf53 10 = .ok (.ireturn, 1) := by decide +kernel
theorem dJ9_min_7cf53_0 : decode cJ9_min_7cf53 0 = .ok (.iload_n 0, 1) := by decide +kernel
theorem dJ9_min_7cf53_1 : decode cJ9_min_7cf53 1 = .ok (.iload_n 1, 1) := by decide +kernel
theorem dJ9_min_7cf53_2 : decode cJ9_min_7cf53 2 = .ok (.if_icmp .gt 7, 3) := by decide +kernel
theorem dJ9_min_7cf53_5 : decode cJ9_min_7cf53 5 = .ok (.iload_n 0, 1) := by decide +kernel
theorem dJ9_min_7cf53_6 : decode cJ9_min_7cf53 6 = .ok (.goto 4, 3) := by decide +kernel
theorem dJ9_min_7cf53_9 : decode cJ9_min_7cf53 9 = .ok (.iload_n 1, 1) := by decide +kernel
theorem dJ9_min_7cf53_10 : decode cJ9_min_7cf53 10 = .ok (.ireturn, 1) := by decide +kernel
theorem dJ0_init_81219_0 : decode cJ0_init_81219 0 = .ok (.aload_n 0, 1) := by decide +kernel
theorem dJ0_init_81219_1 : decode cJ0_init_81219 1 = .ok (.aload_n 1, 1) := by decide +kernel
theorem dJ0_init_81219_2 : decode cJ0_init_81219 2 = .ok (.aconst_null, 1) := by decide +kernel
theorem dJ0_init_81219_3 : decode cJ0_init_81219 3 = .ok (.invokespecial 489, 3) := by decide +kernel
theorem dJ0_init_81219_6 : decode cJ0_init_81219 6 = .ok (.return_, 1) := by decide +kernel
theorem dJ0_length_8abf5_0 : decode cJ0_length_8abf5 0 = .ok (.aload_n 0, 1) := by decide +kernel
theorem dJ0_length_8abf5_1 : decode cJ0_length_8abf5 1 = .ok (.getfield 9, 3) := by decide +kernel
theorem dJ0_length_8abf5_4 : decode cJ0_length_8abf5 4 = .ok (.arraylength, 1) := by decide +kernel
theorem dJ0_length_8abf5_5 : decode cJ0_length_8abf5 5 = .ok (.aload_n 0, 1) := by decide +kernel
theorem dJ0_length_8abf5_6 : decode cJ0_length_8abf5 6 = .ok (.invokevirtual 335, 3) := by decide +kernel
theorem dJ0_length_8abf5_9 : decode cJ0_length_8abf5 9 = .ok (.ishr, 1) := by decide +kernel
theorem dJ0_length_8abf5_10 : decode cJ0_length_8abf5 10 = .ok (.ireturn, 1) := by decide +kernel
theorem dJ0_charAt_5068e_0 : decode cJ0_charAt_5068e 0 = .ok (.aload_n 0, 1) := by decide +kernel
theorem dJ0_charAt_5068e_1 : decode cJ0_charAt_5068e 1 = .ok (.invokevirtual 492, 3) := by decide +kernel
theorem dJ0_charAt_5068e_4 : decode cJ0_charAt_5068e 4 = .ok (.ifCond .eq 12, 3) := by decide +kernel
theorem dJ0_charAt_5068e_7 : decode cJ0_charAt_5068e 7 = .ok (.aload_n 0, 1) := by decide +kernel
theorem dJ0_charAt_5068e_8 : decode cJ0_charAt_5068e 8 = .ok (.getfield 9, 3) := by decide +kernel
theorem dJ0_charAt_5068e_11 : decode cJ0_charAt_5068e 11 = .ok (.iload_n 1, 1) := by decide +kernel
theorem dJ0_charAt_5068e_12 : decode cJ0_charAt_5068e 12 = .ok (.invokestatic 495, 3) := by decide +kernel
theorem dJ0_charAt_5068e_15 : decode cJ0_charAt_5068e 15 = .ok (.ireturn, 1) := by decide +kernel
theorem dJ0_charAt_5068e_16 : decode cJ0_charAt_5068e 16 = .ok (.aload_n 0, 1) := by decide +kernel
theorem dJ0_charAt_5068e_17 : decode cJ0_charAt_5068e 17 = .ok (.getfield 9, 3) := by decide +kernel
theorem dJ0_charAt_5068e_20 : decode cJ0_charAt_5068e 20 = .ok (.iload_n 1, 1) := by decide +kernel
theorem dJ0_charAt_5068e_21 : decode cJ0_charAt_5068e 21 = .ok (.invokestatic 498, 3) := by decide +kernel
theorem dJ0_charAt_5068e_24 : decode cJ0_charAt_5068e 24 = .ok (.ireturn, 1) := by decide +kernel
theorem dJ0_getBytes_840e7_0 : decode cJ0_getBytes_840e7 0 = .ok (.aload_n 0, 1) := by decide +kernel
theorem dJ0_getBytes_840e7_1 : decode cJ0_getBytes_840e7 1 = .ok (.invokevirtual 335, 3) := by decide +kernel
theorem dJ0_getBytes_840e7_4 : decode cJ0_getBytes_840e7 4 = .ok (.iload_n 3, 1) := by decide +kernel
theorem dJ0_getBytes_840e7_5 : decode cJ0_getBytes_840e7 5 = .ok (.if_icmp .ne 23, 3) := by decide +kernel
theorem dJ0_getBytes_840e7_8 : decode cJ0_getBytes_840e7 8 = .ok (.aload_n 0, 1) := by decide +kernel
theorem dJ0_getBytes_840e7_9 : decode cJ0_getBytes_840e7 9 = .ok (.getfield 9, 3) := by decide +kernel
theorem dJ0_getBytes_840e7_12 : decode cJ0_getBytes_840e7 12 = .ok (.iconst 0, 1) := by decide +kernel
theorem dJ0_getBytes_840e7_13 : decode cJ0_getBytes_840e7 13 = .ok (.aload_n 1, 1) := by decide +kernel
theorem dJ0_getBytes_840e7_14 : decode cJ0_getBytes_840e7 14 = .ok (.iload_n 2, 1) := by decide +kernel
theorem dJ0_getBytes_840e7_15 : decode cJ0_getBytes_840e7 15 = .ok (.iload_n 3, 1) := by decide +kernel
theorem dJ0_getBytes_840e7_16 : decode cJ0_getBytes_840e7 16 = .ok (.ishl, 1) := by decide +kernel
theorem dJ0_getBytes_840e7_17 : decode cJ0_getBytes_840e7 17 = .ok (.aload_n 0, 1) := by decide +kernel
theorem dJ0_getBytes_840e7_18 : decode cJ0_getBytes_840e7 18 = .ok (.getfield 9, 3) := by decide +kernel
theorem dJ0_getBytes_840e7_21 : decode cJ0_getBytes_840e7 21 = .ok (.arraylength, 1) := by decide +kernel
theorem dJ0_getBytes_840e7_22 : decode cJ0_getBytes_840e7 22 = .ok (.invokestatic 212, 3) := by decide +kernel
theorem dJ0_getBytes_840e7_25 : decode cJ0_getBytes_840e7 25 = .ok (.goto 18, 3) := by decide +kernel
theorem dJ0_getBytes_840e7_28 : decode cJ0_getBytes_840e7 28 = .ok (.aload_n 0, 1) := by decide +kernel
theorem dJ0_getBytes_840e7_29 : decode cJ0_getBytes_840e7 29 = .ok (.getfield 9, 3) := by decide +kernel
theorem dJ0_getBytes_840e7_32 : decode cJ0_getBytes_840e7 32 = .ok (.iconst 0, 1) := by decide +kernel
theorem dJ0_getBytes_840e7_33 : decode cJ0_getBytes_840e7 33 = .ok (.aload_n 1, 1) := by decide +kernel
theorem dJ0_getBytes_840e7_34 : decode cJ0_getBytes_840e7 34 = .ok (.iload_n 2, 1) := by decide +kernel
theorem dJ0_getBytes_840e7_35 : decode cJ0_getBytes_840e7 35 = .ok (.aload_n 0, 1) := by decide +kernel
theorem dJ0_getBytes_840e7_36 : decode cJ0_getBytes_840e7 36 = .ok (.getfield 9, 3) := by decide +kernel
theorem dJ0_getBytes_840e7_39 : decode cJ0_getBytes_840e7 39 = .ok (.arraylength, 1) := by decide +kernel
theorem dJ0_getBytes_840e7_40 : decode cJ0_getBytes_840e7 40 = .ok (.invokestatic 106, 3) := by decide +kernel
theorem dJ0_getBytes_840e7_43 : decode cJ0_getBytes_840e7 43 = .ok (.return_, 1) := by decide +kernel
theorem dJ0_init_db425_0 : decode cJ0_init_db425 0 = .ok (.aload_n 0, 1) := by decide +kernel
theorem dJ0_init_db425_1 : decode cJ0_init_db425 1 = .ok (.invokespecial 1, 3) := by decide +kernel
theorem dJ0_init_db425_4 : decode cJ0_init_db425 4 = .ok (.aload_n 1, 1) := by decide +kernel
theorem dJ0_init_db425_5 : decode cJ0_init_db425 5 = .ok (.invokevirtual 552, 3) := by decide +kernel
theorem dJ0_init_db425_8 : decode cJ0_init_db425 8 = .ok (.astore_n 3, 1) := by decide +kernel
theorem dJ0_init_db425_9 : decode cJ0_init_db425 9 = .ok (.aload_n 1, 1) := by decide +kernel
theorem dJ0_init_db425_10 : decode cJ0_init_db425 10 = .ok (.invokevirtual 549, 3) := by decide +kernel
theorem dJ0_init_db425_13 : decode cJ0_init_db425 13 = .ok (.istore 4, 2) := by decide +kernel
theorem dJ0_init_db425_15 : decode cJ0_init_db425 15 = .ok (.aload_n 1, 1) := by decide +kernel
theorem dJ0_init_db425_16 : decode cJ0_init_db425 16 = .ok (.invokevirtual 1047, 3) := by decide +kernel
theorem dJ0_init_db425_19 : decode cJ0_init_db425 19 = .ok (.ifCond .eq 22, 3) := by decide +kernel
theorem dJ0_init_db425_22 : decode cJ0_init_db425 22 = .ok (.aload_n 0, 1) := by decide +kernel
theorem dJ0_init_db425_23 : decode cJ0_init_db425 23 = .ok (.iconst 0, 1) := by decide +kernel
theorem dJ0_init_db425_24 : decode cJ0_init_db425 24 = .ok (.putfield 15, 3) := by decide +kernel
theorem dJ0_init_db425_27 : decode cJ0_init_db425 27 = .ok (.aload_n 0, 1) := by decide +kernel
theorem dJ0_init_db425_28 : decode cJ0_init_db425 28 = .ok (.aload_n 3, 1) := by decide +kernel
theorem dJ0_init_db425_29 : decode cJ0_init_db425 29 = .ok (.iconst 0, 1) := by decide +kernel
theorem dJ0_init_db425_30 : decode cJ0_init_db425 30 = .ok (.iload 4, 2) := by decide +kernel
theorem dJ0_init_db425_32 : decode cJ0_init_db425 32 = .ok (.invokestatic 54, 3) := by decide +kernel
theorem dJ0_init_db425_35 : decode cJ0_init_db425 35 = .ok (.putfield 9, 3) := by decide +kernel
theorem dJ0_init_db425_38 : decode cJ0_init_db425 38 = .ok (.goto 59, 3) := by decide +kernel
theorem dJ0_init_db425_41 : decode cJ0_init_db425 41 = .ok (.getstatic 38, 3) := by decide +kernel
theorem dJ0_init_db425_44 : decode cJ0_init_db425 44 = .ok (.ifCond .eq 35, 3) := by decide +kernel
theorem dJ0_init_db425_47 : decode cJ0_init_db425 47 = .ok (.aload_n 1, 1) := by decide +kernel
theorem dJ0_init_db425_48 : decode cJ0_init_db425 48 = .ok (.getfield 1048, 3) := by decide +kernel
theorem dJ0_init_db425_51 : decode cJ0_init_db425 51 = .ok (.ifCond .eq 28, 3) := by decide +kernel
theorem dJ0_init_db425_54 : decode cJ0_init_db425 54 = .ok (.aload_n 0, 1) := by decide +kernel
theorem dJ0_init_db425_55 : decode cJ0_init_db425 55 = .ok (.aload_n 3, 1) := by decide +kernel
theorem dJ0_init_db425_56 : decode cJ0_init_db425 56 = .ok (.iconst 0, 1) := by decide +kernel
theorem dJ0_init_db425_57 : decode cJ0_init_db425 57 = .ok (.iload 4, 2) := by decide +kernel
theorem dJ0_init_db425_59 : decode cJ0_init_db425 59 = .ok (.invokestatic 1051, 3) := by decide +kernel
theorem dJ0_init_db425_62 : decode cJ0_init_db425 62 = .ok (.putfield 9, 3) := by decide +kernel
theorem dJ0_init_db425_65 : decode cJ0_init_db425 65 = .ok (.aload_n 0, 1) := by decide +kernel
theorem dJ0_init_db425_66 : decode cJ0_init_db425 66 = .ok (.aload_n 0, 1) := by decide +kernel
theorem dJ0_init_db425_67 : decode cJ0_init_db425 67 = .ok (.getfield 9, 3) := by decide +kernel
theorem dJ0_init_db425_70 : decode cJ0_init_db425 70 = .ok (.iload 4, 2) := by decide +kernel
theorem dJ0_init_db425_72 : decode cJ0_init_db425 72 = .ok (.invokestatic 47, 3) := by decide +kernel
theorem dJ0_init_db425_75 : decode cJ0_init_db425 75 = .ok (.putfield 15, 3) := by decide +kernel
theorem dJ0_init_db425_78 : decode cJ0_init_db425 78 = .ok (.return_, 1) := by decide +kernel
theorem dJ0_init_db425_79 : decode cJ0_init_db425 79 = .ok (.aload_n 0, 1) := by decide +kernel
theorem dJ0_init_db425_80 : decode cJ0_init_db425 80 = .ok (.iconst 1, 1) := by decide +kernel
theorem dJ0_init_db425_81 : decode cJ0_init_db425 81 = .ok (.putfield 15, 3) := by decide +kernel
theorem dJ0_init_db425_84 : decode cJ0_init_db425 84 = .ok (.aload_n 0, 1) := by decide +kernel
theorem dJ0_init_db425_85 : decode cJ0_init_db425 85 = .ok (.aload_n 3, 1) := by decide +kernel
theorem dJ0_init_db425_86 : decode cJ0_init_db425 86 = .ok (.iconst 0, 1) := by decide +kernel
theorem dJ0_init_db425_87 : decode cJ0_init_db425 87 = .ok (.iload 4, 2) := by decide +kernel
theorem dJ0_init_db425_89 : decode cJ0_init_db425 89 = .ok (.iconst 1, 1) := by decide +kernel
theorem dJ0_init_db425_90 : decode cJ0_init_db425 90 = .ok (.ishl, 1) := by decide +kernel
theorem dJ0_init_db425_91 : decode cJ0_init_db425 91 = .ok (.invokestatic 54, 3) := by decide +kernel
theorem dJ0_init_db425_94 : decode cJ0_init_db425 94 = .ok (.putfield 9, 3) := by decide +kernel
theorem dJ0_init_db425_97 : decode cJ0_init_db425 97 = .ok (.return_, 1) := by decide +kernel
theorem dJ0_coder_7d493_0 : decode cJ0_coder_7d493 0 = .ok (.getstatic 38, 3) := by decide +kernel
theorem dJ0_coder_7d493_3 : decode cJ0_coder_7d493 3 = .ok (.ifCond .eq 10, 3) := by decide +kernel
theorem dJ0_coder_7d493_6 : decode cJ0_coder_7d493 6 = .ok (.aload_n 0, 1) := by decide +kernel
theorem dJ0_coder_7d493_7 : decode cJ0_coder_7d493 7 = .ok (.getfield 15, 3) := by decide +kernel
theorem dJ0_coder_7d493_10 : decode cJ0_coder_7d493 10 = .ok (.goto 4, 3) := by decide +kernel
theorem dJ0_coder_7d493_13 : decode cJ0_coder_7d493 13 = .ok (.iconst 1, 1) := by decide +kernel
theorem dJ0_coder_7d493_14 : decode cJ0_coder_7d493 14 = .ok (.ireturn, 1) := by decide +kernel
theorem dJ0_isLatin1_aae02_0 : decode cJ0_isLatin1_aae02 0 = .ok (.getstatic 38, 3) := by decide +kernel
theorem dJ0_isLatin1_aae02_3 : decode cJ0_isLatin1_aae02 3 = .ok (.ifCond .eq 14, 3) := by decide +kernel
theorem dJ0_isLatin1_aae02_6 : decode cJ0_isLatin1_aae02 6 = .ok (.aload_n 0, 1) := by decide +kernel
theorem dJ0_isLatin1_aae02_7 : decode cJ0_isLatin1_aae02 7 = .ok (.getfield 15, 3) := by decide +kernel
theorem dJ0_isLatin1_aae02_10 : decode cJ0_isLatin1_aae02 10 = .ok (.ifCond .ne 7, 3) := by decide +kernel
theorem dJ0_isLatin1_aae02_13 : decode cJ0_isLatin1_aae02 13 = .ok (.iconst 1, 1) := by decide +kernel
theorem dJ0_isLatin1_aae02_14 : decode cJ0_isLatin1_aae02 14 = .ok (.goto 4, 3) := by decide +kernel
theorem dJ0_isLatin1_aae02_17 : decode cJ0_isLatin1_aae02 17 = .ok (.iconst 0, 1) := by decide +kernel
theorem dJ0_isLatin1_aae02_18 : decode cJ0_isLatin1_aae02 18 = .ok (.ireturn, 1) := by decide +kernel
theorem dJ0_checkIndex_df160_0 : decode cJ0_checkIndex_df160 0 = .ok (.iload_n 0, 1) := by decide +kernel
theorem dJ0_checkIndex_df160_1 : decode cJ0_checkIndex_df160 1 = .ok (.iload_n 1, 1) := by decide +kernel
theorem dJ0_checkIndex_df160_2 : decode cJ0_checkIndex_df160 2 = .ok (.getstatic 1053, 3) := by decide +kernel
theorem dJ0_checkIndex_df160_5 : decode cJ0_checkIndex_df160 5 = .ok (.invokestatic 1059, 3) := by decide +kernel
theorem dJ0_checkIndex_df160_8 : decode cJ0_checkIndex_df160 8 = .ok (.pop, 1) := by decide +kernel
theorem dJ0_checkIndex_df160_9 : decode cJ0_checkIndex_df160 9 = .ok (.return_, 1) := by decide +kernel
theorem dJ0_checkBoundsOffCount_cabcc_0 : decode cJ0_checkBoundsOffCount_cabcc 0 = .ok (.iload_n 0, 1) := by decide +kernel
theorem dJ0_checkBoundsOffCount_cabcc_1 : decode cJ0_checkBoundsOffCount_cabcc 1 = .ok (.iload_n 1, 1) := by decide +kernel
theorem dJ0_checkBoundsOffCount_cabcc_2 : decode cJ0_checkBoundsOffCount_cabcc 2 = .ok (.iload_n 2, 1) := by decide +kernel
theorem dJ0_checkBoundsOffCount_cabcc_3 : decode cJ0_checkBoundsOffCount_cabcc 3 = .ok (.getstatic 1053, 3) := by decide +kernel
theorem dJ0_checkBoundsOffCount_cabcc_6 : decode cJ0_checkBoundsOffCount_cabcc 6 = .ok (.invokestatic 1065, 3) := by decide +kernel
theorem dJ0_checkBoundsOffCount_cabcc_9 : decode cJ0_checkBoundsOffCount_cabcc 9 = .ok (.ireturn, 1) := by decide +kernel
theorem dJ0_checkBoundsBeginEnd_23922_0 : decode cJ0_checkBoundsBeginEnd_23922 0 = .ok (.iload_n 0, 1) := by decide +kernel
theorem dJ0_checkBoundsBeginEnd_23922_1 : decode cJ0_checkBoundsBeginEnd_23922 1 = .ok (.iload_n 1, 1) := by decide +kernel
theorem dJ0_checkBoundsBeginEnd_23922_2 : decode cJ0_checkBoundsBeginEnd_23922 2 = .ok (.iload_n 2, 1) := by decide +kernel
theorem dJ0_checkBoundsBeginEnd_23922_3 : decode cJ0_checkBoundsBeginEnd_23922 3 = .ok (.getstatic 1053, 3) := by decide +kernel
theorem dJ0_checkBoundsBeginEnd_23922_6 : decode cJ0_checkBoundsBeginEnd_23922 6 = .ok (.invokestatic 1062, 3) := by decide +kernel
theorem dJ0_checkBoundsBeginEnd_23922_9 : decode cJ0_checkBoundsBeginEnd_23922 9 = .ok (.pop, 1) := by decide +kernel
theorem dJ0_checkBoundsBeginEnd_23922_10 : decode cJ0_checkBoundsBeginEnd_23922 10 = .ok (.return_, 1) := by decide +kernel
theorem dJ4_init_da8c8_0 : decode cJ4_init_da8c8 0 = .ok (.aload_n 0, 1) := by decide +kernel
theorem dJ4_init_da8c8_1 : decode cJ4_init_da8c8 1 = .ok (.bipush 16, 2) := by decide +kernel
theorem dJ4_init_da8c8_3 : decode cJ4_init_da8c8 3 = .ok (.invokespecial 1, 3) := by decide +kernel
theorem dJ4_init_da8c8_6 : decode cJ4_init_da8c8 6 = .ok (.return_, 1) := by decide +kernel
theorem dJ4_init_a7421_0 : decode cJ4_init_a7421 0 = .ok (.aload_n 0, 1) := by decide +kernel
theorem dJ4_init_a7421_1 : decode cJ4_init_a7421 1 = .ok (.aload_n 1, 1) := by decide +kernel
theorem dJ4_init_a7421_2 : decode cJ4_init_a7421 2 = .ok (.invokespecial 7, 3) := by decide +kernel
theorem dJ4_init_a7421_5 : decode cJ4_init_a7421 5 = .ok (.return_, 1) := by decide +kernel
theorem dJ4_append_15ec4_0 : decode cJ4_append_15ec4 0 = .ok (.aload_n 0, 1) := by decide +kernel
theorem dJ4_append_15ec4_1 : decode cJ4_append_15ec4 1 = .ok (.aload_n 1, 1) := by decide +kernel
theorem dJ4_append_15ec4_2 : decode cJ4_append_15ec4 2 = .ok (.invokespecial 29, 3) := by decide +kernel
theorem dJ4_append_15ec4_5 : decode cJ4_append_15ec4 5 = .ok (.pop, 1) := by decide +kernel
theorem dJ4_append_15ec4_6 : decode cJ4_append_15ec4 6 = .ok (.aload_n 0, 1) := by decide +kernel
theorem dJ4_append_15ec4_7 : decode cJ4_append_15ec4 7 = .ok (.areturn, 1) := by decide +kernel
theorem dJ4_append_cf468_0 : decode cJ4_append_cf468 0 = .ok (.aload_n 0, 1) := by decide +kernel
theorem dJ4_append_cf468_1 : decode cJ4_append_cf468 1 = .ok (.iload_n 1, 1) := by decide +kernel
theorem dJ4_append_cf468_2 : decode cJ4_append_cf468 2 = .ok (.invokespecial 50, 3) := by decide +kernel
theorem dJ4_append_cf468_5 : decode cJ4_append_cf468 5 = .ok (.pop, 1) := by decide +kernel
theorem dJ4_append_cf468_6 : decode cJ4_append_cf468 6 = .ok (.aload_n 0, 1) := by decide +kernel
theorem dJ4_append_cf468_7 : decode cJ4_append_cf468 7 = .ok (.areturn, 1) := by decide +kernel
theorem dJ4_append_bf812_0 : decode cJ4_append_bf812 0 = .ok (.aload_n 0, 1) := by decide +kernel
theorem dJ4_append_bf812_1 : decode cJ4_append_bf812 1 = .ok (.iload_n 1, 1) := by decide +kernel
theorem dJ4_append_bf812_2 : decode cJ4_append_bf812 2 = .ok (.invokespecial 53, 3) := by decide +kernel
theorem dJ4_append_bf812_5 : decode cJ4_append_bf812 5 = .ok (.pop, 1) := by decide +kernel
theorem dJ4_append_bf812_6 : decode cJ4_append_bf812 6 = .ok (.aload_n 0, 1) := by decide +kernel
theorem dJ4_append_bf812_7 : decode cJ4_append_bf812 7 = .ok (.areturn, 1) := by decide +kernel
theorem dJ4_toString_0e30d_0 : decode cJ4_toString_0e30d 0 = .ok (.new 18, 3) := by decide +kernel
theorem dJ4_toString_0e30d_3 : decode cJ4_toString_0e30d 3 = .ok (.dup, 1) := by decide +kernel
theorem dJ4_toString_0e30d_4 : decode cJ4_toString_0e30d 4 = .ok (.aload_n 0, 1) := by decide +kernel
theorem dJ4_toString_0e30d_5 : decode cJ4_toString_0e30d 5 = .ok (.invokespecial 137, 3) := by decide +kernel
theorem dJ4_toString_0e30d_8 : decode cJ4_toString_0e30d 8 = .ok (.areturn, 1) := by decide +kernel
theorem dJ4_append_cf1ce_0 : decode cJ4_append_cf1ce 0 = .ok (.aload_n 0, 1) := by decide +kernel
theorem dJ4_append_cf1ce_1 : decode cJ4_append_cf1ce 1 = .ok (.aload_n 1, 1) := by decide +kernel
theorem dJ4_append_cf1ce_2 : decode cJ4_append_cf1ce 2 = .ok (.invokevirtual 23, 3) := by decide +kernel
theorem dJ4_append_cf1ce_5 : decode cJ4_append_cf1ce 5 = .ok (.areturn, 1) := by decide +kernel
theorem dJ4_length_8abf5_0 : decode cJ4_length_8abf5 0 = .ok (.aload_n 0, 1) := by decide +kernel
theorem dJ4_length_8abf5_1 : decode cJ4_length_8abf5 1 = .ok (.invokespecial 343, 3) := by decide +kernel
theorem dJ4_length_8abf5_4 : decode cJ4_length_8abf5 4 = .ok (.ireturn, 1) := by decide +kernel
theorem dJ1_charAt_3b067_0 : decode cJ1_charAt_3b067 0 = .ok (.iload_n 1, 1) := by decide +kernel
theorem dJ1_charAt_3b067_1 : decode cJ1_charAt_3b067 1 = .ok (.aload_n 0, 1) := by decide +kernel
theorem dJ1_charAt_3b067_2 : decode cJ1_charAt_3b067 2 = .ok (.arraylength, 1) := by decide +kernel
theorem dJ1_charAt_3b067_3 : decode cJ1_charAt_3b067 3 = .ok (.invokestatic 9, 3) := by decide +kernel
theorem dJ1_charAt_3b067_6 : decode cJ1_charAt_3b067 6 = .ok (.aload_n 0, 1) := by decide +kernel
theorem dJ1_charAt_3b067_7 : decode cJ1_charAt_3b067 7 = .ok (.iload_n 1, 1) := by decide +kernel
theorem dJ1_charAt_3b067_8 : decode cJ1_charAt_3b067 8 = .ok (.baload, 1) := by decide +kernel
theorem dJ1_charAt_3b067_9 : decode cJ1_charAt_3b067 9 = .ok (.sipush 255, 3) := by decide +kernel
theorem dJ1_charAt_3b067_12 : decode cJ1_charAt_3b067 12 = .ok (.iand, 1) := by decide +kernel
theorem dJ1_charAt_3b067_13 : decode cJ1_charAt_3b067 13 = .ok (.i2c, 1) := by decide +kernel
theorem dJ1_charAt_3b067_14 : decode cJ1_charAt_3b067 14 = .ok (.ireturn, 1) := by decide +kernel
theorem dJ1_canEncode_fc78d_0 : decode cJ1_canEncode_fc78d 0 = .ok (.iload_n 0, 1) := by decide +kernel
theorem dJ1_canEncode_fc78d_1 : decode cJ1_canEncode_fc78d 1 = .ok (.sipush 255, 3) := by decide +kernel
theorem dJ1_canEncode_fc78d_4 : decode cJ1_canEncode_fc78d 4 = .ok (.if_icmp .gt 7, 3) := by decide +kernel
theorem dJ1_canEncode_fc78d_7 : decode cJ1_canEncode_fc78d 7 = .ok (.iconst 1, 1) := by decide +kernel
theorem dJ1_canEncode_fc78d_8 : decode cJ1_canEncode_fc78d 8 = .ok (.goto 4, 3) := by decide +kernel
theorem dJ1_canEncode_fc78d_11 : decode cJ1_canEncode_fc78d 11 = .ok (.iconst 0, 1) := by decide +kernel
theorem dJ1_canEncode_fc78d_12 : decode cJ1_canEncode_fc78d 12 = .ok (.ireturn, 1) := by decide +kernel
theorem dJ1_inflate_0e8fd_0 : decode cJ1_inflate_0e8fd 0 = .ok (.aload_n 0, 1) := by decide +kernel
theorem dJ1_inflate_0e8fd_1 : decode cJ1_inflate_0e8fd 1 = .ok (.iload_n 1, 1) := by decide +kernel
theorem dJ1_inflate_0e8fd_2 : decode cJ1_inflate_0e8fd 2 = .ok (.aload_n 2, 1) := by decide +kernel
theorem dJ1_inflate_0e8fd_3 : decode cJ1_inflate_0e8fd 3 = .ok (.iload_n 3, 1) := by decide +kernel
theorem dJ1_inflate_0e8fd_4 : decode cJ1_inflate_0e8fd 4 = .ok (.iload 4, 2) := by decide +kernel
theorem dJ1_inflate_0e8fd_6 : decode cJ1_inflate_0e8fd 6 = .ok (.invokestatic 240, 3) := by decide +kernel
theorem dJ1_inflate_0e8fd_9 : decode cJ1_inflate_0e8fd 9 = .ok (.return_, 1) := by decide +kernel
theorem dJ2_newBytesFor_77867_0 : decode cJ2_newBytesFor_77867 0 = .ok (.iload_n 0, 1) := by decide +kernel
theorem dJ2_newBytesFor_77867_1 : decode cJ2_newBytesFor_77867 1 = .ok (.invokestatic 11, 3) := by decide +kernel
theorem dJ2_newBytesFor_77867_4 : decode cJ2_newBytesFor_77867 4 = .ok (.newarray .byte, 2) := by decide +kernel
theorem dJ2_newBytesFor_77867_6 : decode cJ2_newBytesFor_77867 6 = .ok (.areturn, 1) := by decide +kernel
theorem dJ2_newBytesLength_0f7a4_0 : decode cJ2_newBytesLength_0f7a4 0 = .ok (.iload_n 0, 1) := by decide +kernel
theorem dJ2_newBytesLength_0f7a4_1 : decode cJ2_newBytesLength_0f7a4 1 = .ok (.ifCond .ge 11, 3) := by decide +kernel
theorem dJ2_newBytesLength_0f7a4_4 : decode cJ2_newBytesLength_0f7a4 4 = .ok (.new 17, 3) := by decide +kernel
theorem dJ2_newBytesLength_0f7a4_7 : decode cJ2_newBytesLength_0f7a4 7 = .ok (.dup, 1) := by decide +kernel
theorem dJ2_newBytesLength_0f7a4_8 : decode cJ2_newBytesLength_0f7a4 8 = .ok (.invokespecial 19, 3) := by decide +kernel
theorem dJ2_newBytesLength_0f7a4_11 : decode cJ2_newBytesLength_0f7a4 11 = .ok (.athrow, 1) := by decide +kernel
theorem dJ2_newBytesLength_0f7a4_12 : decode cJ2_newBytesLength_0f7a4 12 = .ok (.iload_n 0, 1) := by decide +kernel
theorem dJ2_newBytesLength_0f7a4_13 : decode cJ2_newBytesLength_0f7a4 13 = .ok (.ldc 20, 2) := by decide +kernel
theorem dJ2_newBytesLength_0f7a4_15 : decode cJ2_newBytesLength_0f7a4 15 = .ok (.if_icmp .lt 40, 3) := by decide +kernel
theorem dJ2_newBytesLength_0f7a4_18 : decode cJ2_newBytesLength_0f7a4 18 = .ok (.new 21, 3) := by decide +kernel
theorem dJ2_newBytesLength_0f7a4_21 : decode cJ2_newBytesLength_0f7a4 21 = .ok (.dup, 1) := by decide +kernel
theorem dJ2_newBytesLength_0f7a4_22 : decode cJ2_newBytesLength_0f7a4 22 = .ok (.new 23, 3) := by decide +kernel
theorem dJ2_newBytesLength_0f7a4_25 : decode cJ2_newBytesLength_0f7a4 25 = .ok (.dup, 1) := by decide +kernel
theorem dJ2_newBytesLength_0f7a4_26 : decode cJ2_newBytesLength_0f7a4 26 = .ok (.invokespecial 25, 3) := by decide +kernel
theorem dJ2_newBytesLength_0f7a4_29 : decode cJ2_newBytesLength_0f7a4 29 = .ok (.ldc 26, 2) := by decide +kernel
theorem dJ2_newBytesLength_0f7a4_31 : decode cJ2_newBytesLength_0f7a4 31 = .ok (.invokevirtual 28, 3) := by decide +kernel
theorem dJ2_newBytesLength_0f7a4_34 : decode cJ2_newBytesLength_0f7a4 34 = .ok (.iload_n 0, 1) := by decide +kernel
theorem dJ2_newBytesLength_0f7a4_35 : decode cJ2_newBytesLength_0f7a4 35 = .ok (.invokevirtual 32, 3) := by decide +kernel
theorem dJ2_newBytesLength_0f7a4_38 : decode cJ2_newBytesLength_0f7a4 38 = .ok (.ldc 35, 2) := by decide +kernel
theorem dJ2_newBytesLength_0f7a4_40 : decode cJ2_newBytesLength_0f7a4 40 = .ok (.invokevirtual 28, 3) := by decide +kernel
theorem dJ2_newBytesLength_0f7a4_43 : decode cJ2_newBytesLength_0f7a4 43 = .ok (.ldc 20, 2) := by decide +kernel
theorem dJ2_newBytesLength_0f7a4_45 : decode cJ2_newBytesLength_0f7a4 45 = .ok (.invokevirtual 32, 3) := by decide +kernel
theorem dJ2_newBytesLength_0f7a4_48 : decode cJ2_newBytesLength_0f7a4 48 = .ok (.invokevirtual 37, 3) := by decide +kernel
theorem dJ2_newBytesLength_0f7a4_51 : decode cJ2_newBytesLength_0f7a4 51 = .ok (.invokespecial 41, 3) := by decide +kernel
theorem dJ2_newBytesLength_0f7a4_54 : decode cJ2_newBytesLength_0f7a4 54 = .ok (.athrow, 1) := by decide +kernel
theorem dJ2_newBytesLength_0f7a4_55 : decode cJ2_newBytesLength_0f7a4 55 = .ok (.iload_n 0, 1) := by decide +kernel
theorem dJ2_newBytesLength_0f7a4_56 : decode cJ2_newBytesLength_0f7a4 56 = .ok (.iconst 1, 1) := by decide +kernel
theorem dJ2_newBytesLength_0f7a4_57 : decode cJ2_newBytesLength_0f7a4 57 = .ok (.ishl, 1) := by decide +kernel
theorem dJ2_newBytesLength_0f7a4_58 : decode cJ2_newBytesLength_0f7a4 58 = .ok (.ireturn, 1) := by decide +kernel
theorem dJ2_putChar_b72d1_0 : decode cJ2_putChar_b72d1 0 = .ok (.getstatic 44, 3) := by decide +kernel
theorem dJ2_putChar_b72d1_3 : decode cJ2_putChar_b72d1 3 = .ok (.ifCond .ne 25, 3) := by decide +kernel
theorem dJ2_putChar_b72d1_6 : decode cJ2_putChar_b72d1 6 = .ok (.iload_n 1, 1) := by decide +kernel
theorem dJ2_putChar_b72d1_7 : decode cJ2_putChar_b72d1 7 = .ok (.ifCond .lt 11, 3) := by decide +kernel
theorem dJ2_putChar_b72d1_10 : decode cJ2_putChar_b72d1 10 = .ok (.iload_n 1, 1) := by decide +kernel
theorem dJ2_putChar_b72d1_11 : decode cJ2_putChar_b72d1 11 = .ok (.aload_n 0, 1) := by decide +kernel
theorem dJ2_putChar_b72d1_12 : decode cJ2_putChar_b72d1 12 = .ok (.invokestatic 48, 3) := by decide +kernel
theorem dJ2_putChar_b72d1_15 : decode cJ2_putChar_b72d1 15 = .ok (.if_icmp .lt 13, 3) := by decide +kernel
theorem dJ2_putChar_b72d1_18 : decode cJ2_putChar_b72d1 18 = .ok (.new 52, 3) := by decide +kernel
theorem dJ2_putChar_b72d1_21 : decode cJ2_putChar_b72d1 21 = .ok (.dup, 1) := by decide +kernel
theorem dJ2_putChar_b72d1_22 : decode cJ2_putChar_b72d1 22 = .ok (.ldc 54, 2) := by decide +kernel
theorem dJ2_putChar_b72d1_24 : decode cJ2_putChar_b72d1 24 = .ok (.invokespecial 56, 3) := by decide +kernel
theorem dJ2_putChar_b72d1_27 : decode cJ2_putChar_b72d1 27 = .ok (.athrow, 1) := by decide +kernel
theorem dJ2_putChar_b72d1_28 : decode cJ2_putChar_b72d1 28 = .ok (.iload_n 1, 1) := by decide +kernel
theorem dJ2_putChar_b72d1_29 : decode cJ2_putChar_b72d1 29 = .ok (.iconst 1, 1) := by decide +kernel
theorem dJ2_putChar_b72d1_30 : decode cJ2_putChar_b72d1 30 = .ok (.ishl, 1) := by decide +kernel
theorem dJ2_putChar_b72d1_31 : decode cJ2_putChar_b72d1 31 = .ok (.istore_n 1, 1) := by decide +kernel
theorem dJ2_putChar_b72d1_32 : decode cJ2_putChar_b72d1 32 = .ok (.aload_n 0, 1) := by decide +kernel
theorem dJ2_putChar_b72d1_33 : decode cJ2_putChar_b72d1 33 = .ok (.iload_n 1, 1) := by decide +kernel
theorem dJ2_putChar_b72d1_34 : decode cJ2_putChar_b72d1 34 = .ok (.iinc 1 1, 3) := by decide +kernel
theorem dJ2_putChar_b72d1_37 : decode cJ2_putChar_b72d1 37 = .ok (.iload_n 2, 1) := by decide +kernel
theorem dJ2_putChar_b72d1_38 : decode cJ2_putChar_b72d1 38 = .ok (.getstatic 59, 3) := by decide +kernel
theorem dJ2_putChar_b72d1_41 : decode cJ2_putChar_b72d1 41 = .ok (.ishr, 1) := by decide +kernel
theorem dJ2_putChar_b72d1_42 : decode cJ2_putChar_b72d1 42 = .ok (.i2b, 1) := by decide +kernel
theorem dJ2_putChar_b72d1_43 : decode cJ2_putChar_b72d1 43 = .ok (.bastore, 1) := by decide +kernel
theorem dJ2_putChar_b72d1_44 : decode cJ2_putChar_b72d1 44 = .ok (.aload_n 0, 1) := by decide +kernel
theorem dJ2_putChar_b72d1_45 : decode cJ2_putChar_b72d1 45 = .ok (.iload_n 1, 1) := by decide +kernel
theorem dJ2_putChar_b72d1_46 : decode cJ2_putChar_b72d1 46 = .ok (.iload_n 2, 1) := by decide +kernel
theorem dJ2_putChar_b72d1_47 : decode cJ2_putChar_b72d1 47 = .ok (.getstatic 63, 3) := by decide +kernel
theorem dJ2_putChar_b72d1_50 : decode cJ2_putChar_b72d1 50 = .ok (.ishr, 1) := by decide +kernel
theorem dJ2_putChar_b72d1_51 : decode cJ2_putChar_b72d1 51 = .ok (.i2b, 1) := by decide +kernel
theorem dJ2_putChar_b72d1_52 : decode cJ2_putChar_b72d1 52 = .ok (.bastore, 1) := by decide +kernel
theorem dJ2_putChar_b72d1_53 : decode cJ2_putChar_b72d1 53 = .ok (.return_, 1) := by decide +kernel
theorem dJ2_getChar_3b067_0 : decode cJ2_getChar_3b067 0 = .ok (.getstatic 44, 3) := by decide +kernel
theorem dJ2_getChar_3b067_3 : decode cJ2_getChar_3b067 3 = .ok (.ifCond .ne 25, 3) := by decide +kernel
theorem dJ2_getChar_3b067_6 : decode cJ2_getChar_3b067 6 = .ok (.iload_n 1, 1) := by decide +kernel
theorem dJ2_getChar_3b067_7 : decode cJ2_getChar_3b067 7 = .ok (.ifCond .lt 11, 3) := by decide +kernel
theorem dJ2_getChar_3b067_10 : decode cJ2_getChar_3b067 10 = .ok (.iload_n 1, 1) := by decide +kernel
theorem dJ2_getChar_3b067_11 : decode cJ2_getChar_3b067 11 = .ok (.aload_n 0, 1) := by decide +kernel
theorem dJ2_getChar_3b067_12 : decode cJ2_getChar_3b067 12 = .ok (.invokestatic 48, 3) := by decide +kernel
theorem dJ2_getChar_3b067_15 : decode cJ2_getChar_3b067 15 = .ok (.if_icmp .lt 13, 3) := by decide +kernel
theorem dJ2_getChar_3b067_18 : decode cJ2_getChar_3b067 18 = .ok (.new 52, 3) := by decide +kernel
theorem dJ2_getChar_3b067_21 : decode cJ2_getChar_3b067 21 = .ok (.dup, 1) := by decide +kernel
theorem dJ2_getChar_3b067_22 : decode cJ2_getChar_3b067 22 = .ok (.ldc 54, 2) := by decide +kernel
theorem dJ2_getChar_3b067_24 : decode cJ2_getChar_3b067 24 = .ok (.invokespecial 56, 3) := by decide +kernel
theorem dJ2_getChar_3b067_27 : decode cJ2_getChar_3b067 27 = .ok (.athrow, 1) := by decide +kernel
theorem dJ2_getChar_3b067_28 : decode cJ2_getChar_3b067 28 = .ok (.iload_n 1, 1) := by decide +kernel
theorem dJ2_getChar_3b067_29 : decode cJ2_getChar_3b067 29 = .ok (.iconst 1, 1) := by decide +kernel
theorem dJ2_getChar_3b067_30 : decode cJ2_getChar_3b067 30 = .ok (.ishl, 1) := by decide +kernel
theorem dJ2_getChar_3b067_31 : decode cJ2_getChar_3b067 31 = .ok (.istore_n 1, 1) := by decide +kernel
theorem dJ2_getChar_3b067_32 : decode cJ2_getChar_3b067 32 = .ok (.aload_n 0, 1) := by decide +kernel
theorem dJ2_getChar_3b067_33 : decode cJ2_getChar_3b067 33 = .ok (.iload_n 1, 1) := by decide +kernel
theorem dJ2_getChar_3b067_34 : decode cJ2_getChar_3b067 34 = .ok (.iinc 1 1, 3) := by decide +kernel
theorem dJ2_getChar_3b067_37 : decode cJ2_getChar_3b067 37 = .ok (.baload, 1) := by decide +kernel
theorem dJ2_getChar_3b067_38 : decode cJ2_getChar_3b067 38 = .ok (.sipush 255, 3) := by decide +kernel
theorem dJ2_getChar_3b067_41 : decode cJ2_getChar_3b067 41 = .ok (.iand, 1) := by decide +kernel
theorem dJ2_getChar_3b067_42 : decode cJ2_getChar_3b067 42 = .ok (.getstatic 59, 3) := by decide +kernel
theorem dJ2_getChar_3b067_45 : decode cJ2_getChar_3b067 45 = .ok (.ishl, 1) := by decide +kernel
theorem dJ2_getChar_3b067_46 : decode cJ2_getChar_3b067 46 = .ok (.aload_n 0, 1) := by decide +kernel
theorem dJ2_getChar_3b067_47 : decode cJ2_getChar_3b067 47 = .ok (.iload_n 1, 1) := by decide +kernel
theorem dJ2_getChar_3b067_48 : decode cJ2_getChar_3b067 48 = .ok (.baload, 1) := by decide +kernel
theorem dJ2_getChar_3b067_49 : decode cJ2_getChar_3b067 49 = .ok (.sipush 255, 3) := by decide +kernel
theorem dJ2_getChar_3b067_52 : decode cJ2_getChar_3b067 52 = .ok (.iand, 1) := by decide +kernel
theorem dJ2_getChar_3b067_53 : decode cJ2_getChar_3b067 53 = .ok (.getstatic 63, 3) := by decide +kernel
theorem dJ2_getChar_3b067_56 : decode cJ2_getChar_3b067 56 = .ok (.ishl, 1) := by decide +kernel
theorem dJ2_getChar_3b067_57 : decode cJ2_getChar_3b067 57 = .ok (.ior, 1) := by decide +kernel
theorem dJ2_getChar_3b067_58 : decode cJ2_getChar_3b067 58 = .ok (.i2c, 1) := by decide +kernel
theorem dJ2_getChar_3b067_59 : decode cJ2_getChar_3b067 59 = .ok (.ireturn, 1) := by decide +kernel
theorem dJ2_length_9d52b_0 : decode cJ2_length_9d52b 0 = .ok (.aload_n 0, 1) := by decide +kernel
theorem dJ2_length_9d52b_1 : decode cJ2_length_9d52b 1 = .ok (.arraylength, 1) := by decide +kernel
theorem dJ2_length_9d52b_2 : decode cJ2_length_9d52b 2 = .ok (.iconst 1, 1) := by decide +kernel
theorem dJ2_length_9d52b_3 : decode cJ2_length_9d52b 3 = .ok (.ishr, 1) := by decide +kernel
theorem dJ2_length_9d52b_4 : decode cJ2_length_9d52b 4 = .ok (.ireturn, 1) := by decide +kernel
theorem dJ2_coderFromArrayLen_85cad_0 : decode cJ2_coderFromArrayLen_85cad 0 = .ok (.iload_n 1, 1) := by decide +kernel
theorem dJ2_coderFromArrayLen_85cad_1 : decode cJ2_coderFromArrayLen_85cad 1 = .ok (.aload_n 0, 1) := by decide +kernel
theorem dJ2_coderFromArrayLen_85cad_2 : decode cJ2_coderFromArrayLen_85cad 2 = .ok (.arraylength, 1) := by decide +kernel
theorem dJ2_coderFromArrayLen_85cad_3 : decode cJ2_coderFromArrayLen_85cad 3 = .ok (.isub, 1) := by decide +kernel
theorem dJ2_coderFromArrayLen_85cad_4 : decode cJ2_coderFromArrayLen_85cad 4 = .ok (.bipush 31, 2) := by decide +kernel
theorem dJ2_coderFromArrayLen_85cad_6 : decode cJ2_coderFromArrayLen_85cad 6 = .ok (.iushr, 1) := by decide +kernel
theorem dJ2_coderFromArrayLen_85cad_7 : decode cJ2_coderFromArrayLen_85cad 7 = .ok (.i2b, 1) := by decide +kernel
theorem dJ2_coderFromArrayLen_85cad_8 : decode cJ2_coderFromArrayLen_85cad 8 = .ok (.ireturn, 1) := by decide +kernel
theorem dJ2_compress_39247_0 : decode cJ2_compress_39247 0 = .ok (.iload_n 2, 1) := by decide +kernel
theorem dJ2_compress_39247_1 : decode cJ2_compress_39247 1 = .ok (.newarray .byte, 2) := by decide +kernel
theorem dJ2_compress_39247_3 : decode cJ2_compress_39247 3 = .ok (.astore_n 3, 1) := by decide +kernel
theorem dJ2_compress_39247_4 : decode cJ2_compress_39247 4 = .ok (.aload_n 0, 1) := by decide +kernel
theorem dJ2_compress_39247_5 : decode cJ2_compress_39247 5 = .ok (.iload_n 1, 1) := by decide +kernel
theorem dJ2_compress_39247_6 : decode cJ2_compress_39247 6 = .ok (.aload_n 3, 1) := by decide +kernel
theorem dJ2_compress_39247_7 : decode cJ2_compress_39247 7 = .ok (.iconst 0, 1) := by decide +kernel
theorem dJ2_compress_39247_8 : decode cJ2_compress_39247 8 = .ok (.iload_n 2, 1) := by decide +kernel
theorem dJ2_compress_39247_9 : decode cJ2_compress_39247 9 = .ok (.invokestatic 123, 3) := by decide +kernel
theorem dJ2_compress_39247_12 : decode cJ2_compress_39247 12 = .ok (.istore 4, 2) := by decide +kernel
theorem dJ2_compress_39247_14 : decode cJ2_compress_39247 14 = .ok (.iload 4, 2) := by decide +kernel
theorem dJ2_compress_39247_16 : decode cJ2_compress_39247 16 = .ok (.iload_n 2, 1) := by decide +kernel
theorem dJ2_compress_39247_17 : decode cJ2_compress_39247 17 = .ok (.if_icmp .eq 47, 3) := by decide +kernel
theorem dJ2_compress_39247_20 : decode cJ2_compress_39247 20 = .ok (.aload_n 0, 1) := by decide +kernel
theorem dJ2_compress_39247_21 : decode cJ2_compress_39247 21 = .ok (.iload_n 1, 1) := by decide +kernel
theorem dJ2_compress_39247_22 : decode cJ2_compress_39247 22 = .ok (.iconst 1, 1) := by decide +kernel
theorem dJ2_compress_39247_23 : decode cJ2_compress_39247 23 = .ok (.ishl, 1) := by decide +kernel
theorem dJ2_compress_39247_24 : decode cJ2_compress_39247 24 = .ok (.iload_n 1, 1) := by decide +kernel
theorem dJ2_compress_39247_25 : decode cJ2_compress_39247 25 = .ok (.iload_n 2, 1) := by decide +kernel
theorem dJ2_compress_39247_26 : decode cJ2_compress_39247 26 = .ok (.iadd, 1) := by decide +kernel
theorem dJ2_compress_39247_27 : decode cJ2_compress_39247 27 = .ok (.invokestatic 11, 3) := by decide +kernel
theorem dJ2_compress_39247_30 : decode cJ2_compress_39247 30 = .ok (.invokestatic 126, 3) := by decide +kernel
theorem dJ2_compress_39247_33 : decode cJ2_compress_39247 33 = .ok (.astore 5, 2) := by decide +kernel
theorem dJ2_compress_39247_35 : decode cJ2_compress_39247 35 = .ok (.aload 5, 2) := by decide +kernel
theorem dJ2_compress_39247_37 : decode cJ2_compress_39247 37 = .ok (.iload 4, 2) := by decide +kernel
theorem dJ2_compress_39247_39 : decode cJ2_compress_39247 39 = .ok (.invokestatic 71, 3) := by decide +kernel
theorem dJ2_compress_39247_42 : decode cJ2_compress_39247 42 = .ok (.sipush 255, 3) := by decide +kernel
theorem dJ2_compress_39247_45 : decode cJ2_compress_39247 45 = .ok (.if_icmp .gt 16, 3) := by decide +kernel
theorem dJ2_compress_39247_48 : decode cJ2_compress_39247 48 = .ok (.aload 5, 2) := by decide +kernel
theorem dJ2_compress_39247_50 : decode cJ2_compress_39247 50 = .ok (.iconst 0, 1) := by decide +kernel
theorem dJ2_compress_39247_51 : decode cJ2_compress_39247 51 = .ok (.aload_n 3, 1) := by decide +kernel
theorem dJ2_compress_39247_52 : decode cJ2_compress_39247 52 = .ok (.iconst 0, 1) := by decide +kernel
theorem dJ2_compress_39247_53 : decode cJ2_compress_39247 53 = .ok (.iload_n 2, 1) := by decide +kernel
theorem dJ2_compress_39247_54 : decode cJ2_compress_39247 54 = .ok (.invokestatic 123, 3) := by decide +kernel
theorem dJ2_compress_39247_57 : decode cJ2_compress_39247 57 = .ok (.iload_n 2, 1) := by decide +kernel
theorem dJ2_compress_39247_58 : decode cJ2_compress_39247 58 = .ok (.if_icmp .eq 6, 3) := by decide +kernel
theorem dJ2_compress_39247_61 : decode cJ2_compress_39247 61 = .ok (.aload 5, 2) := by decide +kernel
theorem dJ2_compress_39247_63 : decode cJ2_compress_39247 63 = .ok (.areturn, 1) := by decide +kernel
theorem dJ2_compress_39247_64 : decode cJ2_compress_39247 64 = .ok (.aload_n 3, 1) := by decide +kernel
theorem dJ2_compress_39247_65 : decode cJ2_compress_39247 65 = .ok (.areturn, 1) := by decide +kernel
theorem dJ2_compress_5af95_0 : decode cJ2_compress_5af95 0 = .ok (.iload_n 1, 1) := by decide +kernel
theorem dJ2_compress_5af95_1 : decode cJ2_compress_5af95 1 = .ok (.iload 4, 2) := by decide +kernel
theorem dJ2_compress_5af95_3 : decode cJ2_compress_5af95 3 = .ok (.aload_n 0, 1) := by decide +kernel
theorem dJ2_compress_5af95_4 : decode cJ2_compress_5af95 4 = .ok (.invokestatic 173, 3) := by decide +kernel
theorem dJ2_compress_5af95_7 : decode cJ2_compress_5af95 7 = .ok (.iconst 0, 1) := by decide +kernel
theorem dJ2_compress_5af95_8 : decode cJ2_compress_5af95 8 = .ok (.istore 5, 2) := by decide +kernel
theorem dJ2_compress_5af95_10 : decode cJ2_compress_5af95 10 = .ok (.iload 5, 2) := by decide +kernel
theorem dJ2_compress_5af95_12 : decode cJ2_compress_5af95 12 = .ok (.iload 4, 2) := by decide +kernel
theorem dJ2_compress_5af95_14 : decode cJ2_compress_5af95 14 = .ok (.if_icmp .ge 39, 3) := by decide +kernel
theorem dJ2_compress_5af95_17 : decode cJ2_compress_5af95 17 = .ok (.aload_n 0, 1) := by decide +kernel
theorem dJ2_compress_5af95_18 : decode cJ2_compress_5af95 18 = .ok (.iload_n 1, 1) := by decide +kernel
theorem dJ2_compress_5af95_19 : decode cJ2_compress_5af95 19 = .ok (.invokestatic 71, 3) := by decide +kernel
theorem dJ2_compress_5af95_22 : decode cJ2_compress_5af95 22 = .ok (.istore 6, 2) := by decide +kernel
theorem dJ2_compress_5af95_24 : decode cJ2_compress_5af95 24 = .ok (.iload 6, 2) := by decide +kernel
theorem dJ2_compress_5af95_26 : decode cJ2_compress_5af95 26 = .ok (.sipush 255, 3) := by decide +kernel
theorem dJ2_compress_5af95_29 : decode cJ2_compress_5af95 29 = .ok (.if_icmp .le 6, 3) := by decide +kernel
theorem dJ2_compress_5af95_32 : decode cJ2_compress_5af95 32 = .ok (.iload 5, 2) := by decide +kernel
theorem dJ2_compress_5af95_34 : decode cJ2_compress_5af95 34 = .ok (.ireturn, 1) := by decide +kernel
theorem dJ2_compress_5af95_35 : decode cJ2_compress_5af95 35 = .ok (.aload_n 2, 1) := by decide +kernel
theorem dJ2_compress_5af95_36 : decode cJ2_compress_5af95 36 = .ok (.iload_n 3, 1) := by decide +kernel
theorem dJ2_compress_5af95_37 : decode cJ2_compress_5af95 37 = .ok (.iload 6, 2) := by decide +kernel
theorem dJ2_compress_5af95_39 : decode cJ2_compress_5af95 39 = .ok (.i2b, 1) := by decide +kernel
theorem dJ2_compress_5af95_40 : decode cJ2_compress_5af95 40 = .ok (.bastore, 1) := by decide +kernel
theorem dJ2_compress_5af95_41 : decode cJ2_compress_5af95 41 = .ok (.iinc 1 1, 3) := by decide +kernel
theorem dJ2_compress_5af95_44 : decode cJ2_compress_5af95 44 = .ok (.iinc 3 1, 3) := by decide +kernel
theorem dJ2_compress_5af95_47 : decode cJ2_compress_5af95 47 = .ok (.iinc 5 1, 3) := by decide +kernel
theorem dJ2_compress_5af95_50 : decode cJ2_compress_5af95 50 = .ok (.goto (-40), 3) := by decide +kernel
theorem dJ2_compress_5af95_53 : decode cJ2_compress_5af95 53 = .ok (.iload 4, 2) := by decide +kernel
theorem dJ2_compress_5af95_55 : decode cJ2_compress_5af95 55 = .ok (.ireturn, 1) := by decide +kernel
theorem dJ2_putCharSB_b72d1_0 : decode cJ2_putCharSB_b72d1 0 = .ok (.iload_n 1, 1) := by decide +kernel
theorem dJ2_putCharSB_b72d1_1 : decode cJ2_putCharSB_b72d1 1 = .ok (.aload_n 0, 1) := by decide +kernel
theorem dJ2_putCharSB_b72d1_2 : decode cJ2_putCharSB_b72d1 2 = .ok (.invokestatic 67, 3) := by decide +kernel
theorem dJ2_putCharSB_b72d1_5 : decode cJ2_putCharSB_b72d1 5 = .ok (.aload_n 0, 1) := by decide +kernel
theorem dJ2_putCharSB_b72d1_6 : decode cJ2_putCharSB_b72d1 6 = .ok (.iload_n 1, 1) := by decide +kernel
theorem dJ2_putCharSB_b72d1_7 : decode cJ2_putCharSB_b72d1 7 = .ok (.iload_n 2, 1) := by decide +kernel
theorem dJ2_putCharSB_b72d1_8 : decode cJ2_putCharSB_b72d1 8 = .ok (.invokestatic 111, 3) := by decide +kernel
theorem dJ2_putCharSB_b72d1_11 : decode cJ2_putCharSB_b72d1 11 = .ok (.return_, 1) := by decide +kernel
theorem dJ2_getChars_46870_0 : decode cJ2_getChars_46870 0 = .ok (.iload_n 1, 1) := by decide +kernel
theorem dJ2_getChars_46870_1 : decode cJ2_getChars_46870 1 = .ok (.iload_n 2, 1) := by decide +kernel
theorem dJ2_getChars_46870_2 : decode cJ2_getChars_46870 2 = .ok (.aload_n 3, 1) := by decide +kernel
theorem dJ2_getChars_46870_3 : decode cJ2_getChars_46870 3 = .ok (.invokestatic 96, 3) := by decide +kernel
theorem dJ2_getChars_46870_6 : decode cJ2_getChars_46870 6 = .ok (.iload_n 0, 1) := by decide +kernel
theorem dJ2_getChars_46870_7 : decode cJ2_getChars_46870 7 = .ok (.iload_n 2, 1) := by decide +kernel
theorem dJ2_getChars_46870_8 : decode cJ2_getChars_46870 8 = .ok (.aload_n 3, 1) := by decide +kernel
theorem dJ2_getChars_46870_9 : decode cJ2_getChars_46870 9 = .ok (.invokestatic 393, 3) := by decide +kernel
theorem dJ2_getChars_46870_12 : decode cJ2_getChars_46870 12 = .ok (.istore 4, 2) := by decide +kernel
theorem dJ2_getChars_46870_14 : decode cJ2_getChars_46870 14 = .ok (.getstatic 44, 3) := by decide +kernel
theorem dJ2_getChars_46870_17 : decode cJ2_getChars_46870 17 = .ok (.ifCond .ne 17, 3) := by decide +kernel
theorem dJ2_getChars_46870_20 : decode cJ2_getChars_46870 20 = .ok (.iload_n 1, 1) := by decide +kernel
theorem dJ2_getChars_46870_21 : decode cJ2_getChars_46870 21 = .ok (.iload 4, 2) := by decide +kernel
theorem dJ2_getChars_46870_23 : decode cJ2_getChars_46870 23 = .ok (.if_icmp .eq 11, 3) := by decide +kernel
theorem dJ2_getChars_46870_26 : decode cJ2_getChars_46870 26 = .ok (.new 52, 3) := by decide +kernel
theorem dJ2_getChars_46870_29 : decode cJ2_getChars_46870 29 = .ok (.dup, 1) := by decide +kernel
theorem dJ2_getChars_46870_30 : decode cJ2_getChars_46870 30 = .ok (.invokespecial 66, 3) := by decide +kernel
theorem dJ2_getChars_46870_33 : decode cJ2_getChars_46870 33 = .ok (.athrow, 1) := by decide +kernel
theorem dJ2_getChars_46870_34 : decode cJ2_getChars_46870 34 = .ok (.iload 4, 2) := by decide +kernel
theorem dJ2_getChars_46870_36 : decode cJ2_getChars_46870 36 = .ok (.ireturn, 1) := by decide +kernel
theorem dJ2_putCharsAt_cd4e5_0 : decode cJ2_putCharsAt_cd4e5 0 = .ok (.iload_n 1, 1) := by decide +kernel
theorem dJ2_putCharsAt_cd4e5_1 : decode cJ2_putCharsAt_cd4e5 1 = .ok (.iconst 4, 1) := by decide +kernel
theorem dJ2_putCharsAt_cd4e5_2 : decode cJ2_putCharsAt_cd4e5 2 = .ok (.iadd, 1) := by decide +kernel
theorem dJ2_putCharsAt_cd4e5_3 : decode cJ2_putCharsAt_cd4e5 3 = .ok (.istore 6, 2) := by decide +kernel
theorem dJ2_putCharsAt_cd4e5_5 : decode cJ2_putCharsAt_cd4e5 5 = .ok (.iload_n 1, 1) := by decide +kernel
theorem dJ2_putCharsAt_cd4e5_6 : decode cJ2_putCharsAt_cd4e5 6 = .ok (.iload 6, 2) := by decide +kernel
theorem dJ2_putCharsAt_cd4e5_8 : decode cJ2_putCharsAt_cd4e5 8 = .ok (.aload_n 0, 1) := by decide +kernel
theorem dJ2_putCharsAt_cd4e5_9 : decode cJ2_putCharsAt_cd4e5 9 = .ok (.invokestatic 96, 3) := by decide +kernel
theorem dJ2_putCharsAt_cd4e5_12 : decode cJ2_putCharsAt_cd4e5 12 = .ok (.aload_n 0, 1) := by decide +kernel
theorem dJ2_putCharsAt_cd4e5_13 : decode cJ2_putCharsAt_cd4e5 13 = .ok (.iload_n 1, 1) := by decide +kernel
theorem dJ2_putCharsAt_cd4e5_14 : decode cJ2_putCharsAt_cd4e5 14 = .ok (.iinc 1 1, 3) := by decide +kernel
theorem dJ2_putCharsAt_cd4e5_17 : decode cJ2_putCharsAt_cd4e5 17 = .ok (.iload_n 2, 1) := by decide +kernel
theorem dJ2_putCharsAt_cd4e5_18 : decode cJ2_putCharsAt_cd4e5 18 = .ok (.invokestatic 111, 3) := by decide +kernel
theorem dJ2_putCharsAt_cd4e5_21 : decode cJ2_putCharsAt_cd4e5 21 = .ok (.aload_n 0, 1) := by decide +kernel
theorem dJ2_putCharsAt_cd4e5_22 : decode cJ2_putCharsAt_cd4e5 22 = .ok (.iload_n 1, 1) := by decide +kernel
theorem dJ2_putCharsAt_cd4e5_23 : decode cJ2_putCharsAt_cd4e5 23 = .ok (.iinc 1 1, 3) := by decide +kernel
theorem dJ2_putCharsAt_cd4e5_26 : decode cJ2_putCharsAt_cd4e5 26 = .ok (.iload_n 3, 1) := by decide +kernel
theorem dJ2_putCharsAt_cd4e5_27 : decode cJ2_putCharsAt_cd4e5 27 = .ok (.invokestatic 111, 3) := by decide +kernel
theorem dJ2_putCharsAt_cd4e5_30 : decode cJ2_putCharsAt_cd4e5 30 = .ok (.aload_n 0, 1) := by decide +kernel
theorem dJ2_putCharsAt_cd4e5_31 : decode cJ2_putCharsAt_cd4e5 31 = .ok (.iload_n 1, 1) := by decide +kernel
theorem dJ2_putCharsAt_cd4e5_32 : decode cJ2_putCharsAt_cd4e5 32 = .ok (.iinc 1 1, 3) := by decide +kernel
theorem dJ2_putCharsAt_cd4e5_35 : decode cJ2_putCharsAt_cd4e5 35 = .ok (.iload 4, 2) := by decide +kernel
theorem dJ2_putCharsAt_cd4e5_37 : decode cJ2_putCharsAt_cd4e5 37 = .ok (.invokestatic 111, 3) := by decide +kernel
theorem dJ2_putCharsAt_cd4e5_40 : decode cJ2_putCharsAt_cd4e5 40 = .ok (.aload_n 0, 1) := by decide +kernel
theorem dJ2_putCharsAt_cd4e5_41 : decode cJ2_putCharsAt_cd4e5 41 = .ok (.iload_n 1, 1) := by decide +kernel
theorem dJ2_putCharsAt_cd4e5_42 : decode cJ2_putCharsAt_cd4e5 42 = .ok (.iinc 1 1, 3) := by decide +kernel
theorem dJ2_putCharsAt_cd4e5_45 : decode cJ2_putCharsAt_cd4e5 45 = .ok (.iload 5, 2) := by decide +kernel
theorem dJ2_putCharsAt_cd4e5_47 : decode cJ2_putCharsAt_cd4e5 47 = .ok (.invokestatic 111, 3) := by decide +kernel
theorem dJ2_putCharsAt_cd4e5_50 : decode cJ2_putCharsAt_cd4e5 50 = .ok (.getstatic 44, 3) := by decide +kernel
theorem dJ2_putCharsAt_cd4e5_53 : decode cJ2_putCharsAt_cd4e5 53 = .ok (.ifCond .ne 17, 3) := by decide +kernel
theorem dJ2_putCharsAt_cd4e5_56 : decode cJ2_putCharsAt_cd4e5 56 = .ok (.iload_n 1, 1) := by decide +kernel
theorem dJ2_putCharsAt_cd4e5_57 : decode cJ2_putCharsAt_cd4e5 57 = .ok (.iload 6, 2) := by decide +kernel
theorem dJ2_putCharsAt_cd4e5_59 : decode cJ2_putCharsAt_cd4e5 59 = .ok (.if_icmp .eq 11, 3) := by decide +kernel
theorem dJ2_putCharsAt_cd4e5_62 : decode cJ2_putCharsAt_cd4e5 62 = .ok (.new 52, 3) := by decide +kernel
theorem dJ2_putCharsAt_cd4e5_65 : decode cJ2_putCharsAt_cd4e5 65 = .ok (.dup, 1) := by decide +kernel
theorem dJ2_putCharsAt_cd4e5_66 : decode cJ2_putCharsAt_cd4e5 66 = .ok (.invokespecial 66, 3) := by decide +kernel
theorem dJ2_putCharsAt_cd4e5_69 : decode cJ2_putCharsAt_cd4e5 69 = .ok (.athrow, 1) := by decide +kernel
theorem dJ2_putCharsAt_cd4e5_70 : decode cJ2_putCharsAt_cd4e5 70 = .ok (.iload 6, 2) := by decide +kernel
theorem dJ2_putCharsAt_cd4e5_72 : decode cJ2_putCharsAt_cd4e5 72 = .ok (.ireturn, 1) := by decide +kernel
theorem dJ2_charAt_3b067_0 : decode cJ2_charAt_3b067 0 = .ok (.iload_n 1, 1) := by decide +kernel
theorem dJ2_charAt_3b067_1 : decode cJ2_charAt_3b067 1 = .ok (.aload_n 0, 1) := by decide +kernel
theorem dJ2_charAt_3b067_2 : decode cJ2_charAt_3b067 2 = .ok (.invokestatic 67, 3) := by decide +kernel
theorem dJ2_charAt_3b067_5 : decode cJ2_charAt_3b067 5 = .ok (.aload_n 0, 1) := by decide +kernel
theorem dJ2_charAt_3b067_6 : decode cJ2_charAt_3b067 6 = .ok (.iload_n 1, 1) := by decide +kernel
theorem dJ2_charAt_3b067_7 : decode cJ2_charAt_3b067 7 = .ok (.invokestatic 71, 3) := by decide +kernel
theorem dJ2_charAt_3b067_10 : decode cJ2_charAt_3b067 10 = .ok (.ireturn, 1) := by decide +kernel
theorem dJ2_inflate_0e8fd_0 : decode cJ2_inflate_0e8fd 0 = .ok (.iload_n 3, 1) := by decide +kernel
theorem dJ2_inflate_0e8fd_1 : decode cJ2_inflate_0e8fd 1 = .ok (.iload 4, 2) := by decide +kernel
theorem dJ2_inflate_0e8fd_3 : decode cJ2_inflate_0e8fd 3 = .ok (.aload_n 2, 1) := by decide +kernel
theorem dJ2_inflate_0e8fd_4 : decode cJ2_inflate_0e8fd 4 = .ok (.invokestatic 173, 3) := by decide +kernel
theorem dJ2_inflate_0e8fd_7 : decode cJ2_inflate_0e8fd 7 = .ok (.iconst 0, 1) := by decide +kernel
theorem dJ2_inflate_0e8fd_8 : decode cJ2_inflate_0e8fd 8 = .ok (.istore 5, 2) := by decide +kernel
theorem dJ2_inflate_0e8fd_10 : decode cJ2_inflate_0e8fd 10 = .ok (.iload 5, 2) := by decide +kernel
theorem dJ2_inflate_0e8fd_12 : decode cJ2_inflate_0e8fd 12 = .ok (.iload 4, 2) := by decide +kernel
theorem dJ2_inflate_0e8fd_14 : decode cJ2_inflate_0e8fd 14 = .ok (.if_icmp .ge 27, 3) := by decide +kernel
theorem dJ2_inflate_0e8fd_17 : decode cJ2_inflate_0e8fd 17 = .ok (.aload_n 2, 1) := by decide +kernel
theorem dJ2_inflate_0e8fd_18 : decode cJ2_inflate_0e8fd 18 = .ok (.iload_n 3, 1) := by decide +kernel
theorem dJ2_inflate_0e8fd_19 : decode cJ2_inflate_0e8fd 19 = .ok (.iinc 3 1, 3) := by decide +kernel
theorem dJ2_inflate_0e8fd_22 : decode cJ2_inflate_0e8fd 22 = .ok (.aload_n 0, 1) := by decide +kernel
theorem dJ2_inflate_0e8fd_23 : decode cJ2_inflate_0e8fd 23 = .ok (.iload_n 1, 1) := by decide +kernel
theorem dJ2_inflate_0e8fd_24 : decode cJ2_inflate_0e8fd 24 = .ok (.iinc 1 1, 3) := by decide +kernel
theorem dJ2_inflate_0e8fd_27 : decode cJ2_inflate_0e8fd 27 = .ok (.baload, 1) := by decide +kernel
theorem dJ2_inflate_0e8fd_28 : decode cJ2_inflate_0e8fd 28 = .ok (.sipush 255, 3) := by decide +kernel
theorem dJ2_inflate_0e8fd_31 : decode cJ2_inflate_0e8fd 31 = .ok (.iand, 1) := by decide +kernel
theorem dJ2_inflate_0e8fd_32 : decode cJ2_inflate_0e8fd 32 = .ok (.invokestatic 111, 3) := by decide +kernel
theorem dJ2_inflate_0e8fd_35 : decode cJ2_inflate_0e8fd 35 = .ok (.iinc 5 1, 3) := by decide +kernel
theorem dJ2_inflate_0e8fd_38 : decode cJ2_inflate_0e8fd 38 = .ok (.goto (-28), 3) := by decide +kernel
theorem dJ2_inflate_0e8fd_41 : decode cJ2_inflate_0e8fd 41 = .ok (.return_, 1) := by decide +kernel
theorem dJ2_getChars_ba4f3_0 : decode cJ2_getChars_ba4f3 0 = .ok (.iload_n 1, 1) := by decide +kernel
theorem dJ2_getChars_ba4f3_1 : decode cJ2_getChars_ba4f3 1 = .ok (.istore 5, 2) := by decide +kernel
theorem dJ2_getChars_ba4f3_3 : decode cJ2_getChars_ba4f3 3 = .ok (.iload_n 0, 1) := by decide +kernel
theorem dJ2_getChars_ba4f3_4 : decode cJ2_getChars_ba4f3 4 = .ok (.ifCond .ge 7, 3) := by decide +kernel
theorem dJ2_getChars_ba4f3_7 : decode cJ2_getChars_ba4f3 7 = .ok (.iconst 1, 1) := by decide +kernel
theorem dJ2_getChars_ba4f3_8 : decode cJ2_getChars_ba4f3 8 = .ok (.goto 4, 3) := by decide +kernel
theorem dJ2_getChars_ba4f3_11 : decode cJ2_getChars_ba4f3 11 = .ok (.iconst 0, 1) := by decide +kernel
theorem dJ2_getChars_ba4f3_12 : decode cJ2_getChars_ba4f3 12 = .ok (.istore 6, 2) := by decide +kernel
theorem dJ2_getChars_ba4f3_14 : decode cJ2_getChars_ba4f3 14 = .ok (.iload 6, 2) := by decide +kernel
theorem dJ2_getChars_ba4f3_16 : decode cJ2_getChars_ba4f3 16 = .ok (.ifCond .ne 6, 3) := by decide +kernel
theorem dJ2_getChars_ba4f3_19 : decode cJ2_getChars_ba4f3 19 = .ok (.iload_n 0, 1) := by decide +kernel
theorem dJ2_getChars_ba4f3_20 : decode cJ2_getChars_ba4f3 20 = .ok (.ineg, 1) := by decide +kernel
theorem dJ2_getChars_ba4f3_21 : decode cJ2_getChars_ba4f3 21 = .ok (.istore_n 0, 1) := by decide +kernel
theorem dJ2_getChars_ba4f3_22 : decode cJ2_getChars_ba4f3 22 = .ok (.iload_n 0, 1) := by decide +kernel
theorem dJ2_getChars_ba4f3_23 : decode cJ2_getChars_ba4f3 23 = .ok (.bipush (-100), 2) := by decide +kernel
theorem dJ2_getChars_ba4f3_25 : decode cJ2_getChars_ba4f3 25 = .ok (.if_icmp .gt 51, 3) := by decide +kernel
theorem dJ2_getChars_ba4f3_28 : decode cJ2_getChars_ba4f3 28 = .ok (.iload_n 0, 1) := by decide +kernel
theorem dJ2_getChars_ba4f3_29 : decode cJ2_getChars_ba4f3 29 = .ok (.bipush 100, 2) := by decide +kernel
theorem dJ2_getChars_ba4f3_31 : decode cJ2_getChars_ba4f3 31 = .ok (.idiv, 1) := by decide +kernel
theorem dJ2_getChars_ba4f3_32 : decode cJ2_getChars_ba4f3 32 = .ok (.istore_n 3, 1) := by decide +kernel
theorem dJ2_getChars_ba4f3_33 : decode cJ2_getChars_ba4f3 33 = .ok (.iload_n 3, 1) := by decide +kernel
theorem dJ2_getChars_ba4f3_34 : decode cJ2_getChars_ba4f3 34 = .ok (.bipush 100, 2) := by decide +kernel
theorem dJ2_getChars_ba4f3_36 : decode cJ2_getChars_ba4f3 36 = .ok (.imul, 1) := by decide +kernel
theorem dJ2_getChars_ba4f3_37 : decode cJ2_getChars_ba4f3 37 = .ok (.iload_n 0, 1) := by decide +kernel
theorem dJ2_getChars_ba4f3_38 : decode cJ2_getChars_ba4f3 38 = .ok (.isub, 1) := by decide +kernel
theorem dJ2_getChars_ba4f3_39 : decode cJ2_getChars_ba4f3 39 = .ok (.istore 4, 2) := by decide +kernel
theorem dJ2_getChars_ba4f3_41 : decode cJ2_getChars_ba4f3 41 = .ok (.iload_n 3, 1) := by decide +kernel
theorem dJ2_getChars_ba4f3_42 : decode cJ2_getChars_ba4f3 42 = .ok (.istore_n 0, 1) := by decide +kernel
theorem dJ2_getChars_ba4f3_43 : decode cJ2_getChars_ba4f3 43 = .ok (.aload_n 2, 1) := by decide +kernel
theorem dJ2_getChars_ba4f3_44 : decode cJ2_getChars_ba4f3 44 = .ok (.iinc 5 (-1), 3) := by decide +kernel
theorem dJ2_getChars_ba4f3_47 : decode cJ2_getChars_ba4f3 47 = .ok (.iload 5, 2) := by decide +kernel
theorem dJ2_getChars_ba4f3_49 : decode cJ2_getChars_ba4f3 49 = .ok (.getstatic 403, 3) := by decide +kernel
theorem dJ2_getChars_ba4f3_52 : decode cJ2_getChars_ba4f3 52 = .ok (.iload 4, 2) := by decide +kernel
theorem dJ2_getChars_ba4f3_54 : decode cJ2_getChars_ba4f3 54 = .ok (.baload, 1) := by decide +kernel
theorem dJ2_getChars_ba4f3_55 : decode cJ2_getChars_ba4f3 55 = .ok (.invokestatic 111, 3) := by decide +kernel
theorem dJ2_getChars_ba4f3_58 : decode cJ2_getChars_ba4f3 58 = .ok (.aload_n 2, 1) := by decide +kernel
theorem dJ2_getChars_ba4f3_59 : decode cJ2_getChars_ba4f3 59 = .ok (.iinc 5 (-1), 3) := by decide +kernel
theorem dJ2_getChars_ba4f3_62 : decode cJ2_getChars_ba4f3 62 = .ok (.iload 5, 2) := by decide +kernel
theorem dJ2_getChars_ba4f3_64 : decode cJ2_getChars_ba4f3 64 = .ok (.getstatic 407, 3) := by decide +kernel
theorem dJ2_getChars_ba4f3_67 : decode cJ2_getChars_ba4f3 67 = .ok (.iload 4, 2) := by decide +kernel
theorem dJ2_getChars_ba4f3_69 : decode cJ2_getChars_ba4f3 69 = .ok (.baload, 1) := by decide +kernel
theorem dJ2_getChars_ba4f3_70 : decode cJ2_getChars_ba4f3 70 = .ok (.invokestatic 111, 3) := by decide +kernel
theorem dJ2_getChars_ba4f3_73 : decode cJ2_getChars_ba4f3 73 = .ok (.goto (-51), 3) := by decide +kernel
theorem dJ2_getChars_ba4f3_76 : decode cJ2_getChars_ba4f3 76 = .ok (.aload_n 2, 1) := by decide +kernel
theorem dJ2_getChars_ba4f3_77 : decode cJ2_getChars_ba4f3 77 = .ok (.iinc 5 (-1), 3) := by decide +kernel
theorem dJ2_getChars_ba4f3_80 : decode cJ2_getChars_ba4f3 80 = .ok (.iload 5, 2) := by decide +kernel
theorem dJ2_getChars_ba4f3_82 : decode cJ2_getChars_ba4f3 82 = .ok (.getstatic 403, 3) := by decide +kernel
theorem dJ2_getChars_ba4f3_85 : decode cJ2_getChars_ba4f3 85 = .ok (.iload_n 0, 1) := by decide +kernel
theorem dJ2_getChars_ba4f3_86 : decode cJ2_getChars_ba4f3 86 = .ok (.ineg, 1) := by decide +kernel
theorem dJ2_getChars_ba4f3_87 : decode cJ2_getChars_ba4f3 87 = .ok (.baload, 1) := by decide +kernel
theorem dJ2_getChars_ba4f3_88 : decode cJ2_getChars_ba4f3 88 = .ok (.invokestatic 111, 3) := by decide +kernel
theorem dJ2_getChars_ba4f3_91 : decode cJ2_getChars_ba4f3 91 = .ok (.iload_n 0, 1) := by decide +kernel
theorem dJ2_getChars_ba4f3_92 : decode cJ2_getChars_ba4f3 92 = .ok (.bipush (-9), 2) := by decide +kernel
theorem dJ2_getChars_ba4f3_94 : decode cJ2_getChars_ba4f3 94 = .ok (.if_icmp .ge 18, 3) := by decide +kernel
theorem dJ2_getChars_ba4f3_97 : decode cJ2_getChars_ba4f3 97 = .ok (.aload_n 2, 1) := by decide +kernel
theorem dJ2_getChars_ba4f3_98 : decode cJ2_getChars_ba4f3 98 = .ok (.iinc 5 (-1), 3) := by decide +kernel
theorem dJ2_getChars_ba4f3_101 : decode cJ2_getChars_ba4f3 101 = .ok (.iload 5, 2) := by decide +kernel
theorem dJ2_getChars_ba4f3_103 : decode cJ2_getChars_ba4f3 103 = .ok (.getstatic 407, 3) := by decide +kernel
theorem dJ2_getChars_ba4f3_106 : decode cJ2_getChars_ba4f3 106 = .ok (.iload_n 0, 1) := by decide +kernel
theorem dJ2_getChars_ba4f3_107 : decode cJ2_getChars_ba4f3 107 = .ok (.ineg, 1) := by decide +kernel
theorem dJ2_getChars_ba4f3_108 : decode cJ2_getChars_ba4f3 108 = .ok (.baload, 1) := by decide +kernel
theorem dJ2_getChars_ba4f3_109 : decode cJ2_getChars_ba4f3 109 = .ok (.invokestatic 111, 3) := by decide +kernel
theorem dJ2_getChars_ba4f3_112 : decode cJ2_getChars_ba4f3 112 = .ok (.iload 6, 2) := by decide +kernel
theorem dJ2_getChars_ba4f3_114 : decode cJ2_getChars_ba4f3 114 = .ok (.ifCond .eq 14, 3) := by decide +kernel
theorem dJ2_getChars_ba4f3_117 : decode cJ2_getChars_ba4f3 117 = .ok (.aload_n 2, 1) := by decide +kernel
theorem dJ2_getChars_ba4f3_118 : decode cJ2_getChars_ba4f3 118 = .ok (.iinc 5 (-1), 3) := by decide +kernel
theorem dJ2_getChars_ba4f3_121 : decode cJ2_getChars_ba4f3 121 = .ok (.iload 5, 2) := by decide +kernel
theorem dJ2_getChars_ba4f3_123 : decode cJ2_getChars_ba4f3 123 = .ok (.bipush 45, 2) := by decide +kernel
theorem dJ2_getChars_ba4f3_125 : decode cJ2_getChars_ba4f3 125 = .ok (.invokestatic 111, 3) := by decide +kernel
theorem dJ2_getChars_ba4f3_128 : decode cJ2_getChars_ba4f3 128 = .ok (.iload 5, 2) := by decide +kernel
theorem dJ2_getChars_ba4f3_130 : decode cJ2_getChars_ba4f3 130 = .ok (.ireturn, 1) := by decide +kernel
theorem dJ2_checkIndex_2214a_0 : decode cJ2_checkIndex_2214a 0 = .ok (.iload_n 0, 1) := by decide +kernel
theorem dJ2_checkIndex_2214a_1 : decode cJ2_checkIndex_2214a 1 = .ok (.aload_n 1, 1) := by decide +kernel
theorem dJ2_checkIndex_2214a_2 : decode cJ2_checkIndex_2214a 2 = .ok (.invokestatic 48, 3) := by decide +kernel
theorem dJ2_checkIndex_2214a_5 : decode cJ2_checkIndex_2214a 5 = .ok (.invokestatic 414, 3) := by decide +kernel
theorem dJ2_checkIndex_2214a_8 : decode cJ2_checkIndex_2214a 8 = .ok (.return_, 1) := by decide +kernel
theorem dJ2_checkBoundsBeginEnd_d044e_0 : decode cJ2_checkBoundsBeginEnd_d044e 0 = .ok (.iload_n 0, 1) := by decide +kernel
theorem dJ2_checkBoundsBeginEnd_d044e_1 : decode cJ2_checkBoundsBeginEnd_d044e 1 = .ok (.iload_n 1, 1) := by decide +kernel
theorem dJ2_checkBoundsBeginEnd_d044e_2 : decode cJ2_checkBoundsBeginEnd_d044e 2 = .ok (.aload_n 2, 1) := by decide +kernel
theorem dJ2_checkBoundsBeginEnd_d044e_3 : decode cJ2_checkBoundsBeginEnd_d044e 3 = .ok (.invokestatic 48, 3) := by decide +kernel
theorem dJ2_checkBoundsBeginEnd_d044e_6 : decode cJ2_checkBoundsBeginEnd_d044e 6 = .ok (.invokestatic 241, 3) := by decide +kernel
theorem dJ2_checkBoundsBeginEnd_d044e_9 : decode cJ2_checkBoundsBeginEnd_d044e 9 = .ok (.return_, 1) := by decide +kernel
theorem dJ2_checkBoundsOffCount_d044e_0 : decode cJ2_checkBoundsOffCount_d044e 0 = .ok (.iload_n 0, 1) := by decide +kernel
theorem dJ2_checkBoundsOffCount_d044e_1 : decode cJ2_checkBoundsOffCount_d044e 1 = .ok (.iload_n 1, 1) := by decide +kernel
theorem dJ2_checkBoundsOffCount_d044e_2 : decode cJ2_checkBoundsOffCount_d044e 2 = .ok (.aload_n 2, 1) := by decide +kernel
theorem dJ2_checkBoundsOffCount_d044e_3 : decode cJ2_checkBoundsOffCount_d044e 3 = .ok (.invokestatic 48, 3) := by decide +kernel
theorem dJ2_checkBoundsOffCount_d044e_6 : decode cJ2_checkBoundsOffCount_d044e 6 = .ok (.invokestatic 419, 3) := by decide +kernel
theorem dJ2_checkBoundsOffCount_d044e_9 : decode cJ2_checkBoundsOffCount_d044e 9 = .ok (.pop, 1) := by decide +kernel
theorem dJ2_checkBoundsOffCount_d044e_10 : decode cJ2_checkBoundsOffCount_d044e 10 = .ok (.return_, 1) := by decide +kernel
theorem dJ7_copyOf_9075b_0 : decode cJ7_copyOf_9075b 0 = .ok (.iload_n 1, 1) := by decide +kernel
theorem dJ7_copyOf_9075b_1 : decode cJ7_copyOf_9075b 1 = .ok (.aload_n 0, 1) := by decide +kernel
theorem dJ7_copyOf_9075b_2 : decode cJ7_copyOf_9075b 2 = .ok (.arraylength, 1) := by decide +kernel
theorem dJ7_copyOf_9075b_3 : decode cJ7_copyOf_9075b 3 = .ok (.if_icmp .ne 11, 3) := by decide +kernel
theorem dJ7_copyOf_9075b_6 : decode cJ7_copyOf_9075b 6 = .ok (.aload_n 0, 1) := by decide +kernel
theorem dJ7_copyOf_9075b_7 : decode cJ7_copyOf_9075b 7 = .ok (.invokevirtual 310, 3) := by decide +kernel
theorem dJ7_copyOf_9075b_10 : decode cJ7_copyOf_9075b 10 = .ok (.checkcast 311, 3) := by decide +kernel
theorem dJ7_copyOf_9075b_13 : decode cJ7_copyOf_9075b 13 = .ok (.areturn, 1) := by decide +kernel
theorem dJ7_copyOf_9075b_14 : decode cJ7_copyOf_9075b 14 = .ok (.iload_n 1, 1) := by decide +kernel
theorem dJ7_copyOf_9075b_15 : decode cJ7_copyOf_9075b 15 = .ok (.newarray .byte, 2) := by decide +kernel
theorem dJ7_copyOf_9075b_17 : decode cJ7_copyOf_9075b 17 = .ok (.astore_n 2, 1) := by decide +kernel
theorem dJ7_copyOf_9075b_18 : decode cJ7_copyOf_9075b 18 = .ok (.aload_n 0, 1) := by decide +kernel
theorem dJ7_copyOf_9075b_19 : decode cJ7_copyOf_9075b 19 = .ok (.iconst 0, 1) := by decide +kernel
theorem dJ7_copyOf_9075b_20 : decode cJ7_copyOf_9075b 20 = .ok (.aload_n 2, 1) := by decide +kernel
theorem dJ7_copyOf_9075b_21 : decode cJ7_copyOf_9075b 21 = .ok (.iconst 0, 1) := by decide +kernel
theorem dJ7_copyOf_9075b_22 : decode cJ7_copyOf_9075b 22 = .ok (.aload_n 0, 1) := by decide +kernel
theorem dJ7_copyOf_9075b_23 : decode cJ7_copyOf_9075b 23 = .ok (.arraylength, 1) := by decide +kernel
theorem dJ7_copyOf_9075b_24 : decode cJ7_copyOf_9075b 24 = .ok (.iload_n 1, 1) := by decide +kernel
theorem dJ7_copyOf_9075b_25 : decode cJ7_copyOf_9075b 25 = .ok (.invokestatic 304, 3) := by decide +kernel
theorem dJ7_copyOf_9075b_28 : decode cJ7_copyOf_9075b 28 = .ok (.invokestatic 150, 3) := by decide +kernel
theorem dJ7_copyOf_9075b_31 : decode cJ7_copyOf_9075b 31 = .ok (.aload_n 2, 1) := by decide +kernel
theorem dJ7_copyOf_9075b_32 : decode cJ7_copyOf_9075b 32 = .ok (.areturn, 1) := by decide +kernel
theorem dJ7_checkLength_df160_0 : decode cJ7_checkLength_df160 0 = .ok (.iload_n 1, 1) := by decide +kernel
theorem dJ7_checkLength_df160_1 : decode cJ7_checkLength_df160 1 = .ok (.iload_n 0, 1) := by decide +kernel
theorem dJ7_checkLength_df160_2 : decode cJ7_checkLength_df160 2 = .ok (.if_icmp .ge 35, 3) := by decide +kernel
theorem dJ7_checkLength_df160_5 : decode cJ7_checkLength_df160 5 = .ok (.new 43, 3) := by decide +kernel
theorem dJ7_checkLength_df160_8 : decode cJ7_checkLength_df160 8 = .ok (.dup, 1) := by decide +kernel
theorem dJ7_checkLength_df160_9 : decode cJ7_checkLength_df160 9 = .ok (.new 45, 3) := by decide +kernel
theorem dJ7_checkLength_df160_12 : decode cJ7_checkLength_df160 12 = .ok (.dup, 1) := by decide +kernel
theorem dJ7_checkLength_df160_13 : decode cJ7_checkLength_df160 13 = .ok (.invokespecial 47, 3) := by decide +kernel
theorem dJ7_checkLength_df160_16 : decode cJ7_checkLength_df160 16 = .ok (.iload_n 0, 1) := by decide +kernel
theorem dJ7_checkLength_df160_17 : decode cJ7_checkLength_df160 17 = .ok (.invokevirtual 54, 3) := by decide +kernel
theorem dJ7_checkLength_df160_20 : decode cJ7_checkLength_df160 20 = .ok (.ldc_w 337, 3) := by decide +kernel
theorem dJ7_checkLength_df160_23 : decode cJ7_checkLength_df160 23 = .ok (.invokevirtual 50, 3) := by decide +kernel
theorem dJ7_checkLength_df160_26 : decode cJ7_checkLength_df160 26 = .ok (.iload_n 1, 1) := by decide +kernel
theorem dJ7_checkLength_df160_27 : decode cJ7_checkLength_df160 27 = .ok (.invokevirtual 54, 3) := by decide +kernel
theorem dJ7_checkLength_df160_30 : decode cJ7_checkLength_df160 30 = .ok (.invokevirtual 61, 3) := by decide +kernel
theorem dJ7_checkLength_df160_33 : decode cJ7_checkLength_df160 33 = .ok (.invokespecial 65, 3) := by decide +kernel
theorem dJ7_checkLength_df160_36 : decode cJ7_checkLength_df160 36 = .ok (.athrow, 1) := by decide +kernel
theorem dJ7_checkLength_df160_37 : decode cJ7_checkLength_df160 37 = .ok (.return_, 1) := by decide +kernel
theorem dJ7_copyOfRange_39247_0 : decode cJ7_copyOfRange_39247 0 = .ok (.iload_n 1, 1) := by decide +kernel
theorem dJ7_copyOfRange_39247_1 : decode cJ7_copyOfRange_39247 1 = .ok (.ifCond .ne 9, 3) := by decide +kernel
theorem dJ7_copyOfRange_39247_4 : decode cJ7_copyOfRange_39247 4 = .ok (.iload_n 2, 1) := by decide +kernel
theorem dJ7_copyOfRange_39247_5 : decode cJ7_copyOfRange_39247 5 = .ok (.aload_n 0, 1) := by decide +kernel
theorem dJ7_copyOfRange_39247_6 : decode cJ7_copyOfRange_39247 6 = .ok (.arraylength, 1) := by decide +kernel
theorem dJ7_copyOfRange_39247_7 : decode cJ7_copyOfRange_39247 7 = .ok (.if_icmp .eq 10, 3) := by decide +kernel
theorem dJ7_copyOfRange_39247_10 : decode cJ7_copyOfRange_39247 10 = .ok (.aload_n 0, 1) := by decide +kernel
theorem dJ7_copyOfRange_39247_11 : decode cJ7_copyOfRange_39247 11 = .ok (.iload_n 1, 1) := by decide +kernel
theorem dJ7_copyOfRange_39247_12 : decode cJ7_copyOfRange_39247 12 = .ok (.iload_n 2, 1) := by decide +kernel
theorem dJ7_copyOfRange_39247_13 : decode cJ7_copyOfRange_39247 13 = .ok (.invokestatic 339, 3) := by decide +kernel
theorem dJ7_copyOfRange_39247_16 : decode cJ7_copyOfRange_39247 16 = .ok (.areturn, 1) := by decide +kernel
theorem dJ7_copyOfRange_39247_17 : decode cJ7_copyOfRange_39247 17 = .ok (.aload_n 0, 1) := by decide +kernel
theorem dJ7_copyOfRange_39247_18 : decode cJ7_copyOfRange_39247 18 = .ok (.invokevirtual 310, 3) := by decide +kernel
theorem dJ7_copyOfRange_39247_21 : decode cJ7_copyOfRange_39247 21 = .ok (.checkcast 311, 3) := by decide +kernel
theorem dJ7_copyOfRange_39247_24 : decode cJ7_copyOfRange_39247 24 = .ok (.areturn, 1) := by decide +kernel
theorem dJ7_copyOfRangeByte_39247_0 : decode cJ7_copyOfRangeByte_39247 0 = .ok (.iload_n 1, 1) := by decide +kernel
theorem dJ7_copyOfRangeByte_39247_1 : decode cJ7_copyOfRangeByte_39247 1 = .ok (.iload_n 2, 1) := by decide +kernel
theorem dJ7_copyOfRangeByte_39247_2 : decode cJ7_copyOfRangeByte_39247 2 = .ok (.invokestatic 343, 3) := by decide +kernel
theorem dJ7_copyOfRangeByte_39247_5 : decode cJ7_copyOfRangeByte_39247 5 = .ok (.iload_n 2, 1) := by decide +kernel
theorem dJ7_copyOfRangeByte_39247_6 : decode cJ7_copyOfRangeByte_39247 6 = .ok (.iload_n 1, 1) := by decide +kernel
theorem dJ7_copyOfRangeByte_39247_7 : decode cJ7_copyOfRangeByte_39247 7 = .ok (.isub, 1) := by decide +kernel
theorem dJ7_copyOfRangeByte_39247_8 : decode cJ7_copyOfRangeByte_39247 8 = .ok (.istore_n 3, 1) := by decide +kernel
theorem dJ7_copyOfRangeByte_39247_9 : decode cJ7_copyOfRangeByte_39247 9 = .ok (.iload_n 3, 1) := by decide +kernel
theorem dJ7_copyOfRangeByte_39247_10 : decode cJ7_copyOfRangeByte_39247 10 = .ok (.newarray .byte, 2) := by decide +kernel
theorem dJ7_copyOfRangeByte_39247_12 : decode cJ7_copyOfRangeByte_39247 12 = .ok (.astore 4, 2) := by decide +kernel
theorem dJ7_copyOfRangeByte_39247_14 : decode cJ7_copyOfRangeByte_39247 14 = .ok (.aload_n 0, 1) := by decide +kernel
theorem dJ7_copyOfRangeByte_39247_15 : decode cJ7_copyOfRangeByte_39247 15 = .ok (.iload_n 1, 1) := by decide +kernel
theorem dJ7_copyOfRangeByte_39247_16 : decode cJ7_copyOfRangeByte_39247 16 = .ok (.aload 4, 2) := by decide +kernel
theorem dJ7_copyOfRangeByte_39247_18 : decode cJ7_copyOfRangeByte_39247 18 = .ok (.iconst 0, 1) := by decide +kernel
theorem dJ7_copyOfRangeByte_39247_19 : decode cJ7_copyOfRangeByte_39247 19 = .ok (.aload_n 0, 1) := by decide +kernel
theorem dJ7_copyOfRangeByte_39247_20 : decode cJ7_copyOfRangeByte_39247 20 = .ok (.arraylength, 1) := by decide +kernel
theorem dJ7_copyOfRangeByte_39247_21 : decode cJ7_copyOfRangeByte_39247 21 = .ok (.iload_n 1, 1) := by decide +kernel
theorem dJ7_copyOfRangeByte_39247_22 : decode cJ7_copyOfRangeByte_39247 22 = .ok (.isub, 1) := by decide +kernel
theorem dJ7_copyOfRangeByte_39247_23 : decode cJ7_copyOfRangeByte_39247 23 = .ok (.iload_n 3, 1) := by decide +kernel
theorem dJ7_copyOfRangeByte_39247_24 : decode cJ7_copyOfRangeByte_39247 24 = .ok (.invokestatic 304, 3) := by decide +kernel
theorem dJ7_copyOfRangeByte_39247_27 : decode cJ7_copyOfRangeByte_39247 27 = .ok (.invokestatic 150, 3) := by decide +kernel
theorem dJ7_copyOfRangeByte_39247_30 : decode cJ7_copyOfRangeByte_39247 30 = .ok (.aload 4, 2) := by decide +kernel
theorem dJ7_copyOfRangeByte_39247_32 : decode cJ7_copyOfRangeByte_39247 32 = .ok (.areturn, 1) := by decide +kernel
theorem dJ8_newLength_cabcc_0 : decode cJ8_newLength_cabcc 0 = .ok (.iload_n 0, 1) := by decide +kernel
theorem dJ8_newLength_cabcc_1 : decode cJ8_newLength_cabcc 1 = .ok (.iload_n 1, 1) := by decide +kernel
theorem dJ8_newLength_cabcc_2 : decode cJ8_newLength_cabcc 2 = .ok (.iload_n 2, 1) := by decide +kernel
theorem dJ8_newLength_cabcc_3 : decode cJ8_newLength_cabcc 3 = .ok (.invokestatic 194, 3) := by decide +kernel
theorem dJ8_newLength_cabcc_6 : decode cJ8_newLength_cabcc 6 = .ok (.iadd, 1) := by decide +kernel
theorem dJ8_newLength_cabcc_7 : decode cJ8_newLength_cabcc 7 = .ok (.istore_n 3, 1) := by decide +kernel
theorem dJ8_newLength_cabcc_8 : decode cJ8_newLength_cabcc 8 = .ok (.iconst 0, 1) := by decide +kernel
theorem dJ8_newLength_cabcc_9 : decode cJ8_newLength_cabcc 9 = .ok (.iload_n 3, 1) := by decide +kernel
theorem dJ8_newLength_cabcc_10 : decode cJ8_newLength_cabcc 10 = .ok (.if_icmp .ge 11, 3) := by decide +kernel
theorem dJ8_newLength_cabcc_13 : decode cJ8_newLength_cabcc 13 = .ok (.iload_n 3, 1) := by decide +kernel
theorem dJ8_newLength_cabcc_14 : decode cJ8_newLength_cabcc 14 = .ok (.ldc 200, 2) := by decide +kernel
theorem dJ8_newLength_cabcc_16 : decode cJ8_newLength_cabcc 16 = .ok (.if_icmp .gt 5, 3) := by decide +kernel
theorem dJ8_newLength_cabcc_19 : decode cJ8_newLength_cabcc 19 = .ok (.iload_n 3, 1) := by decide +kernel
theorem dJ8_newLength_cabcc_20 : decode cJ8_newLength_cabcc 20 = .ok (.ireturn, 1) := by decide +kernel
theorem dJ8_newLength_cabcc_21 : decode cJ8_newLength_cabcc 21 = .ok (.iload_n 0, 1) := by decide +kernel
theorem dJ8_newLength_cabcc_22 : decode cJ8_newLength_cabcc 22 = .ok (.iload_n 1, 1) := by decide +kernel
theorem dJ8_newLength_cabcc_23 : decode cJ8_newLength_cabcc 23 = .ok (.invokestatic 201, 3) := by decide +kernel
theorem dJ8_newLength_cabcc_26 : decode cJ8_newLength_cabcc 26 = .ok (.ireturn, 1) := by decide +kernel
theorem dJ8_hugeLength_7cf53_0 : decode cJ8_hugeLength_7cf53 0 = .ok (.iload_n 0, 1) := by decide +kernel
theorem dJ8_hugeLength_7cf53_1 : decode cJ8_hugeLength_7cf53 1 = .ok (.iload_n 1, 1) := by decide +kernel
theorem dJ8_hugeLength_7cf53_2 : decode cJ8_hugeLength_7cf53 2 = .ok (.iadd, 1) := by decide +kernel
theorem dJ8_hugeLength_7cf53_3 : decode cJ8_hugeLength_7cf53 3 = .ok (.istore_n 2, 1) := by decide +kernel
theorem dJ8_hugeLength_7cf53_4 : decode cJ8_hugeLength_7cf53 4 = .ok (.iload_n 2, 1) := by decide +kernel
theorem dJ8_hugeLength_7cf53_5 : decode cJ8_hugeLength_7cf53 5 = .ok (.ifCond .ge 44, 3) := by decide +kernel
theorem dJ8_hugeLength_7cf53_8 : decode cJ8_hugeLength_7cf53 8 = .ok (.new 204, 3) := by decide +kernel
theorem dJ8_hugeLength_7cf53_11 : decode cJ8_hugeLength_7cf53 11 = .ok (.dup, 1) := by decide +kernel
theorem dJ8_hugeLength_7cf53_12 : decode cJ8_hugeLength_7cf53 12 = .ok (.new 89, 3) := by decide +kernel
theorem dJ8_hugeLength_7cf53_15 : decode cJ8_hugeLength_7cf53 15 = .ok (.dup, 1) := by decide +kernel
theorem dJ8_hugeLength_7cf53_16 : decode cJ8_hugeLength_7cf53 16 = .ok (.invokespecial 91, 3) := by decide +kernel
theorem dJ8_hugeLength_7cf53_19 : decode cJ8_hugeLength_7cf53 19 = .ok (.ldc 206, 2) := by decide +kernel
theorem dJ8_hugeLength_7cf53_21 : decode cJ8_hugeLength_7cf53 21 = .ok (.invokevirtual 94, 3) := by decide +kernel
theorem dJ8_hugeLength_7cf53_24 : decode cJ8_hugeLength_7cf53 24 = .ok (.iload_n 0, 1) := by decide +kernel
theorem dJ8_hugeLength_7cf53_25 : decode cJ8_hugeLength_7cf53 25 = .ok (.invokevirtual 98, 3) := by decide +kernel
theorem dJ8_hugeLength_7cf53_28 : decode cJ8_hugeLength_7cf53 28 = .ok (.ldc 208, 2) := by decide +kernel
theorem dJ8_hugeLength_7cf53_30 : decode cJ8_hugeLength_7cf53 30 = .ok (.invokevirtual 94, 3) := by decide +kernel
theorem dJ8_hugeLength_7cf53_33 : decode cJ8_hugeLength_7cf53 33 = .ok (.iload_n 1, 1) := by decide +kernel
theorem dJ8_hugeLength_7cf53_34 : decode cJ8_hugeLength_7cf53 34 = .ok (.invokevirtual 98, 3) := by decide +kernel
theorem dJ8_hugeLength_7cf53_37 : decode cJ8_hugeLength_7cf53 37 = .ok (.ldc 210, 2) := by decide +kernel
theorem dJ8_hugeLength_7cf53_39 : decode cJ8_hugeLength_7cf53 39 = .ok (.invokevirtual 94, 3) := by decide +kernel
theorem dJ8_hugeLength_7cf53_42 : decode cJ8_hugeLength_7cf53 42 = .ok (.invokevirtual 101, 3) := by decide +kernel
theorem dJ8_hugeLength_7cf53_45 : decode cJ8_hugeLength_7cf53 45 = .ok (.invokespecial 212, 3) := by decide +kernel
theorem dJ8_hugeLength_7cf53_48 : decode cJ8_hugeLength_7cf53 48 = .ok (.athrow, 1) := by decide +kernel
theorem dJ8_hugeLength_7cf53_49 : decode cJ8_hugeLength_7cf53 49 = .ok (.iload_n 2, 1) := by decide +kernel
theorem dJ8_hugeLength_7cf53_50 : decode cJ8_hugeLength_7cf53 50 = .ok (.ldc 200, 2) := by decide +kernel
theorem dJ8_hugeLength_7cf53_52 : decode cJ8_hugeLength_7cf53 52 = .ok (.if_icmp .gt 6, 3) := by decide +kernel
theorem dJ8_hugeLength_7cf53_55 : decode cJ8_hugeLength_7cf53 55 = .ok (.ldc 200, 2) := by decide +kernel
theorem dJ8_hugeLength_7cf53_57 : decode cJ8_hugeLength_7cf53 57 = .ok (.ireturn, 1) := by decide +kernel
theorem dJ8_hugeLength_7cf53_58 : decode cJ8_hugeLength_7cf53 58 = .ok (.iload_n 2, 1) := by decide +kernel
theorem dJ8_hugeLength_7cf53_59 : decode cJ8_hugeLength_7cf53 59 = .ok (.ireturn, 1) := by decide +kernel
theorem dJ3_checkIndex_8e157_0 : decode cJ3_checkIndex_8e157 0 = .ok (.iload_n 0, 1) := by decide +kernel
theorem dJ3_checkIndex_8e157_1 : decode cJ3_checkIndex_8e157 1 = .ok (.ifCond .lt 8, 3) := by decide +kernel
theorem dJ3_checkIndex_8e157_4 : decode cJ3_checkIndex_8e157 4 = .ok (.iload_n 0, 1) := by decide +kernel
theorem dJ3_checkIndex_8e157_5 : decode cJ3_checkIndex_8e157 5 = .ok (.iload_n 1, 1) := by decide +kernel
theorem dJ3_checkIndex_8e157_6 : decode cJ3_checkIndex_8e157 6 = .ok (.if_icmp .lt 10, 3) := by decide +kernel
theorem dJ3_checkIndex_8e157_9 : decode cJ3_checkIndex_8e157 9 = .ok (.aload_n 2, 1) := by decide +kernel
theorem dJ3_checkIndex_8e157_10 : decode cJ3_checkIndex_8e157 10 = .ok (.iload_n 0, 1) := by decide +kernel
theorem dJ3_checkIndex_8e157_11 : decode cJ3_checkIndex_8e157 11 = .ok (.iload_n 1, 1) := by decide +kernel
theorem dJ3_checkIndex_8e157_12 : decode cJ3_checkIndex_8e157 12 = .ok (.invokestatic 95, 3) := by decide +kernel
theorem dJ3_checkIndex_8e157_15 : decode cJ3_checkIndex_8e157 15 = .ok (.athrow, 1) := by decide +kernel
theorem dJ3_checkIndex_8e157_16 : decode cJ3_checkIndex_8e157 16 = .ok (.iload_n 0, 1) := by decide +kernel
theorem dJ3_checkIndex_8e157_17 : decode cJ3_checkIndex_8e157 17 = .ok (.ireturn, 1) := by decide +kernel
theorem dJ3_checkFromToIndex_8c36e_0 : decode cJ3_checkFromToIndex_8c36e 0 = .ok (.iload_n 0, 1) := by decide +kernel
theorem dJ3_checkFromToIndex_8c36e_1 : decode cJ3_checkFromToIndex_8c36e 1 = .ok (.ifCond .lt 13, 3) := by decide +kernel
theorem dJ3_checkFromToIndex_8c36e_4 : decode cJ3_checkFromToIndex_8c36e 4 = .ok (.iload_n 0, 1) := by decide +kernel
theorem dJ3_checkFromToIndex_8c36e_5 : decode cJ3_checkFromToIndex_8c36e 5 = .ok (.iload_n 1, 1) := by decide +kernel
theorem dJ3_checkFromToIndex_8c36e_6 : decode cJ3_checkFromToIndex_8c36e 6 = .ok (.if_icmp .gt 8, 3) := by decide +kernel
theorem dJ3_checkFromToIndex_8c36e_9 : decode cJ3_checkFromToIndex_8c36e 9 = .ok (.iload_n 1, 1) := by decide +kernel
theorem dJ3_checkFromToIndex_8c36e_10 : decode cJ3_checkFromToIndex_8c36e 10 = .ok (.iload_n 2, 1) := by decide +kernel
theorem dJ3_checkFromToIndex_8c36e_11 : decode cJ3_checkFromToIndex_8c36e 11 = .ok (.if_icmp .le 11, 3) := by decide +kernel
theorem dJ3_checkFromToIndex_8c36e_14 : decode cJ3_checkFromToIndex_8c36e 14 = .ok (.aload_n 3, 1) := by decide +kernel
theorem dJ3_checkFromToIndex_8c36e_15 : decode cJ3_checkFromToIndex_8c36e 15 = .ok (.iload_n 0, 1) := by decide +kernel
theorem dJ3_checkFromToIndex_8c36e_16 : decode cJ3_checkFromToIndex_8c36e 16 = .ok (.iload_n 1, 1) := by decide +kernel
theorem dJ3_checkFromToIndex_8c36e_17 : decode cJ3_checkFromToIndex_8c36e 17 = .ok (.iload_n 2, 1) := by decide +kernel
theorem dJ3_checkFromToIndex_8c36e_18 : decode cJ3_checkFromToIndex_8c36e 18 = .ok (.invokestatic 99, 3) := by decide +kernel
theorem dJ3_checkFromToIndex_8c36e_21 : decode cJ3_checkFromToIndex_8c36e 21 = .ok (.athrow, 1) := by decide +kernel
theorem dJ3_checkFromToIndex_8c36e_22 : decode cJ3_checkFromToIndex_8c36e 22 = .ok (.iload_n 0, 1) := by decide +kernel
theorem dJ3_checkFromToIndex_8c36e_23 : decode cJ3_checkFromToIndex_8c36e 23 = .ok (.ireturn, 1) := by decide +kernel
theorem dJ3_checkFromIndexSize_8c36e_0 : decode cJ3_checkFromIndexSize_8c36e 0 = .ok (.iload_n 2, 1) := by decide +kernel
theorem dJ3_checkFromIndexSize_8c36e_1 : decode cJ3_checkFromIndexSize_8c36e 1 = .ok (.iload_n 0, 1) := by decide +kernel
theorem dJ3_checkFromIndexSize_8c36e_2 : decode cJ3_checkFromIndexSize_8c36e 2 = .ok (.ior, 1) := by decide +kernel
theorem dJ3_checkFromIndexSize_8c36e_3 : decode cJ3_checkFromIndexSize_8c36e 3 = .ok (.iload_n 1, 1) := by decide +kernel
theorem dJ3_checkFromIndexSize_8c36e_4 : decode cJ3_checkFromIndexSize_8c36e 4 = .ok (.ior, 1) := by decide +kernel
theorem dJ3_checkFromIndexSize_8c36e_5 : decode cJ3_checkFromIndexSize_8c36e 5 = .ok (.ifCond .lt 10, 3) := by decide +kernel
theorem dJ3_checkFromIndexSize_8c36e_8 : decode cJ3_checkFromIndexSize_8c36e 8 = .ok (.iload_n 1, 1) := by decide +kernel
theorem dJ3_checkFromIndexSize_8c36e_9 : decode cJ3_checkFromIndexSize_8c36e 9 = .ok (.iload_n 2, 1) := by decide +kernel
theorem dJ3_checkFromIndexSize_8c36e_10 : decode cJ3_checkFromIndexSize_8c36e 10 = .ok (.iload_n 0, 1) := by decide +kernel
theorem dJ3_checkFromIndexSize_8c36e_11 : decode cJ3_checkFromIndexSize_8c36e 11 = .ok (.isub, 1) := by decide +kernel
theorem dJ3_checkFromIndexSize_8c36e_12 : decode cJ3_checkFromIndexSize_8c36e 12 = .ok (.if_icmp .le 11, 3) := by decide +kernel
theorem dJ3_checkFromIndexSize_8c36e_15 : decode cJ3_checkFromIndexSize_8c36e 15 = .ok (.aload_n 3, 1) := by decide +kernel
theorem dJ3_checkFromIndexSize_8c36e_16 : decode cJ3_checkFromIndexSize_8c36e 16 = .ok (.iload_n 0, 1) := by decide +kernel
theorem dJ3_checkFromIndexSize_8c36e_17 : decode cJ3_checkFromIndexSize_8c36e 17 = .ok (.iload_n 1, 1) := by decide +kernel
theorem dJ3_checkFromIndexSize_8c36e_18 : decode cJ3_checkFromIndexSize_8c36e 18 = .ok (.iload_n 2, 1) := by decide +kernel
theorem dJ3_checkFromIndexSize_8c36e_19 : decode cJ3_checkFromIndexSize_8c36e 19 = .ok (.invokestatic 103, 3) := by decide +kernel
theorem dJ3_checkFromIndexSize_8c36e_22 : decode cJ3_checkFromIndexSize_8c36e 22 = .ok (.athrow, 1) := by decide +kernel
theorem dJ3_checkFromIndexSize_8c36e_23 : decode cJ3_checkFromIndexSize_8c36e 23 = .ok (.iload_n 0, 1) := by decide +kernel
theorem dJ3_checkFromIndexSize_8c36e_24 : decode cJ3_checkFromIndexSize_8c36e 24 = .ok (.ireturn, 1) := by decide +kernel
