theorem dX6_init_0 : decode cX6_init 0 = .ok (.aload_n 0, 1) := by decide +kernel
theorem dX6_init_1 : decode cX6_init 1 = .ok (.invokespecial 3, 3) := by decide +kernel
theorem dX6_init_4 : decode cX6_init 4 = .ok (.aload_n 0, 1) := by decide +kernel
theorem dX6_init_5 : decode cX6_init 5 = .ok (.new 9, 3) := by decide +kernel
theorem dX6_init_8 : decode cX6_init 8 = .ok (.dup, 1) := by decide +kernel
theorem dX6_init_9 : decode cX6_init 9 = .ok (.invokespecial 11, 3) := by decide +kernel
theorem dX6_init_12 : decode cX6_init 12 = .ok (.putfield 12, 3) := by decide +kernel
theorem dX6_init_15 : decode cX6_init 15 = .ok (.aload_n 0, 1) := by decide +kernel
theorem dX6_init_16 : decode cX6_init 16 = .ok (.new 16, 3) := by decide +kernel
theorem dX6_init_19 : decode cX6_init 19 = .ok (.dup, 1) := by decide +kernel
theorem dX6_init_20 : decode cX6_init 20 = .ok (.invokespecial 18, 3) := by decide +kernel
theorem dX6_init_23 : decode cX6_init 23 = .ok (.putfield 19, 3) := by decide +kernel
theorem dX6_init_26 : decode cX6_init 26 = .ok (.aload_n 0, 1) := by decide +kernel
theorem dX6_init_27 : decode cX6_init 27 = .ok (.new 23, 3) := by decide +kernel
theorem dX6_init_30 : decode cX6_init 30 = .ok (.dup, 1) := by decide +kernel
theorem dX6_init_31 : decode cX6_init 31 = .ok (.invokespecial 25, 3) := by decide +kernel
theorem dX6_init_34 : decode cX6_init 34 = .ok (.putfield 26, 3) := by decide +kernel
theorem dX6_init_37 : decode cX6_init 37 = .ok (.aload_n 0, 1) := by decide +kernel
theorem dX6_init_38 : decode cX6_init 38 = .ok (.iconst 2, 1) := by decide +kernel
theorem dX6_init_39 : decode cX6_init 39 = .ok (.anewarray 9, 3) := by decide +kernel
theorem dX6_init_42 : decode cX6_init 42 = .ok (.putfield 30, 3) := by decide +kernel
theorem dX6_init_45 : decode cX6_init 45 = .ok (.aload_n 0, 1) := by decide +kernel
theorem dX6_init_46 : decode cX6_init 46 = .ok (.iconst 2, 1) := by decide +kernel
theorem dX6_init_47 : decode cX6_init 47 = .ok (.newarray .boolean, 2) := by decide +kernel
theorem dX6_init_49 : decode cX6_init 49 = .ok (.putfield 34, 3) := by decide +kernel
theorem dX6_init_52 : decode cX6_init 52 = .ok (.aload_n 0, 1) := by decide +kernel
theorem dX6_init_53 : decode cX6_init 53 = .ok (.sipush 560, 3) := by decide +kernel
theorem dX6_init_56 : decode cX6_init 56 = .ok (.newarray .int, 2) := by decide +kernel
theorem dX6_init_58 : decode cX6_init 58 = .ok (.putfield 38, 3) := by decide +kernel
theorem dX6_init_61 : decode cX6_init 61 = .ok (.iconst 0, 1) := by decide +kernel
theorem dX6_init_62 : decode cX6_init 62 = .ok (.istore_n 1, 1) := by decide +kernel
theorem dX6_init_63 : decode cX6_init 63 = .ok (.iload_n 1, 1) := by decide +kernel
theorem dX6_init_64 : decode cX6_init 64 = .ok (.iconst 2, 1) := by decide +kernel
theorem dX6_init_65 : decode cX6_init 65 = .ok (.if_icmp .ge 22, 3) := by decide +kernel
theorem dX6_init_68 : decode cX6_init 68 = .ok (.aload_n 0, 1) := by decide +kernel
theorem dX6_init_69 : decode cX6_init 69 = .ok (.getfield 30, 3) := by decide +kernel
theorem dX6_init_72 : decode cX6_init 72 = .ok (.iload_n 1, 1) := by decide +kernel
theorem dX6_init_73 : decode cX6_init 73 = .ok (.new 9, 3) := by decide +kernel
theorem dX6_init_76 : decode cX6_init 76 = .ok (.dup, 1) := by decide +kernel
theorem dX6_init_77 : decode cX6_init 77 = .ok (.invokespecial 11, 3) := by decide +kernel
theorem dX6_init_80 : decode cX6_init 80 = .ok (.aastore, 1) := by decide +kernel
theorem dX6_init_81 : decode cX6_init 81 = .ok (.iinc 1 1, 3) := by decide +kernel
theorem dX6_init_84 : decode cX6_init 84 = .ok (.goto (-21), 3) := by decide +kernel
theorem dX6_init_87 : decode cX6_init 87 = .ok (.aload_n 0, 1) := by decide +kernel
theorem dX6_init_88 : decode cX6_init 88 = .ok (.getfield 19, 3) := by decide +kernel
theorem dX6_init_91 : decode cX6_init 91 = .ok (.getfield 42, 3) := by decide +kernel
theorem dX6_init_94 : decode cX6_init 94 = .ok (.ldc 46, 2) := by decide +kernel
theorem dX6_init_96 : decode cX6_init 96 = .ok (.invokevirtual 48, 3) := by decide +kernel
theorem dX6_init_99 : decode cX6_init 99 = .ok (.aload_n 0, 1) := by decide +kernel
theorem dX6_init_100 : decode cX6_init 100 = .ok (.getfield 19, 3) := by decide +kernel
theorem dX6_init_103 : decode cX6_init 103 = .ok (.invokevirtual 54, 3) := by decide +kernel
theorem dX6_init_106 : decode cX6_init 106 = .ok (.aload_n 0, 1) := by decide +kernel
theorem dX6_init_107 : decode cX6_init 107 = .ok (.getfield 19, 3) := by decide +kernel
theorem dX6_init_110 : decode cX6_init 110 = .ok (.invokevirtual 57, 3) := by decide +kernel
theorem dX6_init_113 : decode cX6_init 113 = .ok (.ifCond .eq 37, 3) := by decide +kernel
theorem dX6_init_116 : decode cX6_init 116 = .ok (.aload_n 0, 1) := by decide +kernel
theorem dX6_init_117 : decode cX6_init 117 = .ok (.getfield 19, 3) := by decide +kernel
theorem dX6_init_120 : decode cX6_init 120 = .ok (.invokevirtual 61, 3) := by decide +kernel
theorem dX6_init_123 : decode cX6_init 123 = .ok (.ifCond .eq 27, 3) := by decide +kernel
theorem dX6_init_126 : decode cX6_init 126 = .ok (.aload_n 0, 1) := by decide +kernel
theorem dX6_init_127 : decode cX6_init 127 = .ok (.getfield 19, 3) := by decide +kernel
theorem dX6_init_130 : decode cX6_init 130 = .ok (.invokevirtual 64, 3) := by decide +kernel
theorem dX6_init_133 : decode cX6_init 133 = .ok (.ifCond .eq 17, 3) := by decide +kernel
theorem dX6_init_136 : decode cX6_init 136 = .ok (.aload_n 0, 1) := by decide +kernel
theorem dX6_init_137 : decode cX6_init 137 = .ok (.getfield 12, 3) := by decide +kernel
theorem dX6_init_140 : decode cX6_init 140 = .ok (.aload_n 0, 1) := by decide +kernel
theorem dX6_init_141 : decode cX6_init 141 = .ok (.getfield 19, 3) := by decide +kernel
theorem dX6_init_144 : decode cX6_init 144 = .ok (.getfield 67, 3) := by decide +kernel
theorem dX6_init_147 : decode cX6_init 147 = .ok (.invokevirtual 70, 3) := by decide +kernel
theorem dX6_init_150 : decode cX6_init 150 = .ok (.aload_n 0, 1) := by decide +kernel
theorem dX6_init_151 : decode cX6_init 151 = .ok (.getfield 19, 3) := by decide +kernel
theorem dX6_init_154 : decode cX6_init 154 = .ok (.getfield 42, 3) := by decide +kernel
theorem dX6_init_157 : decode cX6_init 157 = .ok (.iconst 0, 1) := by decide +kernel
theorem dX6_init_158 : decode cX6_init 158 = .ok (.invokevirtual 74, 3) := by decide +kernel
theorem dX6_init_161 : decode cX6_init 161 = .ok (.return_, 1) := by decide +kernel
theorem dX6_append_0 : decode cX6_append 0 = .ok (.aload_n 0, 1) := by decide +kernel
theorem dX6_append_1 : decode cX6_append 1 = .ok (.getfield 19, 3) := by decide +kernel
theorem dX6_append_4 : decode cX6_append 4 = .ok (.getfield 42, 3) := by decide +kernel
theorem dX6_append_7 : decode cX6_append 7 = .ok (.getfield 78, 3) := by decide +kernel
theorem dX6_append_10 : decode cX6_append 10 = .ok (.bipush 20, 2) := by decide +kernel
theorem dX6_append_12 : decode cX6_append 12 = .ok (.iadd, 1) := by decide +kernel
theorem dX6_append_13 : decode cX6_append 13 = .ok (.sipush 700, 3) := by decide +kernel
theorem dX6_append_16 : decode cX6_append 16 = .ok (.if_icmp .le 5, 3) := by decide +kernel
theorem dX6_append_19 : decode cX6_append 19 = .ok (.iconst (-1), 1) := by decide +kernel
theorem dX6_append_20 : decode cX6_append 20 = .ok (.ireturn, 1) := by decide +kernel
theorem dX6_append_21 : decode cX6_append 21 = .ok (.aload_n 0, 1) := by decide +kernel
theorem dX6_append_22 : decode cX6_append 22 = .ok (.getfield 19, 3) := by decide +kernel
theorem dX6_append_25 : decode cX6_append 25 = .ok (.getfield 42, 3) := by decide +kernel
theorem dX6_append_28 : decode cX6_append 28 = .ok (.iload_n 1, 1) := by decide +kernel
theorem dX6_append_29 : decode cX6_append 29 = .ok (.invokevirtual 82, 3) := by decide +kernel
theorem dX6_append_32 : decode cX6_append 32 = .ok (.aload_n 0, 1) := by decide +kernel
theorem dX6_append_33 : decode cX6_append 33 = .ok (.getfield 19, 3) := by decide +kernel
theorem dX6_append_36 : decode cX6_append 36 = .ok (.getfield 42, 3) := by decide +kernel
theorem dX6_append_39 : decode cX6_append 39 = .ok (.iload_n 2, 1) := by decide +kernel
theorem dX6_append_40 : decode cX6_append 40 = .ok (.invokevirtual 82, 3) := by decide +kernel
theorem dX6_append_43 : decode cX6_append 43 = .ok (.aload_n 0, 1) := by decide +kernel
theorem dX6_append_44 : decode cX6_append 44 = .ok (.getfield 19, 3) := by decide +kernel
theorem dX6_append_47 : decode cX6_append 47 = .ok (.getfield 42, 3) := by decide +kernel
theorem dX6_append_50 : decode cX6_append 50 = .ok (.iload_n 3, 1) := by decide +kernel
theorem dX6_append_51 : decode cX6_append 51 = .ok (.invokevirtual 82, 3) := by decide +kernel
theorem dX6_append_54 : decode cX6_append 54 = .ok (.aload_n 0, 1) := by decide +kernel
theorem dX6_append_55 : decode cX6_append 55 = .ok (.getfield 19, 3) := by decide +kernel
theorem dX6_append_58 : decode cX6_append 58 = .ok (.getfield 42, 3) := by decide +kernel
theorem dX6_append_61 : decode cX6_append 61 = .ok (.iload 4, 2) := by decide +kernel
theorem dX6_append_63 : decode cX6_append 63 = .ok (.invokevirtual 82, 3) := by decide +kernel
theorem dX6_append_66 : decode cX6_append 66 = .ok (.aload_n 0, 1) := by decide +kernel
theorem dX6_append_67 : decode cX6_append 67 = .ok (.getfield 19, 3) := by decide +kernel
theorem dX6_append_70 : decode cX6_append 70 = .ok (.getfield 42, 3) := by decide +kernel
theorem dX6_append_73 : decode cX6_append 73 = .ok (.iload 5, 2) := by decide +kernel
theorem dX6_append_75 : decode cX6_append 75 = .ok (.invokevirtual 82, 3) := by decide +kernel
theorem dX6_append_78 : decode cX6_append 78 = .ok (.aload_n 0, 1) := by decide +kernel
theorem dX6_append_79 : decode cX6_append 79 = .ok (.getfield 19, 3) := by decide +kernel
theorem dX6_append_82 : decode cX6_append 82 = .ok (.getfield 42, 3) := by decide +kernel
theorem dX6_append_85 : decode cX6_append 85 = .ok (.getfield 78, 3) := by decide +kernel
theorem dX6_append_88 : decode cX6_append 88 = .ok (.ireturn, 1) := by decide +kernel
theorem dX6_truncateInput_0 : decode cX6_truncateInput 0 = .ok (.iload_n 1, 1) := by decide +kernel
theorem dX6_truncateInput_1 : decode cX6_truncateInput 1 = .ok (.ifCond .lt 17, 3) := by decide +kernel
theorem dX6_truncateInput_4 : decode cX6_truncateInput 4 = .ok (.iload_n 1, 1) := by decide +kernel
theorem dX6_truncateInput_5 : decode cX6_truncateInput 5 = .ok (.aload_n 0, 1) := by decide +kernel
theorem dX6_truncateInput_6 : decode cX6_truncateInput 6 = .ok (.getfield 19, 3) := by decide +kernel
theorem dX6_truncateInput_9 : decode cX6_truncateInput 9 = .ok (.getfield 42, 3) := by decide +kernel
theorem dX6_truncateInput_12 : decode cX6_truncateInput 12 = .ok (.getfield 78, 3) := by decide +kernel
theorem dX6_truncateInput_15 : decode cX6_truncateInput 15 = .ok (.if_icmp .le 13, 3) := by decide +kernel
theorem dX6_truncateInput_18 : decode cX6_truncateInput 18 = .ok (.new 85, 3) := by decide +kernel
theorem dX6_truncateInput_21 : decode cX6_truncateInput 21 = .ok (.dup, 1) := by decide +kernel
theorem dX6_truncateInput_22 : decode cX6_truncateInput 22 = .ok (.ldc 87, 2) := by decide +kernel
theorem dX6_truncateInput_24 : decode cX6_truncateInput 24 = .ok (.invokespecial 89, 3) := by decide +kernel
theorem dX6_truncateInput_27 : decode cX6_truncateInput 27 = .ok (.athrow, 1) := by decide +kernel
theorem dX6_truncateInput_28 : decode cX6_truncateInput 28 = .ok (.aload_n 0, 1) := by decide +kernel
theorem dX6_truncateInput_29 : decode cX6_truncateInput 29 = .ok (.getfield 19, 3) := by decide +kernel
theorem dX6_truncateInput_32 : decode cX6_truncateInput 32 = .ok (.getfield 42, 3) := by decide +kernel
theorem dX6_truncateInput_35 : decode cX6_truncateInput 35 = .ok (.iload_n 1, 1) := by decide +kernel
theorem dX6_truncateInput_36 : decode cX6_truncateInput 36 = .ok (.invokevirtual 74, 3) := by decide +kernel
theorem dX6_truncateInput_39 : decode cX6_truncateInput 39 = .ok (.iload_n 1, 1) := by decide +kernel
theorem dX6_truncateInput_40 : decode cX6_truncateInput 40 = .ok (.ireturn, 1) := by decide +kernel
theorem dX6_load_0 : decode cX6_load 0 = .ok (.aload_n 0, 1) := by decide +kernel
theorem dX6_load_1 : decode cX6_load 1 = .ok (.getfield 19, 3) := by decide +kernel
theorem dX6_load_4 : decode cX6_load 4 = .ok (.invokevirtual 54, 3) := by decide +kernel
theorem dX6_load_7 : decode cX6_load 7 = .ok (.aload_n 0, 1) := by decide +kernel
theorem dX6_load_8 : decode cX6_load 8 = .ok (.getfield 19, 3) := by decide +kernel
theorem dX6_load_11 : decode cX6_load 11 = .ok (.invokevirtual 57, 3) := by decide +kernel
theorem dX6_load_14 : decode cX6_load 14 = .ok (.ifCond .eq 38, 3) := by decide +kernel
theorem dX6_load_17 : decode cX6_load 17 = .ok (.aload_n 0, 1) := by decide +kernel
theorem dX6_load_18 : decode cX6_load 18 = .ok (.getfield 19, 3) := by decide +kernel
theorem dX6_load_21 : decode cX6_load 21 = .ok (.invokevirtual 61, 3) := by decide +kernel
theorem dX6_load_24 : decode cX6_load 24 = .ok (.ifCond .eq 28, 3) := by decide +kernel
theorem dX6_load_27 : decode cX6_load 27 = .ok (.aload_n 0, 1) := by decide +kernel
theorem dX6_load_28 : decode cX6_load 28 = .ok (.getfield 19, 3) := by decide +kernel
theorem dX6_load_31 : decode cX6_load 31 = .ok (.invokevirtual 64, 3) := by decide +kernel
theorem dX6_load_34 : decode cX6_load 34 = .ok (.ifCond .eq 18, 3) := by decide +kernel
theorem dX6_load_37 : decode cX6_load 37 = .ok (.aload_n 0, 1) := by decide +kernel
theorem dX6_load_38 : decode cX6_load 38 = .ok (.getfield 19, 3) := by decide +kernel
theorem dX6_load_41 : decode cX6_load 41 = .ok (.invokevirtual 91, 3) := by decide +kernel
theorem dX6_load_44 : decode cX6_load 44 = .ok (.iconst (-1), 1) := by decide +kernel
theorem dX6_load_45 : decode cX6_load 45 = .ok (.if_icmp .eq 7, 3) := by decide +kernel
theorem dX6_load_48 : decode cX6_load 48 = .ok (.iconst 1, 1) := by decide +kernel
theorem dX6_load_49 : decode cX6_load 49 = .ok (.goto 4, 3) := by decide +kernel
theorem dX6_load_52 : decode cX6_load 52 = .ok (.iconst 0, 1) := by decide +kernel
theorem dX6_load_53 : decode cX6_load 53 = .ok (.istore_n 1, 1) := by decide +kernel
theorem dX6_load_54 : decode cX6_load 54 = .ok (.aload_n 0, 1) := by decide +kernel
theorem dX6_load_55 : decode cX6_load 55 = .ok (.getfield 19, 3) := by decide +kernel
theorem dX6_load_58 : decode cX6_load 58 = .ok (.getfield 42, 3) := by decide +kernel
theorem dX6_load_61 : decode cX6_load 61 = .ok (.iconst 0, 1) := by decide +kernel
theorem dX6_load_62 : decode cX6_load 62 = .ok (.invokevirtual 74, 3) := by decide +kernel
theorem dX6_load_65 : decode cX6_load 65 = .ok (.iload_n 1, 1) := by decide +kernel
theorem dX6_load_66 : decode cX6_load 66 = .ok (.ifCond .ne 5, 3) := by decide +kernel
theorem dX6_load_69 : decode cX6_load 69 = .ok (.iconst (-1), 1) := by decide +kernel
theorem dX6_load_70 : decode cX6_load 70 = .ok (.ireturn, 1) := by decide +kernel
theorem dX6_load_71 : decode cX6_load 71 = .ok (.aload_n 0, 1) := by decide +kernel
theorem dX6_load_72 : decode cX6_load 72 = .ok (.invokevirtual 95, 3) := by decide +kernel
theorem dX6_load_75 : decode cX6_load 75 = .ok (.aload_n 0, 1) := by decide +kernel
theorem dX6_load_76 : decode cX6_load 76 = .ok (.getfield 12, 3) := by decide +kernel
theorem dX6_load_79 : decode cX6_load 79 = .ok (.getfield 98, 3) := by decide +kernel
theorem dX6_load_82 : decode cX6_load 82 = .ok (.getfield 102, 3) := by decide +kernel
theorem dX6_load_85 : decode cX6_load 85 = .ok (.ireturn, 1) := by decide +kernel
theorem dX6_call_0 : decode cX6_call 0 = .ok (.aload_n 0, 1) := by decide +kernel
theorem dX6_call_1 : decode cX6_call 1 = .ok (.iload_n 1, 1) := by decide +kernel
theorem dX6_call_2 : decode cX6_call 2 = .ok (.iload_n 2, 1) := by decide +kernel
theorem dX6_call_3 : decode cX6_call 3 = .ok (.invokevirtual 116, 3) := by decide +kernel
theorem dX6_call_6 : decode cX6_call 6 = .ok (.aload_n 0, 1) := by decide +kernel
theorem dX6_call_7 : decode cX6_call 7 = .ok (.invokevirtual 120, 3) := by decide +kernel
theorem dX6_call_10 : decode cX6_call 10 = .ok (.aload_n 0, 1) := by decide +kernel
theorem dX6_call_11 : decode cX6_call 11 = .ok (.getfield 26, 3) := by decide +kernel
theorem dX6_call_14 : decode cX6_call 14 = .ok (.aload_n 0, 1) := by decide +kernel
theorem dX6_call_15 : decode cX6_call 15 = .ok (.getfield 12, 3) := by decide +kernel
theorem dX6_call_18 : decode cX6_call 18 = .ok (.invokevirtual 123, 3) := by decide +kernel
theorem dX6_call_21 : decode cX6_call 21 = .ok (.aload_n 0, 1) := by decide +kernel
theorem dX6_call_22 : decode cX6_call 22 = .ok (.getfield 12, 3) := by decide +kernel
theorem dX6_call_25 : decode cX6_call 25 = .ok (.iload_n 1, 1) := by decide +kernel
theorem dX6_call_26 : decode cX6_call 26 = .ok (.iload_n 2, 1) := by decide +kernel
theorem dX6_call_27 : decode cX6_call 27 = .ok (.iconst (-1), 1) := by decide +kernel
theorem dX6_call_28 : decode cX6_call 28 = .ok (.iload_n 3, 1) := by decide +kernel
theorem dX6_call_29 : decode cX6_call 29 = .ok (.invokevirtual 126, 3) := by decide +kernel
theorem dX6_call_32 : decode cX6_call 32 = .ok (.ireturn, 1) := by decide +kernel
theorem dX6_callTrunk_0 : decode cX6_callTrunk 0 = .ok (.aload_n 0, 1) := by decide +kernel
theorem dX6_callTrunk_1 : decode cX6_callTrunk 1 = .ok (.iload_n 1, 1) := by decide +kernel
theorem dX6_callTrunk_2 : decode cX6_callTrunk 2 = .ok (.invokevirtual 130, 3) := by decide +kernel
theorem dX6_callTrunk_5 : decode cX6_callTrunk 5 = .ok (.aload_n 0, 1) := by decide +kernel
theorem dX6_callTrunk_6 : decode cX6_callTrunk 6 = .ok (.iload_n 2, 1) := by decide +kernel
theorem dX6_callTrunk_7 : decode cX6_callTrunk 7 = .ok (.invokevirtual 133, 3) := by decide +kernel
theorem dX6_callTrunk_10 : decode cX6_callTrunk 10 = .ok (.aload_n 0, 1) := by decide +kernel
theorem dX6_callTrunk_11 : decode cX6_callTrunk 11 = .ok (.invokevirtual 120, 3) := by decide +kernel
theorem dX6_callTrunk_14 : decode cX6_callTrunk 14 = .ok (.aload_n 0, 1) := by decide +kernel
theorem dX6_callTrunk_15 : decode cX6_callTrunk 15 = .ok (.getfield 26, 3) := by decide +kernel
theorem dX6_callTrunk_18 : decode cX6_callTrunk 18 = .ok (.aload_n 0, 1) := by decide +kernel
theorem dX6_callTrunk_19 : decode cX6_callTrunk 19 = .ok (.getfield 12, 3) := by decide +kernel
theorem dX6_callTrunk_22 : decode cX6_callTrunk 22 = .ok (.invokevirtual 123, 3) := by decide +kernel
theorem dX6_callTrunk_25 : decode cX6_callTrunk 25 = .ok (.aload_n 0, 1) := by decide +kernel
theorem dX6_callTrunk_26 : decode cX6_callTrunk 26 = .ok (.getfield 12, 3) := by decide +kernel
theorem dX6_callTrunk_29 : decode cX6_callTrunk 29 = .ok (.iload_n 1, 1) := by decide +kernel
theorem dX6_callTrunk_30 : decode cX6_callTrunk 30 = .ok (.iconst (-1), 1) := by decide +kernel
theorem dX6_callTrunk_31 : decode cX6_callTrunk 31 = .ok (.iload_n 2, 1) := by decide +kernel
theorem dX6_callTrunk_32 : decode cX6_callTrunk 32 = .ok (.iload_n 3, 1) := by decide +kernel
theorem dX6_callTrunk_33 : decode cX6_callTrunk 33 = .ok (.invokevirtual 126, 3) := by decide +kernel
theorem dX6_callTrunk_36 : decode cX6_callTrunk 36 = .ok (.ireturn, 1) := by decide +kernel
theorem dX6_end_0 : decode cX6_end 0 = .ok (.aload_n 0, 1) := by decide +kernel
theorem dX6_end_1 : decode cX6_end 1 = .ok (.iload_n 1, 1) := by decide +kernel
theorem dX6_end_2 : decode cX6_end 2 = .ok (.invokevirtual 136, 3) := by decide +kernel
theorem dX6_end_5 : decode cX6_end 5 = .ok (.aload_n 0, 1) := by decide +kernel
theorem dX6_end_6 : decode cX6_end 6 = .ok (.getfield 12, 3) := by decide +kernel
theorem dX6_end_9 : decode cX6_end 9 = .ok (.getfield 139, 3) := by decide +kernel
theorem dX6_end_12 : decode cX6_end 12 = .ok (.iload_n 1, 1) := by decide +kernel
theorem dX6_end_13 : decode cX6_end 13 = .ok (.invokevirtual 143, 3) := by decide +kernel
theorem dX6_end_16 : decode cX6_end 16 = .ok (.ifCond .eq 13, 3) := by decide +kernel
theorem dX6_end_19 : decode cX6_end 19 = .ok (.new 149, 3) := by decide +kernel
theorem dX6_end_22 : decode cX6_end 22 = .ok (.dup, 1) := by decide +kernel
theorem dX6_end_23 : decode cX6_end 23 = .ok (.ldc 151, 2) := by decide +kernel
theorem dX6_end_25 : decode cX6_end 25 = .ok (.invokespecial 153, 3) := by decide +kernel
theorem dX6_end_28 : decode cX6_end 28 = .ok (.athrow, 1) := by decide +kernel
theorem dX6_end_29 : decode cX6_end 29 = .ok (.aload_n 0, 1) := by decide +kernel
theorem dX6_end_30 : decode cX6_end 30 = .ok (.getfield 26, 3) := by decide +kernel
theorem dX6_end_33 : decode cX6_end 33 = .ok (.aload_n 0, 1) := by decide +kernel
theorem dX6_end_34 : decode cX6_end 34 = .ok (.getfield 12, 3) := by decide +kernel
theorem dX6_end_37 : decode cX6_end 37 = .ok (.invokevirtual 123, 3) := by decide +kernel
theorem dX6_end_40 : decode cX6_end 40 = .ok (.aload_n 0, 1) := by decide +kernel
theorem dX6_end_41 : decode cX6_end 41 = .ok (.getfield 12, 3) := by decide +kernel
theorem dX6_end_44 : decode cX6_end 44 = .ok (.iload_n 1, 1) := by decide +kernel
theorem dX6_end_45 : decode cX6_end 45 = .ok (.invokevirtual 154, 3) := by decide +kernel
theorem dX6_end_48 : decode cX6_end 48 = .ok (.ireturn, 1) := by decide +kernel
theorem dX6_waitFor_0 : decode cX6_waitFor 0 = .ok (.iload_n 1, 1) := by decide +kernel
theorem dX6_waitFor_1 : decode cX6_waitFor 1 = .ok (.iconst 1, 1) := by decide +kernel
theorem dX6_waitFor_2 : decode cX6_waitFor 2 = .ok (.if_icmp .lt 10, 3) := by decide +kernel
theorem dX6_waitFor_5 : decode cX6_waitFor 5 = .ok (.iload_n 1, 1) := by decide +kernel
theorem dX6_waitFor_6 : decode cX6_waitFor 6 = .ok (.sipush 9999, 3) := by decide +kernel
theorem dX6_waitFor_9 : decode cX6_waitFor 9 = .ok (.if_icmp .le 13, 3) := by decide +kernel
theorem dX6_waitFor_12 : decode cX6_waitFor 12 = .ok (.new 85, 3) := by decide +kernel
theorem dX6_waitFor_15 : decode cX6_waitFor 15 = .ok (.dup, 1) := by decide +kernel
theorem dX6_waitFor_16 : decode cX6_waitFor 16 = .ok (.ldc 158, 2) := by decide +kernel
theorem dX6_waitFor_18 : decode cX6_waitFor 18 = .ok (.invokespecial 89, 3) := by decide +kernel
theorem dX6_waitFor_21 : decode cX6_waitFor 21 = .ok (.athrow, 1) := by decide +kernel
theorem dX6_waitFor_22 : decode cX6_waitFor 22 = .ok (.aload_n 0, 1) := by decide +kernel
theorem dX6_waitFor_23 : decode cX6_waitFor 23 = .ok (.getfield 12, 3) := by decide +kernel
theorem dX6_waitFor_26 : decode cX6_waitFor 26 = .ok (.getfield 160, 3) := by decide +kernel
theorem dX6_waitFor_29 : decode cX6_waitFor 29 = .ok (.iload_n 1, 1) := by decide +kernel
theorem dX6_waitFor_30 : decode cX6_waitFor 30 = .ok (.iadd, 1) := by decide +kernel
theorem dX6_waitFor_31 : decode cX6_waitFor 31 = .ok (.ldc 163, 2) := by decide +kernel
theorem dX6_waitFor_33 : decode cX6_waitFor 33 = .ok (.if_icmp .le 13, 3) := by decide +kernel
theorem dX6_waitFor_36 : decode cX6_waitFor 36 = .ok (.new 149, 3) := by decide +kernel
theorem dX6_waitFor_39 : decode cX6_waitFor 39 = .ok (.dup, 1) := by decide +kernel
theorem dX6_waitFor_40 : decode cX6_waitFor 40 = .ok (.ldc 164, 2) := by decide +kernel
theorem dX6_waitFor_42 : decode cX6_waitFor 42 = .ok (.invokespecial 153, 3) := by decide +kernel
theorem dX6_waitFor_45 : decode cX6_waitFor 45 = .ok (.athrow, 1) := by decide +kernel
theorem dX6_waitFor_46 : decode cX6_waitFor 46 = .ok (.aload_n 0, 1) := by decide +kernel
theorem dX6_waitFor_47 : decode cX6_waitFor 47 = .ok (.getfield 26, 3) := by decide +kernel
theorem dX6_waitFor_50 : decode cX6_waitFor 50 = .ok (.aload_n 0, 1) := by decide +kernel
theorem dX6_waitFor_51 : decode cX6_waitFor 51 = .ok (.getfield 12, 3) := by decide +kernel
theorem dX6_waitFor_54 : decode cX6_waitFor 54 = .ok (.invokevirtual 123, 3) := by decide +kernel
theorem dX6_waitFor_57 : decode cX6_waitFor 57 = .ok (.aload_n 0, 1) := by decide +kernel
theorem dX6_waitFor_58 : decode cX6_waitFor 58 = .ok (.getfield 12, 3) := by decide +kernel
theorem dX6_waitFor_61 : decode cX6_waitFor 61 = .ok (.dup, 1) := by decide +kernel
theorem dX6_waitFor_62 : decode cX6_waitFor 62 = .ok (.getfield 160, 3) := by decide +kernel
theorem dX6_waitFor_65 : decode cX6_waitFor 65 = .ok (.iload_n 1, 1) := by decide +kernel
theorem dX6_waitFor_66 : decode cX6_waitFor 66 = .ok (.iadd, 1) := by decide +kernel
theorem dX6_waitFor_67 : decode cX6_waitFor 67 = .ok (.putfield 160, 3) := by decide +kernel
theorem dX6_waitFor_70 : decode cX6_waitFor 70 = .ok (.aload_n 0, 1) := by decide +kernel
theorem dX6_waitFor_71 : decode cX6_waitFor 71 = .ok (.getfield 12, 3) := by decide +kernel
theorem dX6_waitFor_74 : decode cX6_waitFor 74 = .ok (.getfield 160, 3) := by decide +kernel
theorem dX6_waitFor_77 : decode cX6_waitFor 77 = .ok (.ireturn, 1) := by decide +kernel
theorem dX6_setCuriosity_0 : decode cX6_setCuriosity 0 = .ok (.aload_n 0, 1) := by decide +kernel
theorem dX6_setCuriosity_1 : decode cX6_setCuriosity 1 = .ok (.iload_n 1, 1) := by decide +kernel
theorem dX6_setCuriosity_2 : decode cX6_setCuriosity 2 = .ok (.invokevirtual 130, 3) := by decide +kernel
theorem dX6_setCuriosity_5 : decode cX6_setCuriosity 5 = .ok (.iload_n 2, 1) := by decide +kernel
theorem dX6_setCuriosity_6 : decode cX6_setCuriosity 6 = .ok (.ifCond .lt 9, 3) := by decide +kernel
theorem dX6_setCuriosity_9 : decode cX6_setCuriosity 9 = .ok (.iload_n 2, 1) := by decide +kernel
theorem dX6_setCuriosity_10 : decode cX6_setCuriosity 10 = .ok (.bipush 9, 2) := by decide +kernel
theorem dX6_setCuriosity_12 : decode cX6_setCuriosity 12 = .ok (.if_icmp .le 13, 3) := by decide +kernel
theorem dX6_setCuriosity_15 : decode cX6_setCuriosity 15 = .ok (.new 85, 3) := by decide +kernel
theorem dX6_setCuriosity_18 : decode cX6_setCuriosity 18 = .ok (.dup, 1) := by decide +kernel
theorem dX6_setCuriosity_19 : decode cX6_setCuriosity 19 = .ok (.ldc 166, 2) := by decide +kernel
theorem dX6_setCuriosity_21 : decode cX6_setCuriosity 21 = .ok (.invokespecial 89, 3) := by decide +kernel
theorem dX6_setCuriosity_24 : decode cX6_setCuriosity 24 = .ok (.athrow, 1) := by decide +kernel
theorem dX6_setCuriosity_25 : decode cX6_setCuriosity 25 = .ok (.aload_n 0, 1) := by decide +kernel
theorem dX6_setCuriosity_26 : decode cX6_setCuriosity 26 = .ok (.getfield 26, 3) := by decide +kernel
theorem dX6_setCuriosity_29 : decode cX6_setCuriosity 29 = .ok (.aload_n 0, 1) := by decide +kernel
theorem dX6_setCuriosity_30 : decode cX6_setCuriosity 30 = .ok (.getfield 12, 3) := by decide +kernel
theorem dX6_setCuriosity_33 : decode cX6_setCuriosity 33 = .ok (.invokevirtual 123, 3) := by decide +kernel
theorem dX6_setCuriosity_36 : decode cX6_setCuriosity 36 = .ok (.aload_n 0, 1) := by decide +kernel
theorem dX6_setCuriosity_37 : decode cX6_setCuriosity 37 = .ok (.getfield 12, 3) := by decide +kernel
theorem dX6_setCuriosity_40 : decode cX6_setCuriosity 40 = .ok (.getfield 98, 3) := by decide +kernel
theorem dX6_setCuriosity_43 : decode cX6_setCuriosity 43 = .ok (.getfield 168, 3) := by decide +kernel
theorem dX6_setCuriosity_46 : decode cX6_setCuriosity 46 = .ok (.iload_n 1, 1) := by decide +kernel
theorem dX6_setCuriosity_47 : decode cX6_setCuriosity 47 = .ok (.iaload, 1) := by decide +kernel
theorem dX6_setCuriosity_48 : decode cX6_setCuriosity 48 = .ok (.istore_n 3, 1) := by decide +kernel
theorem dX6_setCuriosity_49 : decode cX6_setCuriosity 49 = .ok (.aload_n 0, 1) := by decide +kernel
theorem dX6_setCuriosity_50 : decode cX6_setCuriosity 50 = .ok (.getfield 12, 3) := by decide +kernel
theorem dX6_setCuriosity_53 : decode cX6_setCuriosity 53 = .ok (.getfield 98, 3) := by decide +kernel
theorem dX6_setCuriosity_56 : decode cX6_setCuriosity 56 = .ok (.getfield 168, 3) := by decide +kernel
theorem dX6_setCuriosity_59 : decode cX6_setCuriosity 59 = .ok (.iload_n 1, 1) := by decide +kernel
theorem dX6_setCuriosity_60 : decode cX6_setCuriosity 60 = .ok (.iload_n 2, 1) := by decide +kernel
theorem dX6_setCuriosity_61 : decode cX6_setCuriosity 61 = .ok (.iastore, 1) := by decide +kernel
theorem dX6_setCuriosity_62 : decode cX6_setCuriosity 62 = .ok (.iload_n 3, 1) := by decide +kernel
theorem dX6_setCuriosity_63 : decode cX6_setCuriosity 63 = .ok (.ireturn, 1) := by decide +kernel
theorem dX6_undo_0 : decode cX6_undo 0 = .ok (.aload_n 0, 1) := by decide +kernel
theorem dX6_undo_1 : decode cX6_undo 1 = .ok (.getfield 26, 3) := by decide +kernel
theorem dX6_undo_4 : decode cX6_undo 4 = .ok (.getfield 171, 3) := by decide +kernel
theorem dX6_undo_7 : decode cX6_undo 7 = .ok (.ifCond .ne 13, 3) := by decide +kernel
theorem dX6_undo_10 : decode cX6_undo 10 = .ok (.new 149, 3) := by decide +kernel
theorem dX6_undo_13 : decode cX6_undo 13 = .ok (.dup, 1) := by decide +kernel
theorem dX6_undo_14 : decode cX6_undo 14 = .ok (.ldc 172, 2) := by decide +kernel
theorem dX6_undo_16 : decode cX6_undo 16 = .ok (.invokespecial 153, 3) := by decide +kernel
theorem dX6_undo_19 : decode cX6_undo 19 = .ok (.athrow, 1) := by decide +kernel
theorem dX6_undo_20 : decode cX6_undo 20 = .ok (.aload_n 0, 1) := by decide +kernel
theorem dX6_undo_21 : decode cX6_undo 21 = .ok (.getfield 26, 3) := by decide +kernel
theorem dX6_undo_24 : decode cX6_undo 24 = .ok (.aload_n 0, 1) := by decide +kernel
theorem dX6_undo_25 : decode cX6_undo 25 = .ok (.getfield 12, 3) := by decide +kernel
theorem dX6_undo_28 : decode cX6_undo 28 = .ok (.invokevirtual 174, 3) := by decide +kernel
theorem dX6_undo_31 : decode cX6_undo 31 = .ok (.aload_n 0, 1) := by decide +kernel
theorem dX6_undo_32 : decode cX6_undo 32 = .ok (.getfield 26, 3) := by decide +kernel
theorem dX6_undo_35 : decode cX6_undo 35 = .ok (.getfield 171, 3) := by decide +kernel
theorem dX6_undo_38 : decode cX6_undo 38 = .ok (.ireturn, 1) := by decide +kernel
theorem dX6_clock_0 : decode cX6_clock 0 = .ok (.aload_n 0, 1) := by decide +kernel
theorem dX6_clock_1 : decode cX6_clock 1 = .ok (.getfield 12, 3) := by decide +kernel
theorem dX6_clock_4 : decode cX6_clock 4 = .ok (.getfield 160, 3) := by decide +kernel
theorem dX6_clock_7 : decode cX6_clock 7 = .ok (.ireturn, 1) := by decide +kernel
theorem dX6_lineCount_0 : decode cX6_lineCount 0 = .ok (.aload_n 0, 1) := by decide +kernel
theorem dX6_lineCount_1 : decode cX6_lineCount 1 = .ok (.getfield 12, 3) := by decide +kernel
theorem dX6_lineCount_4 : decode cX6_lineCount 4 = .ok (.getfield 182, 3) := by decide +kernel
theorem dX6_lineCount_7 : decode cX6_lineCount 7 = .ok (.ireturn, 1) := by decide +kernel
theorem dX6_cordCount_0 : decode cX6_cordCount 0 = .ok (.aload_n 0, 1) := by decide +kernel
theorem dX6_cordCount_1 : decode cX6_cordCount 1 = .ok (.getfield 12, 3) := by decide +kernel
theorem dX6_cordCount_4 : decode cX6_cordCount 4 = .ok (.getfield 185, 3) := by decide +kernel
theorem dX6_cordCount_7 : decode cX6_cordCount 7 = .ok (.ireturn, 1) := by decide +kernel
theorem dX6_freeCords_0 : decode cX6_freeCords 0 = .ok (.aload_n 0, 1) := by decide +kernel
theorem dX6_freeCords_1 : decode cX6_freeCords 1 = .ok (.getfield 12, 3) := by decide +kernel
theorem dX6_freeCords_4 : decode cX6_freeCords 4 = .ok (.invokevirtual 188, 3) := by decide +kernel
theorem dX6_freeCords_7 : decode cX6_freeCords 7 = .ok (.ireturn, 1) := by decide +kernel
theorem dX6_trunkCount_0 : decode cX6_trunkCount 0 = .ok (.aload_n 0, 1) := by decide +kernel
theorem dX6_trunkCount_1 : decode cX6_trunkCount 1 = .ok (.getfield 12, 3) := by decide +kernel
theorem dX6_trunkCount_4 : decode cX6_trunkCount 4 = .ok (.getfield 191, 3) := by decide +kernel
theorem dX6_trunkCount_7 : decode cX6_trunkCount 7 = .ok (.ireturn, 1) := by decide +kernel
theorem dX6_subscriberCount_0 : decode cX6_subscriberCount 0 = .ok (.aload_n 0, 1) := by decide +kernel
theorem dX6_subscriberCount_1 : decode cX6_subscriberCount 1 = .ok (.getfield 12, 3) := by decide +kernel
theorem dX6_subscriberCount_4 : decode cX6_subscriberCount 4 = .ok (.getfield 98, 3) := by decide +kernel
theorem dX6_subscriberCount_7 : decode cX6_subscriberCount 7 = .ok (.getfield 102, 3) := by decide +kernel
theorem dX6_subscriberCount_10 : decode cX6_subscriberCount 10 = .ok (.ireturn, 1) := by decide +kernel
theorem dX6_callCount_0 : decode cX6_callCount 0 = .ok (.aload_n 0, 1) := by decide +kernel
theorem dX6_callCount_1 : decode cX6_callCount 1 = .ok (.getfield 12, 3) := by decide +kernel
theorem dX6_callCount_4 : decode cX6_callCount 4 = .ok (.getfield 139, 3) := by decide +kernel
theorem dX6_callCount_7 : decode cX6_callCount 7 = .ok (.getfield 194, 3) := by decide +kernel
theorem dX6_callCount_10 : decode cX6_callCount 10 = .ok (.ireturn, 1) := by decide +kernel
theorem dX6_waitingCalls_0 : decode cX6_waitingCalls 0 = .ok (.aload_n 0, 1) := by decide +kernel
theorem dX6_waitingCalls_1 : decode cX6_waitingCalls 1 = .ok (.getfield 12, 3) := by decide +kernel
theorem dX6_waitingCalls_4 : decode cX6_waitingCalls 4 = .ok (.getfield 139, 3) := by decide +kernel
theorem dX6_waitingCalls_7 : decode cX6_waitingCalls 7 = .ok (.iconst 0, 1) := by decide +kernel
theorem dX6_waitingCalls_8 : decode cX6_waitingCalls 8 = .ok (.invokevirtual 195, 3) := by decide +kernel
theorem dX6_waitingCalls_11 : decode cX6_waitingCalls 11 = .ok (.ireturn, 1) := by decide +kernel
theorem dX6_talkingCalls_0 : decode cX6_talkingCalls 0 = .ok (.aload_n 0, 1) := by decide +kernel
theorem dX6_talkingCalls_1 : decode cX6_talkingCalls 1 = .ok (.getfield 12, 3) := by decide +kernel
theorem dX6_talkingCalls_4 : decode cX6_talkingCalls 4 = .ok (.getfield 139, 3) := by decide +kernel
theorem dX6_talkingCalls_7 : decode cX6_talkingCalls 7 = .ok (.iconst 1, 1) := by decide +kernel
theorem dX6_talkingCalls_8 : decode cX6_talkingCalls 8 = .ok (.invokevirtual 195, 3) := by decide +kernel
theorem dX6_talkingCalls_11 : decode cX6_talkingCalls 11 = .ok (.ireturn, 1) := by decide +kernel
theorem dX6_undoableChanges_0 : decode cX6_undoableChanges 0 = .ok (.aload_n 0, 1) := by decide +kernel
theorem dX6_undoableChanges_1 : decode cX6_undoableChanges 1 = .ok (.getfield 26, 3) := by decide +kernel
theorem dX6_undoableChanges_4 : decode cX6_undoableChanges 4 = .ok (.getfield 171, 3) := by decide +kernel
theorem dX6_undoableChanges_7 : decode cX6_undoableChanges 7 = .ok (.ireturn, 1) := by decide +kernel
theorem dX6_isLineBusy_0 : decode cX6_isLineBusy 0 = .ok (.aload_n 0, 1) := by decide +kernel
theorem dX6_isLineBusy_1 : decode cX6_isLineBusy 1 = .ok (.iload_n 1, 1) := by decide +kernel
theorem dX6_isLineBusy_2 : decode cX6_isLineBusy 2 = .ok (.invokevirtual 198, 3) := by decide +kernel
theorem dX6_isLineBusy_5 : decode cX6_isLineBusy 5 = .ok (.aload_n 0, 1) := by decide +kernel
theorem dX6_isLineBusy_6 : decode cX6_isLineBusy 6 = .ok (.getfield 12, 3) := by decide +kernel
theorem dX6_isLineBusy_9 : decode cX6_isLineBusy 9 = .ok (.getfield 139, 3) := by decide +kernel
theorem dX6_isLineBusy_12 : decode cX6_isLineBusy 12 = .ok (.invokevirtual 201, 3) := by decide +kernel
theorem dX6_isLineBusy_15 : decode cX6_isLineBusy 15 = .ok (.iload_n 1, 1) := by decide +kernel
theorem dX6_isLineBusy_16 : decode cX6_isLineBusy 16 = .ok (.invokestatic 204, 3) := by decide +kernel
theorem dX6_isLineBusy_19 : decode cX6_isLineBusy 19 = .ok (.iand, 1) := by decide +kernel
theorem dX6_isLineBusy_20 : decode cX6_isLineBusy 20 = .ok (.ifCond .eq 7, 3) := by decide +kernel
theorem dX6_isLineBusy_23 : decode cX6_isLineBusy 23 = .ok (.iconst 1, 1) := by decide +kernel
theorem dX6_isLineBusy_24 : decode cX6_isLineBusy 24 = .ok (.goto 4, 3) := by decide +kernel
theorem dX6_isLineBusy_27 : decode cX6_isLineBusy 27 = .ok (.iconst 0, 1) := by decide +kernel
theorem dX6_isLineBusy_28 : decode cX6_isLineBusy 28 = .ok (.ireturn, 1) := by decide +kernel
theorem dX6_isTrunkBusy_0 : decode cX6_isTrunkBusy 0 = .ok (.aload_n 0, 1) := by decide +kernel
theorem dX6_isTrunkBusy_1 : decode cX6_isTrunkBusy 1 = .ok (.iload_n 1, 1) := by decide +kernel
theorem dX6_isTrunkBusy_2 : decode cX6_isTrunkBusy 2 = .ok (.invokevirtual 133, 3) := by decide +kernel
theorem dX6_isTrunkBusy_5 : decode cX6_isTrunkBusy 5 = .ok (.aload_n 0, 1) := by decide +kernel
theorem dX6_isTrunkBusy_6 : decode cX6_isTrunkBusy 6 = .ok (.getfield 12, 3) := by decide +kernel
theorem dX6_isTrunkBusy_9 : decode cX6_isTrunkBusy 9 = .ok (.getfield 139, 3) := by decide +kernel
theorem dX6_isTrunkBusy_12 : decode cX6_isTrunkBusy 12 = .ok (.invokevirtual 201, 3) := by decide +kernel
theorem dX6_isTrunkBusy_15 : decode cX6_isTrunkBusy 15 = .ok (.iload_n 1, 1) := by decide +kernel
theorem dX6_isTrunkBusy_16 : decode cX6_isTrunkBusy 16 = .ok (.invokestatic 207, 3) := by decide +kernel
theorem dX6_isTrunkBusy_19 : decode cX6_isTrunkBusy 19 = .ok (.iand, 1) := by decide +kernel
theorem dX6_isTrunkBusy_20 : decode cX6_isTrunkBusy 20 = .ok (.ifCond .eq 7, 3) := by decide +kernel
theorem dX6_isTrunkBusy_23 : decode cX6_isTrunkBusy 23 = .ok (.iconst 1, 1) := by decide +kernel
theorem dX6_isTrunkBusy_24 : decode cX6_isTrunkBusy 24 = .ok (.goto 4, 3) := by decide +kernel
theorem dX6_isTrunkBusy_27 : decode cX6_isTrunkBusy 27 = .ok (.iconst 0, 1) := by decide +kernel
theorem dX6_isTrunkBusy_28 : decode cX6_isTrunkBusy 28 = .ok (.ireturn, 1) := by decide +kernel
theorem dX6_toll_0 : decode cX6_toll 0 = .ok (.aload_n 0, 1) := by decide +kernel
theorem dX6_toll_1 : decode cX6_toll 1 = .ok (.iload_n 1, 1) := by decide +kernel
theorem dX6_toll_2 : decode cX6_toll 2 = .ok (.invokevirtual 133, 3) := by decide +kernel
theorem dX6_toll_5 : decode cX6_toll 5 = .ok (.aload_n 0, 1) := by decide +kernel
theorem dX6_toll_6 : decode cX6_toll 6 = .ok (.getfield 12, 3) := by decide +kernel
theorem dX6_toll_9 : decode cX6_toll 9 = .ok (.getfield 210, 3) := by decide +kernel
theorem dX6_toll_12 : decode cX6_toll 12 = .ok (.iload_n 1, 1) := by decide +kernel
theorem dX6_toll_13 : decode cX6_toll 13 = .ok (.iaload, 1) := by decide +kernel
theorem dX6_toll_14 : decode cX6_toll 14 = .ok (.ireturn, 1) := by decide +kernel
theorem dX6_lineOf_0 : decode cX6_lineOf 0 = .ok (.aload_n 0, 1) := by decide +kernel
theorem dX6_lineOf_1 : decode cX6_lineOf 1 = .ok (.iload_n 1, 1) := by decide +kernel
theorem dX6_lineOf_2 : decode cX6_lineOf 2 = .ok (.invokevirtual 130, 3) := by decide +kernel
theorem dX6_lineOf_5 : decode cX6_lineOf 5 = .ok (.aload_n 0, 1) := by decide +kernel
theorem dX6_lineOf_6 : decode cX6_lineOf 6 = .ok (.getfield 12, 3) := by decide +kernel
theorem dX6_lineOf_9 : decode cX6_lineOf 9 = .ok (.getfield 98, 3) := by decide +kernel
theorem dX6_lineOf_12 : decode cX6_lineOf 12 = .ok (.getfield 213, 3) := by decide +kernel
theorem dX6_lineOf_15 : decode cX6_lineOf 15 = .ok (.iload_n 1, 1) := by decide +kernel
theorem dX6_lineOf_16 : decode cX6_lineOf 16 = .ok (.iaload, 1) := by decide +kernel
theorem dX6_lineOf_17 : decode cX6_lineOf 17 = .ok (.ireturn, 1) := by decide +kernel
theorem dX6_curiosity_0 : decode cX6_curiosity 0 = .ok (.aload_n 0, 1) := by decide +kernel
theorem dX6_curiosity_1 : decode cX6_curiosity 1 = .ok (.iload_n 1, 1) := by decide +kernel
theorem dX6_curiosity_2 : decode cX6_curiosity 2 = .ok (.invokevirtual 130, 3) := by decide +kernel
theorem dX6_curiosity_5 : decode cX6_curiosity 5 = .ok (.aload_n 0, 1) := by decide +kernel
theorem dX6_curiosity_6 : decode cX6_curiosity 6 = .ok (.getfield 12, 3) := by decide +kernel
theorem dX6_curiosity_9 : decode cX6_curiosity 9 = .ok (.getfield 98, 3) := by decide +kernel
theorem dX6_curiosity_12 : decode cX6_curiosity 12 = .ok (.getfield 168, 3) := by decide +kernel
theorem dX6_curiosity_15 : decode cX6_curiosity 15 = .ok (.iload_n 1, 1) := by decide +kernel
theorem dX6_curiosity_16 : decode cX6_curiosity 16 = .ok (.iaload, 1) := by decide +kernel
theorem dX6_curiosity_17 : decode cX6_curiosity 17 = .ok (.ireturn, 1) := by decide +kernel
theorem dX6_bill_0 : decode cX6_bill 0 = .ok (.aload_n 0, 1) := by decide +kernel
theorem dX6_bill_1 : decode cX6_bill 1 = .ok (.iload_n 1, 1) := by decide +kernel
theorem dX6_bill_2 : decode cX6_bill 2 = .ok (.invokevirtual 130, 3) := by decide +kernel
theorem dX6_bill_5 : decode cX6_bill 5 = .ok (.aload_n 0, 1) := by decide +kernel
theorem dX6_bill_6 : decode cX6_bill 6 = .ok (.getfield 12, 3) := by decide +kernel
theorem dX6_bill_9 : decode cX6_bill 9 = .ok (.getfield 98, 3) := by decide +kernel
theorem dX6_bill_12 : decode cX6_bill 12 = .ok (.getfield 216, 3) := by decide +kernel
theorem dX6_bill_15 : decode cX6_bill 15 = .ok (.iload_n 1, 1) := by decide +kernel
theorem dX6_bill_16 : decode cX6_bill 16 = .ok (.iaload, 1) := by decide +kernel
theorem dX6_bill_17 : decode cX6_bill 17 = .ok (.ireturn, 1) := by decide +kernel
theorem dX6_secretsKnown_0 : decode cX6_secretsKnown 0 = .ok (.aload_n 0, 1) := by decide +kernel
theorem dX6_secretsKnown_1 : decode cX6_secretsKnown 1 = .ok (.iload_n 1, 1) := by decide +kernel
theorem dX6_secretsKnown_2 : decode cX6_secretsKnown 2 = .ok (.invokevirtual 130, 3) := by decide +kernel
theorem dX6_secretsKnown_5 : decode cX6_secretsKnown 5 = .ok (.aload_n 0, 1) := by decide +kernel
theorem dX6_secretsKnown_6 : decode cX6_secretsKnown 6 = .ok (.getfield 12, 3) := by decide +kernel
theorem dX6_secretsKnown_9 : decode cX6_secretsKnown 9 = .ok (.getfield 98, 3) := by decide +kernel
theorem dX6_secretsKnown_12 : decode cX6_secretsKnown 12 = .ok (.getfield 230, 3) := by decide +kernel
theorem dX6_secretsKnown_15 : decode cX6_secretsKnown 15 = .ok (.iload_n 1, 1) := by decide +kernel
theorem dX6_secretsKnown_16 : decode cX6_secretsKnown 16 = .ok (.iaload, 1) := by decide +kernel
theorem dX6_secretsKnown_17 : decode cX6_secretsKnown 17 = .ok (.ireturn, 1) := by decide +kernel
theorem dX6_knowers_0 : decode cX6_knowers 0 = .ok (.aload_n 0, 1) := by decide +kernel
theorem dX6_knowers_1 : decode cX6_knowers 1 = .ok (.iload_n 1, 1) := by decide +kernel
theorem dX6_knowers_2 : decode cX6_knowers 2 = .ok (.invokevirtual 130, 3) := by decide +kernel
theorem dX6_knowers_5 : decode cX6_knowers 5 = .ok (.aload_n 0, 1) := by decide +kernel
theorem dX6_knowers_6 : decode cX6_knowers 6 = .ok (.getfield 12, 3) := by decide +kernel
theorem dX6_knowers_9 : decode cX6_knowers 9 = .ok (.getfield 98, 3) := by decide +kernel
theorem dX6_knowers_12 : decode cX6_knowers 12 = .ok (.iload_n 1, 1) := by decide +kernel
theorem dX6_knowers_13 : decode cX6_knowers 13 = .ok (.invokevirtual 248, 3) := by decide +kernel
theorem dX6_knowers_16 : decode cX6_knowers 16 = .ok (.ireturn, 1) := by decide +kernel
theorem dX6_bestInformed_0 : decode cX6_bestInformed 0 = .ok (.aload_n 0, 1) := by decide +kernel
theorem dX6_bestInformed_1 : decode cX6_bestInformed 1 = .ok (.getfield 12, 3) := by decide +kernel
theorem dX6_bestInformed_4 : decode cX6_bestInformed 4 = .ok (.getfield 98, 3) := by decide +kernel
theorem dX6_bestInformed_7 : decode cX6_bestInformed 7 = .ok (.invokevirtual 251, 3) := by decide +kernel
theorem dX6_bestInformed_10 : decode cX6_bestInformed 10 = .ok (.ireturn, 1) := by decide +kernel
theorem dX6_callState_0 : decode cX6_callState 0 = .ok (.aload_n 0, 1) := by decide +kernel
theorem dX6_callState_1 : decode cX6_callState 1 = .ok (.iload_n 1, 1) := by decide +kernel
theorem dX6_callState_2 : decode cX6_callState 2 = .ok (.invokevirtual 136, 3) := by decide +kernel
theorem dX6_callState_5 : decode cX6_callState 5 = .ok (.aload_n 0, 1) := by decide +kernel
theorem dX6_callState_6 : decode cX6_callState 6 = .ok (.getfield 12, 3) := by decide +kernel
theorem dX6_callState_9 : decode cX6_callState 9 = .ok (.getfield 139, 3) := by decide +kernel
theorem dX6_callState_12 : decode cX6_callState 12 = .ok (.getfield 254, 3) := by decide +kernel
theorem dX6_callState_15 : decode cX6_callState 15 = .ok (.iload_n 1, 1) := by decide +kernel
theorem dX6_callState_16 : decode cX6_callState 16 = .ok (.iaload, 1) := by decide +kernel
theorem dX6_callState_17 : decode cX6_callState 17 = .ok (.ireturn, 1) := by decide +kernel
theorem dX6_callerOf_0 : decode cX6_callerOf 0 = .ok (.aload_n 0, 1) := by decide +kernel
theorem dX6_callerOf_1 : decode cX6_callerOf 1 = .ok (.iload_n 1, 1) := by decide +kernel
theorem dX6_callerOf_2 : decode cX6_callerOf 2 = .ok (.invokevirtual 136, 3) := by decide +kernel
theorem dX6_callerOf_5 : decode cX6_callerOf 5 = .ok (.aload_n 0, 1) := by decide +kernel
theorem dX6_callerOf_6 : decode cX6_callerOf 6 = .ok (.getfield 12, 3) := by decide +kernel
theorem dX6_callerOf_9 : decode cX6_callerOf 9 = .ok (.getfield 139, 3) := by decide +kernel
theorem dX6_callerOf_12 : decode cX6_callerOf 12 = .ok (.getfield 257, 3) := by decide +kernel
theorem dX6_callerOf_15 : decode cX6_callerOf 15 = .ok (.iload_n 1, 1) := by decide +kernel
theorem dX6_callerOf_16 : decode cX6_callerOf 16 = .ok (.iaload, 1) := by decide +kernel
theorem dX6_callerOf_17 : decode cX6_callerOf 17 = .ok (.ireturn, 1) := by decide +kernel
theorem dX6_calledSubscriber_0 : decode cX6_calledSubscriber 0 = .ok (.aload_n 0, 1) := by decide +kernel
theorem dX6_calledSubscriber_1 : decode cX6_calledSubscriber 1 = .ok (.iload_n 1, 1) := by decide +kernel
theorem dX6_calledSubscriber_2 : decode cX6_calledSubscriber 2 = .ok (.invokevirtual 136, 3) := by decide +kernel
theorem dX6_calledSubscriber_5 : decode cX6_calledSubscriber 5 = .ok (.aload_n 0, 1) := by decide +kernel
theorem dX6_calledSubscriber_6 : decode cX6_calledSubscriber 6 = .ok (.getfield 12, 3) := by decide +kernel
theorem dX6_calledSubscriber_9 : decode cX6_calledSubscriber 9 = .ok (.getfield 139, 3) := by decide +kernel
theorem dX6_calledSubscriber_12 : decode cX6_calledSubscriber 12 = .ok (.getfield 260, 3) := by decide +kernel
theorem dX6_calledSubscriber_15 : decode cX6_calledSubscriber 15 = .ok (.iload_n 1, 1) := by decide +kernel
theorem dX6_calledSubscriber_16 : decode cX6_calledSubscriber 16 = .ok (.iaload, 1) := by decide +kernel
theorem dX6_calledSubscriber_17 : decode cX6_calledSubscriber 17 = .ok (.ireturn, 1) := by decide +kernel
theorem dX6_calledTrunk_0 : decode cX6_calledTrunk 0 = .ok (.aload_n 0, 1) := by decide +kernel
theorem dX6_calledTrunk_1 : decode cX6_calledTrunk 1 = .ok (.iload_n 1, 1) := by decide +kernel
theorem dX6_calledTrunk_2 : decode cX6_calledTrunk 2 = .ok (.invokevirtual 136, 3) := by decide +kernel
theorem dX6_calledTrunk_5 : decode cX6_calledTrunk 5 = .ok (.aload_n 0, 1) := by decide +kernel
theorem dX6_calledTrunk_6 : decode cX6_calledTrunk 6 = .ok (.getfield 12, 3) := by decide +kernel
theorem dX6_calledTrunk_9 : decode cX6_calledTrunk 9 = .ok (.getfield 139, 3) := by decide +kernel
theorem dX6_calledTrunk_12 : decode cX6_calledTrunk 12 = .ok (.getfield 263, 3) := by decide +kernel
theorem dX6_calledTrunk_15 : decode cX6_calledTrunk 15 = .ok (.iload_n 1, 1) := by decide +kernel
theorem dX6_calledTrunk_16 : decode cX6_calledTrunk 16 = .ok (.iaload, 1) := by decide +kernel
theorem dX6_calledTrunk_17 : decode cX6_calledTrunk 17 = .ok (.ireturn, 1) := by decide +kernel
theorem dX6_startTime_0 : decode cX6_startTime 0 = .ok (.aload_n 0, 1) := by decide +kernel
theorem dX6_startTime_1 : decode cX6_startTime 1 = .ok (.iload_n 1, 1) := by decide +kernel
theorem dX6_startTime_2 : decode cX6_startTime 2 = .ok (.invokevirtual 136, 3) := by decide +kernel
theorem dX6_startTime_5 : decode cX6_startTime 5 = .ok (.aload_n 0, 1) := by decide +kernel
theorem dX6_startTime_6 : decode cX6_startTime 6 = .ok (.getfield 12, 3) := by decide +kernel
theorem dX6_startTime_9 : decode cX6_startTime 9 = .ok (.getfield 139, 3) := by decide +kernel
theorem dX6_startTime_12 : decode cX6_startTime 12 = .ok (.getfield 266, 3) := by decide +kernel
theorem dX6_startTime_15 : decode cX6_startTime 15 = .ok (.iload_n 1, 1) := by decide +kernel
theorem dX6_startTime_16 : decode cX6_startTime 16 = .ok (.iaload, 1) := by decide +kernel
theorem dX6_startTime_17 : decode cX6_startTime 17 = .ok (.ireturn, 1) := by decide +kernel
theorem dX6_endTime_0 : decode cX6_endTime 0 = .ok (.aload_n 0, 1) := by decide +kernel
theorem dX6_endTime_1 : decode cX6_endTime 1 = .ok (.iload_n 1, 1) := by decide +kernel
theorem dX6_endTime_2 : decode cX6_endTime 2 = .ok (.invokevirtual 136, 3) := by decide +kernel
theorem dX6_endTime_5 : decode cX6_endTime 5 = .ok (.aload_n 0, 1) := by decide +kernel
theorem dX6_endTime_6 : decode cX6_endTime 6 = .ok (.getfield 12, 3) := by decide +kernel
theorem dX6_endTime_9 : decode cX6_endTime 9 = .ok (.getfield 139, 3) := by decide +kernel
theorem dX6_endTime_12 : decode cX6_endTime 12 = .ok (.getfield 269, 3) := by decide +kernel
theorem dX6_endTime_15 : decode cX6_endTime 15 = .ok (.iload_n 1, 1) := by decide +kernel
theorem dX6_endTime_16 : decode cX6_endTime 16 = .ok (.iaload, 1) := by decide +kernel
theorem dX6_endTime_17 : decode cX6_endTime 17 = .ok (.ireturn, 1) := by decide +kernel
theorem dX6_listeners_0 : decode cX6_listeners 0 = .ok (.aload_n 0, 1) := by decide +kernel
theorem dX6_listeners_1 : decode cX6_listeners 1 = .ok (.iload_n 1, 1) := by decide +kernel
theorem dX6_listeners_2 : decode cX6_listeners 2 = .ok (.invokevirtual 136, 3) := by decide +kernel
theorem dX6_listeners_5 : decode cX6_listeners 5 = .ok (.aload_n 0, 1) := by decide +kernel
theorem dX6_listeners_6 : decode cX6_listeners 6 = .ok (.getfield 12, 3) := by decide +kernel
theorem dX6_listeners_9 : decode cX6_listeners 9 = .ok (.getfield 139, 3) := by decide +kernel
theorem dX6_listeners_12 : decode cX6_listeners 12 = .ok (.getfield 272, 3) := by decide +kernel
theorem dX6_listeners_15 : decode cX6_listeners 15 = .ok (.iload_n 1, 1) := by decide +kernel
theorem dX6_listeners_16 : decode cX6_listeners 16 = .ok (.iaload, 1) := by decide +kernel
theorem dX6_listeners_17 : decode cX6_listeners 17 = .ok (.ireturn, 1) := by decide +kernel
theorem dX6_volume_0 : decode cX6_volume 0 = .ok (.aload_n 0, 1) := by decide +kernel
theorem dX6_volume_1 : decode cX6_volume 1 = .ok (.iload_n 1, 1) := by decide +kernel
theorem dX6_volume_2 : decode cX6_volume 2 = .ok (.invokevirtual 136, 3) := by decide +kernel
theorem dX6_volume_5 : decode cX6_volume 5 = .ok (.aload_n 0, 1) := by decide +kernel
theorem dX6_volume_6 : decode cX6_volume 6 = .ok (.getfield 12, 3) := by decide +kernel
theorem dX6_volume_9 : decode cX6_volume 9 = .ok (.getfield 139, 3) := by decide +kernel
theorem dX6_volume_12 : decode cX6_volume 12 = .ok (.getfield 272, 3) := by decide +kernel
theorem dX6_volume_15 : decode cX6_volume 15 = .ok (.iload_n 1, 1) := by decide +kernel
theorem dX6_volume_16 : decode cX6_volume 16 = .ok (.iaload, 1) := by decide +kernel
theorem dX6_volume_17 : decode cX6_volume 17 = .ok (.invokestatic 275, 3) := by decide +kernel
theorem dX6_volume_20 : decode cX6_volume 20 = .ok (.ireturn, 1) := by decide +kernel
theorem dX6_charge_0 : decode cX6_charge 0 = .ok (.aload_n 0, 1) := by decide +kernel
theorem dX6_charge_1 : decode cX6_charge 1 = .ok (.iload_n 1, 1) := by decide +kernel
theorem dX6_charge_2 : decode cX6_charge 2 = .ok (.invokevirtual 136, 3) := by decide +kernel
theorem dX6_charge_5 : decode cX6_charge 5 = .ok (.aload_n 0, 1) := by decide +kernel
theorem dX6_charge_6 : decode cX6_charge 6 = .ok (.getfield 12, 3) := by decide +kernel
theorem dX6_charge_9 : decode cX6_charge 9 = .ok (.iload_n 1, 1) := by decide +kernel
theorem dX6_charge_10 : decode cX6_charge 10 = .ok (.invokevirtual 278, 3) := by decide +kernel
theorem dX6_charge_13 : decode cX6_charge 13 = .ok (.ireturn, 1) := by decide +kernel
theorem dX6_obstacle_0 : decode cX6_obstacle 0 = .ok (.aload_n 0, 1) := by decide +kernel
theorem dX6_obstacle_1 : decode cX6_obstacle 1 = .ok (.iload_n 1, 1) := by decide +kernel
theorem dX6_obstacle_2 : decode cX6_obstacle 2 = .ok (.invokevirtual 136, 3) := by decide +kernel
theorem dX6_obstacle_5 : decode cX6_obstacle 5 = .ok (.aload_n 0, 1) := by decide +kernel
theorem dX6_obstacle_6 : decode cX6_obstacle 6 = .ok (.getfield 12, 3) := by decide +kernel
theorem dX6_obstacle_9 : decode cX6_obstacle 9 = .ok (.getfield 139, 3) := by decide +kernel
theorem dX6_obstacle_12 : decode cX6_obstacle 12 = .ok (.getfield 254, 3) := by decide +kernel
theorem dX6_obstacle_15 : decode cX6_obstacle 15 = .ok (.iload_n 1, 1) := by decide +kernel
theorem dX6_obstacle_16 : decode cX6_obstacle 16 = .ok (.iaload, 1) := by decide +kernel
theorem dX6_obstacle_17 : decode cX6_obstacle 17 = .ok (.ifCond .ne 14, 3) := by decide +kernel
theorem dX6_obstacle_20 : decode cX6_obstacle 20 = .ok (.aload_n 0, 1) := by decide +kernel
theorem dX6_obstacle_21 : decode cX6_obstacle 21 = .ok (.getfield 12, 3) := by decide +kernel
theorem dX6_obstacle_24 : decode cX6_obstacle 24 = .ok (.iload_n 1, 1) := by decide +kernel
theorem dX6_obstacle_25 : decode cX6_obstacle 25 = .ok (.invokevirtual 281, 3) := by decide +kernel
theorem dX6_obstacle_28 : decode cX6_obstacle 28 = .ok (.goto 4, 3) := by decide +kernel
theorem dX6_obstacle_31 : decode cX6_obstacle 31 = .ok (.iconst 0, 1) := by decide +kernel
theorem dX6_obstacle_32 : decode cX6_obstacle 32 = .ok (.ireturn, 1) := by decide +kernel
theorem dX6_queuePlace_0 : decode cX6_queuePlace 0 = .ok (.aload_n 0, 1) := by decide +kernel
theorem dX6_queuePlace_1 : decode cX6_queuePlace 1 = .ok (.iload_n 1, 1) := by decide +kernel
theorem dX6_queuePlace_2 : decode cX6_queuePlace 2 = .ok (.invokevirtual 136, 3) := by decide +kernel
theorem dX6_queuePlace_5 : decode cX6_queuePlace 5 = .ok (.aload_n 0, 1) := by decide +kernel
theorem dX6_queuePlace_6 : decode cX6_queuePlace 6 = .ok (.getfield 12, 3) := by decide +kernel
theorem dX6_queuePlace_9 : decode cX6_queuePlace 9 = .ok (.getfield 139, 3) := by decide +kernel
theorem dX6_queuePlace_12 : decode cX6_queuePlace 12 = .ok (.iload_n 1, 1) := by decide +kernel
theorem dX6_queuePlace_13 : decode cX6_queuePlace 13 = .ok (.invokevirtual 284, 3) := by decide +kernel
theorem dX6_queuePlace_16 : decode cX6_queuePlace 16 = .ok (.ireturn, 1) := by decide +kernel
theorem dX6_listenersBetween_0 : decode cX6_listenersBetween 0 = .ok (.aload_n 0, 1) := by decide +kernel
theorem dX6_listenersBetween_1 : decode cX6_listenersBetween 1 = .ok (.iload_n 1, 1) := by decide +kernel
theorem dX6_listenersBetween_2 : decode cX6_listenersBetween 2 = .ok (.iload_n 2, 1) := by decide +kernel
theorem dX6_listenersBetween_3 : decode cX6_listenersBetween 3 = .ok (.invokevirtual 116, 3) := by decide +kernel
theorem dX6_listenersBetween_6 : decode cX6_listenersBetween 6 = .ok (.aload_n 0, 1) := by decide +kernel
theorem dX6_listenersBetween_7 : decode cX6_listenersBetween 7 = .ok (.getfield 12, 3) := by decide +kernel
theorem dX6_listenersBetween_10 : decode cX6_listenersBetween 10 = .ok (.getfield 98, 3) := by decide +kernel
theorem dX6_listenersBetween_13 : decode cX6_listenersBetween 13 = .ok (.iload_n 1, 1) := by decide +kernel
theorem dX6_listenersBetween_14 : decode cX6_listenersBetween 14 = .ok (.iload_n 2, 1) := by decide +kernel
theorem dX6_listenersBetween_15 : decode cX6_listenersBetween 15 = .ok (.invokevirtual 290, 3) := by decide +kernel
theorem dX6_listenersBetween_18 : decode cX6_listenersBetween 18 = .ok (.ireturn, 1) := by decide +kernel
theorem dX6_startsIfEnded_0 : decode cX6_startsIfEnded 0 = .ok (.aload_n 0, 1) := by decide +kernel
theorem dX6_startsIfEnded_1 : decode cX6_startsIfEnded 1 = .ok (.iload_n 1, 1) := by decide +kernel
theorem dX6_startsIfEnded_2 : decode cX6_startsIfEnded 2 = .ok (.invokevirtual 136, 3) := by decide +kernel
theorem dX6_startsIfEnded_5 : decode cX6_startsIfEnded 5 = .ok (.aload_n 0, 1) := by decide +kernel
theorem dX6_startsIfEnded_6 : decode cX6_startsIfEnded 6 = .ok (.getfield 12, 3) := by decide +kernel
theorem dX6_startsIfEnded_9 : decode cX6_startsIfEnded 9 = .ok (.getfield 139, 3) := by decide +kernel
theorem dX6_startsIfEnded_12 : decode cX6_startsIfEnded 12 = .ok (.iload_n 1, 1) := by decide +kernel
theorem dX6_startsIfEnded_13 : decode cX6_startsIfEnded 13 = .ok (.invokevirtual 143, 3) := by decide +kernel
theorem dX6_startsIfEnded_16 : decode cX6_startsIfEnded 16 = .ok (.ifCond .eq 5, 3) := by decide +kernel
theorem dX6_startsIfEnded_19 : decode cX6_startsIfEnded 19 = .ok (.iconst 0, 1) := by decide +kernel
theorem dX6_startsIfEnded_20 : decode cX6_startsIfEnded 20 = .ok (.ireturn, 1) := by decide +kernel
theorem dX6_startsIfEnded_21 : decode cX6_startsIfEnded 21 = .ok (.aload_n 0, 1) := by decide +kernel
theorem dX6_startsIfEnded_22 : decode cX6_startsIfEnded 22 = .ok (.getfield 19, 3) := by decide +kernel
theorem dX6_startsIfEnded_25 : decode cX6_startsIfEnded 25 = .ok (.getfield 67, 3) := by decide +kernel
theorem dX6_startsIfEnded_28 : decode cX6_startsIfEnded 28 = .ok (.aload_n 0, 1) := by decide +kernel
theorem dX6_startsIfEnded_29 : decode cX6_startsIfEnded 29 = .ok (.getfield 12, 3) := by decide +kernel
theorem dX6_startsIfEnded_32 : decode cX6_startsIfEnded 32 = .ok (.invokevirtual 70, 3) := by decide +kernel
theorem dX6_startsIfEnded_35 : decode cX6_startsIfEnded 35 = .ok (.aload_n 0, 1) := by decide +kernel
theorem dX6_startsIfEnded_36 : decode cX6_startsIfEnded 36 = .ok (.getfield 19, 3) := by decide +kernel
theorem dX6_startsIfEnded_39 : decode cX6_startsIfEnded 39 = .ok (.getfield 67, 3) := by decide +kernel
theorem dX6_startsIfEnded_42 : decode cX6_startsIfEnded 42 = .ok (.iload_n 1, 1) := by decide +kernel
theorem dX6_startsIfEnded_43 : decode cX6_startsIfEnded 43 = .ok (.invokevirtual 154, 3) := by decide +kernel
theorem dX6_startsIfEnded_46 : decode cX6_startsIfEnded 46 = .ok (.ireturn, 1) := by decide +kernel
theorem dX6_inconsistencies_0 : decode cX6_inconsistencies 0 = .ok (.aload_n 0, 1) := by decide +kernel
theorem dX6_inconsistencies_1 : decode cX6_inconsistencies 1 = .ok (.getfield 12, 3) := by decide +kernel
theorem dX6_inconsistencies_4 : decode cX6_inconsistencies 4 = .ok (.getfield 139, 3) := by decide +kernel
theorem dX6_inconsistencies_7 : decode cX6_inconsistencies 7 = .ok (.invokevirtual 296, 3) := by decide +kernel
theorem dX6_inconsistencies_10 : decode cX6_inconsistencies 10 = .ok (.aload_n 0, 1) := by decide +kernel
theorem dX6_inconsistencies_11 : decode cX6_inconsistencies 11 = .ok (.getfield 12, 3) := by decide +kernel
theorem dX6_inconsistencies_14 : decode cX6_inconsistencies 14 = .ok (.invokevirtual 299, 3) := by decide +kernel
theorem dX6_inconsistencies_17 : decode cX6_inconsistencies 17 = .ok (.iadd, 1) := by decide +kernel
theorem dX6_inconsistencies_18 : decode cX6_inconsistencies 18 = .ok (.aload_n 0, 1) := by decide +kernel
theorem dX6_inconsistencies_19 : decode cX6_inconsistencies 19 = .ok (.getfield 12, 3) := by decide +kernel
theorem dX6_inconsistencies_22 : decode cX6_inconsistencies 22 = .ok (.invokevirtual 302, 3) := by decide +kernel
theorem dX6_inconsistencies_25 : decode cX6_inconsistencies 25 = .ok (.iadd, 1) := by decide +kernel
theorem dX6_inconsistencies_26 : decode cX6_inconsistencies 26 = .ok (.ireturn, 1) := by decide +kernel
theorem dX6_gossipShare_0 : decode cX6_gossipShare 0 = .ok (.aload_n 0, 1) := by decide +kernel
theorem dX6_gossipShare_1 : decode cX6_gossipShare 1 = .ok (.getfield 12, 3) := by decide +kernel
theorem dX6_gossipShare_4 : decode cX6_gossipShare 4 = .ok (.getfield 98, 3) := by decide +kernel
theorem dX6_gossipShare_7 : decode cX6_gossipShare 7 = .ok (.getfield 102, 3) := by decide +kernel
theorem dX6_gossipShare_10 : decode cX6_gossipShare 10 = .ok (.istore_n 1, 1) := by decide +kernel
theorem dX6_gossipShare_11 : decode cX6_gossipShare 11 = .ok (.iload_n 1, 1) := by decide +kernel
theorem dX6_gossipShare_12 : decode cX6_gossipShare 12 = .ok (.ifCond .ne 5, 3) := by decide +kernel
theorem dX6_gossipShare_15 : decode cX6_gossipShare 15 = .ok (.fconst 0, 1) := by decide +kernel
theorem dX6_gossipShare_16 : decode cX6_gossipShare 16 = .ok (.freturn, 1) := by decide +kernel
theorem dX6_gossipShare_17 : decode cX6_gossipShare 17 = .ok (.aload_n 0, 1) := by decide +kernel
theorem dX6_gossipShare_18 : decode cX6_gossipShare 18 = .ok (.getfield 12, 3) := by decide +kernel
theorem dX6_gossipShare_21 : decode cX6_gossipShare 21 = .ok (.getfield 98, 3) := by decide +kernel
theorem dX6_gossipShare_24 : decode cX6_gossipShare 24 = .ok (.invokevirtual 305, 3) := by decide +kernel
theorem dX6_gossipShare_27 : decode cX6_gossipShare 27 = .ok (.i2f, 1) := by decide +kernel
theorem dX6_gossipShare_28 : decode cX6_gossipShare 28 = .ok (.iload_n 1, 1) := by decide +kernel
theorem dX6_gossipShare_29 : decode cX6_gossipShare 29 = .ok (.iload_n 1, 1) := by decide +kernel
theorem dX6_gossipShare_30 : decode cX6_gossipShare 30 = .ok (.imul, 1) := by decide +kernel
theorem dX6_gossipShare_31 : decode cX6_gossipShare 31 = .ok (.i2f, 1) := by decide +kernel
theorem dX6_gossipShare_32 : decode cX6_gossipShare 32 = .ok (.fdiv, 1) := by decide +kernel
theorem dX6_gossipShare_33 : decode cX6_gossipShare 33 = .ok (.freturn, 1) := by decide +kernel
theorem dX6_takeTrial_0 : decode cX6_takeTrial 0 = .ok (.aload_n 0, 1) := by decide +kernel
theorem dX6_takeTrial_1 : decode cX6_takeTrial 1 = .ok (.getfield 26, 3) := by decide +kernel
theorem dX6_takeTrial_4 : decode cX6_takeTrial 4 = .ok (.aload_n 0, 1) := by decide +kernel
theorem dX6_takeTrial_5 : decode cX6_takeTrial 5 = .ok (.getfield 12, 3) := by decide +kernel
theorem dX6_takeTrial_8 : decode cX6_takeTrial 8 = .ok (.invokevirtual 123, 3) := by decide +kernel
theorem dX6_takeTrial_11 : decode cX6_takeTrial 11 = .ok (.aload_n 0, 1) := by decide +kernel
theorem dX6_takeTrial_12 : decode cX6_takeTrial 12 = .ok (.getfield 12, 3) := by decide +kernel
theorem dX6_takeTrial_15 : decode cX6_takeTrial 15 = .ok (.aload_n 0, 1) := by decide +kernel
theorem dX6_takeTrial_16 : decode cX6_takeTrial 16 = .ok (.getfield 19, 3) := by decide +kernel
theorem dX6_takeTrial_19 : decode cX6_takeTrial 19 = .ok (.getfield 67, 3) := by decide +kernel
theorem dX6_takeTrial_22 : decode cX6_takeTrial 22 = .ok (.invokevirtual 70, 3) := by decide +kernel
theorem dX6_takeTrial_25 : decode cX6_takeTrial 25 = .ok (.return_, 1) := by decide +kernel
theorem dX6_requireSubscriber_0 : decode cX6_requireSubscriber 0 = .ok (.aload_n 0, 1) := by decide +kernel
theorem dX6_requireSubscriber_1 : decode cX6_requireSubscriber 1 = .ok (.getfield 12, 3) := by decide +kernel
theorem dX6_requireSubscriber_4 : decode cX6_requireSubscriber 4 = .ok (.getfield 98, 3) := by decide +kernel
theorem dX6_requireSubscriber_7 : decode cX6_requireSubscriber 7 = .ok (.iload_n 1, 1) := by decide +kernel
theorem dX6_requireSubscriber_8 : decode cX6_requireSubscriber 8 = .ok (.invokevirtual 325, 3) := by decide +kernel
theorem dX6_requireSubscriber_11 : decode cX6_requireSubscriber 11 = .ok (.ifCond .ne 14, 3) := by decide +kernel
theorem dX6_requireSubscriber_14 : decode cX6_requireSubscriber 14 = .ok (.new 328, 3) := by decide +kernel
theorem dX6_requireSubscriber_17 : decode cX6_requireSubscriber 17 = .ok (.dup, 1) := by decide +kernel
theorem dX6_requireSubscriber_18 : decode cX6_requireSubscriber 18 = .ok (.ldc_w 330, 3) := by decide +kernel
theorem dX6_requireSubscriber_21 : decode cX6_requireSubscriber 21 = .ok (.invokespecial 332, 3) := by decide +kernel
theorem dX6_requireSubscriber_24 : decode cX6_requireSubscriber 24 = .ok (.athrow, 1) := by decide +kernel
theorem dX6_requireSubscriber_25 : decode cX6_requireSubscriber 25 = .ok (.return_, 1) := by decide +kernel
theorem dX6_requirePair_0 : decode cX6_requirePair 0 = .ok (.aload_n 0, 1) := by decide +kernel
theorem dX6_requirePair_1 : decode cX6_requirePair 1 = .ok (.iload_n 1, 1) := by decide +kernel
theorem dX6_requirePair_2 : decode cX6_requirePair 2 = .ok (.invokevirtual 130, 3) := by decide +kernel
theorem dX6_requirePair_5 : decode cX6_requirePair 5 = .ok (.aload_n 0, 1) := by decide +kernel
theorem dX6_requirePair_6 : decode cX6_requirePair 6 = .ok (.iload_n 2, 1) := by decide +kernel
theorem dX6_requirePair_7 : decode cX6_requirePair 7 = .ok (.invokevirtual 130, 3) := by decide +kernel
theorem dX6_requirePair_10 : decode cX6_requirePair 10 = .ok (.iload_n 1, 1) := by decide +kernel
theorem dX6_requirePair_11 : decode cX6_requirePair 11 = .ok (.iload_n 2, 1) := by decide +kernel
theorem dX6_requirePair_12 : decode cX6_requirePair 12 = .ok (.if_icmp .ne 14, 3) := by decide +kernel
theorem dX6_requirePair_15 : decode cX6_requirePair 15 = .ok (.new 85, 3) := by decide +kernel
theorem dX6_requirePair_18 : decode cX6_requirePair 18 = .ok (.dup, 1) := by decide +kernel
theorem dX6_requirePair_19 : decode cX6_requirePair 19 = .ok (.ldc_w 333, 3) := by decide +kernel
theorem dX6_requirePair_22 : decode cX6_requirePair 22 = .ok (.invokespecial 89, 3) := by decide +kernel
theorem dX6_requirePair_25 : decode cX6_requirePair 25 = .ok (.athrow, 1) := by decide +kernel
theorem dX6_requirePair_26 : decode cX6_requirePair 26 = .ok (.return_, 1) := by decide +kernel
theorem dX6_requireLine_0 : decode cX6_requireLine 0 = .ok (.iload_n 1, 1) := by decide +kernel
theorem dX6_requireLine_1 : decode cX6_requireLine 1 = .ok (.ifCond .lt 14, 3) := by decide +kernel
theorem dX6_requireLine_4 : decode cX6_requireLine 4 = .ok (.iload_n 1, 1) := by decide +kernel
theorem dX6_requireLine_5 : decode cX6_requireLine 5 = .ok (.aload_n 0, 1) := by decide +kernel
theorem dX6_requireLine_6 : decode cX6_requireLine 6 = .ok (.getfield 12, 3) := by decide +kernel
theorem dX6_requireLine_9 : decode cX6_requireLine 9 = .ok (.getfield 182, 3) := by decide +kernel
theorem dX6_requireLine_12 : decode cX6_requireLine 12 = .ok (.if_icmp .lt 14, 3) := by decide +kernel
theorem dX6_requireLine_15 : decode cX6_requireLine 15 = .ok (.new 328, 3) := by decide +kernel
theorem dX6_requireLine_18 : decode cX6_requireLine 18 = .ok (.dup, 1) := by decide +kernel
theorem dX6_requireLine_19 : decode cX6_requireLine 19 = .ok (.ldc_w 335, 3) := by decide +kernel
theorem dX6_requireLine_22 : decode cX6_requireLine 22 = .ok (.invokespecial 332, 3) := by decide +kernel
theorem dX6_requireLine_25 : decode cX6_requireLine 25 = .ok (.athrow, 1) := by decide +kernel
theorem dX6_requireLine_26 : decode cX6_requireLine 26 = .ok (.return_, 1) := by decide +kernel
theorem dX6_requireTrunk_0 : decode cX6_requireTrunk 0 = .ok (.iload_n 1, 1) := by decide +kernel
theorem dX6_requireTrunk_1 : decode cX6_requireTrunk 1 = .ok (.ifCond .lt 14, 3) := by decide +kernel
theorem dX6_requireTrunk_4 : decode cX6_requireTrunk 4 = .ok (.iload_n 1, 1) := by decide +kernel
theorem dX6_requireTrunk_5 : decode cX6_requireTrunk 5 = .ok (.aload_n 0, 1) := by decide +kernel
theorem dX6_requireTrunk_6 : decode cX6_requireTrunk 6 = .ok (.getfield 12, 3) := by decide +kernel
theorem dX6_requireTrunk_9 : decode cX6_requireTrunk 9 = .ok (.getfield 191, 3) := by decide +kernel
theorem dX6_requireTrunk_12 : decode cX6_requireTrunk 12 = .ok (.if_icmp .lt 14, 3) := by decide +kernel
theorem dX6_requireTrunk_15 : decode cX6_requireTrunk 15 = .ok (.new 328, 3) := by decide +kernel
theorem dX6_requireTrunk_18 : decode cX6_requireTrunk 18 = .ok (.dup, 1) := by decide +kernel
theorem dX6_requireTrunk_19 : decode cX6_requireTrunk 19 = .ok (.ldc_w 337, 3) := by decide +kernel
theorem dX6_requireTrunk_22 : decode cX6_requireTrunk 22 = .ok (.invokespecial 332, 3) := by decide +kernel
theorem dX6_requireTrunk_25 : decode cX6_requireTrunk 25 = .ok (.athrow, 1) := by decide +kernel
theorem dX6_requireTrunk_26 : decode cX6_requireTrunk 26 = .ok (.return_, 1) := by decide +kernel
theorem dX6_requireCall_0 : decode cX6_requireCall 0 = .ok (.aload_n 0, 1) := by decide +kernel
theorem dX6_requireCall_1 : decode cX6_requireCall 1 = .ok (.getfield 12, 3) := by decide +kernel
theorem dX6_requireCall_4 : decode cX6_requireCall 4 = .ok (.getfield 139, 3) := by decide +kernel
theorem dX6_requireCall_7 : decode cX6_requireCall 7 = .ok (.iload_n 1, 1) := by decide +kernel
theorem dX6_requireCall_8 : decode cX6_requireCall 8 = .ok (.invokevirtual 339, 3) := by decide +kernel
theorem dX6_requireCall_11 : decode cX6_requireCall 11 = .ok (.ifCond .ne 14, 3) := by decide +kernel
theorem dX6_requireCall_14 : decode cX6_requireCall 14 = .ok (.new 328, 3) := by decide +kernel
theorem dX6_requireCall_17 : decode cX6_requireCall 17 = .ok (.dup, 1) := by decide +kernel
theorem dX6_requireCall_18 : decode cX6_requireCall 18 = .ok (.ldc_w 340, 3) := by decide +kernel
theorem dX6_requireCall_21 : decode cX6_requireCall 21 = .ok (.invokespecial 332, 3) := by decide +kernel
theorem dX6_requireCall_24 : decode cX6_requireCall 24 = .ok (.athrow, 1) := by decide +kernel
theorem dX6_requireCall_25 : decode cX6_requireCall 25 = .ok (.return_, 1) := by decide +kernel
theorem dX6_requireRoomForCall_0 : decode cX6_requireRoomForCall 0 = .ok (.aload_n 0, 1) := by decide +kernel
theorem dX6_requireRoomForCall_1 : decode cX6_requireRoomForCall 1 = .ok (.getfield 12, 3) := by decide +kernel
theorem dX6_requireRoomForCall_4 : decode cX6_requireRoomForCall 4 = .ok (.getfield 139, 3) := by decide +kernel
theorem dX6_requireRoomForCall_7 : decode cX6_requireRoomForCall 7 = .ok (.getfield 194, 3) := by decide +kernel
theorem dX6_requireRoomForCall_10 : decode cX6_requireRoomForCall 10 = .ok (.bipush 40, 2) := by decide +kernel
theorem dX6_requireRoomForCall_12 : decode cX6_requireRoomForCall 12 = .ok (.if_icmp .lt 14, 3) := by decide +kernel
theorem dX6_requireRoomForCall_15 : decode cX6_requireRoomForCall 15 = .ok (.new 149, 3) := by decide +kernel
theorem dX6_requireRoomForCall_18 : decode cX6_requireRoomForCall 18 = .ok (.dup, 1) := by decide +kernel
theorem dX6_requireRoomForCall_19 : decode cX6_requireRoomForCall 19 = .ok (.ldc_w 342, 3) := by decide +kernel
theorem dX6_requireRoomForCall_22 : decode cX6_requireRoomForCall 22 = .ok (.invokespecial 153, 3) := by decide +kernel
theorem dX6_requireRoomForCall_25 : decode cX6_requireRoomForCall 25 = .ok (.athrow, 1) := by decide +kernel
theorem dX6_requireRoomForCall_26 : decode cX6_requireRoomForCall 26 = .ok (.return_, 1) := by decide +kernel
theorem dX6_bit_0 : decode cX6_bit 0 = .ok (.iload_n 0, 1) := by decide +kernel
theorem dX6_bit_1 : decode cX6_bit 1 = .ok (.ifCond .ge 7, 3) := by decide +kernel
theorem dX6_bit_4 : decode cX6_bit 4 = .ok (.iconst 0, 1) := by decide +kernel
theorem dX6_bit_5 : decode cX6_bit 5 = .ok (.goto 6, 3) := by decide +kernel
theorem dX6_bit_8 : decode cX6_bit 8 = .ok (.iconst 1, 1) := by decide +kernel
theorem dX6_bit_9 : decode cX6_bit 9 = .ok (.iload_n 0, 1) := by decide +kernel
theorem dX6_bit_10 : decode cX6_bit 10 = .ok (.ishl, 1) := by decide +kernel
theorem dX6_bit_11 : decode cX6_bit 11 = .ok (.ireturn, 1) := by decide +kernel
theorem dX6_trunkBit_0 : decode cX6_trunkBit 0 = .ok (.iload_n 0, 1) := by decide +kernel
theorem dX6_trunkBit_1 : decode cX6_trunkBit 1 = .ok (.ifCond .ge 7, 3) := by decide +kernel
theorem dX6_trunkBit_4 : decode cX6_trunkBit 4 = .ok (.iconst 0, 1) := by decide +kernel
theorem dX6_trunkBit_5 : decode cX6_trunkBit 5 = .ok (.goto 9, 3) := by decide +kernel
theorem dX6_trunkBit_8 : decode cX6_trunkBit 8 = .ok (.iconst 1, 1) := by decide +kernel
theorem dX6_trunkBit_9 : decode cX6_trunkBit 9 = .ok (.bipush 6, 2) := by decide +kernel
theorem dX6_trunkBit_11 : decode cX6_trunkBit 11 = .ok (.iload_n 0, 1) := by decide +kernel
theorem dX6_trunkBit_12 : decode cX6_trunkBit 12 = .ok (.iadd, 1) := by decide +kernel
theorem dX6_trunkBit_13 : decode cX6_trunkBit 13 = .ok (.ishl, 1) := by decide +kernel
theorem dX6_trunkBit_14 : decode cX6_trunkBit 14 = .ok (.ireturn, 1) := by decide +kernel
theorem dX6_ringsIn_0 : decode cX6_ringsIn 0 = .ok (.bipush 31, 2) := by decide +kernel
theorem dX6_ringsIn_2 : decode cX6_ringsIn 2 = .ok (.iload_n 0, 1) := by decide +kernel
theorem dX6_ringsIn_3 : decode cX6_ringsIn 3 = .ok (.invokestatic 346, 3) := by decide +kernel
theorem dX6_ringsIn_6 : decode cX6_ringsIn 6 = .ok (.isub, 1) := by decide +kernel
theorem dX6_ringsIn_7 : decode cX6_ringsIn 7 = .ok (.ireturn, 1) := by decide +kernel
theorem dX6_volumeWith_0 : decode cX6_volumeWith 0 = .ok (.bipush 100, 2) := by decide +kernel
theorem dX6_volumeWith_2 : decode cX6_volumeWith 2 = .ok (.istore_n 1, 1) := by decide +kernel
theorem dX6_volumeWith_3 : decode cX6_volumeWith 3 = .ok (.iload_n 0, 1) := by decide +kernel
theorem dX6_volumeWith_4 : decode cX6_volumeWith 4 = .ok (.invokestatic 225, 3) := by decide +kernel
theorem dX6_volumeWith_7 : decode cX6_volumeWith 7 = .ok (.istore_n 2, 1) := by decide +kernel
theorem dX6_volumeWith_8 : decode cX6_volumeWith 8 = .ok (.iload_n 2, 1) := by decide +kernel
theorem dX6_volumeWith_9 : decode cX6_volumeWith 9 = .ok (.ifCond .le 19, 3) := by decide +kernel
theorem dX6_volumeWith_12 : decode cX6_volumeWith 12 = .ok (.iload_n 1, 1) := by decide +kernel
theorem dX6_volumeWith_13 : decode cX6_volumeWith 13 = .ok (.iload_n 1, 1) := by decide +kernel
theorem dX6_volumeWith_14 : decode cX6_volumeWith 14 = .ok (.bipush 9, 2) := by decide +kernel
theorem dX6_volumeWith_16 : decode cX6_volumeWith 16 = .ok (.iadd, 1) := by decide +kernel
theorem dX6_volumeWith_17 : decode cX6_volumeWith 17 = .ok (.bipush 10, 2) := by decide +kernel
theorem dX6_volumeWith_19 : decode cX6_volumeWith 19 = .ok (.idiv, 1) := by decide +kernel
theorem dX6_volumeWith_20 : decode cX6_volumeWith 20 = .ok (.isub, 1) := by decide +kernel
theorem dX6_volumeWith_21 : decode cX6_volumeWith 21 = .ok (.istore_n 1, 1) := by decide +kernel
theorem dX6_volumeWith_22 : decode cX6_volumeWith 22 = .ok (.iinc 2 (-1), 3) := by decide +kernel
theorem dX6_volumeWith_25 : decode cX6_volumeWith 25 = .ok (.goto (-17), 3) := by decide +kernel
theorem dX6_volumeWith_28 : decode cX6_volumeWith 28 = .ok (.iload_n 1, 1) := by decide +kernel
theorem dX6_volumeWith_29 : decode cX6_volumeWith 29 = .ok (.ireturn, 1) := by decide +kernel
