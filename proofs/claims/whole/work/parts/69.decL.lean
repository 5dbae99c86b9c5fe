theorem dL_truncateInput_0 : decode cL_truncateInput 0 = .ok (.aload_n 2, 1) := by decide +kernel
theorem dL_truncateInput_1 : decode cL_truncateInput 1 = .ok (.iconst 0, 1) := by decide +kernel
theorem dL_truncateInput_2 : decode cL_truncateInput 2 = .ok (.aload_n 0, 1) := by decide +kernel
theorem dL_truncateInput_3 : decode cL_truncateInput 3 = .ok (.iload_n 1, 1) := by decide +kernel
theorem dL_truncateInput_4 : decode cL_truncateInput 4 = .ok (.invokevirtual 7, 3) := by decide +kernel
theorem dL_truncateInput_7 : decode cL_truncateInput 7 = .ok (.i2l, 1) := by decide +kernel
theorem dL_truncateInput_8 : decode cL_truncateInput 8 = .ok (.lastore, 1) := by decide +kernel
theorem dL_truncateInput_9 : decode cL_truncateInput 9 = .ok (.goto 6, 3) := by decide +kernel
theorem dL_truncateInput_12 : decode cL_truncateInput 12 = .ok (.astore_n 3, 1) := by decide +kernel
theorem dL_truncateInput_13 : decode cL_truncateInput 13 = .ok (.iconst 1, 1) := by decide +kernel
theorem dL_truncateInput_14 : decode cL_truncateInput 14 = .ok (.ireturn, 1) := by decide +kernel
theorem dL_truncateInput_15 : decode cL_truncateInput 15 = .ok (.iconst 0, 1) := by decide +kernel
theorem dL_truncateInput_16 : decode cL_truncateInput 16 = .ok (.ireturn, 1) := by decide +kernel
theorem dL_call_0 : decode cL_call 0 = .ok (.aload 4, 2) := by decide +kernel
theorem dL_call_2 : decode cL_call 2 = .ok (.iconst 0, 1) := by decide +kernel
theorem dL_call_3 : decode cL_call 3 = .ok (.aload_n 0, 1) := by decide +kernel
theorem dL_call_4 : decode cL_call 4 = .ok (.iload_n 1, 1) := by decide +kernel
theorem dL_call_5 : decode cL_call 5 = .ok (.iload_n 2, 1) := by decide +kernel
theorem dL_call_6 : decode cL_call 6 = .ok (.iload_n 3, 1) := by decide +kernel
theorem dL_call_7 : decode cL_call 7 = .ok (.invokevirtual 15, 3) := by decide +kernel
theorem dL_call_10 : decode cL_call 10 = .ok (.i2l, 1) := by decide +kernel
theorem dL_call_11 : decode cL_call 11 = .ok (.lastore, 1) := by decide +kernel
theorem dL_call_12 : decode cL_call 12 = .ok (.goto 15, 3) := by decide +kernel
theorem dL_call_15 : decode cL_call 15 = .ok (.astore 5, 2) := by decide +kernel
theorem dL_call_17 : decode cL_call 17 = .ok (.iconst 1, 1) := by decide +kernel
theorem dL_call_18 : decode cL_call 18 = .ok (.ireturn, 1) := by decide +kernel
theorem dL_call_19 : decode cL_call 19 = .ok (.astore 5, 2) := by decide +kernel
theorem dL_call_21 : decode cL_call 21 = .ok (.iconst 2, 1) := by decide +kernel
theorem dL_call_22 : decode cL_call 22 = .ok (.ireturn, 1) := by decide +kernel
theorem dL_call_23 : decode cL_call 23 = .ok (.astore 5, 2) := by decide +kernel
theorem dL_call_25 : decode cL_call 25 = .ok (.iconst 3, 1) := by decide +kernel
theorem dL_call_26 : decode cL_call 26 = .ok (.ireturn, 1) := by decide +kernel
theorem dL_call_27 : decode cL_call 27 = .ok (.iconst 0, 1) := by decide +kernel
theorem dL_call_28 : decode cL_call 28 = .ok (.ireturn, 1) := by decide +kernel
theorem dL_callTrunk_0 : decode cL_callTrunk 0 = .ok (.aload 4, 2) := by decide +kernel
theorem dL_callTrunk_2 : decode cL_callTrunk 2 = .ok (.iconst 0, 1) := by decide +kernel
theorem dL_callTrunk_3 : decode cL_callTrunk 3 = .ok (.aload_n 0, 1) := by decide +kernel
theorem dL_callTrunk_4 : decode cL_callTrunk 4 = .ok (.iload_n 1, 1) := by decide +kernel
theorem dL_callTrunk_5 : decode cL_callTrunk 5 = .ok (.iload_n 2, 1) := by decide +kernel
theorem dL_callTrunk_6 : decode cL_callTrunk 6 = .ok (.iload_n 3, 1) := by decide +kernel
theorem dL_callTrunk_7 : decode cL_callTrunk 7 = .ok (.invokevirtual 23, 3) := by decide +kernel
theorem dL_callTrunk_10 : decode cL_callTrunk 10 = .ok (.i2l, 1) := by decide +kernel
theorem dL_callTrunk_11 : decode cL_callTrunk 11 = .ok (.lastore, 1) := by decide +kernel
theorem dL_callTrunk_12 : decode cL_callTrunk 12 = .ok (.goto 11, 3) := by decide +kernel
theorem dL_callTrunk_15 : decode cL_callTrunk 15 = .ok (.astore 5, 2) := by decide +kernel
theorem dL_callTrunk_17 : decode cL_callTrunk 17 = .ok (.iconst 1, 1) := by decide +kernel
theorem dL_callTrunk_18 : decode cL_callTrunk 18 = .ok (.ireturn, 1) := by decide +kernel
theorem dL_callTrunk_19 : decode cL_callTrunk 19 = .ok (.astore 5, 2) := by decide +kernel
theorem dL_callTrunk_21 : decode cL_callTrunk 21 = .ok (.iconst 2, 1) := by decide +kernel
theorem dL_callTrunk_22 : decode cL_callTrunk 22 = .ok (.ireturn, 1) := by decide +kernel
theorem dL_callTrunk_23 : decode cL_callTrunk 23 = .ok (.iconst 0, 1) := by decide +kernel
theorem dL_callTrunk_24 : decode cL_callTrunk 24 = .ok (.ireturn, 1) := by decide +kernel
theorem dL_end_0 : decode cL_end 0 = .ok (.aload_n 2, 1) := by decide +kernel
theorem dL_end_1 : decode cL_end 1 = .ok (.iconst 0, 1) := by decide +kernel
theorem dL_end_2 : decode cL_end 2 = .ok (.aload_n 0, 1) := by decide +kernel
theorem dL_end_3 : decode cL_end 3 = .ok (.iload_n 1, 1) := by decide +kernel
theorem dL_end_4 : decode cL_end 4 = .ok (.invokevirtual 26, 3) := by decide +kernel
theorem dL_end_7 : decode cL_end 7 = .ok (.i2l, 1) := by decide +kernel
theorem dL_end_8 : decode cL_end 8 = .ok (.lastore, 1) := by decide +kernel
theorem dL_end_9 : decode cL_end 9 = .ok (.goto 9, 3) := by decide +kernel
theorem dL_end_12 : decode cL_end 12 = .ok (.astore_n 3, 1) := by decide +kernel
theorem dL_end_13 : decode cL_end 13 = .ok (.iconst 1, 1) := by decide +kernel
theorem dL_end_14 : decode cL_end 14 = .ok (.ireturn, 1) := by decide +kernel
theorem dL_end_15 : decode cL_end 15 = .ok (.astore_n 3, 1) := by decide +kernel
theorem dL_end_16 : decode cL_end 16 = .ok (.iconst 2, 1) := by decide +kernel
theorem dL_end_17 : decode cL_end 17 = .ok (.ireturn, 1) := by decide +kernel
theorem dL_end_18 : decode cL_end 18 = .ok (.iconst 0, 1) := by decide +kernel
theorem dL_end_19 : decode cL_end 19 = .ok (.ireturn, 1) := by decide +kernel
theorem dL_waitFor_0 : decode cL_waitFor 0 = .ok (.aload_n 2, 1) := by decide +kernel
theorem dL_waitFor_1 : decode cL_waitFor 1 = .ok (.iconst 0, 1) := by decide +kernel
theorem dL_waitFor_2 : decode cL_waitFor 2 = .ok (.aload_n 0, 1) := by decide +kernel
theorem dL_waitFor_3 : decode cL_waitFor 3 = .ok (.iload_n 1, 1) := by decide +kernel
theorem dL_waitFor_4 : decode cL_waitFor 4 = .ok (.invokevirtual 29, 3) := by decide +kernel
theorem dL_waitFor_7 : decode cL_waitFor 7 = .ok (.i2l, 1) := by decide +kernel
theorem dL_waitFor_8 : decode cL_waitFor 8 = .ok (.lastore, 1) := by decide +kernel
theorem dL_waitFor_9 : decode cL_waitFor 9 = .ok (.goto 9, 3) := by decide +kernel
theorem dL_waitFor_12 : decode cL_waitFor 12 = .ok (.astore_n 3, 1) := by decide +kernel
theorem dL_waitFor_13 : decode cL_waitFor 13 = .ok (.iconst 1, 1) := by decide +kernel
theorem dL_waitFor_14 : decode cL_waitFor 14 = .ok (.ireturn, 1) := by decide +kernel
theorem dL_waitFor_15 : decode cL_waitFor 15 = .ok (.astore_n 3, 1) := by decide +kernel
theorem dL_waitFor_16 : decode cL_waitFor 16 = .ok (.iconst 2, 1) := by decide +kernel
theorem dL_waitFor_17 : decode cL_waitFor 17 = .ok (.ireturn, 1) := by decide +kernel
theorem dL_waitFor_18 : decode cL_waitFor 18 = .ok (.iconst 0, 1) := by decide +kernel
theorem dL_waitFor_19 : decode cL_waitFor 19 = .ok (.ireturn, 1) := by decide +kernel
theorem dL_setCuriosity_0 : decode cL_setCuriosity 0 = .ok (.aload_n 3, 1) := by decide +kernel
theorem dL_setCuriosity_1 : decode cL_setCuriosity 1 = .ok (.iconst 0, 1) := by decide +kernel
theorem dL_setCuriosity_2 : decode cL_setCuriosity 2 = .ok (.aload_n 0, 1) := by decide +kernel
theorem dL_setCuriosity_3 : decode cL_setCuriosity 3 = .ok (.iload_n 1, 1) := by decide +kernel
theorem dL_setCuriosity_4 : decode cL_setCuriosity 4 = .ok (.iload_n 2, 1) := by decide +kernel
theorem dL_setCuriosity_5 : decode cL_setCuriosity 5 = .ok (.invokevirtual 32, 3) := by decide +kernel
theorem dL_setCuriosity_8 : decode cL_setCuriosity 8 = .ok (.i2l, 1) := by decide +kernel
theorem dL_setCuriosity_9 : decode cL_setCuriosity 9 = .ok (.lastore, 1) := by decide +kernel
theorem dL_setCuriosity_10 : decode cL_setCuriosity 10 = .ok (.goto 11, 3) := by decide +kernel
theorem dL_setCuriosity_13 : decode cL_setCuriosity 13 = .ok (.astore 4, 2) := by decide +kernel
theorem dL_setCuriosity_15 : decode cL_setCuriosity 15 = .ok (.iconst 1, 1) := by decide +kernel
theorem dL_setCuriosity_16 : decode cL_setCuriosity 16 = .ok (.ireturn, 1) := by decide +kernel
theorem dL_setCuriosity_17 : decode cL_setCuriosity 17 = .ok (.astore 4, 2) := by decide +kernel
theorem dL_setCuriosity_19 : decode cL_setCuriosity 19 = .ok (.iconst 2, 1) := by decide +kernel
theorem dL_setCuriosity_20 : decode cL_setCuriosity 20 = .ok (.ireturn, 1) := by decide +kernel
theorem dL_setCuriosity_21 : decode cL_setCuriosity 21 = .ok (.iconst 0, 1) := by decide +kernel
theorem dL_setCuriosity_22 : decode cL_setCuriosity 22 = .ok (.ireturn, 1) := by decide +kernel
theorem dL_undo_0 : decode cL_undo 0 = .ok (.aload_n 1, 1) := by decide +kernel
theorem dL_undo_1 : decode cL_undo 1 = .ok (.iconst 0, 1) := by decide +kernel
theorem dL_undo_2 : decode cL_undo 2 = .ok (.aload_n 0, 1) := by decide +kernel
theorem dL_undo_3 : decode cL_undo 3 = .ok (.invokevirtual 36, 3) := by decide +kernel
theorem dL_undo_6 : decode cL_undo 6 = .ok (.i2l, 1) := by decide +kernel
theorem dL_undo_7 : decode cL_undo 7 = .ok (.lastore, 1) := by decide +kernel
theorem dL_undo_8 : decode cL_undo 8 = .ok (.goto 6, 3) := by decide +kernel
theorem dL_undo_11 : decode cL_undo 11 = .ok (.astore_n 2, 1) := by decide +kernel
theorem dL_undo_12 : decode cL_undo 12 = .ok (.iconst 1, 1) := by decide +kernel
theorem dL_undo_13 : decode cL_undo 13 = .ok (.ireturn, 1) := by decide +kernel
theorem dL_undo_14 : decode cL_undo 14 = .ok (.iconst 0, 1) := by decide +kernel
theorem dL_undo_15 : decode cL_undo 15 = .ok (.ireturn, 1) := by decide +kernel
theorem dL_save_0 : decode cL_save 0 = .ok (.aload_n 2, 1) := by decide +kernel
theorem dL_save_1 : decode cL_save 1 = .ok (.iconst 0, 1) := by decide +kernel
theorem dL_save_2 : decode cL_save 2 = .ok (.aload_n 0, 1) := by decide +kernel
theorem dL_save_3 : decode cL_save 3 = .ok (.iload_n 1, 1) := by decide +kernel
theorem dL_save_4 : decode cL_save 4 = .ok (.invokevirtual 40, 3) := by decide +kernel
theorem dL_save_7 : decode cL_save 7 = .ok (.i2l, 1) := by decide +kernel
theorem dL_save_8 : decode cL_save 8 = .ok (.lastore, 1) := by decide +kernel
theorem dL_save_9 : decode cL_save 9 = .ok (.goto 6, 3) := by decide +kernel
theorem dL_save_12 : decode cL_save 12 = .ok (.astore_n 3, 1) := by decide +kernel
theorem dL_save_13 : decode cL_save 13 = .ok (.iconst 1, 1) := by decide +kernel
theorem dL_save_14 : decode cL_save 14 = .ok (.ireturn, 1) := by decide +kernel
theorem dL_save_15 : decode cL_save 15 = .ok (.iconst 0, 1) := by decide +kernel
theorem dL_save_16 : decode cL_save 16 = .ok (.ireturn, 1) := by decide +kernel
theorem dL_restore_0 : decode cL_restore 0 = .ok (.aload_n 2, 1) := by decide +kernel
theorem dL_restore_1 : decode cL_restore 1 = .ok (.iconst 0, 1) := by decide +kernel
theorem dL_restore_2 : decode cL_restore 2 = .ok (.aload_n 0, 1) := by decide +kernel
theorem dL_restore_3 : decode cL_restore 3 = .ok (.iload_n 1, 1) := by decide +kernel
theorem dL_restore_4 : decode cL_restore 4 = .ok (.invokevirtual 43, 3) := by decide +kernel
theorem dL_restore_7 : decode cL_restore 7 = .ok (.i2l, 1) := by decide +kernel
theorem dL_restore_8 : decode cL_restore 8 = .ok (.lastore, 1) := by decide +kernel
theorem dL_restore_9 : decode cL_restore 9 = .ok (.goto 9, 3) := by decide +kernel
theorem dL_restore_12 : decode cL_restore 12 = .ok (.astore_n 3, 1) := by decide +kernel
theorem dL_restore_13 : decode cL_restore 13 = .ok (.iconst 1, 1) := by decide +kernel
theorem dL_restore_14 : decode cL_restore 14 = .ok (.ireturn, 1) := by decide +kernel
theorem dL_restore_15 : decode cL_restore 15 = .ok (.astore_n 3, 1) := by decide +kernel
theorem dL_restore_16 : decode cL_restore 16 = .ok (.iconst 2, 1) := by decide +kernel
theorem dL_restore_17 : decode cL_restore 17 = .ok (.ireturn, 1) := by decide +kernel
theorem dL_restore_18 : decode cL_restore 18 = .ok (.iconst 0, 1) := by decide +kernel
theorem dL_restore_19 : decode cL_restore 19 = .ok (.ireturn, 1) := by decide +kernel
theorem dL_isLineBusy_0 : decode cL_isLineBusy 0 = .ok (.aload_n 2, 1) := by decide +kernel
theorem dL_isLineBusy_1 : decode cL_isLineBusy 1 = .ok (.iconst 0, 1) := by decide +kernel
theorem dL_isLineBusy_2 : decode cL_isLineBusy 2 = .ok (.aload_n 0, 1) := by decide +kernel
theorem dL_isLineBusy_3 : decode cL_isLineBusy 3 = .ok (.iload_n 1, 1) := by decide +kernel
theorem dL_isLineBusy_4 : decode cL_isLineBusy 4 = .ok (.invokevirtual 46, 3) := by decide +kernel
theorem dL_isLineBusy_7 : decode cL_isLineBusy 7 = .ok (.ifCond .eq 7, 3) := by decide +kernel
theorem dL_isLineBusy_10 : decode cL_isLineBusy 10 = .ok (.lconst 1, 1) := by decide +kernel
theorem dL_isLineBusy_11 : decode cL_isLineBusy 11 = .ok (.goto 4, 3) := by decide +kernel
theorem dL_isLineBusy_14 : decode cL_isLineBusy 14 = .ok (.lconst 0, 1) := by decide +kernel
theorem dL_isLineBusy_15 : decode cL_isLineBusy 15 = .ok (.lastore, 1) := by decide +kernel
theorem dL_isLineBusy_16 : decode cL_isLineBusy 16 = .ok (.goto 6, 3) := by decide +kernel
theorem dL_isLineBusy_19 : decode cL_isLineBusy 19 = .ok (.astore_n 3, 1) := by decide +kernel
theorem dL_isLineBusy_20 : decode cL_isLineBusy 20 = .ok (.iconst 1, 1) := by decide +kernel
theorem dL_isLineBusy_21 : decode cL_isLineBusy 21 = .ok (.ireturn, 1) := by decide +kernel
theorem dL_isLineBusy_22 : decode cL_isLineBusy 22 = .ok (.iconst 0, 1) := by decide +kernel
theorem dL_isLineBusy_23 : decode cL_isLineBusy 23 = .ok (.ireturn, 1) := by decide +kernel
theorem dL_isTrunkBusy_0 : decode cL_isTrunkBusy 0 = .ok (.aload_n 2, 1) := by decide +kernel
theorem dL_isTrunkBusy_1 : decode cL_isTrunkBusy 1 = .ok (.iconst 0, 1) := by decide +kernel
theorem dL_isTrunkBusy_2 : decode cL_isTrunkBusy 2 = .ok (.aload_n 0, 1) := by decide +kernel
theorem dL_isTrunkBusy_3 : decode cL_isTrunkBusy 3 = .ok (.iload_n 1, 1) := by decide +kernel
theorem dL_isTrunkBusy_4 : decode cL_isTrunkBusy 4 = .ok (.invokevirtual 50, 3) := by decide +kernel
theorem dL_isTrunkBusy_7 : decode cL_isTrunkBusy 7 = .ok (.ifCond .eq 7, 3) := by decide +kernel
theorem dL_isTrunkBusy_10 : decode cL_isTrunkBusy 10 = .ok (.lconst 1, 1) := by decide +kernel
theorem dL_isTrunkBusy_11 : decode cL_isTrunkBusy 11 = .ok (.goto 4, 3) := by decide +kernel
theorem dL_isTrunkBusy_14 : decode cL_isTrunkBusy 14 = .ok (.lconst 0, 1) := by decide +kernel
theorem dL_isTrunkBusy_15 : decode cL_isTrunkBusy 15 = .ok (.lastore, 1) := by decide +kernel
theorem dL_isTrunkBusy_16 : decode cL_isTrunkBusy 16 = .ok (.goto 6, 3) := by decide +kernel
theorem dL_isTrunkBusy_19 : decode cL_isTrunkBusy 19 = .ok (.astore_n 3, 1) := by decide +kernel
theorem dL_isTrunkBusy_20 : decode cL_isTrunkBusy 20 = .ok (.iconst 1, 1) := by decide +kernel
theorem dL_isTrunkBusy_21 : decode cL_isTrunkBusy 21 = .ok (.ireturn, 1) := by decide +kernel
theorem dL_isTrunkBusy_22 : decode cL_isTrunkBusy 22 = .ok (.iconst 0, 1) := by decide +kernel
theorem dL_isTrunkBusy_23 : decode cL_isTrunkBusy 23 = .ok (.ireturn, 1) := by decide +kernel
theorem dL_toll_0 : decode cL_toll 0 = .ok (.aload_n 2, 1) := by decide +kernel
theorem dL_toll_1 : decode cL_toll 1 = .ok (.iconst 0, 1) := by decide +kernel
theorem dL_toll_2 : decode cL_toll 2 = .ok (.aload_n 0, 1) := by decide +kernel
theorem dL_toll_3 : decode cL_toll 3 = .ok (.iload_n 1, 1) := by decide +kernel
theorem dL_toll_4 : decode cL_toll 4 = .ok (.invokevirtual 53, 3) := by decide +kernel
theorem dL_toll_7 : decode cL_toll 7 = .ok (.i2l, 1) := by decide +kernel
theorem dL_toll_8 : decode cL_toll 8 = .ok (.lastore, 1) := by decide +kernel
theorem dL_toll_9 : decode cL_toll 9 = .ok (.goto 6, 3) := by decide +kernel
theorem dL_toll_12 : decode cL_toll 12 = .ok (.astore_n 3, 1) := by decide +kernel
theorem dL_toll_13 : decode cL_toll 13 = .ok (.iconst 1, 1) := by decide +kernel
theorem dL_toll_14 : decode cL_toll 14 = .ok (.ireturn, 1) := by decide +kernel
theorem dL_toll_15 : decode cL_toll 15 = .ok (.iconst 0, 1) := by decide +kernel
theorem dL_toll_16 : decode cL_toll 16 = .ok (.ireturn, 1) := by decide +kernel
theorem dL_lineOf_0 : decode cL_lineOf 0 = .ok (.aload_n 2, 1) := by decide +kernel
theorem dL_lineOf_1 : decode cL_lineOf 1 = .ok (.iconst 0, 1) := by decide +kernel
theorem dL_lineOf_2 : decode cL_lineOf 2 = .ok (.aload_n 0, 1) := by decide +kernel
theorem dL_lineOf_3 : decode cL_lineOf 3 = .ok (.iload_n 1, 1) := by decide +kernel
theorem dL_lineOf_4 : decode cL_lineOf 4 = .ok (.invokevirtual 56, 3) := by decide +kernel
theorem dL_lineOf_7 : decode cL_lineOf 7 = .ok (.i2l, 1) := by decide +kernel
theorem dL_lineOf_8 : decode cL_lineOf 8 = .ok (.lastore, 1) := by decide +kernel
theorem dL_lineOf_9 : decode cL_lineOf 9 = .ok (.goto 6, 3) := by decide +kernel
theorem dL_lineOf_12 : decode cL_lineOf 12 = .ok (.astore_n 3, 1) := by decide +kernel
theorem dL_lineOf_13 : decode cL_lineOf 13 = .ok (.iconst 1, 1) := by decide +kernel
theorem dL_lineOf_14 : decode cL_lineOf 14 = .ok (.ireturn, 1) := by decide +kernel
theorem dL_lineOf_15 : decode cL_lineOf 15 = .ok (.iconst 0, 1) := by decide +kernel
theorem dL_lineOf_16 : decode cL_lineOf 16 = .ok (.ireturn, 1) := by decide +kernel
theorem dL_curiosity_0 : decode cL_curiosity 0 = .ok (.aload_n 2, 1) := by decide +kernel
theorem dL_curiosity_1 : decode cL_curiosity 1 = .ok (.iconst 0, 1) := by decide +kernel
theorem dL_curiosity_2 : decode cL_curiosity 2 = .ok (.aload_n 0, 1) := by decide +kernel
theorem dL_curiosity_3 : decode cL_curiosity 3 = .ok (.iload_n 1, 1) := by decide +kernel
theorem dL_curiosity_4 : decode cL_curiosity 4 = .ok (.invokevirtual 59, 3) := by decide +kernel
theorem dL_curiosity_7 : decode cL_curiosity 7 = .ok (.i2l, 1) := by decide +kernel
theorem dL_curiosity_8 : decode cL_curiosity 8 = .ok (.lastore, 1) := by decide +kernel
theorem dL_curiosity_9 : decode cL_curiosity 9 = .ok (.goto 6, 3) := by decide +kernel
theorem dL_curiosity_12 : decode cL_curiosity 12 = .ok (.astore_n 3, 1) := by decide +kernel
theorem dL_curiosity_13 : decode cL_curiosity 13 = .ok (.iconst 1, 1) := by decide +kernel
theorem dL_curiosity_14 : decode cL_curiosity 14 = .ok (.ireturn, 1) := by decide +kernel
theorem dL_curiosity_15 : decode cL_curiosity 15 = .ok (.iconst 0, 1) := by decide +kernel
theorem dL_curiosity_16 : decode cL_curiosity 16 = .ok (.ireturn, 1) := by decide +kernel
theorem dL_bill_0 : decode cL_bill 0 = .ok (.aload_n 2, 1) := by decide +kernel
theorem dL_bill_1 : decode cL_bill 1 = .ok (.iconst 0, 1) := by decide +kernel
theorem dL_bill_2 : decode cL_bill 2 = .ok (.aload_n 0, 1) := by decide +kernel
theorem dL_bill_3 : decode cL_bill 3 = .ok (.iload_n 1, 1) := by decide +kernel
theorem dL_bill_4 : decode cL_bill 4 = .ok (.invokevirtual 62, 3) := by decide +kernel
theorem dL_bill_7 : decode cL_bill 7 = .ok (.i2l, 1) := by decide +kernel
theorem dL_bill_8 : decode cL_bill 8 = .ok (.lastore, 1) := by decide +kernel
theorem dL_bill_9 : decode cL_bill 9 = .ok (.goto 6, 3) := by decide +kernel
theorem dL_bill_12 : decode cL_bill 12 = .ok (.astore_n 3, 1) := by decide +kernel
theorem dL_bill_13 : decode cL_bill 13 = .ok (.iconst 1, 1) := by decide +kernel
theorem dL_bill_14 : decode cL_bill 14 = .ok (.ireturn, 1) := by decide +kernel
theorem dL_bill_15 : decode cL_bill 15 = .ok (.iconst 0, 1) := by decide +kernel
theorem dL_bill_16 : decode cL_bill 16 = .ok (.ireturn, 1) := by decide +kernel
theorem dL_ringCount_0 : decode cL_ringCount 0 = .ok (.aload_n 2, 1) := by decide +kernel
theorem dL_ringCount_1 : decode cL_ringCount 1 = .ok (.iconst 0, 1) := by decide +kernel
theorem dL_ringCount_2 : decode cL_ringCount 2 = .ok (.aload_n 0, 1) := by decide +kernel
theorem dL_ringCount_3 : decode cL_ringCount 3 = .ok (.iload_n 1, 1) := by decide +kernel
theorem dL_ringCount_4 : decode cL_ringCount 4 = .ok (.invokevirtual 65, 3) := by decide +kernel
theorem dL_ringCount_7 : decode cL_ringCount 7 = .ok (.i2l, 1) := by decide +kernel
theorem dL_ringCount_8 : decode cL_ringCount 8 = .ok (.lastore, 1) := by decide +kernel
theorem dL_ringCount_9 : decode cL_ringCount 9 = .ok (.goto 6, 3) := by decide +kernel
theorem dL_ringCount_12 : decode cL_ringCount 12 = .ok (.astore_n 3, 1) := by decide +kernel
theorem dL_ringCount_13 : decode cL_ringCount 13 = .ok (.iconst 1, 1) := by decide +kernel
theorem dL_ringCount_14 : decode cL_ringCount 14 = .ok (.ireturn, 1) := by decide +kernel
theorem dL_ringCount_15 : decode cL_ringCount 15 = .ok (.iconst 0, 1) := by decide +kernel
theorem dL_ringCount_16 : decode cL_ringCount 16 = .ok (.ireturn, 1) := by decide +kernel
theorem dL_ringSeconds_0 : decode cL_ringSeconds 0 = .ok (.aload_n 2, 1) := by decide +kernel
theorem dL_ringSeconds_1 : decode cL_ringSeconds 1 = .ok (.iconst 0, 1) := by decide +kernel
theorem dL_ringSeconds_2 : decode cL_ringSeconds 2 = .ok (.aload_n 0, 1) := by decide +kernel
theorem dL_ringSeconds_3 : decode cL_ringSeconds 3 = .ok (.iload_n 1, 1) := by decide +kernel
theorem dL_ringSeconds_4 : decode cL_ringSeconds 4 = .ok (.invokevirtual 68, 3) := by decide +kernel
theorem dL_ringSeconds_7 : decode cL_ringSeconds 7 = .ok (.i2l, 1) := by decide +kernel
theorem dL_ringSeconds_8 : decode cL_ringSeconds 8 = .ok (.lastore, 1) := by decide +kernel
theorem dL_ringSeconds_9 : decode cL_ringSeconds 9 = .ok (.goto 6, 3) := by decide +kernel
theorem dL_ringSeconds_12 : decode cL_ringSeconds 12 = .ok (.astore_n 3, 1) := by decide +kernel
theorem dL_ringSeconds_13 : decode cL_ringSeconds 13 = .ok (.iconst 1, 1) := by decide +kernel
theorem dL_ringSeconds_14 : decode cL_ringSeconds 14 = .ok (.ireturn, 1) := by decide +kernel
theorem dL_ringSeconds_15 : decode cL_ringSeconds 15 = .ok (.iconst 0, 1) := by decide +kernel
theorem dL_ringSeconds_16 : decode cL_ringSeconds 16 = .ok (.ireturn, 1) := by decide +kernel
theorem dL_secretsKnown_0 : decode cL_secretsKnown 0 = .ok (.aload_n 2, 1) := by decide +kernel
theorem dL_secretsKnown_1 : decode cL_secretsKnown 1 = .ok (.iconst 0, 1) := by decide +kernel
theorem dL_secretsKnown_2 : decode cL_secretsKnown 2 = .ok (.aload_n 0, 1) := by decide +kernel
theorem dL_secretsKnown_3 : decode cL_secretsKnown 3 = .ok (.iload_n 1, 1) := by decide +kernel
theorem dL_secretsKnown_4 : decode cL_secretsKnown 4 = .ok (.invokevirtual 71, 3) := by decide +kernel
theorem dL_secretsKnown_7 : decode cL_secretsKnown 7 = .ok (.i2l, 1) := by decide +kernel
theorem dL_secretsKnown_8 : decode cL_secretsKnown 8 = .ok (.lastore, 1) := by decide +kernel
theorem dL_secretsKnown_9 : decode cL_secretsKnown 9 = .ok (.goto 6, 3) := by decide +kernel
theorem dL_secretsKnown_12 : decode cL_secretsKnown 12 = .ok (.astore_n 3, 1) := by decide +kernel
theorem dL_secretsKnown_13 : decode cL_secretsKnown 13 = .ok (.iconst 1, 1) := by decide +kernel
theorem dL_secretsKnown_14 : decode cL_secretsKnown 14 = .ok (.ireturn, 1) := by decide +kernel
theorem dL_secretsKnown_15 : decode cL_secretsKnown 15 = .ok (.iconst 0, 1) := by decide +kernel
theorem dL_secretsKnown_16 : decode cL_secretsKnown 16 = .ok (.ireturn, 1) := by decide +kernel
theorem dL_neighbours_0 : decode cL_neighbours 0 = .ok (.aload_n 2, 1) := by decide +kernel
theorem dL_neighbours_1 : decode cL_neighbours 1 = .ok (.iconst 0, 1) := by decide +kernel
theorem dL_neighbours_2 : decode cL_neighbours 2 = .ok (.aload_n 0, 1) := by decide +kernel
theorem dL_neighbours_3 : decode cL_neighbours 3 = .ok (.iload_n 1, 1) := by decide +kernel
theorem dL_neighbours_4 : decode cL_neighbours 4 = .ok (.invokevirtual 74, 3) := by decide +kernel
theorem dL_neighbours_7 : decode cL_neighbours 7 = .ok (.i2l, 1) := by decide +kernel
theorem dL_neighbours_8 : decode cL_neighbours 8 = .ok (.lastore, 1) := by decide +kernel
theorem dL_neighbours_9 : decode cL_neighbours 9 = .ok (.goto 6, 3) := by decide +kernel
theorem dL_neighbours_12 : decode cL_neighbours 12 = .ok (.astore_n 3, 1) := by decide +kernel
theorem dL_neighbours_13 : decode cL_neighbours 13 = .ok (.iconst 1, 1) := by decide +kernel
theorem dL_neighbours_14 : decode cL_neighbours 14 = .ok (.ireturn, 1) := by decide +kernel
theorem dL_neighbours_15 : decode cL_neighbours 15 = .ok (.iconst 0, 1) := by decide +kernel
theorem dL_neighbours_16 : decode cL_neighbours 16 = .ok (.ireturn, 1) := by decide +kernel
theorem dL_nameByte_0 : decode cL_nameByte 0 = .ok (.aload_n 3, 1) := by decide +kernel
theorem dL_nameByte_1 : decode cL_nameByte 1 = .ok (.iconst 0, 1) := by decide +kernel
theorem dL_nameByte_2 : decode cL_nameByte 2 = .ok (.aload_n 0, 1) := by decide +kernel
theorem dL_nameByte_3 : decode cL_nameByte 3 = .ok (.iload_n 1, 1) := by decide +kernel
theorem dL_nameByte_4 : decode cL_nameByte 4 = .ok (.iload_n 2, 1) := by decide +kernel
theorem dL_nameByte_5 : decode cL_nameByte 5 = .ok (.invokevirtual 77, 3) := by decide +kernel
theorem dL_nameByte_8 : decode cL_nameByte 8 = .ok (.i2l, 1) := by decide +kernel
theorem dL_nameByte_9 : decode cL_nameByte 9 = .ok (.lastore, 1) := by decide +kernel
theorem dL_nameByte_10 : decode cL_nameByte 10 = .ok (.goto 7, 3) := by decide +kernel
theorem dL_nameByte_13 : decode cL_nameByte 13 = .ok (.astore 4, 2) := by decide +kernel
theorem dL_nameByte_15 : decode cL_nameByte 15 = .ok (.iconst 1, 1) := by decide +kernel
theorem dL_nameByte_16 : decode cL_nameByte 16 = .ok (.ireturn, 1) := by decide +kernel
theorem dL_nameByte_17 : decode cL_nameByte 17 = .ok (.iconst 0, 1) := by decide +kernel
theorem dL_nameByte_18 : decode cL_nameByte 18 = .ok (.ireturn, 1) := by decide +kernel
theorem dL_whoAnswers_0 : decode cL_whoAnswers 0 = .ok (.aload_n 3, 1) := by decide +kernel
theorem dL_whoAnswers_1 : decode cL_whoAnswers 1 = .ok (.iconst 0, 1) := by decide +kernel
theorem dL_whoAnswers_2 : decode cL_whoAnswers 2 = .ok (.aload_n 0, 1) := by decide +kernel
theorem dL_whoAnswers_3 : decode cL_whoAnswers 3 = .ok (.iload_n 1, 1) := by decide +kernel
theorem dL_whoAnswers_4 : decode cL_whoAnswers 4 = .ok (.iload_n 2, 1) := by decide +kernel
theorem dL_whoAnswers_5 : decode cL_whoAnswers 5 = .ok (.invokevirtual 80, 3) := by decide +kernel
theorem dL_whoAnswers_8 : decode cL_whoAnswers 8 = .ok (.i2l, 1) := by decide +kernel
theorem dL_whoAnswers_9 : decode cL_whoAnswers 9 = .ok (.lastore, 1) := by decide +kernel
theorem dL_whoAnswers_10 : decode cL_whoAnswers 10 = .ok (.goto 7, 3) := by decide +kernel
theorem dL_whoAnswers_13 : decode cL_whoAnswers 13 = .ok (.astore 4, 2) := by decide +kernel
theorem dL_whoAnswers_15 : decode cL_whoAnswers 15 = .ok (.iconst 1, 1) := by decide +kernel
theorem dL_whoAnswers_16 : decode cL_whoAnswers 16 = .ok (.ireturn, 1) := by decide +kernel
theorem dL_whoAnswers_17 : decode cL_whoAnswers 17 = .ok (.iconst 0, 1) := by decide +kernel
theorem dL_whoAnswers_18 : decode cL_whoAnswers 18 = .ok (.ireturn, 1) := by decide +kernel
theorem dL_knowers_0 : decode cL_knowers 0 = .ok (.aload_n 2, 1) := by decide +kernel
theorem dL_knowers_1 : decode cL_knowers 1 = .ok (.iconst 0, 1) := by decide +kernel
theorem dL_knowers_2 : decode cL_knowers 2 = .ok (.aload_n 0, 1) := by decide +kernel
theorem dL_knowers_3 : decode cL_knowers 3 = .ok (.iload_n 1, 1) := by decide +kernel
theorem dL_knowers_4 : decode cL_knowers 4 = .ok (.invokevirtual 83, 3) := by decide +kernel
theorem dL_knowers_7 : decode cL_knowers 7 = .ok (.i2l, 1) := by decide +kernel
theorem dL_knowers_8 : decode cL_knowers 8 = .ok (.lastore, 1) := by decide +kernel
theorem dL_knowers_9 : decode cL_knowers 9 = .ok (.goto 6, 3) := by decide +kernel
theorem dL_knowers_12 : decode cL_knowers 12 = .ok (.astore_n 3, 1) := by decide +kernel
theorem dL_knowers_13 : decode cL_knowers 13 = .ok (.iconst 1, 1) := by decide +kernel
theorem dL_knowers_14 : decode cL_knowers 14 = .ok (.ireturn, 1) := by decide +kernel
theorem dL_knowers_15 : decode cL_knowers 15 = .ok (.iconst 0, 1) := by decide +kernel
theorem dL_knowers_16 : decode cL_knowers 16 = .ok (.ireturn, 1) := by decide +kernel
theorem dL_callState_0 : decode cL_callState 0 = .ok (.aload_n 2, 1) := by decide +kernel
theorem dL_callState_1 : decode cL_callState 1 = .ok (.iconst 0, 1) := by decide +kernel
theorem dL_callState_2 : decode cL_callState 2 = .ok (.aload_n 0, 1) := by decide +kernel
theorem dL_callState_3 : decode cL_callState 3 = .ok (.iload_n 1, 1) := by decide +kernel
theorem dL_callState_4 : decode cL_callState 4 = .ok (.invokevirtual 86, 3) := by decide +kernel
theorem dL_callState_7 : decode cL_callState 7 = .ok (.i2l, 1) := by decide +kernel
theorem dL_callState_8 : decode cL_callState 8 = .ok (.lastore, 1) := by decide +kernel
theorem dL_callState_9 : decode cL_callState 9 = .ok (.goto 6, 3) := by decide +kernel
theorem dL_callState_12 : decode cL_callState 12 = .ok (.astore_n 3, 1) := by decide +kernel
theorem dL_callState_13 : decode cL_callState 13 = .ok (.iconst 1, 1) := by decide +kernel
theorem dL_callState_14 : decode cL_callState 14 = .ok (.ireturn, 1) := by decide +kernel
theorem dL_callState_15 : decode cL_callState 15 = .ok (.iconst 0, 1) := by decide +kernel
theorem dL_callState_16 : decode cL_callState 16 = .ok (.ireturn, 1) := by decide +kernel
theorem dL_callerOf_0 : decode cL_callerOf 0 = .ok (.aload_n 2, 1) := by decide +kernel
theorem dL_callerOf_1 : decode cL_callerOf 1 = .ok (.iconst 0, 1) := by decide +kernel
theorem dL_callerOf_2 : decode cL_callerOf 2 = .ok (.aload_n 0, 1) := by decide +kernel
theorem dL_callerOf_3 : decode cL_callerOf 3 = .ok (.iload_n 1, 1) := by decide +kernel
theorem dL_callerOf_4 : decode cL_callerOf 4 = .ok (.invokevirtual 89, 3) := by decide +kernel
theorem dL_callerOf_7 : decode cL_callerOf 7 = .ok (.i2l, 1) := by decide +kernel
theorem dL_callerOf_8 : decode cL_callerOf 8 = .ok (.lastore, 1) := by decide +kernel
theorem dL_callerOf_9 : decode cL_callerOf 9 = .ok (.goto 6, 3) := by decide +kernel
theorem dL_callerOf_12 : decode cL_callerOf 12 = .ok (.astore_n 3, 1) := by decide +kernel
theorem dL_callerOf_13 : decode cL_callerOf 13 = .ok (.iconst 1, 1) := by decide +kernel
theorem dL_callerOf_14 : decode cL_callerOf 14 = .ok (.ireturn, 1) := by decide +kernel
theorem dL_callerOf_15 : decode cL_callerOf 15 = .ok (.iconst 0, 1) := by decide +kernel
theorem dL_callerOf_16 : decode cL_callerOf 16 = .ok (.ireturn, 1) := by decide +kernel
theorem dL_calledSubscriber_0 : decode cL_calledSubscriber 0 = .ok (.aload_n 2, 1) := by decide +kernel
theorem dL_calledSubscriber_1 : decode cL_calledSubscriber 1 = .ok (.iconst 0, 1) := by decide +kernel
theorem dL_calledSubscriber_2 : decode cL_calledSubscriber 2 = .ok (.aload_n 0, 1) := by decide +kernel
theorem dL_calledSubscriber_3 : decode cL_calledSubscriber 3 = .ok (.iload_n 1, 1) := by decide +kernel
theorem dL_calledSubscriber_4 : decode cL_calledSubscriber 4 = .ok (.invokevirtual 92, 3) := by decide +kernel
theorem dL_calledSubscriber_7 : decode cL_calledSubscriber 7 = .ok (.i2l, 1) := by decide +kernel
theorem dL_calledSubscriber_8 : decode cL_calledSubscriber 8 = .ok (.lastore, 1) := by decide +kernel
theorem dL_calledSubscriber_9 : decode cL_calledSubscriber 9 = .ok (.goto 6, 3) := by decide +kernel
theorem dL_calledSubscriber_12 : decode cL_calledSubscriber 12 = .ok (.astore_n 3, 1) := by decide +kernel
theorem dL_calledSubscriber_13 : decode cL_calledSubscriber 13 = .ok (.iconst 1, 1) := by decide +kernel
theorem dL_calledSubscriber_14 : decode cL_calledSubscriber 14 = .ok (.ireturn, 1) := by decide +kernel
theorem dL_calledSubscriber_15 : decode cL_calledSubscriber 15 = .ok (.iconst 0, 1) := by decide +kernel
theorem dL_calledSubscriber_16 : decode cL_calledSubscriber 16 = .ok (.ireturn, 1) := by decide +kernel
theorem dL_calledTrunk_0 : decode cL_calledTrunk 0 = .ok (.aload_n 2, 1) := by decide +kernel
theorem dL_calledTrunk_1 : decode cL_calledTrunk 1 = .ok (.iconst 0, 1) := by decide +kernel
theorem dL_calledTrunk_2 : decode cL_calledTrunk 2 = .ok (.aload_n 0, 1) := by decide +kernel
theorem dL_calledTrunk_3 : decode cL_calledTrunk 3 = .ok (.iload_n 1, 1) := by decide +kernel
theorem dL_calledTrunk_4 : decode cL_calledTrunk 4 = .ok (.invokevirtual 95, 3) := by decide +kernel
theorem dL_calledTrunk_7 : decode cL_calledTrunk 7 = .ok (.i2l, 1) := by decide +kernel
theorem dL_calledTrunk_8 : decode cL_calledTrunk 8 = .ok (.lastore, 1) := by decide +kernel
theorem dL_calledTrunk_9 : decode cL_calledTrunk 9 = .ok (.goto 6, 3) := by decide +kernel
theorem dL_calledTrunk_12 : decode cL_calledTrunk 12 = .ok (.astore_n 3, 1) := by decide +kernel
theorem dL_calledTrunk_13 : decode cL_calledTrunk 13 = .ok (.iconst 1, 1) := by decide +kernel
theorem dL_calledTrunk_14 : decode cL_calledTrunk 14 = .ok (.ireturn, 1) := by decide +kernel
theorem dL_calledTrunk_15 : decode cL_calledTrunk 15 = .ok (.iconst 0, 1) := by decide +kernel
theorem dL_calledTrunk_16 : decode cL_calledTrunk 16 = .ok (.ireturn, 1) := by decide +kernel
theorem dL_startTime_0 : decode cL_startTime 0 = .ok (.aload_n 2, 1) := by decide +kernel
theorem dL_startTime_1 : decode cL_startTime 1 = .ok (.iconst 0, 1) := by decide +kernel
theorem dL_startTime_2 : decode cL_startTime 2 = .ok (.aload_n 0, 1) := by decide +kernel
theorem dL_startTime_3 : decode cL_startTime 3 = .ok (.iload_n 1, 1) := by decide +kernel
theorem dL_startTime_4 : decode cL_startTime 4 = .ok (.invokevirtual 98, 3) := by decide +kernel
theorem dL_startTime_7 : decode cL_startTime 7 = .ok (.i2l, 1) := by decide +kernel
theorem dL_startTime_8 : decode cL_startTime 8 = .ok (.lastore, 1) := by decide +kernel
theorem dL_startTime_9 : decode cL_startTime 9 = .ok (.goto 6, 3) := by decide +kernel
theorem dL_startTime_12 : decode cL_startTime 12 = .ok (.astore_n 3, 1) := by decide +kernel
theorem dL_startTime_13 : decode cL_startTime 13 = .ok (.iconst 1, 1) := by decide +kernel
theorem dL_startTime_14 : decode cL_startTime 14 = .ok (.ireturn, 1) := by decide +kernel
theorem dL_startTime_15 : decode cL_startTime 15 = .ok (.iconst 0, 1) := by decide +kernel
theorem dL_startTime_16 : decode cL_startTime 16 = .ok (.ireturn, 1) := by decide +kernel
theorem dL_endTime_0 : decode cL_endTime 0 = .ok (.aload_n 2, 1) := by decide +kernel
theorem dL_endTime_1 : decode cL_endTime 1 = .ok (.iconst 0, 1) := by decide +kernel
theorem dL_endTime_2 : decode cL_endTime 2 = .ok (.aload_n 0, 1) := by decide +kernel
theorem dL_endTime_3 : decode cL_endTime 3 = .ok (.iload_n 1, 1) := by decide +kernel
theorem dL_endTime_4 : decode cL_endTime 4 = .ok (.invokevirtual 101, 3) := by decide +kernel
theorem dL_endTime_7 : decode cL_endTime 7 = .ok (.i2l, 1) := by decide +kernel
theorem dL_endTime_8 : decode cL_endTime 8 = .ok (.lastore, 1) := by decide +kernel
theorem dL_endTime_9 : decode cL_endTime 9 = .ok (.goto 6, 3) := by decide +kernel
theorem dL_endTime_12 : decode cL_endTime 12 = .ok (.astore_n 3, 1) := by decide +kernel
theorem dL_endTime_13 : decode cL_endTime 13 = .ok (.iconst 1, 1) := by decide +kernel
theorem dL_endTime_14 : decode cL_endTime 14 = .ok (.ireturn, 1) := by decide +kernel
theorem dL_endTime_15 : decode cL_endTime 15 = .ok (.iconst 0, 1) := by decide +kernel
theorem dL_endTime_16 : decode cL_endTime 16 = .ok (.ireturn, 1) := by decide +kernel
theorem dL_listeners_0 : decode cL_listeners 0 = .ok (.aload_n 2, 1) := by decide +kernel
theorem dL_listeners_1 : decode cL_listeners 1 = .ok (.iconst 0, 1) := by decide +kernel
theorem dL_listeners_2 : decode cL_listeners 2 = .ok (.aload_n 0, 1) := by decide +kernel
theorem dL_listeners_3 : decode cL_listeners 3 = .ok (.iload_n 1, 1) := by decide +kernel
theorem dL_listeners_4 : decode cL_listeners 4 = .ok (.invokevirtual 104, 3) := by decide +kernel
theorem dL_listeners_7 : decode cL_listeners 7 = .ok (.i2l, 1) := by decide +kernel
theorem dL_listeners_8 : decode cL_listeners 8 = .ok (.lastore, 1) := by decide +kernel
theorem dL_listeners_9 : decode cL_listeners 9 = .ok (.goto 6, 3) := by decide +kernel
theorem dL_listeners_12 : decode cL_listeners 12 = .ok (.astore_n 3, 1) := by decide +kernel
theorem dL_listeners_13 : decode cL_listeners 13 = .ok (.iconst 1, 1) := by decide +kernel
theorem dL_listeners_14 : decode cL_listeners 14 = .ok (.ireturn, 1) := by decide +kernel
theorem dL_listeners_15 : decode cL_listeners 15 = .ok (.iconst 0, 1) := by decide +kernel
theorem dL_listeners_16 : decode cL_listeners 16 = .ok (.ireturn, 1) := by decide +kernel
theorem dL_volume_0 : decode cL_volume 0 = .ok (.aload_n 2, 1) := by decide +kernel
theorem dL_volume_1 : decode cL_volume 1 = .ok (.iconst 0, 1) := by decide +kernel
theorem dL_volume_2 : decode cL_volume 2 = .ok (.aload_n 0, 1) := by decide +kernel
theorem dL_volume_3 : decode cL_volume 3 = .ok (.iload_n 1, 1) := by decide +kernel
theorem dL_volume_4 : decode cL_volume 4 = .ok (.invokevirtual 107, 3) := by decide +kernel
theorem dL_volume_7 : decode cL_volume 7 = .ok (.i2l, 1) := by decide +kernel
theorem dL_volume_8 : decode cL_volume 8 = .ok (.lastore, 1) := by decide +kernel
theorem dL_volume_9 : decode cL_volume 9 = .ok (.goto 6, 3) := by decide +kernel
theorem dL_volume_12 : decode cL_volume 12 = .ok (.astore_n 3, 1) := by decide +kernel
theorem dL_volume_13 : decode cL_volume 13 = .ok (.iconst 1, 1) := by decide +kernel
theorem dL_volume_14 : decode cL_volume 14 = .ok (.ireturn, 1) := by decide +kernel
theorem dL_volume_15 : decode cL_volume 15 = .ok (.iconst 0, 1) := by decide +kernel
theorem dL_volume_16 : decode cL_volume 16 = .ok (.ireturn, 1) := by decide +kernel
theorem dL_charge_0 : decode cL_charge 0 = .ok (.aload_n 2, 1) := by decide +kernel
theorem dL_charge_1 : decode cL_charge 1 = .ok (.iconst 0, 1) := by decide +kernel
theorem dL_charge_2 : decode cL_charge 2 = .ok (.aload_n 0, 1) := by decide +kernel
theorem dL_charge_3 : decode cL_charge 3 = .ok (.iload_n 1, 1) := by decide +kernel
theorem dL_charge_4 : decode cL_charge 4 = .ok (.invokevirtual 110, 3) := by decide +kernel
theorem dL_charge_7 : decode cL_charge 7 = .ok (.i2l, 1) := by decide +kernel
theorem dL_charge_8 : decode cL_charge 8 = .ok (.lastore, 1) := by decide +kernel
theorem dL_charge_9 : decode cL_charge 9 = .ok (.goto 6, 3) := by decide +kernel
theorem dL_charge_12 : decode cL_charge 12 = .ok (.astore_n 3, 1) := by decide +kernel
theorem dL_charge_13 : decode cL_charge 13 = .ok (.iconst 1, 1) := by decide +kernel
theorem dL_charge_14 : decode cL_charge 14 = .ok (.ireturn, 1) := by decide +kernel
theorem dL_charge_15 : decode cL_charge 15 = .ok (.iconst 0, 1) := by decide +kernel
theorem dL_charge_16 : decode cL_charge 16 = .ok (.ireturn, 1) := by decide +kernel
theorem dL_obstacle_0 : decode cL_obstacle 0 = .ok (.aload_n 2, 1) := by decide +kernel
theorem dL_obstacle_1 : decode cL_obstacle 1 = .ok (.iconst 0, 1) := by decide +kernel
theorem dL_obstacle_2 : decode cL_obstacle 2 = .ok (.aload_n 0, 1) := by decide +kernel
theorem dL_obstacle_3 : decode cL_obstacle 3 = .ok (.iload_n 1, 1) := by decide +kernel
theorem dL_obstacle_4 : decode cL_obstacle 4 = .ok (.invokevirtual 113, 3) := by decide +kernel
theorem dL_obstacle_7 : decode cL_obstacle 7 = .ok (.i2l, 1) := by decide +kernel
theorem dL_obstacle_8 : decode cL_obstacle 8 = .ok (.lastore, 1) := by decide +kernel
theorem dL_obstacle_9 : decode cL_obstacle 9 = .ok (.goto 6, 3) := by decide +kernel
theorem dL_obstacle_12 : decode cL_obstacle 12 = .ok (.astore_n 3, 1) := by decide +kernel
theorem dL_obstacle_13 : decode cL_obstacle 13 = .ok (.iconst 1, 1) := by decide +kernel
theorem dL_obstacle_14 : decode cL_obstacle 14 = .ok (.ireturn, 1) := by decide +kernel
theorem dL_obstacle_15 : decode cL_obstacle 15 = .ok (.iconst 0, 1) := by decide +kernel
theorem dL_obstacle_16 : decode cL_obstacle 16 = .ok (.ireturn, 1) := by decide +kernel
theorem dL_queuePlace_0 : decode cL_queuePlace 0 = .ok (.aload_n 2, 1) := by decide +kernel
theorem dL_queuePlace_1 : decode cL_queuePlace 1 = .ok (.iconst 0, 1) := by decide +kernel
theorem dL_queuePlace_2 : decode cL_queuePlace 2 = .ok (.aload_n 0, 1) := by decide +kernel
theorem dL_queuePlace_3 : decode cL_queuePlace 3 = .ok (.iload_n 1, 1) := by decide +kernel
theorem dL_queuePlace_4 : decode cL_queuePlace 4 = .ok (.invokevirtual 116, 3) := by decide +kernel
theorem dL_queuePlace_7 : decode cL_queuePlace 7 = .ok (.i2l, 1) := by decide +kernel
theorem dL_queuePlace_8 : decode cL_queuePlace 8 = .ok (.lastore, 1) := by decide +kernel
theorem dL_queuePlace_9 : decode cL_queuePlace 9 = .ok (.goto 6, 3) := by decide +kernel
theorem dL_queuePlace_12 : decode cL_queuePlace 12 = .ok (.astore_n 3, 1) := by decide +kernel
theorem dL_queuePlace_13 : decode cL_queuePlace 13 = .ok (.iconst 1, 1) := by decide +kernel
theorem dL_queuePlace_14 : decode cL_queuePlace 14 = .ok (.ireturn, 1) := by decide +kernel
theorem dL_queuePlace_15 : decode cL_queuePlace 15 = .ok (.iconst 0, 1) := by decide +kernel
theorem dL_queuePlace_16 : decode cL_queuePlace 16 = .ok (.ireturn, 1) := by decide +kernel
theorem dL_isUrgent_0 : decode cL_isUrgent 0 = .ok (.aload_n 2, 1) := by decide +kernel
theorem dL_isUrgent_1 : decode cL_isUrgent 1 = .ok (.iconst 0, 1) := by decide +kernel
theorem dL_isUrgent_2 : decode cL_isUrgent 2 = .ok (.aload_n 0, 1) := by decide +kernel
theorem dL_isUrgent_3 : decode cL_isUrgent 3 = .ok (.iload_n 1, 1) := by decide +kernel
theorem dL_isUrgent_4 : decode cL_isUrgent 4 = .ok (.invokevirtual 119, 3) := by decide +kernel
theorem dL_isUrgent_7 : decode cL_isUrgent 7 = .ok (.ifCond .eq 7, 3) := by decide +kernel
theorem dL_isUrgent_10 : decode cL_isUrgent 10 = .ok (.lconst 1, 1) := by decide +kernel
theorem dL_isUrgent_11 : decode cL_isUrgent 11 = .ok (.goto 4, 3) := by decide +kernel
theorem dL_isUrgent_14 : decode cL_isUrgent 14 = .ok (.lconst 0, 1) := by decide +kernel
theorem dL_isUrgent_15 : decode cL_isUrgent 15 = .ok (.lastore, 1) := by decide +kernel
theorem dL_isUrgent_16 : decode cL_isUrgent 16 = .ok (.goto 6, 3) := by decide +kernel
theorem dL_isUrgent_19 : decode cL_isUrgent 19 = .ok (.astore_n 3, 1) := by decide +kernel
theorem dL_isUrgent_20 : decode cL_isUrgent 20 = .ok (.iconst 1, 1) := by decide +kernel
theorem dL_isUrgent_21 : decode cL_isUrgent 21 = .ok (.ireturn, 1) := by decide +kernel
theorem dL_isUrgent_22 : decode cL_isUrgent 22 = .ok (.iconst 0, 1) := by decide +kernel
theorem dL_isUrgent_23 : decode cL_isUrgent 23 = .ok (.ireturn, 1) := by decide +kernel
theorem dL_listenersBetween_0 : decode cL_listenersBetween 0 = .ok (.aload_n 3, 1) := by decide +kernel
theorem dL_listenersBetween_1 : decode cL_listenersBetween 1 = .ok (.iconst 0, 1) := by decide +kernel
theorem dL_listenersBetween_2 : decode cL_listenersBetween 2 = .ok (.aload_n 0, 1) := by decide +kernel
theorem dL_listenersBetween_3 : decode cL_listenersBetween 3 = .ok (.iload_n 1, 1) := by decide +kernel
theorem dL_listenersBetween_4 : decode cL_listenersBetween 4 = .ok (.iload_n 2, 1) := by decide +kernel
theorem dL_listenersBetween_5 : decode cL_listenersBetween 5 = .ok (.invokevirtual 122, 3) := by decide +kernel
theorem dL_listenersBetween_8 : decode cL_listenersBetween 8 = .ok (.i2l, 1) := by decide +kernel
theorem dL_listenersBetween_9 : decode cL_listenersBetween 9 = .ok (.lastore, 1) := by decide +kernel
theorem dL_listenersBetween_10 : decode cL_listenersBetween 10 = .ok (.goto 11, 3) := by decide +kernel
theorem dL_listenersBetween_13 : decode cL_listenersBetween 13 = .ok (.astore 4, 2) := by decide +kernel
theorem dL_listenersBetween_15 : decode cL_listenersBetween 15 = .ok (.iconst 1, 1) := by decide +kernel
theorem dL_listenersBetween_16 : decode cL_listenersBetween 16 = .ok (.ireturn, 1) := by decide +kernel
theorem dL_listenersBetween_17 : decode cL_listenersBetween 17 = .ok (.astore 4, 2) := by decide +kernel
theorem dL_listenersBetween_19 : decode cL_listenersBetween 19 = .ok (.iconst 2, 1) := by decide +kernel
theorem dL_listenersBetween_20 : decode cL_listenersBetween 20 = .ok (.ireturn, 1) := by decide +kernel
theorem dL_listenersBetween_21 : decode cL_listenersBetween 21 = .ok (.iconst 0, 1) := by decide +kernel
theorem dL_listenersBetween_22 : decode cL_listenersBetween 22 = .ok (.ireturn, 1) := by decide +kernel
theorem dL_startsIfEnded_0 : decode cL_startsIfEnded 0 = .ok (.aload_n 2, 1) := by decide +kernel
theorem dL_startsIfEnded_1 : decode cL_startsIfEnded 1 = .ok (.iconst 0, 1) := by decide +kernel
theorem dL_startsIfEnded_2 : decode cL_startsIfEnded 2 = .ok (.aload_n 0, 1) := by decide +kernel
theorem dL_startsIfEnded_3 : decode cL_startsIfEnded 3 = .ok (.iload_n 1, 1) := by decide +kernel
theorem dL_startsIfEnded_4 : decode cL_startsIfEnded 4 = .ok (.invokevirtual 125, 3) := by decide +kernel
theorem dL_startsIfEnded_7 : decode cL_startsIfEnded 7 = .ok (.i2l, 1) := by decide +kernel
theorem dL_startsIfEnded_8 : decode cL_startsIfEnded 8 = .ok (.lastore, 1) := by decide +kernel
theorem dL_startsIfEnded_9 : decode cL_startsIfEnded 9 = .ok (.goto 6, 3) := by decide +kernel
theorem dL_startsIfEnded_12 : decode cL_startsIfEnded 12 = .ok (.astore_n 3, 1) := by decide +kernel
theorem dL_startsIfEnded_13 : decode cL_startsIfEnded 13 = .ok (.iconst 1, 1) := by decide +kernel
theorem dL_startsIfEnded_14 : decode cL_startsIfEnded 14 = .ok (.ireturn, 1) := by decide +kernel
theorem dL_startsIfEnded_15 : decode cL_startsIfEnded 15 = .ok (.iconst 0, 1) := by decide +kernel
theorem dL_startsIfEnded_16 : decode cL_startsIfEnded 16 = .ok (.ireturn, 1) := by decide +kernel
theorem dL_quietestCall_0 : decode cL_quietestCall 0 = .ok (.aload_n 2, 1) := by decide +kernel
theorem dL_quietestCall_1 : decode cL_quietestCall 1 = .ok (.iconst 0, 1) := by decide +kernel
theorem dL_quietestCall_2 : decode cL_quietestCall 2 = .ok (.aload_n 0, 1) := by decide +kernel
theorem dL_quietestCall_3 : decode cL_quietestCall 3 = .ok (.iload_n 1, 1) := by decide +kernel
theorem dL_quietestCall_4 : decode cL_quietestCall 4 = .ok (.invokevirtual 128, 3) := by decide +kernel
theorem dL_quietestCall_7 : decode cL_quietestCall 7 = .ok (.i2l, 1) := by decide +kernel
theorem dL_quietestCall_8 : decode cL_quietestCall 8 = .ok (.lastore, 1) := by decide +kernel
theorem dL_quietestCall_9 : decode cL_quietestCall 9 = .ok (.goto 6, 3) := by decide +kernel
theorem dL_quietestCall_12 : decode cL_quietestCall 12 = .ok (.astore_n 3, 1) := by decide +kernel
theorem dL_quietestCall_13 : decode cL_quietestCall 13 = .ok (.iconst 1, 1) := by decide +kernel
theorem dL_quietestCall_14 : decode cL_quietestCall 14 = .ok (.ireturn, 1) := by decide +kernel
theorem dL_quietestCall_15 : decode cL_quietestCall 15 = .ok (.iconst 0, 1) := by decide +kernel
theorem dL_quietestCall_16 : decode cL_quietestCall 16 = .ok (.ireturn, 1) := by decide +kernel
theorem dL_law_0 : decode cL_law 0 = .ok (.new 8, 3) := by decide +kernel
theorem dL_law_3 : decode cL_law 3 = .ok (.dup, 1) := by decide +kernel
theorem dL_law_4 : decode cL_law 4 = .ok (.invokespecial 131, 3) := by decide +kernel
theorem dL_law_7 : decode cL_law 7 = .ok (.astore_n 1, 1) := by decide +kernel
theorem dL_law_8 : decode cL_law 8 = .ok (.new 132, 3) := by decide +kernel
theorem dL_law_11 : decode cL_law 11 = .ok (.dup, 1) := by decide +kernel
theorem dL_law_12 : decode cL_law 12 = .ok (.invokespecial 134, 3) := by decide +kernel
theorem dL_law_15 : decode cL_law 15 = .ok (.astore_n 2, 1) := by decide +kernel
theorem dL_law_16 : decode cL_law 16 = .ok (.iconst 1, 1) := by decide +kernel
theorem dL_law_17 : decode cL_law 17 = .ok (.newarray .long, 2) := by decide +kernel
theorem dL_law_19 : decode cL_law 19 = .ok (.astore_n 3, 1) := by decide +kernel
theorem dL_law_20 : decode cL_law 20 = .ok (.iconst 0, 1) := by decide +kernel
theorem dL_law_21 : decode cL_law 21 = .ok (.istore 4, 2) := by decide +kernel
theorem dL_law_23 : decode cL_law 23 = .ok (.iload 4, 2) := by decide +kernel
theorem dL_law_25 : decode cL_law 25 = .ok (.aload_n 0, 1) := by decide +kernel
theorem dL_law_26 : decode cL_law 26 = .ok (.arraylength, 1) := by decide +kernel
theorem dL_law_27 : decode cL_law 27 = .ok (.bipush 6, 2) := by decide +kernel
theorem dL_law_29 : decode cL_law 29 = .ok (.isub, 1) := by decide +kernel
theorem dL_law_30 : decode cL_law 30 = .ok (.if_icmp .gt 2876, 3) := by decide +kernel
theorem dL_law_33 : decode cL_law 33 = .ok (.aload_n 0, 1) := by decide +kernel
theorem dL_law_34 : decode cL_law 34 = .ok (.iload 4, 2) := by decide +kernel
theorem dL_law_36 : decode cL_law 36 = .ok (.iaload, 1) := by decide +kernel
theorem dL_law_37 : decode cL_law 37 = .ok (.bipush 63, 2) := by decide +kernel
theorem dL_law_39 : decode cL_law 39 = .ok (.iand, 1) := by decide +kernel
theorem dL_law_40 : decode cL_law 40 = .ok (.tableswitch 2860 0 57 #[248, 321, 377, 390, 403, 416, 429, 525, 621, 677, 733, 801, 845, 901, 957, 970, 983, 996, 1009, 1022, 1035, 1048, 1061, 1074, 1087, 1150, 1213, 1269, 1325, 1381, 1437, 1493, 1549, 1605, 1661, 1729, 1797, 1853, 1866, 1922, 1978, 2034, 2090, 2146, 2202, 2258, 2314, 2370, 2426, 2482, 2545, 2613, 2669, 2725, 2738, 2779, 2822, 2835], 248) := by decide +kernel
theorem dL_law_288 : decode cL_law 288 = .ok (.aload_n 1, 1) := by decide +kernel
theorem dL_law_289 : decode cL_law 289 = .ok (.aload_n 0, 1) := by decide +kernel
theorem dL_law_290 : decode cL_law 290 = .ok (.iload 4, 2) := by decide +kernel
theorem dL_law_292 : decode cL_law 292 = .ok (.iconst 1, 1) := by decide +kernel
theorem dL_law_293 : decode cL_law 293 = .ok (.iadd, 1) := by decide +kernel
theorem dL_law_294 : decode cL_law 294 = .ok (.iaload, 1) := by decide +kernel
theorem dL_law_295 : decode cL_law 295 = .ok (.aload_n 0, 1) := by decide +kernel
theorem dL_law_296 : decode cL_law 296 = .ok (.iload 4, 2) := by decide +kernel
theorem dL_law_298 : decode cL_law 298 = .ok (.iconst 2, 1) := by decide +kernel
theorem dL_law_299 : decode cL_law 299 = .ok (.iadd, 1) := by decide +kernel
theorem dL_law_300 : decode cL_law 300 = .ok (.iaload, 1) := by decide +kernel
theorem dL_law_301 : decode cL_law 301 = .ok (.aload_n 0, 1) := by decide +kernel
theorem dL_law_302 : decode cL_law 302 = .ok (.iload 4, 2) := by decide +kernel
theorem dL_law_304 : decode cL_law 304 = .ok (.iconst 3, 1) := by decide +kernel
theorem dL_law_305 : decode cL_law 305 = .ok (.iadd, 1) := by decide +kernel
theorem dL_law_306 : decode cL_law 306 = .ok (.iaload, 1) := by decide +kernel
theorem dL_law_307 : decode cL_law 307 = .ok (.aload_n 0, 1) := by decide +kernel
theorem dL_law_308 : decode cL_law 308 = .ok (.iload 4, 2) := by decide +kernel
theorem dL_law_310 : decode cL_law 310 = .ok (.iconst 4, 1) := by decide +kernel
theorem dL_law_311 : decode cL_law 311 = .ok (.iadd, 1) := by decide +kernel
theorem dL_law_312 : decode cL_law 312 = .ok (.iaload, 1) := by decide +kernel
theorem dL_law_313 : decode cL_law 313 = .ok (.aload_n 0, 1) := by decide +kernel
theorem dL_law_314 : decode cL_law 314 = .ok (.iload 4, 2) := by decide +kernel
theorem dL_law_316 : decode cL_law 316 = .ok (.iconst 5, 1) := by decide +kernel
theorem dL_law_317 : decode cL_law 317 = .ok (.iadd, 1) := by decide +kernel
theorem dL_law_318 : decode cL_law 318 = .ok (.iaload, 1) := by decide +kernel
theorem dL_law_319 : decode cL_law 319 = .ok (.invokevirtual 135, 3) := by decide +kernel
theorem dL_law_322 : decode cL_law 322 = .ok (.aload_n 2, 1) := by decide +kernel
theorem dL_law_323 : decode cL_law 323 = .ok (.aload_n 0, 1) := by decide +kernel
theorem dL_law_324 : decode cL_law 324 = .ok (.iload 4, 2) := by decide +kernel
theorem dL_law_326 : decode cL_law 326 = .ok (.iconst 1, 1) := by decide +kernel
theorem dL_law_327 : decode cL_law 327 = .ok (.iadd, 1) := by decide +kernel
theorem dL_law_328 : decode cL_law 328 = .ok (.iaload, 1) := by decide +kernel
theorem dL_law_329 : decode cL_law 329 = .ok (.aload_n 0, 1) := by decide +kernel
theorem dL_law_330 : decode cL_law 330 = .ok (.iload 4, 2) := by decide +kernel
theorem dL_law_332 : decode cL_law 332 = .ok (.iconst 2, 1) := by decide +kernel
theorem dL_law_333 : decode cL_law 333 = .ok (.iadd, 1) := by decide +kernel
theorem dL_law_334 : decode cL_law 334 = .ok (.iaload, 1) := by decide +kernel
theorem dL_law_335 : decode cL_law 335 = .ok (.aload_n 0, 1) := by decide +kernel
theorem dL_law_336 : decode cL_law 336 = .ok (.iload 4, 2) := by decide +kernel
theorem dL_law_338 : decode cL_law 338 = .ok (.iconst 3, 1) := by decide +kernel
theorem dL_law_339 : decode cL_law 339 = .ok (.iadd, 1) := by decide +kernel
theorem dL_law_340 : decode cL_law 340 = .ok (.iaload, 1) := by decide +kernel
theorem dL_law_341 : decode cL_law 341 = .ok (.aload_n 0, 1) := by decide +kernel
theorem dL_law_342 : decode cL_law 342 = .ok (.iload 4, 2) := by decide +kernel
theorem dL_law_344 : decode cL_law 344 = .ok (.iconst 4, 1) := by decide +kernel
theorem dL_law_345 : decode cL_law 345 = .ok (.iadd, 1) := by decide +kernel
theorem dL_law_346 : decode cL_law 346 = .ok (.iaload, 1) := by decide +kernel
theorem dL_law_347 : decode cL_law 347 = .ok (.aload_n 0, 1) := by decide +kernel
theorem dL_law_348 : decode cL_law 348 = .ok (.iload 4, 2) := by decide +kernel
theorem dL_law_350 : decode cL_law 350 = .ok (.iconst 5, 1) := by decide +kernel
theorem dL_law_351 : decode cL_law 351 = .ok (.iadd, 1) := by decide +kernel
theorem dL_law_352 : decode cL_law 352 = .ok (.iaload, 1) := by decide +kernel
theorem dL_law_353 : decode cL_law 353 = .ok (.invokevirtual 139, 3) := by decide +kernel
theorem dL_law_356 : decode cL_law 356 = .ok (.if_icmp .eq 2544, 3) := by decide +kernel
theorem dL_law_359 : decode cL_law 359 = .ok (.iconst 0, 1) := by decide +kernel
theorem dL_law_360 : decode cL_law 360 = .ok (.ireturn, 1) := by decide +kernel
theorem dL_law_361 : decode cL_law 361 = .ok (.aload_n 1, 1) := by decide +kernel
theorem dL_law_362 : decode cL_law 362 = .ok (.aload_n 0, 1) := by decide +kernel
theorem dL_law_363 : decode cL_law 363 = .ok (.iload 4, 2) := by decide +kernel
theorem dL_law_365 : decode cL_law 365 = .ok (.iconst 1, 1) := by decide +kernel
theorem dL_law_366 : decode cL_law 366 = .ok (.iadd, 1) := by decide +kernel
theorem dL_law_367 : decode cL_law 367 = .ok (.iaload, 1) := by decide +kernel
theorem dL_law_368 : decode cL_law 368 = .ok (.aload_n 3, 1) := by decide +kernel
theorem dL_law_369 : decode cL_law 369 = .ok (.invokestatic 140, 3) := by decide +kernel
theorem dL_law_372 : decode cL_law 372 = .ok (.istore 5, 2) := by decide +kernel
theorem dL_law_374 : decode cL_law 374 = .ok (.aload_n 2, 1) := by decide +kernel
theorem dL_law_375 : decode cL_law 375 = .ok (.aload_n 0, 1) := by decide +kernel
theorem dL_law_376 : decode cL_law 376 = .ok (.iload 4, 2) := by decide +kernel
theorem dL_law_378 : decode cL_law 378 = .ok (.iconst 1, 1) := by decide +kernel
theorem dL_law_379 : decode cL_law 379 = .ok (.iadd, 1) := by decide +kernel
theorem dL_law_380 : decode cL_law 380 = .ok (.iaload, 1) := by decide +kernel
theorem dL_law_381 : decode cL_law 381 = .ok (.invokevirtual 145, 3) := by decide +kernel
theorem dL_law_384 : decode cL_law 384 = .ok (.istore 6, 2) := by decide +kernel
theorem dL_law_386 : decode cL_law 386 = .ok (.aload_n 2, 1) := by decide +kernel
theorem dL_law_387 : decode cL_law 387 = .ok (.invokevirtual 146, 3) := by decide +kernel
theorem dL_law_390 : decode cL_law 390 = .ok (.iload 5, 2) := by decide +kernel
theorem dL_law_392 : decode cL_law 392 = .ok (.if_icmp .eq 5, 3) := by decide +kernel
theorem dL_law_395 : decode cL_law 395 = .ok (.iconst 0, 1) := by decide +kernel
theorem dL_law_396 : decode cL_law 396 = .ok (.ireturn, 1) := by decide +kernel
theorem dL_law_397 : decode cL_law 397 = .ok (.iload 5, 2) := by decide +kernel
theorem dL_law_399 : decode cL_law 399 = .ok (.ifCond .ne 15, 3) := by decide +kernel
theorem dL_law_402 : decode cL_law 402 = .ok (.aload_n 3, 1) := by decide +kernel
theorem dL_law_403 : decode cL_law 403 = .ok (.iconst 0, 1) := by decide +kernel
theorem dL_law_404 : decode cL_law 404 = .ok (.laload, 1) := by decide +kernel
theorem dL_law_405 : decode cL_law 405 = .ok (.iload 6, 2) := by decide +kernel
theorem dL_law_407 : decode cL_law 407 = .ok (.i2l, 1) := by decide +kernel
theorem dL_law_408 : decode cL_law 408 = .ok (.lcmp, 1) := by decide +kernel
theorem dL_law_409 : decode cL_law 409 = .ok (.ifCond .eq 5, 3) := by decide +kernel
theorem dL_law_412 : decode cL_law 412 = .ok (.iconst 0, 1) := by decide +kernel
theorem dL_law_413 : decode cL_law 413 = .ok (.ireturn, 1) := by decide +kernel
theorem dL_law_414 : decode cL_law 414 = .ok (.goto 2486, 3) := by decide +kernel
theorem dL_law_417 : decode cL_law 417 = .ok (.aload_n 1, 1) := by decide +kernel
theorem dL_law_418 : decode cL_law 418 = .ok (.invokevirtual 149, 3) := by decide +kernel
theorem dL_law_421 : decode cL_law 421 = .ok (.aload_n 2, 1) := by decide +kernel
theorem dL_law_422 : decode cL_law 422 = .ok (.invokevirtual 152, 3) := by decide +kernel
theorem dL_law_425 : decode cL_law 425 = .ok (.if_icmp .eq 2475, 3) := by decide +kernel
theorem dL_law_428 : decode cL_law 428 = .ok (.iconst 0, 1) := by decide +kernel
theorem dL_law_429 : decode cL_law 429 = .ok (.ireturn, 1) := by decide +kernel
theorem dL_law_430 : decode cL_law 430 = .ok (.aload_n 1, 1) := by decide +kernel
theorem dL_law_431 : decode cL_law 431 = .ok (.invokevirtual 153, 3) := by decide +kernel
theorem dL_law_434 : decode cL_law 434 = .ok (.aload_n 2, 1) := by decide +kernel
theorem dL_law_435 : decode cL_law 435 = .ok (.invokevirtual 156, 3) := by decide +kernel
theorem dL_law_438 : decode cL_law 438 = .ok (.if_icmp .eq 2462, 3) := by decide +kernel
theorem dL_law_441 : decode cL_law 441 = .ok (.iconst 0, 1) := by decide +kernel
theorem dL_law_442 : decode cL_law 442 = .ok (.ireturn, 1) := by decide +kernel
theorem dL_law_443 : decode cL_law 443 = .ok (.aload_n 1, 1) := by decide +kernel
theorem dL_law_444 : decode cL_law 444 = .ok (.invokevirtual 157, 3) := by decide +kernel
theorem dL_law_447 : decode cL_law 447 = .ok (.aload_n 2, 1) := by decide +kernel
theorem dL_law_448 : decode cL_law 448 = .ok (.invokevirtual 160, 3) := by decide +kernel
theorem dL_law_451 : decode cL_law 451 = .ok (.if_icmp .eq 2449, 3) := by decide +kernel
theorem dL_law_454 : decode cL_law 454 = .ok (.iconst 0, 1) := by decide +kernel
theorem dL_law_455 : decode cL_law 455 = .ok (.ireturn, 1) := by decide +kernel
theorem dL_law_456 : decode cL_law 456 = .ok (.aload_n 1, 1) := by decide +kernel
theorem dL_law_457 : decode cL_law 457 = .ok (.invokevirtual 161, 3) := by decide +kernel
theorem dL_law_460 : decode cL_law 460 = .ok (.aload_n 2, 1) := by decide +kernel
theorem dL_law_461 : decode cL_law 461 = .ok (.invokevirtual 164, 3) := by decide +kernel
theorem dL_law_464 : decode cL_law 464 = .ok (.if_icmp .eq 2436, 3) := by decide +kernel
theorem dL_law_467 : decode cL_law 467 = .ok (.iconst 0, 1) := by decide +kernel
theorem dL_law_468 : decode cL_law 468 = .ok (.ireturn, 1) := by decide +kernel
theorem dL_law_469 : decode cL_law 469 = .ok (.aload_n 1, 1) := by decide +kernel
theorem dL_law_470 : decode cL_law 470 = .ok (.aload_n 0, 1) := by decide +kernel
theorem dL_law_471 : decode cL_law 471 = .ok (.iload 4, 2) := by decide +kernel
theorem dL_law_473 : decode cL_law 473 = .ok (.iconst 1, 1) := by decide +kernel
theorem dL_law_474 : decode cL_law 474 = .ok (.iadd, 1) := by decide +kernel
theorem dL_law_475 : decode cL_law 475 = .ok (.iaload, 1) := by decide +kernel
theorem dL_law_476 : decode cL_law 476 = .ok (.aload_n 0, 1) := by decide +kernel
theorem dL_law_477 : decode cL_law 477 = .ok (.iload 4, 2) := by decide +kernel
theorem dL_law_479 : decode cL_law 479 = .ok (.iconst 2, 1) := by decide +kernel
theorem dL_law_480 : decode cL_law 480 = .ok (.iadd, 1) := by decide +kernel
theorem dL_law_481 : decode cL_law 481 = .ok (.iaload, 1) := by decide +kernel
theorem dL_law_482 : decode cL_law 482 = .ok (.aload_n 0, 1) := by decide +kernel
theorem dL_law_483 : decode cL_law 483 = .ok (.iload 4, 2) := by decide +kernel
theorem dL_law_485 : decode cL_law 485 = .ok (.iconst 3, 1) := by decide +kernel
theorem dL_law_486 : decode cL_law 486 = .ok (.iadd, 1) := by decide +kernel
theorem dL_law_487 : decode cL_law 487 = .ok (.iaload, 1) := by decide +kernel
theorem dL_law_488 : decode cL_law 488 = .ok (.ifCond .eq 7, 3) := by decide +kernel
theorem dL_law_491 : decode cL_law 491 = .ok (.iconst 1, 1) := by decide +kernel
theorem dL_law_492 : decode cL_law 492 = .ok (.goto 4, 3) := by decide +kernel
theorem dL_law_495 : decode cL_law 495 = .ok (.iconst 0, 1) := by decide +kernel
theorem dL_law_496 : decode cL_law 496 = .ok (.aload_n 3, 1) := by decide +kernel
theorem dL_law_497 : decode cL_law 497 = .ok (.invokestatic 165, 3) := by decide +kernel
theorem dL_law_500 : decode cL_law 500 = .ok (.istore 5, 2) := by decide +kernel
theorem dL_law_502 : decode cL_law 502 = .ok (.aload_n 2, 1) := by decide +kernel
theorem dL_law_503 : decode cL_law 503 = .ok (.aload_n 0, 1) := by decide +kernel
theorem dL_law_504 : decode cL_law 504 = .ok (.iload 4, 2) := by decide +kernel
theorem dL_law_506 : decode cL_law 506 = .ok (.iconst 1, 1) := by decide +kernel
theorem dL_law_507 : decode cL_law 507 = .ok (.iadd, 1) := by decide +kernel
theorem dL_law_508 : decode cL_law 508 = .ok (.iaload, 1) := by decide +kernel
theorem dL_law_509 : decode cL_law 509 = .ok (.aload_n 0, 1) := by decide +kernel
theorem dL_law_510 : decode cL_law 510 = .ok (.iload 4, 2) := by decide +kernel
theorem dL_law_512 : decode cL_law 512 = .ok (.iconst 2, 1) := by decide +kernel
theorem dL_law_513 : decode cL_law 513 = .ok (.iadd, 1) := by decide +kernel
theorem dL_law_514 : decode cL_law 514 = .ok (.iaload, 1) := by decide +kernel
theorem dL_law_515 : decode cL_law 515 = .ok (.aload_n 0, 1) := by decide +kernel
theorem dL_law_516 : decode cL_law 516 = .ok (.iload 4, 2) := by decide +kernel
theorem dL_law_518 : decode cL_law 518 = .ok (.iconst 3, 1) := by decide +kernel
theorem dL_law_519 : decode cL_law 519 = .ok (.iadd, 1) := by decide +kernel
theorem dL_law_520 : decode cL_law 520 = .ok (.iaload, 1) := by decide +kernel
theorem dL_law_521 : decode cL_law 521 = .ok (.ifCond .eq 7, 3) := by decide +kernel
theorem dL_law_524 : decode cL_law 524 = .ok (.iconst 1, 1) := by decide +kernel
theorem dL_law_525 : decode cL_law 525 = .ok (.goto 4, 3) := by decide +kernel
theorem dL_law_528 : decode cL_law 528 = .ok (.iconst 0, 1) := by decide +kernel
theorem dL_law_529 : decode cL_law 529 = .ok (.invokevirtual 168, 3) := by decide +kernel
theorem dL_law_532 : decode cL_law 532 = .ok (.istore 6, 2) := by decide +kernel
theorem dL_law_534 : decode cL_law 534 = .ok (.aload_n 2, 1) := by decide +kernel
theorem dL_law_535 : decode cL_law 535 = .ok (.invokevirtual 146, 3) := by decide +kernel
theorem dL_law_538 : decode cL_law 538 = .ok (.iload 5, 2) := by decide +kernel
theorem dL_law_540 : decode cL_law 540 = .ok (.if_icmp .eq 5, 3) := by decide +kernel
theorem dL_law_543 : decode cL_law 543 = .ok (.iconst 0, 1) := by decide +kernel
theorem dL_law_544 : decode cL_law 544 = .ok (.ireturn, 1) := by decide +kernel
theorem dL_law_545 : decode cL_law 545 = .ok (.iload 5, 2) := by decide +kernel
theorem dL_law_547 : decode cL_law 547 = .ok (.ifCond .ne 15, 3) := by decide +kernel
theorem dL_law_550 : decode cL_law 550 = .ok (.aload_n 3, 1) := by decide +kernel
theorem dL_law_551 : decode cL_law 551 = .ok (.iconst 0, 1) := by decide +kernel
theorem dL_law_552 : decode cL_law 552 = .ok (.laload, 1) := by decide +kernel
theorem dL_law_553 : decode cL_law 553 = .ok (.iload 6, 2) := by decide +kernel
theorem dL_law_555 : decode cL_law 555 = .ok (.i2l, 1) := by decide +kernel
theorem dL_law_556 : decode cL_law 556 = .ok (.lcmp, 1) := by decide +kernel
theorem dL_law_557 : decode cL_law 557 = .ok (.ifCond .eq 5, 3) := by decide +kernel
theorem dL_law_560 : decode cL_law 560 = .ok (.iconst 0, 1) := by decide +kernel
theorem dL_law_561 : decode cL_law 561 = .ok (.ireturn, 1) := by decide +kernel
theorem dL_law_562 : decode cL_law 562 = .ok (.goto 2338, 3) := by decide +kernel
theorem dL_law_565 : decode cL_law 565 = .ok (.aload_n 1, 1) := by decide +kernel
theorem dL_law_566 : decode cL_law 566 = .ok (.aload_n 0, 1) := by decide +kernel
theorem dL_law_567 : decode cL_law 567 = .ok (.iload 4, 2) := by decide +kernel
theorem dL_law_569 : decode cL_law 569 = .ok (.iconst 1, 1) := by decide +kernel
theorem dL_law_570 : decode cL_law 570 = .ok (.iadd, 1) := by decide +kernel
theorem dL_law_571 : decode cL_law 571 = .ok (.iaload, 1) := by decide +kernel
theorem dL_law_572 : decode cL_law 572 = .ok (.aload_n 0, 1) := by decide +kernel
theorem dL_law_573 : decode cL_law 573 = .ok (.iload 4, 2) := by decide +kernel
theorem dL_law_575 : decode cL_law 575 = .ok (.iconst 2, 1) := by decide +kernel
theorem dL_law_576 : decode cL_law 576 = .ok (.iadd, 1) := by decide +kernel
theorem dL_law_577 : decode cL_law 577 = .ok (.iaload, 1) := by decide +kernel
theorem dL_law_578 : decode cL_law 578 = .ok (.aload_n 0, 1) := by decide +kernel
theorem dL_law_579 : decode cL_law 579 = .ok (.iload 4, 2) := by decide +kernel
theorem dL_law_581 : decode cL_law 581 = .ok (.iconst 3, 1) := by decide +kernel
theorem dL_law_582 : decode cL_law 582 = .ok (.iadd, 1) := by decide +kernel
theorem dL_law_583 : decode cL_law 583 = .ok (.iaload, 1) := by decide +kernel
theorem dL_law_584 : decode cL_law 584 = .ok (.ifCond .eq 7, 3) := by decide +kernel
theorem dL_law_587 : decode cL_law 587 = .ok (.iconst 1, 1) := by decide +kernel
theorem dL_law_588 : decode cL_law 588 = .ok (.goto 4, 3) := by decide +kernel
theorem dL_law_591 : decode cL_law 591 = .ok (.iconst 0, 1) := by decide +kernel
theorem dL_law_592 : decode cL_law 592 = .ok (.aload_n 3, 1) := by decide +kernel
theorem dL_law_593 : decode cL_law 593 = .ok (.invokestatic 169, 3) := by decide +kernel
theorem dL_law_596 : decode cL_law 596 = .ok (.istore 5, 2) := by decide +kernel
theorem dL_law_598 : decode cL_law 598 = .ok (.aload_n 2, 1) := by decide +kernel
theorem dL_law_599 : decode cL_law 599 = .ok (.aload_n 0, 1) := by decide +kernel
theorem dL_law_600 : decode cL_law 600 = .ok (.iload 4, 2) := by decide +kernel
theorem dL_law_602 : decode cL_law 602 = .ok (.iconst 1, 1) := by decide +kernel
theorem dL_law_603 : decode cL_law 603 = .ok (.iadd, 1) := by decide +kernel
theorem dL_law_604 : decode cL_law 604 = .ok (.iaload, 1) := by decide +kernel
theorem dL_law_605 : decode cL_law 605 = .ok (.aload_n 0, 1) := by decide +kernel
theorem dL_law_606 : decode cL_law 606 = .ok (.iload 4, 2) := by decide +kernel
theorem dL_law_608 : decode cL_law 608 = .ok (.iconst 2, 1) := by decide +kernel
theorem dL_law_609 : decode cL_law 609 = .ok (.iadd, 1) := by decide +kernel
theorem dL_law_610 : decode cL_law 610 = .ok (.iaload, 1) := by decide +kernel
theorem dL_law_611 : decode cL_law 611 = .ok (.aload_n 0, 1) := by decide +kernel
theorem dL_law_612 : decode cL_law 612 = .ok (.iload 4, 2) := by decide +kernel
theorem dL_law_614 : decode cL_law 614 = .ok (.iconst 3, 1) := by decide +kernel
theorem dL_law_615 : decode cL_law 615 = .ok (.iadd, 1) := by decide +kernel
theorem dL_law_616 : decode cL_law 616 = .ok (.iaload, 1) := by decide +kernel
theorem dL_law_617 : decode cL_law 617 = .ok (.ifCond .eq 7, 3) := by decide +kernel
theorem dL_law_620 : decode cL_law 620 = .ok (.iconst 1, 1) := by decide +kernel
theorem dL_law_621 : decode cL_law 621 = .ok (.goto 4, 3) := by decide +kernel
theorem dL_law_624 : decode cL_law 624 = .ok (.iconst 0, 1) := by decide +kernel
theorem dL_law_625 : decode cL_law 625 = .ok (.invokevirtual 171, 3) := by decide +kernel
theorem dL_law_628 : decode cL_law 628 = .ok (.istore 6, 2) := by decide +kernel
theorem dL_law_630 : decode cL_law 630 = .ok (.aload_n 2, 1) := by decide +kernel
theorem dL_law_631 : decode cL_law 631 = .ok (.invokevirtual 146, 3) := by decide +kernel
theorem dL_law_634 : decode cL_law 634 = .ok (.iload 5, 2) := by decide +kernel
theorem dL_law_636 : decode cL_law 636 = .ok (.if_icmp .eq 5, 3) := by decide +kernel
theorem dL_law_639 : decode cL_law 639 = .ok (.iconst 0, 1) := by decide +kernel
theorem dL_law_640 : decode cL_law 640 = .ok (.ireturn, 1) := by decide +kernel
theorem dL_law_641 : decode cL_law 641 = .ok (.iload 5, 2) := by decide +kernel
theorem dL_law_643 : decode cL_law 643 = .ok (.ifCond .ne 15, 3) := by decide +kernel
theorem dL_law_646 : decode cL_law 646 = .ok (.aload_n 3, 1) := by decide +kernel
theorem dL_law_647 : decode cL_law 647 = .ok (.iconst 0, 1) := by decide +kernel
theorem dL_law_648 : decode cL_law 648 = .ok (.laload, 1) := by decide +kernel
theorem dL_law_649 : decode cL_law 649 = .ok (.iload 6, 2) := by decide +kernel
theorem dL_law_651 : decode cL_law 651 = .ok (.i2l, 1) := by decide +kernel
theorem dL_law_652 : decode cL_law 652 = .ok (.lcmp, 1) := by decide +kernel
theorem dL_law_653 : decode cL_law 653 = .ok (.ifCond .eq 5, 3) := by decide +kernel
theorem dL_law_656 : decode cL_law 656 = .ok (.iconst 0, 1) := by decide +kernel
theorem dL_law_657 : decode cL_law 657 = .ok (.ireturn, 1) := by decide +kernel
theorem dL_law_658 : decode cL_law 658 = .ok (.goto 2242, 3) := by decide +kernel
theorem dL_law_661 : decode cL_law 661 = .ok (.aload_n 1, 1) := by decide +kernel
theorem dL_law_662 : decode cL_law 662 = .ok (.aload_n 0, 1) := by decide +kernel
theorem dL_law_663 : decode cL_law 663 = .ok (.iload 4, 2) := by decide +kernel
theorem dL_law_665 : decode cL_law 665 = .ok (.iconst 1, 1) := by decide +kernel
theorem dL_law_666 : decode cL_law 666 = .ok (.iadd, 1) := by decide +kernel
theorem dL_law_667 : decode cL_law 667 = .ok (.iaload, 1) := by decide +kernel
theorem dL_law_668 : decode cL_law 668 = .ok (.aload_n 3, 1) := by decide +kernel
theorem dL_law_669 : decode cL_law 669 = .ok (.invokestatic 172, 3) := by decide +kernel
theorem dL_law_672 : decode cL_law 672 = .ok (.istore 5, 2) := by decide +kernel
theorem dL_law_674 : decode cL_law 674 = .ok (.aload_n 2, 1) := by decide +kernel
theorem dL_law_675 : decode cL_law 675 = .ok (.aload_n 0, 1) := by decide +kernel
theorem dL_law_676 : decode cL_law 676 = .ok (.iload 4, 2) := by decide +kernel
theorem dL_law_678 : decode cL_law 678 = .ok (.iconst 1, 1) := by decide +kernel
theorem dL_law_679 : decode cL_law 679 = .ok (.iadd, 1) := by decide +kernel
theorem dL_law_680 : decode cL_law 680 = .ok (.iaload, 1) := by decide +kernel
theorem dL_law_681 : decode cL_law 681 = .ok (.invokevirtual 174, 3) := by decide +kernel
theorem dL_law_684 : decode cL_law 684 = .ok (.istore 6, 2) := by decide +kernel
theorem dL_law_686 : decode cL_law 686 = .ok (.aload_n 2, 1) := by decide +kernel
theorem dL_law_687 : decode cL_law 687 = .ok (.invokevirtual 146, 3) := by decide +kernel
theorem dL_law_690 : decode cL_law 690 = .ok (.iload 5, 2) := by decide +kernel
theorem dL_law_692 : decode cL_law 692 = .ok (.if_icmp .eq 5, 3) := by decide +kernel
theorem dL_law_695 : decode cL_law 695 = .ok (.iconst 0, 1) := by decide +kernel
theorem dL_law_696 : decode cL_law 696 = .ok (.ireturn, 1) := by decide +kernel
theorem dL_law_697 : decode cL_law 697 = .ok (.iload 5, 2) := by decide +kernel
theorem dL_law_699 : decode cL_law 699 = .ok (.ifCond .ne 15, 3) := by decide +kernel
theorem dL_law_702 : decode cL_law 702 = .ok (.aload_n 3, 1) := by decide +kernel
theorem dL_law_703 : decode cL_law 703 = .ok (.iconst 0, 1) := by decide +kernel
theorem dL_law_704 : decode cL_law 704 = .ok (.laload, 1) := by decide +kernel
theorem dL_law_705 : decode cL_law 705 = .ok (.iload 6, 2) := by decide +kernel
theorem dL_law_707 : decode cL_law 707 = .ok (.i2l, 1) := by decide +kernel
theorem dL_law_708 : decode cL_law 708 = .ok (.lcmp, 1) := by decide +kernel
theorem dL_law_709 : decode cL_law 709 = .ok (.ifCond .eq 5, 3) := by decide +kernel
theorem dL_law_712 : decode cL_law 712 = .ok (.iconst 0, 1) := by decide +kernel
theorem dL_law_713 : decode cL_law 713 = .ok (.ireturn, 1) := by decide +kernel
theorem dL_law_714 : decode cL_law 714 = .ok (.goto 2186, 3) := by decide +kernel
theorem dL_law_717 : decode cL_law 717 = .ok (.aload_n 1, 1) := by decide +kernel
theorem dL_law_718 : decode cL_law 718 = .ok (.aload_n 0, 1) := by decide +kernel
theorem dL_law_719 : decode cL_law 719 = .ok (.iload 4, 2) := by decide +kernel
theorem dL_law_721 : decode cL_law 721 = .ok (.iconst 1, 1) := by decide +kernel
theorem dL_law_722 : decode cL_law 722 = .ok (.iadd, 1) := by decide +kernel
theorem dL_law_723 : decode cL_law 723 = .ok (.iaload, 1) := by decide +kernel
theorem dL_law_724 : decode cL_law 724 = .ok (.aload_n 3, 1) := by decide +kernel
theorem dL_law_725 : decode cL_law 725 = .ok (.invokestatic 175, 3) := by decide +kernel
theorem dL_law_728 : decode cL_law 728 = .ok (.istore 5, 2) := by decide +kernel
theorem dL_law_730 : decode cL_law 730 = .ok (.aload_n 2, 1) := by decide +kernel
theorem dL_law_731 : decode cL_law 731 = .ok (.aload_n 0, 1) := by decide +kernel
theorem dL_law_732 : decode cL_law 732 = .ok (.iload 4, 2) := by decide +kernel
theorem dL_law_734 : decode cL_law 734 = .ok (.iconst 1, 1) := by decide +kernel
theorem dL_law_735 : decode cL_law 735 = .ok (.iadd, 1) := by decide +kernel
theorem dL_law_736 : decode cL_law 736 = .ok (.iaload, 1) := by decide +kernel
theorem dL_law_737 : decode cL_law 737 = .ok (.invokevirtual 177, 3) := by decide +kernel
theorem dL_law_740 : decode cL_law 740 = .ok (.istore 6, 2) := by decide +kernel
theorem dL_law_742 : decode cL_law 742 = .ok (.aload_n 2, 1) := by decide +kernel
theorem dL_law_743 : decode cL_law 743 = .ok (.invokevirtual 146, 3) := by decide +kernel
theorem dL_law_746 : decode cL_law 746 = .ok (.iload 5, 2) := by decide +kernel
theorem dL_law_748 : decode cL_law 748 = .ok (.if_icmp .eq 5, 3) := by decide +kernel
theorem dL_law_751 : decode cL_law 751 = .ok (.iconst 0, 1) := by decide +kernel
theorem dL_law_752 : decode cL_law 752 = .ok (.ireturn, 1) := by decide +kernel
theorem dL_law_753 : decode cL_law 753 = .ok (.iload 5, 2) := by decide +kernel
theorem dL_law_755 : decode cL_law 755 = .ok (.ifCond .ne 15, 3) := by decide +kernel
theorem dL_law_758 : decode cL_law 758 = .ok (.aload_n 3, 1) := by decide +kernel
theorem dL_law_759 : decode cL_law 759 = .ok (.iconst 0, 1) := by decide +kernel
theorem dL_law_760 : decode cL_law 760 = .ok (.laload, 1) := by decide +kernel
theorem dL_law_761 : decode cL_law 761 = .ok (.iload 6, 2) := by decide +kernel
theorem dL_law_763 : decode cL_law 763 = .ok (.i2l, 1) := by decide +kernel
theorem dL_law_764 : decode cL_law 764 = .ok (.lcmp, 1) := by decide +kernel
theorem dL_law_765 : decode cL_law 765 = .ok (.ifCond .eq 5, 3) := by decide +kernel
theorem dL_law_768 : decode cL_law 768 = .ok (.iconst 0, 1) := by decide +kernel
theorem dL_law_769 : decode cL_law 769 = .ok (.ireturn, 1) := by decide +kernel
theorem dL_law_770 : decode cL_law 770 = .ok (.goto 2130, 3) := by decide +kernel
theorem dL_law_773 : decode cL_law 773 = .ok (.aload_n 1, 1) := by decide +kernel
theorem dL_law_774 : decode cL_law 774 = .ok (.aload_n 0, 1) := by decide +kernel
theorem dL_law_775 : decode cL_law 775 = .ok (.iload 4, 2) := by decide +kernel
theorem dL_law_777 : decode cL_law 777 = .ok (.iconst 1, 1) := by decide +kernel
theorem dL_law_778 : decode cL_law 778 = .ok (.iadd, 1) := by decide +kernel
theorem dL_law_779 : decode cL_law 779 = .ok (.iaload, 1) := by decide +kernel
theorem dL_law_780 : decode cL_law 780 = .ok (.aload_n 0, 1) := by decide +kernel
theorem dL_law_781 : decode cL_law 781 = .ok (.iload 4, 2) := by decide +kernel
theorem dL_law_783 : decode cL_law 783 = .ok (.iconst 2, 1) := by decide +kernel
theorem dL_law_784 : decode cL_law 784 = .ok (.iadd, 1) := by decide +kernel
theorem dL_law_785 : decode cL_law 785 = .ok (.iaload, 1) := by decide +kernel
theorem dL_law_786 : decode cL_law 786 = .ok (.aload_n 3, 1) := by decide +kernel
theorem dL_law_787 : decode cL_law 787 = .ok (.invokestatic 178, 3) := by decide +kernel
theorem dL_law_790 : decode cL_law 790 = .ok (.istore 5, 2) := by decide +kernel
theorem dL_law_792 : decode cL_law 792 = .ok (.aload_n 2, 1) := by decide +kernel
theorem dL_law_793 : decode cL_law 793 = .ok (.aload_n 0, 1) := by decide +kernel
theorem dL_law_794 : decode cL_law 794 = .ok (.iload 4, 2) := by decide +kernel
theorem dL_law_796 : decode cL_law 796 = .ok (.iconst 1, 1) := by decide +kernel
theorem dL_law_797 : decode cL_law 797 = .ok (.iadd, 1) := by decide +kernel
theorem dL_law_798 : decode cL_law 798 = .ok (.iaload, 1) := by decide +kernel
theorem dL_law_799 : decode cL_law 799 = .ok (.aload_n 0, 1) := by decide +kernel
theorem dL_law_800 : decode cL_law 800 = .ok (.iload 4, 2) := by decide +kernel
theorem dL_law_802 : decode cL_law 802 = .ok (.iconst 2, 1) := by decide +kernel
theorem dL_law_803 : decode cL_law 803 = .ok (.iadd, 1) := by decide +kernel
theorem dL_law_804 : decode cL_law 804 = .ok (.iaload, 1) := by decide +kernel
theorem dL_law_805 : decode cL_law 805 = .ok (.invokevirtual 181, 3) := by decide +kernel
theorem dL_law_808 : decode cL_law 808 = .ok (.istore 6, 2) := by decide +kernel
theorem dL_law_810 : decode cL_law 810 = .ok (.aload_n 2, 1) := by decide +kernel
theorem dL_law_811 : decode cL_law 811 = .ok (.invokevirtual 146, 3) := by decide +kernel
theorem dL_law_814 : decode cL_law 814 = .ok (.iload 5, 2) := by decide +kernel
theorem dL_law_816 : decode cL_law 816 = .ok (.if_icmp .eq 5, 3) := by decide +kernel
theorem dL_law_819 : decode cL_law 819 = .ok (.iconst 0, 1) := by decide +kernel
theorem dL_law_820 : decode cL_law 820 = .ok (.ireturn, 1) := by decide +kernel
theorem dL_law_821 : decode cL_law 821 = .ok (.iload 5, 2) := by decide +kernel
theorem dL_law_823 : decode cL_law 823 = .ok (.ifCond .ne 15, 3) := by decide +kernel
theorem dL_law_826 : decode cL_law 826 = .ok (.aload_n 3, 1) := by decide +kernel
theorem dL_law_827 : decode cL_law 827 = .ok (.iconst 0, 1) := by decide +kernel
theorem dL_law_828 : decode cL_law 828 = .ok (.laload, 1) := by decide +kernel
theorem dL_law_829 : decode cL_law 829 = .ok (.iload 6, 2) := by decide +kernel
theorem dL_law_831 : decode cL_law 831 = .ok (.i2l, 1) := by decide +kernel
theorem dL_law_832 : decode cL_law 832 = .ok (.lcmp, 1) := by decide +kernel
theorem dL_law_833 : decode cL_law 833 = .ok (.ifCond .eq 5, 3) := by decide +kernel
theorem dL_law_836 : decode cL_law 836 = .ok (.iconst 0, 1) := by decide +kernel
theorem dL_law_837 : decode cL_law 837 = .ok (.ireturn, 1) := by decide +kernel
theorem dL_law_838 : decode cL_law 838 = .ok (.goto 2062, 3) := by decide +kernel
theorem dL_law_841 : decode cL_law 841 = .ok (.aload_n 1, 1) := by decide +kernel
theorem dL_law_842 : decode cL_law 842 = .ok (.aload_n 3, 1) := by decide +kernel
theorem dL_law_843 : decode cL_law 843 = .ok (.invokestatic 182, 3) := by decide +kernel
theorem dL_law_846 : decode cL_law 846 = .ok (.istore 5, 2) := by decide +kernel
theorem dL_law_848 : decode cL_law 848 = .ok (.aload_n 2, 1) := by decide +kernel
theorem dL_law_849 : decode cL_law 849 = .ok (.invokevirtual 185, 3) := by decide +kernel
theorem dL_law_852 : decode cL_law 852 = .ok (.istore 6, 2) := by decide +kernel
theorem dL_law_854 : decode cL_law 854 = .ok (.aload_n 2, 1) := by decide +kernel
theorem dL_law_855 : decode cL_law 855 = .ok (.invokevirtual 146, 3) := by decide +kernel
theorem dL_law_858 : decode cL_law 858 = .ok (.iload 5, 2) := by decide +kernel
theorem dL_law_860 : decode cL_law 860 = .ok (.if_icmp .eq 5, 3) := by decide +kernel
theorem dL_law_863 : decode cL_law 863 = .ok (.iconst 0, 1) := by decide +kernel
theorem dL_law_864 : decode cL_law 864 = .ok (.ireturn, 1) := by decide +kernel
theorem dL_law_865 : decode cL_law 865 = .ok (.iload 5, 2) := by decide +kernel
theorem dL_law_867 : decode cL_law 867 = .ok (.ifCond .ne 15, 3) := by decide +kernel
theorem dL_law_870 : decode cL_law 870 = .ok (.aload_n 3, 1) := by decide +kernel
theorem dL_law_871 : decode cL_law 871 = .ok (.iconst 0, 1) := by decide +kernel
theorem dL_law_872 : decode cL_law 872 = .ok (.laload, 1) := by decide +kernel
theorem dL_law_873 : decode cL_law 873 = .ok (.iload 6, 2) := by decide +kernel
theorem dL_law_875 : decode cL_law 875 = .ok (.i2l, 1) := by decide +kernel
theorem dL_law_876 : decode cL_law 876 = .ok (.lcmp, 1) := by decide +kernel
theorem dL_law_877 : decode cL_law 877 = .ok (.ifCond .eq 5, 3) := by decide +kernel
theorem dL_law_880 : decode cL_law 880 = .ok (.iconst 0, 1) := by decide +kernel
theorem dL_law_881 : decode cL_law 881 = .ok (.ireturn, 1) := by decide +kernel
theorem dL_law_882 : decode cL_law 882 = .ok (.goto 2018, 3) := by decide +kernel
theorem dL_law_885 : decode cL_law 885 = .ok (.aload_n 1, 1) := by decide +kernel
theorem dL_law_886 : decode cL_law 886 = .ok (.aload_n 0, 1) := by decide +kernel
theorem dL_law_887 : decode cL_law 887 = .ok (.iload 4, 2) := by decide +kernel
theorem dL_law_889 : decode cL_law 889 = .ok (.iconst 1, 1) := by decide +kernel
theorem dL_law_890 : decode cL_law 890 = .ok (.iadd, 1) := by decide +kernel
theorem dL_law_891 : decode cL_law 891 = .ok (.iaload, 1) := by decide +kernel
theorem dL_law_892 : decode cL_law 892 = .ok (.aload_n 3, 1) := by decide +kernel
theorem dL_law_893 : decode cL_law 893 = .ok (.invokestatic 186, 3) := by decide +kernel
theorem dL_law_896 : decode cL_law 896 = .ok (.istore 5, 2) := by decide +kernel
theorem dL_law_898 : decode cL_law 898 = .ok (.aload_n 2, 1) := by decide +kernel
theorem dL_law_899 : decode cL_law 899 = .ok (.aload_n 0, 1) := by decide +kernel
theorem dL_law_900 : decode cL_law 900 = .ok (.iload 4, 2) := by decide +kernel
theorem dL_law_902 : decode cL_law 902 = .ok (.iconst 1, 1) := by decide +kernel
theorem dL_law_903 : decode cL_law 903 = .ok (.iadd, 1) := by decide +kernel
theorem dL_law_904 : decode cL_law 904 = .ok (.iaload, 1) := by decide +kernel
theorem dL_law_905 : decode cL_law 905 = .ok (.invokevirtual 188, 3) := by decide +kernel
theorem dL_law_908 : decode cL_law 908 = .ok (.istore 6, 2) := by decide +kernel
theorem dL_law_910 : decode cL_law 910 = .ok (.aload_n 2, 1) := by decide +kernel
theorem dL_law_911 : decode cL_law 911 = .ok (.invokevirtual 146, 3) := by decide +kernel
theorem dL_law_914 : decode cL_law 914 = .ok (.iload 5, 2) := by decide +kernel
theorem dL_law_916 : decode cL_law 916 = .ok (.if_icmp .eq 5, 3) := by decide +kernel
theorem dL_law_919 : decode cL_law 919 = .ok (.iconst 0, 1) := by decide +kernel
theorem dL_law_920 : decode cL_law 920 = .ok (.ireturn, 1) := by decide +kernel
theorem dL_law_921 : decode cL_law 921 = .ok (.iload 5, 2) := by decide +kernel
theorem dL_law_923 : decode cL_law 923 = .ok (.ifCond .ne 15, 3) := by decide +kernel
theorem dL_law_926 : decode cL_law 926 = .ok (.aload_n 3, 1) := by decide +kernel
theorem dL_law_927 : decode cL_law 927 = .ok (.iconst 0, 1) := by decide +kernel
theorem dL_law_928 : decode cL_law 928 = .ok (.laload, 1) := by decide +kernel
theorem dL_law_929 : decode cL_law 929 = .ok (.iload 6, 2) := by decide +kernel
theorem dL_law_931 : decode cL_law 931 = .ok (.i2l, 1) := by decide +kernel
theorem dL_law_932 : decode cL_law 932 = .ok (.lcmp, 1) := by decide +kernel
theorem dL_law_933 : decode cL_law 933 = .ok (.ifCond .eq 5, 3) := by decide +kernel
theorem dL_law_936 : decode cL_law 936 = .ok (.iconst 0, 1) := by decide +kernel
theorem dL_law_937 : decode cL_law 937 = .ok (.ireturn, 1) := by decide +kernel
theorem dL_law_938 : decode cL_law 938 = .ok (.goto 1962, 3) := by decide +kernel
theorem dL_law_941 : decode cL_law 941 = .ok (.aload_n 1, 1) := by decide +kernel
theorem dL_law_942 : decode cL_law 942 = .ok (.aload_n 0, 1) := by decide +kernel
theorem dL_law_943 : decode cL_law 943 = .ok (.iload 4, 2) := by decide +kernel
theorem dL_law_945 : decode cL_law 945 = .ok (.iconst 1, 1) := by decide +kernel
theorem dL_law_946 : decode cL_law 946 = .ok (.iadd, 1) := by decide +kernel
theorem dL_law_947 : decode cL_law 947 = .ok (.iaload, 1) := by decide +kernel
theorem dL_law_948 : decode cL_law 948 = .ok (.aload_n 3, 1) := by decide +kernel
theorem dL_law_949 : decode cL_law 949 = .ok (.invokestatic 189, 3) := by decide +kernel
theorem dL_law_952 : decode cL_law 952 = .ok (.istore 5, 2) := by decide +kernel
theorem dL_law_954 : decode cL_law 954 = .ok (.aload_n 2, 1) := by decide +kernel
theorem dL_law_955 : decode cL_law 955 = .ok (.aload_n 0, 1) := by decide +kernel
theorem dL_law_956 : decode cL_law 956 = .ok (.iload 4, 2) := by decide +kernel
theorem dL_law_958 : decode cL_law 958 = .ok (.iconst 1, 1) := by decide +kernel
theorem dL_law_959 : decode cL_law 959 = .ok (.iadd, 1) := by decide +kernel
theorem dL_law_960 : decode cL_law 960 = .ok (.iaload, 1) := by decide +kernel
theorem dL_law_961 : decode cL_law 961 = .ok (.invokevirtual 191, 3) := by decide +kernel
theorem dL_law_964 : decode cL_law 964 = .ok (.istore 6, 2) := by decide +kernel
theorem dL_law_966 : decode cL_law 966 = .ok (.aload_n 2, 1) := by decide +kernel
theorem dL_law_967 : decode cL_law 967 = .ok (.invokevirtual 146, 3) := by decide +kernel
theorem dL_law_970 : decode cL_law 970 = .ok (.iload 5, 2) := by decide +kernel
theorem dL_law_972 : decode cL_law 972 = .ok (.if_icmp .eq 5, 3) := by decide +kernel
theorem dL_law_975 : decode cL_law 975 = .ok (.iconst 0, 1) := by decide +kernel
theorem dL_law_976 : decode cL_law 976 = .ok (.ireturn, 1) := by decide +kernel
theorem dL_law_977 : decode cL_law 977 = .ok (.iload 5, 2) := by decide +kernel
theorem dL_law_979 : decode cL_law 979 = .ok (.ifCond .ne 15, 3) := by decide +kernel
theorem dL_law_982 : decode cL_law 982 = .ok (.aload_n 3, 1) := by decide +kernel
theorem dL_law_983 : decode cL_law 983 = .ok (.iconst 0, 1) := by decide +kernel
theorem dL_law_984 : decode cL_law 984 = .ok (.laload, 1) := by decide +kernel
theorem dL_law_985 : decode cL_law 985 = .ok (.iload 6, 2) := by decide +kernel
theorem dL_law_987 : decode cL_law 987 = .ok (.i2l, 1) := by decide +kernel
theorem dL_law_988 : decode cL_law 988 = .ok (.lcmp, 1) := by decide +kernel
theorem dL_law_989 : decode cL_law 989 = .ok (.ifCond .eq 5, 3) := by decide +kernel
theorem dL_law_992 : decode cL_law 992 = .ok (.iconst 0, 1) := by decide +kernel
theorem dL_law_993 : decode cL_law 993 = .ok (.ireturn, 1) := by decide +kernel
theorem dL_law_994 : decode cL_law 994 = .ok (.goto 1906, 3) := by decide +kernel
theorem dL_law_997 : decode cL_law 997 = .ok (.aload_n 1, 1) := by decide +kernel
theorem dL_law_998 : decode cL_law 998 = .ok (.invokevirtual 192, 3) := by decide +kernel
theorem dL_law_1001 : decode cL_law 1001 = .ok (.aload_n 2, 1) := by decide +kernel
theorem dL_law_1002 : decode cL_law 1002 = .ok (.invokevirtual 195, 3) := by decide +kernel
theorem dL_law_1005 : decode cL_law 1005 = .ok (.if_icmp .eq 1895, 3) := by decide +kernel
theorem dL_law_1008 : decode cL_law 1008 = .ok (.iconst 0, 1) := by decide +kernel
theorem dL_law_1009 : decode cL_law 1009 = .ok (.ireturn, 1) := by decide +kernel
theorem dL_law_1010 : decode cL_law 1010 = .ok (.aload_n 1, 1) := by decide +kernel
theorem dL_law_1011 : decode cL_law 1011 = .ok (.invokevirtual 196, 3) := by decide +kernel
theorem dL_law_1014 : decode cL_law 1014 = .ok (.aload_n 2, 1) := by decide +kernel
theorem dL_law_1015 : decode cL_law 1015 = .ok (.invokevirtual 199, 3) := by decide +kernel
theorem dL_law_1018 : decode cL_law 1018 = .ok (.if_icmp .eq 1882, 3) := by decide +kernel
theorem dL_law_1021 : decode cL_law 1021 = .ok (.iconst 0, 1) := by decide +kernel
theorem dL_law_1022 : decode cL_law 1022 = .ok (.ireturn, 1) := by decide +kernel
theorem dL_law_1023 : decode cL_law 1023 = .ok (.aload_n 1, 1) := by decide +kernel
theorem dL_law_1024 : decode cL_law 1024 = .ok (.invokevirtual 200, 3) := by decide +kernel
theorem dL_law_1027 : decode cL_law 1027 = .ok (.aload_n 2, 1) := by decide +kernel
theorem dL_law_1028 : decode cL_law 1028 = .ok (.invokevirtual 203, 3) := by decide +kernel
theorem dL_law_1031 : decode cL_law 1031 = .ok (.if_icmp .eq 1869, 3) := by decide +kernel
theorem dL_law_1034 : decode cL_law 1034 = .ok (.iconst 0, 1) := by decide +kernel
theorem dL_law_1035 : decode cL_law 1035 = .ok (.ireturn, 1) := by decide +kernel
theorem dL_law_1036 : decode cL_law 1036 = .ok (.aload_n 1, 1) := by decide +kernel
theorem dL_law_1037 : decode cL_law 1037 = .ok (.invokevirtual 204, 3) := by decide +kernel
theorem dL_law_1040 : decode cL_law 1040 = .ok (.aload_n 2, 1) := by decide +kernel
theorem dL_law_1041 : decode cL_law 1041 = .ok (.invokevirtual 207, 3) := by decide +kernel
theorem dL_law_1044 : decode cL_law 1044 = .ok (.if_icmp .eq 1856, 3) := by decide +kernel
theorem dL_law_1047 : decode cL_law 1047 = .ok (.iconst 0, 1) := by decide +kernel
theorem dL_law_1048 : decode cL_law 1048 = .ok (.ireturn, 1) := by decide +kernel
theorem dL_law_1049 : decode cL_law 1049 = .ok (.aload_n 1, 1) := by decide +kernel
theorem dL_law_1050 : decode cL_law 1050 = .ok (.invokevirtual 208, 3) := by decide +kernel
theorem dL_law_1053 : decode cL_law 1053 = .ok (.aload_n 2, 1) := by decide +kernel
theorem dL_law_1054 : decode cL_law 1054 = .ok (.invokevirtual 211, 3) := by decide +kernel
theorem dL_law_1057 : decode cL_law 1057 = .ok (.if_icmp .eq 1843, 3) := by decide +kernel
theorem dL_law_1060 : decode cL_law 1060 = .ok (.iconst 0, 1) := by decide +kernel
theorem dL_law_1061 : decode cL_law 1061 = .ok (.ireturn, 1) := by decide +kernel
theorem dL_law_1062 : decode cL_law 1062 = .ok (.aload_n 1, 1) := by decide +kernel
theorem dL_law_1063 : decode cL_law 1063 = .ok (.invokevirtual 212, 3) := by decide +kernel
theorem dL_law_1066 : decode cL_law 1066 = .ok (.aload_n 2, 1) := by decide +kernel
theorem dL_law_1067 : decode cL_law 1067 = .ok (.invokevirtual 215, 3) := by decide +kernel
theorem dL_law_1070 : decode cL_law 1070 = .ok (.if_icmp .eq 1830, 3) := by decide +kernel
theorem dL_law_1073 : decode cL_law 1073 = .ok (.iconst 0, 1) := by decide +kernel
theorem dL_law_1074 : decode cL_law 1074 = .ok (.ireturn, 1) := by decide +kernel
theorem dL_law_1075 : decode cL_law 1075 = .ok (.aload_n 1, 1) := by decide +kernel
theorem dL_law_1076 : decode cL_law 1076 = .ok (.invokevirtual 216, 3) := by decide +kernel
theorem dL_law_1079 : decode cL_law 1079 = .ok (.aload_n 2, 1) := by decide +kernel
theorem dL_law_1080 : decode cL_law 1080 = .ok (.invokevirtual 219, 3) := by decide +kernel
theorem dL_law_1083 : decode cL_law 1083 = .ok (.if_icmp .eq 1817, 3) := by decide +kernel
theorem dL_law_1086 : decode cL_law 1086 = .ok (.iconst 0, 1) := by decide +kernel
theorem dL_law_1087 : decode cL_law 1087 = .ok (.ireturn, 1) := by decide +kernel
theorem dL_law_1088 : decode cL_law 1088 = .ok (.aload_n 1, 1) := by decide +kernel
theorem dL_law_1089 : decode cL_law 1089 = .ok (.invokevirtual 220, 3) := by decide +kernel
theorem dL_law_1092 : decode cL_law 1092 = .ok (.aload_n 2, 1) := by decide +kernel
theorem dL_law_1093 : decode cL_law 1093 = .ok (.invokevirtual 223, 3) := by decide +kernel
theorem dL_law_1096 : decode cL_law 1096 = .ok (.if_icmp .eq 1804, 3) := by decide +kernel
theorem dL_law_1099 : decode cL_law 1099 = .ok (.iconst 0, 1) := by decide +kernel
theorem dL_law_1100 : decode cL_law 1100 = .ok (.ireturn, 1) := by decide +kernel
theorem dL_law_1101 : decode cL_law 1101 = .ok (.aload_n 1, 1) := by decide +kernel
theorem dL_law_1102 : decode cL_law 1102 = .ok (.invokevirtual 224, 3) := by decide +kernel
theorem dL_law_1105 : decode cL_law 1105 = .ok (.aload_n 2, 1) := by decide +kernel
theorem dL_law_1106 : decode cL_law 1106 = .ok (.invokevirtual 227, 3) := by decide +kernel
theorem dL_law_1109 : decode cL_law 1109 = .ok (.if_icmp .eq 1791, 3) := by decide +kernel
theorem dL_law_1112 : decode cL_law 1112 = .ok (.iconst 0, 1) := by decide +kernel
theorem dL_law_1113 : decode cL_law 1113 = .ok (.ireturn, 1) := by decide +kernel
theorem dL_law_1114 : decode cL_law 1114 = .ok (.aload_n 1, 1) := by decide +kernel
theorem dL_law_1115 : decode cL_law 1115 = .ok (.invokevirtual 228, 3) := by decide +kernel
theorem dL_law_1118 : decode cL_law 1118 = .ok (.aload_n 2, 1) := by decide +kernel
theorem dL_law_1119 : decode cL_law 1119 = .ok (.invokevirtual 231, 3) := by decide +kernel
theorem dL_law_1122 : decode cL_law 1122 = .ok (.if_icmp .eq 1778, 3) := by decide +kernel
theorem dL_law_1125 : decode cL_law 1125 = .ok (.iconst 0, 1) := by decide +kernel
theorem dL_law_1126 : decode cL_law 1126 = .ok (.ireturn, 1) := by decide +kernel
theorem dL_law_1127 : decode cL_law 1127 = .ok (.aload_n 1, 1) := by decide +kernel
theorem dL_law_1128 : decode cL_law 1128 = .ok (.aload_n 0, 1) := by decide +kernel
theorem dL_law_1129 : decode cL_law 1129 = .ok (.iload 4, 2) := by decide +kernel
theorem dL_law_1131 : decode cL_law 1131 = .ok (.iconst 1, 1) := by decide +kernel
theorem dL_law_1132 : decode cL_law 1132 = .ok (.iadd, 1) := by decide +kernel
theorem dL_law_1133 : decode cL_law 1133 = .ok (.iaload, 1) := by decide +kernel
theorem dL_law_1134 : decode cL_law 1134 = .ok (.aload_n 3, 1) := by decide +kernel
theorem dL_law_1135 : decode cL_law 1135 = .ok (.invokestatic 232, 3) := by decide +kernel
theorem dL_law_1138 : decode cL_law 1138 = .ok (.istore 5, 2) := by decide +kernel
theorem dL_law_1140 : decode cL_law 1140 = .ok (.aload_n 2, 1) := by decide +kernel
theorem dL_law_1141 : decode cL_law 1141 = .ok (.aload_n 0, 1) := by decide +kernel
theorem dL_law_1142 : decode cL_law 1142 = .ok (.iload 4, 2) := by decide +kernel
theorem dL_law_1144 : decode cL_law 1144 = .ok (.iconst 1, 1) := by decide +kernel
theorem dL_law_1145 : decode cL_law 1145 = .ok (.iadd, 1) := by decide +kernel
theorem dL_law_1146 : decode cL_law 1146 = .ok (.iaload, 1) := by decide +kernel
theorem dL_law_1147 : decode cL_law 1147 = .ok (.invokevirtual 234, 3) := by decide +kernel
theorem dL_law_1150 : decode cL_law 1150 = .ok (.istore 6, 2) := by decide +kernel
theorem dL_law_1152 : decode cL_law 1152 = .ok (.aload_n 2, 1) := by decide +kernel
theorem dL_law_1153 : decode cL_law 1153 = .ok (.invokevirtual 146, 3) := by decide +kernel
theorem dL_law_1156 : decode cL_law 1156 = .ok (.iload 5, 2) := by decide +kernel
theorem dL_law_1158 : decode cL_law 1158 = .ok (.if_icmp .eq 5, 3) := by decide +kernel
theorem dL_law_1161 : decode cL_law 1161 = .ok (.iconst 0, 1) := by decide +kernel
theorem dL_law_1162 : decode cL_law 1162 = .ok (.ireturn, 1) := by decide +kernel
theorem dL_law_1163 : decode cL_law 1163 = .ok (.iload 5, 2) := by decide +kernel
theorem dL_law_1165 : decode cL_law 1165 = .ok (.ifCond .ne 22, 3) := by decide +kernel
theorem dL_law_1168 : decode cL_law 1168 = .ok (.aload_n 3, 1) := by decide +kernel
theorem dL_law_1169 : decode cL_law 1169 = .ok (.iconst 0, 1) := by decide +kernel
theorem dL_law_1170 : decode cL_law 1170 = .ok (.laload, 1) := by decide +kernel
theorem dL_law_1171 : decode cL_law 1171 = .ok (.iload 6, 2) := by decide +kernel
theorem dL_law_1173 : decode cL_law 1173 = .ok (.ifCond .eq 7, 3) := by decide +kernel
theorem dL_law_1176 : decode cL_law 1176 = .ok (.lconst 1, 1) := by decide +kernel
theorem dL_law_1177 : decode cL_law 1177 = .ok (.goto 4, 3) := by decide +kernel
theorem dL_law_1180 : decode cL_law 1180 = .ok (.lconst 0, 1) := by decide +kernel
theorem dL_law_1181 : decode cL_law 1181 = .ok (.lcmp, 1) := by decide +kernel
theorem dL_law_1182 : decode cL_law 1182 = .ok (.ifCond .eq 5, 3) := by decide +kernel
theorem dL_law_1185 : decode cL_law 1185 = .ok (.iconst 0, 1) := by decide +kernel
theorem dL_law_1186 : decode cL_law 1186 = .ok (.ireturn, 1) := by decide +kernel
theorem dL_law_1187 : decode cL_law 1187 = .ok (.goto 1713, 3) := by decide +kernel
theorem dL_law_1190 : decode cL_law 1190 = .ok (.aload_n 1, 1) := by decide +kernel
theorem dL_law_1191 : decode cL_law 1191 = .ok (.aload_n 0, 1) := by decide +kernel
theorem dL_law_1192 : decode cL_law 1192 = .ok (.iload 4, 2) := by decide +kernel
theorem dL_law_1194 : decode cL_law 1194 = .ok (.iconst 1, 1) := by decide +kernel
theorem dL_law_1195 : decode cL_law 1195 = .ok (.iadd, 1) := by decide +kernel
theorem dL_law_1196 : decode cL_law 1196 = .ok (.iaload, 1) := by decide +kernel
theorem dL_law_1197 : decode cL_law 1197 = .ok (.aload_n 3, 1) := by decide +kernel
theorem dL_law_1198 : decode cL_law 1198 = .ok (.invokestatic 235, 3) := by decide +kernel
theorem dL_law_1201 : decode cL_law 1201 = .ok (.istore 5, 2) := by decide +kernel
theorem dL_law_1203 : decode cL_law 1203 = .ok (.aload_n 2, 1) := by decide +kernel
theorem dL_law_1204 : decode cL_law 1204 = .ok (.aload_n 0, 1) := by decide +kernel
theorem dL_law_1205 : decode cL_law 1205 = .ok (.iload 4, 2) := by decide +kernel
theorem dL_law_1207 : decode cL_law 1207 = .ok (.iconst 1, 1) := by decide +kernel
theorem dL_law_1208 : decode cL_law 1208 = .ok (.iadd, 1) := by decide +kernel
theorem dL_law_1209 : decode cL_law 1209 = .ok (.iaload, 1) := by decide +kernel
theorem dL_law_1210 : decode cL_law 1210 = .ok (.invokevirtual 237, 3) := by decide +kernel
theorem dL_law_1213 : decode cL_law 1213 = .ok (.istore 6, 2) := by decide +kernel
theorem dL_law_1215 : decode cL_law 1215 = .ok (.aload_n 2, 1) := by decide +kernel
theorem dL_law_1216 : decode cL_law 1216 = .ok (.invokevirtual 146, 3) := by decide +kernel
theorem dL_law_1219 : decode cL_law 1219 = .ok (.iload 5, 2) := by decide +kernel
theorem dL_law_1221 : decode cL_law 1221 = .ok (.if_icmp .eq 5, 3) := by decide +kernel
theorem dL_law_1224 : decode cL_law 1224 = .ok (.iconst 0, 1) := by decide +kernel
theorem dL_law_1225 : decode cL_law 1225 = .ok (.ireturn, 1) := by decide +kernel
theorem dL_law_1226 : decode cL_law 1226 = .ok (.iload 5, 2) := by decide +kernel
theorem dL_law_1228 : decode cL_law 1228 = .ok (.ifCond .ne 22, 3) := by decide +kernel
theorem dL_law_1231 : decode cL_law 1231 = .ok (.aload_n 3, 1) := by decide +kernel
theorem dL_law_1232 : decode cL_law 1232 = .ok (.iconst 0, 1) := by decide +kernel
theorem dL_law_1233 : decode cL_law 1233 = .ok (.laload, 1) := by decide +kernel
theorem dL_law_1234 : decode cL_law 1234 = .ok (.iload 6, 2) := by decide +kernel
theorem dL_law_1236 : decode cL_law 1236 = .ok (.ifCond .eq 7, 3) := by decide +kernel
theorem dL_law_1239 : decode cL_law 1239 = .ok (.lconst 1, 1) := by decide +kernel
theorem dL_law_1240 : decode cL_law 1240 = .ok (.goto 4, 3) := by decide +kernel
theorem dL_law_1243 : decode cL_law 1243 = .ok (.lconst 0, 1) := by decide +kernel
theorem dL_law_1244 : decode cL_law 1244 = .ok (.lcmp, 1) := by decide +kernel
theorem dL_law_1245 : decode cL_law 1245 = .ok (.ifCond .eq 5, 3) := by decide +kernel
theorem dL_law_1248 : decode cL_law 1248 = .ok (.iconst 0, 1) := by decide +kernel
theorem dL_law_1249 : decode cL_law 1249 = .ok (.ireturn, 1) := by decide +kernel
theorem dL_law_1250 : decode cL_law 1250 = .ok (.goto 1650, 3) := by decide +kernel
theorem dL_law_1253 : decode cL_law 1253 = .ok (.aload_n 1, 1) := by decide +kernel
theorem dL_law_1254 : decode cL_law 1254 = .ok (.aload_n 0, 1) := by decide +kernel
theorem dL_law_1255 : decode cL_law 1255 = .ok (.iload 4, 2) := by decide +kernel
theorem dL_law_1257 : decode cL_law 1257 = .ok (.iconst 1, 1) := by decide +kernel
theorem dL_law_1258 : decode cL_law 1258 = .ok (.iadd, 1) := by decide +kernel
theorem dL_law_1259 : decode cL_law 1259 = .ok (.iaload, 1) := by decide +kernel
theorem dL_law_1260 : decode cL_law 1260 = .ok (.aload_n 3, 1) := by decide +kernel
theorem dL_law_1261 : decode cL_law 1261 = .ok (.invokestatic 238, 3) := by decide +kernel
theorem dL_law_1264 : decode cL_law 1264 = .ok (.istore 5, 2) := by decide +kernel
theorem dL_law_1266 : decode cL_law 1266 = .ok (.aload_n 2, 1) := by decide +kernel
theorem dL_law_1267 : decode cL_law 1267 = .ok (.aload_n 0, 1) := by decide +kernel
theorem dL_law_1268 : decode cL_law 1268 = .ok (.iload 4, 2) := by decide +kernel
theorem dL_law_1270 : decode cL_law 1270 = .ok (.iconst 1, 1) := by decide +kernel
theorem dL_law_1271 : decode cL_law 1271 = .ok (.iadd, 1) := by decide +kernel
theorem dL_law_1272 : decode cL_law 1272 = .ok (.iaload, 1) := by decide +kernel
theorem dL_law_1273 : decode cL_law 1273 = .ok (.invokevirtual 240, 3) := by decide +kernel
theorem dL_law_1276 : decode cL_law 1276 = .ok (.istore 6, 2) := by decide +kernel
theorem dL_law_1278 : decode cL_law 1278 = .ok (.aload_n 2, 1) := by decide +kernel
theorem dL_law_1279 : decode cL_law 1279 = .ok (.invokevirtual 146, 3) := by decide +kernel
theorem dL_law_1282 : decode cL_law 1282 = .ok (.iload 5, 2) := by decide +kernel
theorem dL_law_1284 : decode cL_law 1284 = .ok (.if_icmp .eq 5, 3) := by decide +kernel
theorem dL_law_1287 : decode cL_law 1287 = .ok (.iconst 0, 1) := by decide +kernel
theorem dL_law_1288 : decode cL_law 1288 = .ok (.ireturn, 1) := by decide +kernel
theorem dL_law_1289 : decode cL_law 1289 = .ok (.iload 5, 2) := by decide +kernel
theorem dL_law_1291 : decode cL_law 1291 = .ok (.ifCond .ne 15, 3) := by decide +kernel
theorem dL_law_1294 : decode cL_law 1294 = .ok (.aload_n 3, 1) := by decide +kernel
theorem dL_law_1295 : decode cL_law 1295 = .ok (.iconst 0, 1) := by decide +kernel
theorem dL_law_1296 : decode cL_law 1296 = .ok (.laload, 1) := by decide +kernel
theorem dL_law_1297 : decode cL_law 1297 = .ok (.iload 6, 2) := by decide +kernel
theorem dL_law_1299 : decode cL_law 1299 = .ok (.i2l, 1) := by decide +kernel
theorem dL_law_1300 : decode cL_law 1300 = .ok (.lcmp, 1) := by decide +kernel
theorem dL_law_1301 : decode cL_law 1301 = .ok (.ifCond .eq 5, 3) := by decide +kernel
theorem dL_law_1304 : decode cL_law 1304 = .ok (.iconst 0, 1) := by decide +kernel
theorem dL_law_1305 : decode cL_law 1305 = .ok (.ireturn, 1) := by decide +kernel
theorem dL_law_1306 : decode cL_law 1306 = .ok (.goto 1594, 3) := by decide +kernel
theorem dL_law_1309 : decode cL_law 1309 = .ok (.aload_n 1, 1) := by decide +kernel
theorem dL_law_1310 : decode cL_law 1310 = .ok (.aload_n 0, 1) := by decide +kernel
theorem dL_law_1311 : decode cL_law 1311 = .ok (.iload 4, 2) := by decide +kernel
theorem dL_law_1313 : decode cL_law 1313 = .ok (.iconst 1, 1) := by decide +kernel
theorem dL_law_1314 : decode cL_law 1314 = .ok (.iadd, 1) := by decide +kernel
theorem dL_law_1315 : decode cL_law 1315 = .ok (.iaload, 1) := by decide +kernel
theorem dL_law_1316 : decode cL_law 1316 = .ok (.aload_n 3, 1) := by decide +kernel
theorem dL_law_1317 : decode cL_law 1317 = .ok (.invokestatic 241, 3) := by decide +kernel
theorem dL_law_1320 : decode cL_law 1320 = .ok (.istore 5, 2) := by decide +kernel
theorem dL_law_1322 : decode cL_law 1322 = .ok (.aload_n 2, 1) := by decide +kernel
theorem dL_law_1323 : decode cL_law 1323 = .ok (.aload_n 0, 1) := by decide +kernel
theorem dL_law_1324 : decode cL_law 1324 = .ok (.iload 4, 2) := by decide +kernel
theorem dL_law_1326 : decode cL_law 1326 = .ok (.iconst 1, 1) := by decide +kernel
theorem dL_law_1327 : decode cL_law 1327 = .ok (.iadd, 1) := by decide +kernel
theorem dL_law_1328 : decode cL_law 1328 = .ok (.iaload, 1) := by decide +kernel
theorem dL_law_1329 : decode cL_law 1329 = .ok (.invokevirtual 243, 3) := by decide +kernel
theorem dL_law_1332 : decode cL_law 1332 = .ok (.istore 6, 2) := by decide +kernel
theorem dL_law_1334 : decode cL_law 1334 = .ok (.aload_n 2, 1) := by decide +kernel
theorem dL_law_1335 : decode cL_law 1335 = .ok (.invokevirtual 146, 3) := by decide +kernel
theorem dL_law_1338 : decode cL_law 1338 = .ok (.iload 5, 2) := by decide +kernel
theorem dL_law_1340 : decode cL_law 1340 = .ok (.if_icmp .eq 5, 3) := by decide +kernel
theorem dL_law_1343 : decode cL_law 1343 = .ok (.iconst 0, 1) := by decide +kernel
theorem dL_law_1344 : decode cL_law 1344 = .ok (.ireturn, 1) := by decide +kernel
theorem dL_law_1345 : decode cL_law 1345 = .ok (.iload 5, 2) := by decide +kernel
theorem dL_law_1347 : decode cL_law 1347 = .ok (.ifCond .ne 15, 3) := by decide +kernel
theorem dL_law_1350 : decode cL_law 1350 = .ok (.aload_n 3, 1) := by decide +kernel
theorem dL_law_1351 : decode cL_law 1351 = .ok (.iconst 0, 1) := by decide +kernel
theorem dL_law_1352 : decode cL_law 1352 = .ok (.laload, 1) := by decide +kernel
theorem dL_law_1353 : decode cL_law 1353 = .ok (.iload 6, 2) := by decide +kernel
theorem dL_law_1355 : decode cL_law 1355 = .ok (.i2l, 1) := by decide +kernel
theorem dL_law_1356 : decode cL_law 1356 = .ok (.lcmp, 1) := by decide +kernel
theorem dL_law_1357 : decode cL_law 1357 = .ok (.ifCond .eq 5, 3) := by decide +kernel
theorem dL_law_1360 : decode cL_law 1360 = .ok (.iconst 0, 1) := by decide +kernel
theorem dL_law_1361 : decode cL_law 1361 = .ok (.ireturn, 1) := by decide +kernel
theorem dL_law_1362 : decode cL_law 1362 = .ok (.goto 1538, 3) := by decide +kernel
theorem dL_law_1365 : decode cL_law 1365 = .ok (.aload_n 1, 1) := by decide +kernel
theorem dL_law_1366 : decode cL_law 1366 = .ok (.aload_n 0, 1) := by decide +kernel
theorem dL_law_1367 : decode cL_law 1367 = .ok (.iload 4, 2) := by decide +kernel
theorem dL_law_1369 : decode cL_law 1369 = .ok (.iconst 1, 1) := by decide +kernel
theorem dL_law_1370 : decode cL_law 1370 = .ok (.iadd, 1) := by decide +kernel
theorem dL_law_1371 : decode cL_law 1371 = .ok (.iaload, 1) := by decide +kernel
theorem dL_law_1372 : decode cL_law 1372 = .ok (.aload_n 3, 1) := by decide +kernel
theorem dL_law_1373 : decode cL_law 1373 = .ok (.invokestatic 244, 3) := by decide +kernel
theorem dL_law_1376 : decode cL_law 1376 = .ok (.istore 5, 2) := by decide +kernel
theorem dL_law_1378 : decode cL_law 1378 = .ok (.aload_n 2, 1) := by decide +kernel
theorem dL_law_1379 : decode cL_law 1379 = .ok (.aload_n 0, 1) := by decide +kernel
theorem dL_law_1380 : decode cL_law 1380 = .ok (.iload 4, 2) := by decide +kernel
theorem dL_law_1382 : decode cL_law 1382 = .ok (.iconst 1, 1) := by decide +kernel
theorem dL_law_1383 : decode cL_law 1383 = .ok (.iadd, 1) := by decide +kernel
theorem dL_law_1384 : decode cL_law 1384 = .ok (.iaload, 1) := by decide +kernel
theorem dL_law_1385 : decode cL_law 1385 = .ok (.invokevirtual 246, 3) := by decide +kernel
theorem dL_law_1388 : decode cL_law 1388 = .ok (.istore 6, 2) := by decide +kernel
theorem dL_law_1390 : decode cL_law 1390 = .ok (.aload_n 2, 1) := by decide +kernel
theorem dL_law_1391 : decode cL_law 1391 = .ok (.invokevirtual 146, 3) := by decide +kernel
theorem dL_law_1394 : decode cL_law 1394 = .ok (.iload 5, 2) := by decide +kernel
theorem dL_law_1396 : decode cL_law 1396 = .ok (.if_icmp .eq 5, 3) := by decide +kernel
theorem dL_law_1399 : decode cL_law 1399 = .ok (.iconst 0, 1) := by decide +kernel
theorem dL_law_1400 : decode cL_law 1400 = .ok (.ireturn, 1) := by decide +kernel
theorem dL_law_1401 : decode cL_law 1401 = .ok (.iload 5, 2) := by decide +kernel
theorem dL_law_1403 : decode cL_law 1403 = .ok (.ifCond .ne 15, 3) := by decide +kernel
theorem dL_law_1406 : decode cL_law 1406 = .ok (.aload_n 3, 1) := by decide +kernel
theorem dL_law_1407 : decode cL_law 1407 = .ok (.iconst 0, 1) := by decide +kernel
theorem dL_law_1408 : decode cL_law 1408 = .ok (.laload, 1) := by decide +kernel
theorem dL_law_1409 : decode cL_law 1409 = .ok (.iload 6, 2) := by decide +kernel
theorem dL_law_1411 : decode cL_law 1411 = .ok (.i2l, 1) := by decide +kernel
theorem dL_law_1412 : decode cL_law 1412 = .ok (.lcmp, 1) := by decide +kernel
theorem dL_law_1413 : decode cL_law 1413 = .ok (.ifCond .eq 5, 3) := by decide +kernel
theorem dL_law_1416 : decode cL_law 1416 = .ok (.iconst 0, 1) := by decide +kernel
theorem dL_law_1417 : decode cL_law 1417 = .ok (.ireturn, 1) := by decide +kernel
theorem dL_law_1418 : decode cL_law 1418 = .ok (.goto 1482, 3) := by decide +kernel
theorem dL_law_1421 : decode cL_law 1421 = .ok (.aload_n 1, 1) := by decide +kernel
theorem dL_law_1422 : decode cL_law 1422 = .ok (.aload_n 0, 1) := by decide +kernel
theorem dL_law_1423 : decode cL_law 1423 = .ok (.iload 4, 2) := by decide +kernel
theorem dL_law_1425 : decode cL_law 1425 = .ok (.iconst 1, 1) := by decide +kernel
theorem dL_law_1426 : decode cL_law 1426 = .ok (.iadd, 1) := by decide +kernel
theorem dL_law_1427 : decode cL_law 1427 = .ok (.iaload, 1) := by decide +kernel
theorem dL_law_1428 : decode cL_law 1428 = .ok (.aload_n 3, 1) := by decide +kernel
theorem dL_law_1429 : decode cL_law 1429 = .ok (.invokestatic 247, 3) := by decide +kernel
theorem dL_law_1432 : decode cL_law 1432 = .ok (.istore 5, 2) := by decide +kernel
theorem dL_law_1434 : decode cL_law 1434 = .ok (.aload_n 2, 1) := by decide +kernel
theorem dL_law_1435 : decode cL_law 1435 = .ok (.aload_n 0, 1) := by decide +kernel
theorem dL_law_1436 : decode cL_law 1436 = .ok (.iload 4, 2) := by decide +kernel
theorem dL_law_1438 : decode cL_law 1438 = .ok (.iconst 1, 1) := by decide +kernel
theorem dL_law_1439 : decode cL_law 1439 = .ok (.iadd, 1) := by decide +kernel
theorem dL_law_1440 : decode cL_law 1440 = .ok (.iaload, 1) := by decide +kernel
theorem dL_law_1441 : decode cL_law 1441 = .ok (.invokevirtual 249, 3) := by decide +kernel
theorem dL_law_1444 : decode cL_law 1444 = .ok (.istore 6, 2) := by decide +kernel
theorem dL_law_1446 : decode cL_law 1446 = .ok (.aload_n 2, 1) := by decide +kernel
theorem dL_law_1447 : decode cL_law 1447 = .ok (.invokevirtual 146, 3) := by decide +kernel
theorem dL_law_1450 : decode cL_law 1450 = .ok (.iload 5, 2) := by decide +kernel
theorem dL_law_1452 : decode cL_law 1452 = .ok (.if_icmp .eq 5, 3) := by decide +kernel
theorem dL_law_1455 : decode cL_law 1455 = .ok (.iconst 0, 1) := by decide +kernel
theorem dL_law_1456 : decode cL_law 1456 = .ok (.ireturn, 1) := by decide +kernel
theorem dL_law_1457 : decode cL_law 1457 = .ok (.iload 5, 2) := by decide +kernel
theorem dL_law_1459 : decode cL_law 1459 = .ok (.ifCond .ne 15, 3) := by decide +kernel
theorem dL_law_1462 : decode cL_law 1462 = .ok (.aload_n 3, 1) := by decide +kernel
theorem dL_law_1463 : decode cL_law 1463 = .ok (.iconst 0, 1) := by decide +kernel
theorem dL_law_1464 : decode cL_law 1464 = .ok (.laload, 1) := by decide +kernel
theorem dL_law_1465 : decode cL_law 1465 = .ok (.iload 6, 2) := by decide +kernel
theorem dL_law_1467 : decode cL_law 1467 = .ok (.i2l, 1) := by decide +kernel
theorem dL_law_1468 : decode cL_law 1468 = .ok (.lcmp, 1) := by decide +kernel
theorem dL_law_1469 : decode cL_law 1469 = .ok (.ifCond .eq 5, 3) := by decide +kernel
theorem dL_law_1472 : decode cL_law 1472 = .ok (.iconst 0, 1) := by decide +kernel
theorem dL_law_1473 : decode cL_law 1473 = .ok (.ireturn, 1) := by decide +kernel
theorem dL_law_1474 : decode cL_law 1474 = .ok (.goto 1426, 3) := by decide +kernel
theorem dL_law_1477 : decode cL_law 1477 = .ok (.aload_n 1, 1) := by decide +kernel
theorem dL_law_1478 : decode cL_law 1478 = .ok (.aload_n 0, 1) := by decide +kernel
theorem dL_law_1479 : decode cL_law 1479 = .ok (.iload 4, 2) := by decide +kernel
theorem dL_law_1481 : decode cL_law 1481 = .ok (.iconst 1, 1) := by decide +kernel
theorem dL_law_1482 : decode cL_law 1482 = .ok (.iadd, 1) := by decide +kernel
theorem dL_law_1483 : decode cL_law 1483 = .ok (.iaload, 1) := by decide +kernel
theorem dL_law_1484 : decode cL_law 1484 = .ok (.aload_n 3, 1) := by decide +kernel
theorem dL_law_1485 : decode cL_law 1485 = .ok (.invokestatic 250, 3) := by decide +kernel
theorem dL_law_1488 : decode cL_law 1488 = .ok (.istore 5, 2) := by decide +kernel
theorem dL_law_1490 : decode cL_law 1490 = .ok (.aload_n 2, 1) := by decide +kernel
theorem dL_law_1491 : decode cL_law 1491 = .ok (.aload_n 0, 1) := by decide +kernel
theorem dL_law_1492 : decode cL_law 1492 = .ok (.iload 4, 2) := by decide +kernel
theorem dL_law_1494 : decode cL_law 1494 = .ok (.iconst 1, 1) := by decide +kernel
theorem dL_law_1495 : decode cL_law 1495 = .ok (.iadd, 1) := by decide +kernel
theorem dL_law_1496 : decode cL_law 1496 = .ok (.iaload, 1) := by decide +kernel
theorem dL_law_1497 : decode cL_law 1497 = .ok (.invokevirtual 252, 3) := by decide +kernel
theorem dL_law_1500 : decode cL_law 1500 = .ok (.istore 6, 2) := by decide +kernel
theorem dL_law_1502 : decode cL_law 1502 = .ok (.aload_n 2, 1) := by decide +kernel
theorem dL_law_1503 : decode cL_law 1503 = .ok (.invokevirtual 146, 3) := by decide +kernel
theorem dL_law_1506 : decode cL_law 1506 = .ok (.iload 5, 2) := by decide +kernel
theorem dL_law_1508 : decode cL_law 1508 = .ok (.if_icmp .eq 5, 3) := by decide +kernel
theorem dL_law_1511 : decode cL_law 1511 = .ok (.iconst 0, 1) := by decide +kernel
theorem dL_law_1512 : decode cL_law 1512 = .ok (.ireturn, 1) := by decide +kernel
theorem dL_law_1513 : decode cL_law 1513 = .ok (.iload 5, 2) := by decide +kernel
theorem dL_law_1515 : decode cL_law 1515 = .ok (.ifCond .ne 15, 3) := by decide +kernel
theorem dL_law_1518 : decode cL_law 1518 = .ok (.aload_n 3, 1) := by decide +kernel
theorem dL_law_1519 : decode cL_law 1519 = .ok (.iconst 0, 1) := by decide +kernel
theorem dL_law_1520 : decode cL_law 1520 = .ok (.laload, 1) := by decide +kernel
theorem dL_law_1521 : decode cL_law 1521 = .ok (.iload 6, 2) := by decide +kernel
theorem dL_law_1523 : decode cL_law 1523 = .ok (.i2l, 1) := by decide +kernel
theorem dL_law_1524 : decode cL_law 1524 = .ok (.lcmp, 1) := by decide +kernel
theorem dL_law_1525 : decode cL_law 1525 = .ok (.ifCond .eq 5, 3) := by decide +kernel
theorem dL_law_1528 : decode cL_law 1528 = .ok (.iconst 0, 1) := by decide +kernel
theorem dL_law_1529 : decode cL_law 1529 = .ok (.ireturn, 1) := by decide +kernel
theorem dL_law_1530 : decode cL_law 1530 = .ok (.goto 1370, 3) := by decide +kernel
theorem dL_law_1533 : decode cL_law 1533 = .ok (.aload_n 1, 1) := by decide +kernel
theorem dL_law_1534 : decode cL_law 1534 = .ok (.aload_n 0, 1) := by decide +kernel
theorem dL_law_1535 : decode cL_law 1535 = .ok (.iload 4, 2) := by decide +kernel
theorem dL_law_1537 : decode cL_law 1537 = .ok (.iconst 1, 1) := by decide +kernel
theorem dL_law_1538 : decode cL_law 1538 = .ok (.iadd, 1) := by decide +kernel
theorem dL_law_1539 : decode cL_law 1539 = .ok (.iaload, 1) := by decide +kernel
theorem dL_law_1540 : decode cL_law 1540 = .ok (.aload_n 3, 1) := by decide +kernel
theorem dL_law_1541 : decode cL_law 1541 = .ok (.invokestatic 253, 3) := by decide +kernel
theorem dL_law_1544 : decode cL_law 1544 = .ok (.istore 5, 2) := by decide +kernel
theorem dL_law_1546 : decode cL_law 1546 = .ok (.aload_n 2, 1) := by decide +kernel
theorem dL_law_1547 : decode cL_law 1547 = .ok (.aload_n 0, 1) := by decide +kernel
theorem dL_law_1548 : decode cL_law 1548 = .ok (.iload 4, 2) := by decide +kernel
theorem dL_law_1550 : decode cL_law 1550 = .ok (.iconst 1, 1) := by decide +kernel
theorem dL_law_1551 : decode cL_law 1551 = .ok (.iadd, 1) := by decide +kernel
theorem dL_law_1552 : decode cL_law 1552 = .ok (.iaload, 1) := by decide +kernel
theorem dL_law_1553 : decode cL_law 1553 = .ok (.invokevirtual 255, 3) := by decide +kernel
theorem dL_law_1556 : decode cL_law 1556 = .ok (.istore 6, 2) := by decide +kernel
theorem dL_law_1558 : decode cL_law 1558 = .ok (.aload_n 2, 1) := by decide +kernel
theorem dL_law_1559 : decode cL_law 1559 = .ok (.invokevirtual 146, 3) := by decide +kernel
theorem dL_law_1562 : decode cL_law 1562 = .ok (.iload 5, 2) := by decide +kernel
theorem dL_law_1564 : decode cL_law 1564 = .ok (.if_icmp .eq 5, 3) := by decide +kernel
theorem dL_law_1567 : decode cL_law 1567 = .ok (.iconst 0, 1) := by decide +kernel
theorem dL_law_1568 : decode cL_law 1568 = .ok (.ireturn, 1) := by decide +kernel
theorem dL_law_1569 : decode cL_law 1569 = .ok (.iload 5, 2) := by decide +kernel
theorem dL_law_1571 : decode cL_law 1571 = .ok (.ifCond .ne 15, 3) := by decide +kernel
theorem dL_law_1574 : decode cL_law 1574 = .ok (.aload_n 3, 1) := by decide +kernel
theorem dL_law_1575 : decode cL_law 1575 = .ok (.iconst 0, 1) := by decide +kernel
theorem dL_law_1576 : decode cL_law 1576 = .ok (.laload, 1) := by decide +kernel
theorem dL_law_1577 : decode cL_law 1577 = .ok (.iload 6, 2) := by decide +kernel
theorem dL_law_1579 : decode cL_law 1579 = .ok (.i2l, 1) := by decide +kernel
theorem dL_law_1580 : decode cL_law 1580 = .ok (.lcmp, 1) := by decide +kernel
theorem dL_law_1581 : decode cL_law 1581 = .ok (.ifCond .eq 5, 3) := by decide +kernel
theorem dL_law_1584 : decode cL_law 1584 = .ok (.iconst 0, 1) := by decide +kernel
theorem dL_law_1585 : decode cL_law 1585 = .ok (.ireturn, 1) := by decide +kernel
theorem dL_law_1586 : decode cL_law 1586 = .ok (.goto 1314, 3) := by decide +kernel
theorem dL_law_1589 : decode cL_law 1589 = .ok (.aload_n 1, 1) := by decide +kernel
theorem dL_law_1590 : decode cL_law 1590 = .ok (.aload_n 0, 1) := by decide +kernel
theorem dL_law_1591 : decode cL_law 1591 = .ok (.iload 4, 2) := by decide +kernel
theorem dL_law_1593 : decode cL_law 1593 = .ok (.iconst 1, 1) := by decide +kernel
theorem dL_law_1594 : decode cL_law 1594 = .ok (.iadd, 1) := by decide +kernel
theorem dL_law_1595 : decode cL_law 1595 = .ok (.iaload, 1) := by decide +kernel
theorem dL_law_1596 : decode cL_law 1596 = .ok (.aload_n 3, 1) := by decide +kernel
theorem dL_law_1597 : decode cL_law 1597 = .ok (.invokestatic 256, 3) := by decide +kernel
theorem dL_law_1600 : decode cL_law 1600 = .ok (.istore 5, 2) := by decide +kernel
theorem dL_law_1602 : decode cL_law 1602 = .ok (.aload_n 2, 1) := by decide +kernel
theorem dL_law_1603 : decode cL_law 1603 = .ok (.aload_n 0, 1) := by decide +kernel
theorem dL_law_1604 : decode cL_law 1604 = .ok (.iload 4, 2) := by decide +kernel
theorem dL_law_1606 : decode cL_law 1606 = .ok (.iconst 1, 1) := by decide +kernel
theorem dL_law_1607 : decode cL_law 1607 = .ok (.iadd, 1) := by decide +kernel
theorem dL_law_1608 : decode cL_law 1608 = .ok (.iaload, 1) := by decide +kernel
theorem dL_law_1609 : decode cL_law 1609 = .ok (.invokevirtual 258, 3) := by decide +kernel
theorem dL_law_1612 : decode cL_law 1612 = .ok (.istore 6, 2) := by decide +kernel
theorem dL_law_1614 : decode cL_law 1614 = .ok (.aload_n 2, 1) := by decide +kernel
theorem dL_law_1615 : decode cL_law 1615 = .ok (.invokevirtual 146, 3) := by decide +kernel
theorem dL_law_1618 : decode cL_law 1618 = .ok (.iload 5, 2) := by decide +kernel
theorem dL_law_1620 : decode cL_law 1620 = .ok (.if_icmp .eq 5, 3) := by decide +kernel
theorem dL_law_1623 : decode cL_law 1623 = .ok (.iconst 0, 1) := by decide +kernel
theorem dL_law_1624 : decode cL_law 1624 = .ok (.ireturn, 1) := by decide +kernel
theorem dL_law_1625 : decode cL_law 1625 = .ok (.iload 5, 2) := by decide +kernel
theorem dL_law_1627 : decode cL_law 1627 = .ok (.ifCond .ne 15, 3) := by decide +kernel
theorem dL_law_1630 : decode cL_law 1630 = .ok (.aload_n 3, 1) := by decide +kernel
theorem dL_law_1631 : decode cL_law 1631 = .ok (.iconst 0, 1) := by decide +kernel
theorem dL_law_1632 : decode cL_law 1632 = .ok (.laload, 1) := by decide +kernel
theorem dL_law_1633 : decode cL_law 1633 = .ok (.iload 6, 2) := by decide +kernel
theorem dL_law_1635 : decode cL_law 1635 = .ok (.i2l, 1) := by decide +kernel
theorem dL_law_1636 : decode cL_law 1636 = .ok (.lcmp, 1) := by decide +kernel
theorem dL_law_1637 : decode cL_law 1637 = .ok (.ifCond .eq 5, 3) := by decide +kernel
theorem dL_law_1640 : decode cL_law 1640 = .ok (.iconst 0, 1) := by decide +kernel
theorem dL_law_1641 : decode cL_law 1641 = .ok (.ireturn, 1) := by decide +kernel
theorem dL_law_1642 : decode cL_law 1642 = .ok (.goto 1258, 3) := by decide +kernel
theorem dL_law_1645 : decode cL_law 1645 = .ok (.aload_n 1, 1) := by decide +kernel
theorem dL_law_1646 : decode cL_law 1646 = .ok (.aload_n 0, 1) := by decide +kernel
theorem dL_law_1647 : decode cL_law 1647 = .ok (.iload 4, 2) := by decide +kernel
theorem dL_law_1649 : decode cL_law 1649 = .ok (.iconst 1, 1) := by decide +kernel
theorem dL_law_1650 : decode cL_law 1650 = .ok (.iadd, 1) := by decide +kernel
theorem dL_law_1651 : decode cL_law 1651 = .ok (.iaload, 1) := by decide +kernel
theorem dL_law_1652 : decode cL_law 1652 = .ok (.aload_n 3, 1) := by decide +kernel
theorem dL_law_1653 : decode cL_law 1653 = .ok (.invokestatic 259, 3) := by decide +kernel
theorem dL_law_1656 : decode cL_law 1656 = .ok (.istore 5, 2) := by decide +kernel
theorem dL_law_1658 : decode cL_law 1658 = .ok (.aload_n 2, 1) := by decide +kernel
theorem dL_law_1659 : decode cL_law 1659 = .ok (.aload_n 0, 1) := by decide +kernel
theorem dL_law_1660 : decode cL_law 1660 = .ok (.iload 4, 2) := by decide +kernel
theorem dL_law_1662 : decode cL_law 1662 = .ok (.iconst 1, 1) := by decide +kernel
theorem dL_law_1663 : decode cL_law 1663 = .ok (.iadd, 1) := by decide +kernel
theorem dL_law_1664 : decode cL_law 1664 = .ok (.iaload, 1) := by decide +kernel
theorem dL_law_1665 : decode cL_law 1665 = .ok (.invokevirtual 261, 3) := by decide +kernel
theorem dL_law_1668 : decode cL_law 1668 = .ok (.istore 6, 2) := by decide +kernel
theorem dL_law_1670 : decode cL_law 1670 = .ok (.aload_n 2, 1) := by decide +kernel
theorem dL_law_1671 : decode cL_law 1671 = .ok (.invokevirtual 146, 3) := by decide +kernel
theorem dL_law_1674 : decode cL_law 1674 = .ok (.iload 5, 2) := by decide +kernel
theorem dL_law_1676 : decode cL_law 1676 = .ok (.if_icmp .eq 5, 3) := by decide +kernel
theorem dL_law_1679 : decode cL_law 1679 = .ok (.iconst 0, 1) := by decide +kernel
theorem dL_law_1680 : decode cL_law 1680 = .ok (.ireturn, 1) := by decide +kernel
theorem dL_law_1681 : decode cL_law 1681 = .ok (.iload 5, 2) := by decide +kernel
theorem dL_law_1683 : decode cL_law 1683 = .ok (.ifCond .ne 15, 3) := by decide +kernel
theorem dL_law_1686 : decode cL_law 1686 = .ok (.aload_n 3, 1) := by decide +kernel
theorem dL_law_1687 : decode cL_law 1687 = .ok (.iconst 0, 1) := by decide +kernel
theorem dL_law_1688 : decode cL_law 1688 = .ok (.laload, 1) := by decide +kernel
theorem dL_law_1689 : decode cL_law 1689 = .ok (.iload 6, 2) := by decide +kernel
theorem dL_law_1691 : decode cL_law 1691 = .ok (.i2l, 1) := by decide +kernel
theorem dL_law_1692 : decode cL_law 1692 = .ok (.lcmp, 1) := by decide +kernel
theorem dL_law_1693 : decode cL_law 1693 = .ok (.ifCond .eq 5, 3) := by decide +kernel
theorem dL_law_1696 : decode cL_law 1696 = .ok (.iconst 0, 1) := by decide +kernel
theorem dL_law_1697 : decode cL_law 1697 = .ok (.ireturn, 1) := by decide +kernel
theorem dL_law_1698 : decode cL_law 1698 = .ok (.goto 1202, 3) := by decide +kernel
theorem dL_law_1701 : decode cL_law 1701 = .ok (.aload_n 1, 1) := by decide +kernel
theorem dL_law_1702 : decode cL_law 1702 = .ok (.aload_n 0, 1) := by decide +kernel
theorem dL_law_1703 : decode cL_law 1703 = .ok (.iload 4, 2) := by decide +kernel
theorem dL_law_1705 : decode cL_law 1705 = .ok (.iconst 1, 1) := by decide +kernel
theorem dL_law_1706 : decode cL_law 1706 = .ok (.iadd, 1) := by decide +kernel
theorem dL_law_1707 : decode cL_law 1707 = .ok (.iaload, 1) := by decide +kernel
theorem dL_law_1708 : decode cL_law 1708 = .ok (.aload_n 0, 1) := by decide +kernel
theorem dL_law_1709 : decode cL_law 1709 = .ok (.iload 4, 2) := by decide +kernel
theorem dL_law_1711 : decode cL_law 1711 = .ok (.iconst 2, 1) := by decide +kernel
theorem dL_law_1712 : decode cL_law 1712 = .ok (.iadd, 1) := by decide +kernel
theorem dL_law_1713 : decode cL_law 1713 = .ok (.iaload, 1) := by decide +kernel
theorem dL_law_1714 : decode cL_law 1714 = .ok (.aload_n 3, 1) := by decide +kernel
theorem dL_law_1715 : decode cL_law 1715 = .ok (.invokestatic 262, 3) := by decide +kernel
theorem dL_law_1718 : decode cL_law 1718 = .ok (.istore 5, 2) := by decide +kernel
theorem dL_law_1720 : decode cL_law 1720 = .ok (.aload_n 2, 1) := by decide +kernel
theorem dL_law_1721 : decode cL_law 1721 = .ok (.aload_n 0, 1) := by decide +kernel
theorem dL_law_1722 : decode cL_law 1722 = .ok (.iload 4, 2) := by decide +kernel
theorem dL_law_1724 : decode cL_law 1724 = .ok (.iconst 1, 1) := by decide +kernel
theorem dL_law_1725 : decode cL_law 1725 = .ok (.iadd, 1) := by decide +kernel
theorem dL_law_1726 : decode cL_law 1726 = .ok (.iaload, 1) := by decide +kernel
theorem dL_law_1727 : decode cL_law 1727 = .ok (.aload_n 0, 1) := by decide +kernel
theorem dL_law_1728 : decode cL_law 1728 = .ok (.iload 4, 2) := by decide +kernel
theorem dL_law_1730 : decode cL_law 1730 = .ok (.iconst 2, 1) := by decide +kernel
theorem dL_law_1731 : decode cL_law 1731 = .ok (.iadd, 1) := by decide +kernel
theorem dL_law_1732 : decode cL_law 1732 = .ok (.iaload, 1) := by decide +kernel
theorem dL_law_1733 : decode cL_law 1733 = .ok (.invokevirtual 264, 3) := by decide +kernel
theorem dL_law_1736 : decode cL_law 1736 = .ok (.istore 6, 2) := by decide +kernel
theorem dL_law_1738 : decode cL_law 1738 = .ok (.aload_n 2, 1) := by decide +kernel
theorem dL_law_1739 : decode cL_law 1739 = .ok (.invokevirtual 146, 3) := by decide +kernel
theorem dL_law_1742 : decode cL_law 1742 = .ok (.iload 5, 2) := by decide +kernel
theorem dL_law_1744 : decode cL_law 1744 = .ok (.if_icmp .eq 5, 3) := by decide +kernel
theorem dL_law_1747 : decode cL_law 1747 = .ok (.iconst 0, 1) := by decide +kernel
theorem dL_law_1748 : decode cL_law 1748 = .ok (.ireturn, 1) := by decide +kernel
theorem dL_law_1749 : decode cL_law 1749 = .ok (.iload 5, 2) := by decide +kernel
theorem dL_law_1751 : decode cL_law 1751 = .ok (.ifCond .ne 15, 3) := by decide +kernel
theorem dL_law_1754 : decode cL_law 1754 = .ok (.aload_n 3, 1) := by decide +kernel
theorem dL_law_1755 : decode cL_law 1755 = .ok (.iconst 0, 1) := by decide +kernel
theorem dL_law_1756 : decode cL_law 1756 = .ok (.laload, 1) := by decide +kernel
theorem dL_law_1757 : decode cL_law 1757 = .ok (.iload 6, 2) := by decide +kernel
theorem dL_law_1759 : decode cL_law 1759 = .ok (.i2l, 1) := by decide +kernel
theorem dL_law_1760 : decode cL_law 1760 = .ok (.lcmp, 1) := by decide +kernel
theorem dL_law_1761 : decode cL_law 1761 = .ok (.ifCond .eq 5, 3) := by decide +kernel
theorem dL_law_1764 : decode cL_law 1764 = .ok (.iconst 0, 1) := by decide +kernel
theorem dL_law_1765 : decode cL_law 1765 = .ok (.ireturn, 1) := by decide +kernel
theorem dL_law_1766 : decode cL_law 1766 = .ok (.goto 1134, 3) := by decide +kernel
theorem dL_law_1769 : decode cL_law 1769 = .ok (.aload_n 1, 1) := by decide +kernel
theorem dL_law_1770 : decode cL_law 1770 = .ok (.aload_n 0, 1) := by decide +kernel
theorem dL_law_1771 : decode cL_law 1771 = .ok (.iload 4, 2) := by decide +kernel
theorem dL_law_1773 : decode cL_law 1773 = .ok (.iconst 1, 1) := by decide +kernel
theorem dL_law_1774 : decode cL_law 1774 = .ok (.iadd, 1) := by decide +kernel
theorem dL_law_1775 : decode cL_law 1775 = .ok (.iaload, 1) := by decide +kernel
theorem dL_law_1776 : decode cL_law 1776 = .ok (.aload_n 0, 1) := by decide +kernel
theorem dL_law_1777 : decode cL_law 1777 = .ok (.iload 4, 2) := by decide +kernel
theorem dL_law_1779 : decode cL_law 1779 = .ok (.iconst 2, 1) := by decide +kernel
theorem dL_law_1780 : decode cL_law 1780 = .ok (.iadd, 1) := by decide +kernel
theorem dL_law_1781 : decode cL_law 1781 = .ok (.iaload, 1) := by decide +kernel
theorem dL_law_1782 : decode cL_law 1782 = .ok (.aload_n 3, 1) := by decide +kernel
theorem dL_law_1783 : decode cL_law 1783 = .ok (.invokestatic 265, 3) := by decide +kernel
theorem dL_law_1786 : decode cL_law 1786 = .ok (.istore 5, 2) := by decide +kernel
theorem dL_law_1788 : decode cL_law 1788 = .ok (.aload_n 2, 1) := by decide +kernel
theorem dL_law_1789 : decode cL_law 1789 = .ok (.aload_n 0, 1) := by decide +kernel
theorem dL_law_1790 : decode cL_law 1790 = .ok (.iload 4, 2) := by decide +kernel
theorem dL_law_1792 : decode cL_law 1792 = .ok (.iconst 1, 1) := by decide +kernel
theorem dL_law_1793 : decode cL_law 1793 = .ok (.iadd, 1) := by decide +kernel
theorem dL_law_1794 : decode cL_law 1794 = .ok (.iaload, 1) := by decide +kernel
theorem dL_law_1795 : decode cL_law 1795 = .ok (.aload_n 0, 1) := by decide +kernel
theorem dL_law_1796 : decode cL_law 1796 = .ok (.iload 4, 2) := by decide +kernel
theorem dL_law_1798 : decode cL_law 1798 = .ok (.iconst 2, 1) := by decide +kernel
theorem dL_law_1799 : decode cL_law 1799 = .ok (.iadd, 1) := by decide +kernel
theorem dL_law_1800 : decode cL_law 1800 = .ok (.iaload, 1) := by decide +kernel
theorem dL_law_1801 : decode cL_law 1801 = .ok (.invokevirtual 267, 3) := by decide +kernel
theorem dL_law_1804 : decode cL_law 1804 = .ok (.istore 6, 2) := by decide +kernel
theorem dL_law_1806 : decode cL_law 1806 = .ok (.aload_n 2, 1) := by decide +kernel
theorem dL_law_1807 : decode cL_law 1807 = .ok (.invokevirtual 146, 3) := by decide +kernel
theorem dL_law_1810 : decode cL_law 1810 = .ok (.iload 5, 2) := by decide +kernel
theorem dL_law_1812 : decode cL_law 1812 = .ok (.if_icmp .eq 5, 3) := by decide +kernel
theorem dL_law_1815 : decode cL_law 1815 = .ok (.iconst 0, 1) := by decide +kernel
theorem dL_law_1816 : decode cL_law 1816 = .ok (.ireturn, 1) := by decide +kernel
theorem dL_law_1817 : decode cL_law 1817 = .ok (.iload 5, 2) := by decide +kernel
theorem dL_law_1819 : decode cL_law 1819 = .ok (.ifCond .ne 15, 3) := by decide +kernel
theorem dL_law_1822 : decode cL_law 1822 = .ok (.aload_n 3, 1) := by decide +kernel
theorem dL_law_1823 : decode cL_law 1823 = .ok (.iconst 0, 1) := by decide +kernel
theorem dL_law_1824 : decode cL_law 1824 = .ok (.laload, 1) := by decide +kernel
theorem dL_law_1825 : decode cL_law 1825 = .ok (.iload 6, 2) := by decide +kernel
theorem dL_law_1827 : decode cL_law 1827 = .ok (.i2l, 1) := by decide +kernel
theorem dL_law_1828 : decode cL_law 1828 = .ok (.lcmp, 1) := by decide +kernel
theorem dL_law_1829 : decode cL_law 1829 = .ok (.ifCond .eq 5, 3) := by decide +kernel
theorem dL_law_1832 : decode cL_law 1832 = .ok (.iconst 0, 1) := by decide +kernel
theorem dL_law_1833 : decode cL_law 1833 = .ok (.ireturn, 1) := by decide +kernel
theorem dL_law_1834 : decode cL_law 1834 = .ok (.goto 1066, 3) := by decide +kernel
theorem dL_law_1837 : decode cL_law 1837 = .ok (.aload_n 1, 1) := by decide +kernel
theorem dL_law_1838 : decode cL_law 1838 = .ok (.aload_n 0, 1) := by decide +kernel
theorem dL_law_1839 : decode cL_law 1839 = .ok (.iload 4, 2) := by decide +kernel
theorem dL_law_1841 : decode cL_law 1841 = .ok (.iconst 1, 1) := by decide +kernel
theorem dL_law_1842 : decode cL_law 1842 = .ok (.iadd, 1) := by decide +kernel
theorem dL_law_1843 : decode cL_law 1843 = .ok (.iaload, 1) := by decide +kernel
theorem dL_law_1844 : decode cL_law 1844 = .ok (.aload_n 3, 1) := by decide +kernel
theorem dL_law_1845 : decode cL_law 1845 = .ok (.invokestatic 268, 3) := by decide +kernel
theorem dL_law_1848 : decode cL_law 1848 = .ok (.istore 5, 2) := by decide +kernel
theorem dL_law_1850 : decode cL_law 1850 = .ok (.aload_n 2, 1) := by decide +kernel
theorem dL_law_1851 : decode cL_law 1851 = .ok (.aload_n 0, 1) := by decide +kernel
theorem dL_law_1852 : decode cL_law 1852 = .ok (.iload 4, 2) := by decide +kernel
theorem dL_law_1854 : decode cL_law 1854 = .ok (.iconst 1, 1) := by decide +kernel
theorem dL_law_1855 : decode cL_law 1855 = .ok (.iadd, 1) := by decide +kernel
theorem dL_law_1856 : decode cL_law 1856 = .ok (.iaload, 1) := by decide +kernel
theorem dL_law_1857 : decode cL_law 1857 = .ok (.invokevirtual 270, 3) := by decide +kernel
theorem dL_law_1860 : decode cL_law 1860 = .ok (.istore 6, 2) := by decide +kernel
theorem dL_law_1862 : decode cL_law 1862 = .ok (.aload_n 2, 1) := by decide +kernel
theorem dL_law_1863 : decode cL_law 1863 = .ok (.invokevirtual 146, 3) := by decide +kernel
theorem dL_law_1866 : decode cL_law 1866 = .ok (.iload 5, 2) := by decide +kernel
theorem dL_law_1868 : decode cL_law 1868 = .ok (.if_icmp .eq 5, 3) := by decide +kernel
theorem dL_law_1871 : decode cL_law 1871 = .ok (.iconst 0, 1) := by decide +kernel
theorem dL_law_1872 : decode cL_law 1872 = .ok (.ireturn, 1) := by decide +kernel
theorem dL_law_1873 : decode cL_law 1873 = .ok (.iload 5, 2) := by decide +kernel
theorem dL_law_1875 : decode cL_law 1875 = .ok (.ifCond .ne 15, 3) := by decide +kernel
theorem dL_law_1878 : decode cL_law 1878 = .ok (.aload_n 3, 1) := by decide +kernel
theorem dL_law_1879 : decode cL_law 1879 = .ok (.iconst 0, 1) := by decide +kernel
theorem dL_law_1880 : decode cL_law 1880 = .ok (.laload, 1) := by decide +kernel
theorem dL_law_1881 : decode cL_law 1881 = .ok (.iload 6, 2) := by decide +kernel
theorem dL_law_1883 : decode cL_law 1883 = .ok (.i2l, 1) := by decide +kernel
theorem dL_law_1884 : decode cL_law 1884 = .ok (.lcmp, 1) := by decide +kernel
theorem dL_law_1885 : decode cL_law 1885 = .ok (.ifCond .eq 5, 3) := by decide +kernel
theorem dL_law_1888 : decode cL_law 1888 = .ok (.iconst 0, 1) := by decide +kernel
theorem dL_law_1889 : decode cL_law 1889 = .ok (.ireturn, 1) := by decide +kernel
theorem dL_law_1890 : decode cL_law 1890 = .ok (.goto 1010, 3) := by decide +kernel
theorem dL_law_1893 : decode cL_law 1893 = .ok (.aload_n 1, 1) := by decide +kernel
theorem dL_law_1894 : decode cL_law 1894 = .ok (.invokevirtual 271, 3) := by decide +kernel
theorem dL_law_1897 : decode cL_law 1897 = .ok (.aload_n 2, 1) := by decide +kernel
theorem dL_law_1898 : decode cL_law 1898 = .ok (.invokevirtual 274, 3) := by decide +kernel
theorem dL_law_1901 : decode cL_law 1901 = .ok (.if_icmp .eq 999, 3) := by decide +kernel
theorem dL_law_1904 : decode cL_law 1904 = .ok (.iconst 0, 1) := by decide +kernel
theorem dL_law_1905 : decode cL_law 1905 = .ok (.ireturn, 1) := by decide +kernel
theorem dL_law_1906 : decode cL_law 1906 = .ok (.aload_n 1, 1) := by decide +kernel
theorem dL_law_1907 : decode cL_law 1907 = .ok (.aload_n 0, 1) := by decide +kernel
theorem dL_law_1908 : decode cL_law 1908 = .ok (.iload 4, 2) := by decide +kernel
theorem dL_law_1910 : decode cL_law 1910 = .ok (.iconst 1, 1) := by decide +kernel
theorem dL_law_1911 : decode cL_law 1911 = .ok (.iadd, 1) := by decide +kernel
theorem dL_law_1912 : decode cL_law 1912 = .ok (.iaload, 1) := by decide +kernel
theorem dL_law_1913 : decode cL_law 1913 = .ok (.aload_n 3, 1) := by decide +kernel
theorem dL_law_1914 : decode cL_law 1914 = .ok (.invokestatic 275, 3) := by decide +kernel
theorem dL_law_1917 : decode cL_law 1917 = .ok (.istore 5, 2) := by decide +kernel
theorem dL_law_1919 : decode cL_law 1919 = .ok (.aload_n 2, 1) := by decide +kernel
theorem dL_law_1920 : decode cL_law 1920 = .ok (.aload_n 0, 1) := by decide +kernel
theorem dL_law_1921 : decode cL_law 1921 = .ok (.iload 4, 2) := by decide +kernel
theorem dL_law_1923 : decode cL_law 1923 = .ok (.iconst 1, 1) := by decide +kernel
theorem dL_law_1924 : decode cL_law 1924 = .ok (.iadd, 1) := by decide +kernel
theorem dL_law_1925 : decode cL_law 1925 = .ok (.iaload, 1) := by decide +kernel
theorem dL_law_1926 : decode cL_law 1926 = .ok (.invokevirtual 277, 3) := by decide +kernel
theorem dL_law_1929 : decode cL_law 1929 = .ok (.istore 6, 2) := by decide +kernel
theorem dL_law_1931 : decode cL_law 1931 = .ok (.aload_n 2, 1) := by decide +kernel
theorem dL_law_1932 : decode cL_law 1932 = .ok (.invokevirtual 146, 3) := by decide +kernel
theorem dL_law_1935 : decode cL_law 1935 = .ok (.iload 5, 2) := by decide +kernel
theorem dL_law_1937 : decode cL_law 1937 = .ok (.if_icmp .eq 5, 3) := by decide +kernel
theorem dL_law_1940 : decode cL_law 1940 = .ok (.iconst 0, 1) := by decide +kernel
theorem dL_law_1941 : decode cL_law 1941 = .ok (.ireturn, 1) := by decide +kernel
theorem dL_law_1942 : decode cL_law 1942 = .ok (.iload 5, 2) := by decide +kernel
theorem dL_law_1944 : decode cL_law 1944 = .ok (.ifCond .ne 15, 3) := by decide +kernel
theorem dL_law_1947 : decode cL_law 1947 = .ok (.aload_n 3, 1) := by decide +kernel
theorem dL_law_1948 : decode cL_law 1948 = .ok (.iconst 0, 1) := by decide +kernel
theorem dL_law_1949 : decode cL_law 1949 = .ok (.laload, 1) := by decide +kernel
theorem dL_law_1950 : decode cL_law 1950 = .ok (.iload 6, 2) := by decide +kernel
theorem dL_law_1952 : decode cL_law 1952 = .ok (.i2l, 1) := by decide +kernel
theorem dL_law_1953 : decode cL_law 1953 = .ok (.lcmp, 1) := by decide +kernel
theorem dL_law_1954 : decode cL_law 1954 = .ok (.ifCond .eq 5, 3) := by decide +kernel
theorem dL_law_1957 : decode cL_law 1957 = .ok (.iconst 0, 1) := by decide +kernel
theorem dL_law_1958 : decode cL_law 1958 = .ok (.ireturn, 1) := by decide +kernel
theorem dL_law_1959 : decode cL_law 1959 = .ok (.goto 941, 3) := by decide +kernel
theorem dL_law_1962 : decode cL_law 1962 = .ok (.aload_n 1, 1) := by decide +kernel
theorem dL_law_1963 : decode cL_law 1963 = .ok (.aload_n 0, 1) := by decide +kernel
theorem dL_law_1964 : decode cL_law 1964 = .ok (.iload 4, 2) := by decide +kernel
theorem dL_law_1966 : decode cL_law 1966 = .ok (.iconst 1, 1) := by decide +kernel
theorem dL_law_1967 : decode cL_law 1967 = .ok (.iadd, 1) := by decide +kernel
theorem dL_law_1968 : decode cL_law 1968 = .ok (.iaload, 1) := by decide +kernel
theorem dL_law_1969 : decode cL_law 1969 = .ok (.aload_n 3, 1) := by decide +kernel
theorem dL_law_1970 : decode cL_law 1970 = .ok (.invokestatic 278, 3) := by decide +kernel
theorem dL_law_1973 : decode cL_law 1973 = .ok (.istore 5, 2) := by decide +kernel
theorem dL_law_1975 : decode cL_law 1975 = .ok (.aload_n 2, 1) := by decide +kernel
theorem dL_law_1976 : decode cL_law 1976 = .ok (.aload_n 0, 1) := by decide +kernel
theorem dL_law_1977 : decode cL_law 1977 = .ok (.iload 4, 2) := by decide +kernel
theorem dL_law_1979 : decode cL_law 1979 = .ok (.iconst 1, 1) := by decide +kernel
theorem dL_law_1980 : decode cL_law 1980 = .ok (.iadd, 1) := by decide +kernel
theorem dL_law_1981 : decode cL_law 1981 = .ok (.iaload, 1) := by decide +kernel
theorem dL_law_1982 : decode cL_law 1982 = .ok (.invokevirtual 280, 3) := by decide +kernel
theorem dL_law_1985 : decode cL_law 1985 = .ok (.istore 6, 2) := by decide +kernel
theorem dL_law_1987 : decode cL_law 1987 = .ok (.aload_n 2, 1) := by decide +kernel
theorem dL_law_1988 : decode cL_law 1988 = .ok (.invokevirtual 146, 3) := by decide +kernel
theorem dL_law_1991 : decode cL_law 1991 = .ok (.iload 5, 2) := by decide +kernel
theorem dL_law_1993 : decode cL_law 1993 = .ok (.if_icmp .eq 5, 3) := by decide +kernel
theorem dL_law_1996 : decode cL_law 1996 = .ok (.iconst 0, 1) := by decide +kernel
theorem dL_law_1997 : decode cL_law 1997 = .ok (.ireturn, 1) := by decide +kernel
theorem dL_law_1998 : decode cL_law 1998 = .ok (.iload 5, 2) := by decide +kernel
theorem dL_law_2000 : decode cL_law 2000 = .ok (.ifCond .ne 15, 3) := by decide +kernel
theorem dL_law_2003 : decode cL_law 2003 = .ok (.aload_n 3, 1) := by decide +kernel
theorem dL_law_2004 : decode cL_law 2004 = .ok (.iconst 0, 1) := by decide +kernel
theorem dL_law_2005 : decode cL_law 2005 = .ok (.laload, 1) := by decide +kernel
theorem dL_law_2006 : decode cL_law 2006 = .ok (.iload 6, 2) := by decide +kernel
theorem dL_law_2008 : decode cL_law 2008 = .ok (.i2l, 1) := by decide +kernel
theorem dL_law_2009 : decode cL_law 2009 = .ok (.lcmp, 1) := by decide +kernel
theorem dL_law_2010 : decode cL_law 2010 = .ok (.ifCond .eq 5, 3) := by decide +kernel
theorem dL_law_2013 : decode cL_law 2013 = .ok (.iconst 0, 1) := by decide +kernel
theorem dL_law_2014 : decode cL_law 2014 = .ok (.ireturn, 1) := by decide +kernel
theorem dL_law_2015 : decode cL_law 2015 = .ok (.goto 885, 3) := by decide +kernel
theorem dL_law_2018 : decode cL_law 2018 = .ok (.aload_n 1, 1) := by decide +kernel
theorem dL_law_2019 : decode cL_law 2019 = .ok (.aload_n 0, 1) := by decide +kernel
theorem dL_law_2020 : decode cL_law 2020 = .ok (.iload 4, 2) := by decide +kernel
theorem dL_law_2022 : decode cL_law 2022 = .ok (.iconst 1, 1) := by decide +kernel
theorem dL_law_2023 : decode cL_law 2023 = .ok (.iadd, 1) := by decide +kernel
theorem dL_law_2024 : decode cL_law 2024 = .ok (.iaload, 1) := by decide +kernel
theorem dL_law_2025 : decode cL_law 2025 = .ok (.aload_n 3, 1) := by decide +kernel
theorem dL_law_2026 : decode cL_law 2026 = .ok (.invokestatic 281, 3) := by decide +kernel
theorem dL_law_2029 : decode cL_law 2029 = .ok (.istore 5, 2) := by decide +kernel
theorem dL_law_2031 : decode cL_law 2031 = .ok (.aload_n 2, 1) := by decide +kernel
theorem dL_law_2032 : decode cL_law 2032 = .ok (.aload_n 0, 1) := by decide +kernel
theorem dL_law_2033 : decode cL_law 2033 = .ok (.iload 4, 2) := by decide +kernel
theorem dL_law_2035 : decode cL_law 2035 = .ok (.iconst 1, 1) := by decide +kernel
theorem dL_law_2036 : decode cL_law 2036 = .ok (.iadd, 1) := by decide +kernel
theorem dL_law_2037 : decode cL_law 2037 = .ok (.iaload, 1) := by decide +kernel
theorem dL_law_2038 : decode cL_law 2038 = .ok (.invokevirtual 283, 3) := by decide +kernel
theorem dL_law_2041 : decode cL_law 2041 = .ok (.istore 6, 2) := by decide +kernel
theorem dL_law_2043 : decode cL_law 2043 = .ok (.aload_n 2, 1) := by decide +kernel
theorem dL_law_2044 : decode cL_law 2044 = .ok (.invokevirtual 146, 3) := by decide +kernel
theorem dL_law_2047 : decode cL_law 2047 = .ok (.iload 5, 2) := by decide +kernel
theorem dL_law_2049 : decode cL_law 2049 = .ok (.if_icmp .eq 5, 3) := by decide +kernel
theorem dL_law_2052 : decode cL_law 2052 = .ok (.iconst 0, 1) := by decide +kernel
theorem dL_law_2053 : decode cL_law 2053 = .ok (.ireturn, 1) := by decide +kernel
theorem dL_law_2054 : decode cL_law 2054 = .ok (.iload 5, 2) := by decide +kernel
theorem dL_law_2056 : decode cL_law 2056 = .ok (.ifCond .ne 15, 3) := by decide +kernel
theorem dL_law_2059 : decode cL_law 2059 = .ok (.aload_n 3, 1) := by decide +kernel
theorem dL_law_2060 : decode cL_law 2060 = .ok (.iconst 0, 1) := by decide +kernel
theorem dL_law_2061 : decode cL_law 2061 = .ok (.laload, 1) := by decide +kernel
theorem dL_law_2062 : decode cL_law 2062 = .ok (.iload 6, 2) := by decide +kernel
theorem dL_law_2064 : decode cL_law 2064 = .ok (.i2l, 1) := by decide +kernel
theorem dL_law_2065 : decode cL_law 2065 = .ok (.lcmp, 1) := by decide +kernel
theorem dL_law_2066 : decode cL_law 2066 = .ok (.ifCond .eq 5, 3) := by decide +kernel
theorem dL_law_2069 : decode cL_law 2069 = .ok (.iconst 0, 1) := by decide +kernel
theorem dL_law_2070 : decode cL_law 2070 = .ok (.ireturn, 1) := by decide +kernel
theorem dL_law_2071 : decode cL_law 2071 = .ok (.goto 829, 3) := by decide +kernel
theorem dL_law_2074 : decode cL_law 2074 = .ok (.aload_n 1, 1) := by decide +kernel
theorem dL_law_2075 : decode cL_law 2075 = .ok (.aload_n 0, 1) := by decide +kernel
theorem dL_law_2076 : decode cL_law 2076 = .ok (.iload 4, 2) := by decide +kernel
theorem dL_law_2078 : decode cL_law 2078 = .ok (.iconst 1, 1) := by decide +kernel
theorem dL_law_2079 : decode cL_law 2079 = .ok (.iadd, 1) := by decide +kernel
theorem dL_law_2080 : decode cL_law 2080 = .ok (.iaload, 1) := by decide +kernel
theorem dL_law_2081 : decode cL_law 2081 = .ok (.aload_n 3, 1) := by decide +kernel
theorem dL_law_2082 : decode cL_law 2082 = .ok (.invokestatic 284, 3) := by decide +kernel
theorem dL_law_2085 : decode cL_law 2085 = .ok (.istore 5, 2) := by decide +kernel
theorem dL_law_2087 : decode cL_law 2087 = .ok (.aload_n 2, 1) := by decide +kernel
theorem dL_law_2088 : decode cL_law 2088 = .ok (.aload_n 0, 1) := by decide +kernel
theorem dL_law_2089 : decode cL_law 2089 = .ok (.iload 4, 2) := by decide +kernel
theorem dL_law_2091 : decode cL_law 2091 = .ok (.iconst 1, 1) := by decide +kernel
theorem dL_law_2092 : decode cL_law 2092 = .ok (.iadd, 1) := by decide +kernel
theorem dL_law_2093 : decode cL_law 2093 = .ok (.iaload, 1) := by decide +kernel
theorem dL_law_2094 : decode cL_law 2094 = .ok (.invokevirtual 286, 3) := by decide +kernel
theorem dL_law_2097 : decode cL_law 2097 = .ok (.istore 6, 2) := by decide +kernel
theorem dL_law_2099 : decode cL_law 2099 = .ok (.aload_n 2, 1) := by decide +kernel
theorem dL_law_2100 : decode cL_law 2100 = .ok (.invokevirtual 146, 3) := by decide +kernel
theorem dL_law_2103 : decode cL_law 2103 = .ok (.iload 5, 2) := by decide +kernel
theorem dL_law_2105 : decode cL_law 2105 = .ok (.if_icmp .eq 5, 3) := by decide +kernel
theorem dL_law_2108 : decode cL_law 2108 = .ok (.iconst 0, 1) := by decide +kernel
theorem dL_law_2109 : decode cL_law 2109 = .ok (.ireturn, 1) := by decide +kernel
theorem dL_law_2110 : decode cL_law 2110 = .ok (.iload 5, 2) := by decide +kernel
theorem dL_law_2112 : decode cL_law 2112 = .ok (.ifCond .ne 15, 3) := by decide +kernel
theorem dL_law_2115 : decode cL_law 2115 = .ok (.aload_n 3, 1) := by decide +kernel
theorem dL_law_2116 : decode cL_law 2116 = .ok (.iconst 0, 1) := by decide +kernel
theorem dL_law_2117 : decode cL_law 2117 = .ok (.laload, 1) := by decide +kernel
theorem dL_law_2118 : decode cL_law 2118 = .ok (.iload 6, 2) := by decide +kernel
theorem dL_law_2120 : decode cL_law 2120 = .ok (.i2l, 1) := by decide +kernel
theorem dL_law_2121 : decode cL_law 2121 = .ok (.lcmp, 1) := by decide +kernel
theorem dL_law_2122 : decode cL_law 2122 = .ok (.ifCond .eq 5, 3) := by decide +kernel
theorem dL_law_2125 : decode cL_law 2125 = .ok (.iconst 0, 1) := by decide +kernel
theorem dL_law_2126 : decode cL_law 2126 = .ok (.ireturn, 1) := by decide +kernel
theorem dL_law_2127 : decode cL_law 2127 = .ok (.goto 773, 3) := by decide +kernel
theorem dL_law_2130 : decode cL_law 2130 = .ok (.aload_n 1, 1) := by decide +kernel
theorem dL_law_2131 : decode cL_law 2131 = .ok (.aload_n 0, 1) := by decide +kernel
theorem dL_law_2132 : decode cL_law 2132 = .ok (.iload 4, 2) := by decide +kernel
theorem dL_law_2134 : decode cL_law 2134 = .ok (.iconst 1, 1) := by decide +kernel
theorem dL_law_2135 : decode cL_law 2135 = .ok (.iadd, 1) := by decide +kernel
theorem dL_law_2136 : decode cL_law 2136 = .ok (.iaload, 1) := by decide +kernel
theorem dL_law_2137 : decode cL_law 2137 = .ok (.aload_n 3, 1) := by decide +kernel
theorem dL_law_2138 : decode cL_law 2138 = .ok (.invokestatic 287, 3) := by decide +kernel
theorem dL_law_2141 : decode cL_law 2141 = .ok (.istore 5, 2) := by decide +kernel
theorem dL_law_2143 : decode cL_law 2143 = .ok (.aload_n 2, 1) := by decide +kernel
theorem dL_law_2144 : decode cL_law 2144 = .ok (.aload_n 0, 1) := by decide +kernel
theorem dL_law_2145 : decode cL_law 2145 = .ok (.iload 4, 2) := by decide +kernel
theorem dL_law_2147 : decode cL_law 2147 = .ok (.iconst 1, 1) := by decide +kernel
theorem dL_law_2148 : decode cL_law 2148 = .ok (.iadd, 1) := by decide +kernel
theorem dL_law_2149 : decode cL_law 2149 = .ok (.iaload, 1) := by decide +kernel
theorem dL_law_2150 : decode cL_law 2150 = .ok (.invokevirtual 289, 3) := by decide +kernel
theorem dL_law_2153 : decode cL_law 2153 = .ok (.istore 6, 2) := by decide +kernel
theorem dL_law_2155 : decode cL_law 2155 = .ok (.aload_n 2, 1) := by decide +kernel
theorem dL_law_2156 : decode cL_law 2156 = .ok (.invokevirtual 146, 3) := by decide +kernel
theorem dL_law_2159 : decode cL_law 2159 = .ok (.iload 5, 2) := by decide +kernel
theorem dL_law_2161 : decode cL_law 2161 = .ok (.if_icmp .eq 5, 3) := by decide +kernel
theorem dL_law_2164 : decode cL_law 2164 = .ok (.iconst 0, 1) := by decide +kernel
theorem dL_law_2165 : decode cL_law 2165 = .ok (.ireturn, 1) := by decide +kernel
theorem dL_law_2166 : decode cL_law 2166 = .ok (.iload 5, 2) := by decide +kernel
theorem dL_law_2168 : decode cL_law 2168 = .ok (.ifCond .ne 15, 3) := by decide +kernel
theorem dL_law_2171 : decode cL_law 2171 = .ok (.aload_n 3, 1) := by decide +kernel
theorem dL_law_2172 : decode cL_law 2172 = .ok (.iconst 0, 1) := by decide +kernel
theorem dL_law_2173 : decode cL_law 2173 = .ok (.laload, 1) := by decide +kernel
theorem dL_law_2174 : decode cL_law 2174 = .ok (.iload 6, 2) := by decide +kernel
theorem dL_law_2176 : decode cL_law 2176 = .ok (.i2l, 1) := by decide +kernel
theorem dL_law_2177 : decode cL_law 2177 = .ok (.lcmp, 1) := by decide +kernel
theorem dL_law_2178 : decode cL_law 2178 = .ok (.ifCond .eq 5, 3) := by decide +kernel
theorem dL_law_2181 : decode cL_law 2181 = .ok (.iconst 0, 1) := by decide +kernel
theorem dL_law_2182 : decode cL_law 2182 = .ok (.ireturn, 1) := by decide +kernel
theorem dL_law_2183 : decode cL_law 2183 = .ok (.goto 717, 3) := by decide +kernel
theorem dL_law_2186 : decode cL_law 2186 = .ok (.aload_n 1, 1) := by decide +kernel
theorem dL_law_2187 : decode cL_law 2187 = .ok (.aload_n 0, 1) := by decide +kernel
theorem dL_law_2188 : decode cL_law 2188 = .ok (.iload 4, 2) := by decide +kernel
theorem dL_law_2190 : decode cL_law 2190 = .ok (.iconst 1, 1) := by decide +kernel
theorem dL_law_2191 : decode cL_law 2191 = .ok (.iadd, 1) := by decide +kernel
theorem dL_law_2192 : decode cL_law 2192 = .ok (.iaload, 1) := by decide +kernel
theorem dL_law_2193 : decode cL_law 2193 = .ok (.aload_n 3, 1) := by decide +kernel
theorem dL_law_2194 : decode cL_law 2194 = .ok (.invokestatic 290, 3) := by decide +kernel
theorem dL_law_2197 : decode cL_law 2197 = .ok (.istore 5, 2) := by decide +kernel
theorem dL_law_2199 : decode cL_law 2199 = .ok (.aload_n 2, 1) := by decide +kernel
theorem dL_law_2200 : decode cL_law 2200 = .ok (.aload_n 0, 1) := by decide +kernel
theorem dL_law_2201 : decode cL_law 2201 = .ok (.iload 4, 2) := by decide +kernel
theorem dL_law_2203 : decode cL_law 2203 = .ok (.iconst 1, 1) := by decide +kernel
theorem dL_law_2204 : decode cL_law 2204 = .ok (.iadd, 1) := by decide +kernel
theorem dL_law_2205 : decode cL_law 2205 = .ok (.iaload, 1) := by decide +kernel
theorem dL_law_2206 : decode cL_law 2206 = .ok (.invokevirtual 292, 3) := by decide +kernel
theorem dL_law_2209 : decode cL_law 2209 = .ok (.istore 6, 2) := by decide +kernel
theorem dL_law_2211 : decode cL_law 2211 = .ok (.aload_n 2, 1) := by decide +kernel
theorem dL_law_2212 : decode cL_law 2212 = .ok (.invokevirtual 146, 3) := by decide +kernel
theorem dL_law_2215 : decode cL_law 2215 = .ok (.iload 5, 2) := by decide +kernel
theorem dL_law_2217 : decode cL_law 2217 = .ok (.if_icmp .eq 5, 3) := by decide +kernel
theorem dL_law_2220 : decode cL_law 2220 = .ok (.iconst 0, 1) := by decide +kernel
theorem dL_law_2221 : decode cL_law 2221 = .ok (.ireturn, 1) := by decide +kernel
theorem dL_law_2222 : decode cL_law 2222 = .ok (.iload 5, 2) := by decide +kernel
theorem dL_law_2224 : decode cL_law 2224 = .ok (.ifCond .ne 15, 3) := by decide +kernel
theorem dL_law_2227 : decode cL_law 2227 = .ok (.aload_n 3, 1) := by decide +kernel
theorem dL_law_2228 : decode cL_law 2228 = .ok (.iconst 0, 1) := by decide +kernel
theorem dL_law_2229 : decode cL_law 2229 = .ok (.laload, 1) := by decide +kernel
theorem dL_law_2230 : decode cL_law 2230 = .ok (.iload 6, 2) := by decide +kernel
theorem dL_law_2232 : decode cL_law 2232 = .ok (.i2l, 1) := by decide +kernel
theorem dL_law_2233 : decode cL_law 2233 = .ok (.lcmp, 1) := by decide +kernel
theorem dL_law_2234 : decode cL_law 2234 = .ok (.ifCond .eq 5, 3) := by decide +kernel
theorem dL_law_2237 : decode cL_law 2237 = .ok (.iconst 0, 1) := by decide +kernel
theorem dL_law_2238 : decode cL_law 2238 = .ok (.ireturn, 1) := by decide +kernel
theorem dL_law_2239 : decode cL_law 2239 = .ok (.goto 661, 3) := by decide +kernel
theorem dL_law_2242 : decode cL_law 2242 = .ok (.aload_n 1, 1) := by decide +kernel
theorem dL_law_2243 : decode cL_law 2243 = .ok (.aload_n 0, 1) := by decide +kernel
theorem dL_law_2244 : decode cL_law 2244 = .ok (.iload 4, 2) := by decide +kernel
theorem dL_law_2246 : decode cL_law 2246 = .ok (.iconst 1, 1) := by decide +kernel
theorem dL_law_2247 : decode cL_law 2247 = .ok (.iadd, 1) := by decide +kernel
theorem dL_law_2248 : decode cL_law 2248 = .ok (.iaload, 1) := by decide +kernel
theorem dL_law_2249 : decode cL_law 2249 = .ok (.aload_n 3, 1) := by decide +kernel
theorem dL_law_2250 : decode cL_law 2250 = .ok (.invokestatic 293, 3) := by decide +kernel
theorem dL_law_2253 : decode cL_law 2253 = .ok (.istore 5, 2) := by decide +kernel
theorem dL_law_2255 : decode cL_law 2255 = .ok (.aload_n 2, 1) := by decide +kernel
theorem dL_law_2256 : decode cL_law 2256 = .ok (.aload_n 0, 1) := by decide +kernel
theorem dL_law_2257 : decode cL_law 2257 = .ok (.iload 4, 2) := by decide +kernel
theorem dL_law_2259 : decode cL_law 2259 = .ok (.iconst 1, 1) := by decide +kernel
theorem dL_law_2260 : decode cL_law 2260 = .ok (.iadd, 1) := by decide +kernel
theorem dL_law_2261 : decode cL_law 2261 = .ok (.iaload, 1) := by decide +kernel
theorem dL_law_2262 : decode cL_law 2262 = .ok (.invokevirtual 295, 3) := by decide +kernel
theorem dL_law_2265 : decode cL_law 2265 = .ok (.istore 6, 2) := by decide +kernel
theorem dL_law_2267 : decode cL_law 2267 = .ok (.aload_n 2, 1) := by decide +kernel
theorem dL_law_2268 : decode cL_law 2268 = .ok (.invokevirtual 146, 3) := by decide +kernel
theorem dL_law_2271 : decode cL_law 2271 = .ok (.iload 5, 2) := by decide +kernel
theorem dL_law_2273 : decode cL_law 2273 = .ok (.if_icmp .eq 5, 3) := by decide +kernel
theorem dL_law_2276 : decode cL_law 2276 = .ok (.iconst 0, 1) := by decide +kernel
theorem dL_law_2277 : decode cL_law 2277 = .ok (.ireturn, 1) := by decide +kernel
theorem dL_law_2278 : decode cL_law 2278 = .ok (.iload 5, 2) := by decide +kernel
theorem dL_law_2280 : decode cL_law 2280 = .ok (.ifCond .ne 15, 3) := by decide +kernel
theorem dL_law_2283 : decode cL_law 2283 = .ok (.aload_n 3, 1) := by decide +kernel
theorem dL_law_2284 : decode cL_law 2284 = .ok (.iconst 0, 1) := by decide +kernel
theorem dL_law_2285 : decode cL_law 2285 = .ok (.laload, 1) := by decide +kernel
theorem dL_law_2286 : decode cL_law 2286 = .ok (.iload 6, 2) := by decide +kernel
theorem dL_law_2288 : decode cL_law 2288 = .ok (.i2l, 1) := by decide +kernel
theorem dL_law_2289 : decode cL_law 2289 = .ok (.lcmp, 1) := by decide +kernel
theorem dL_law_2290 : decode cL_law 2290 = .ok (.ifCond .eq 5, 3) := by decide +kernel
theorem dL_law_2293 : decode cL_law 2293 = .ok (.iconst 0, 1) := by decide +kernel
theorem dL_law_2294 : decode cL_law 2294 = .ok (.ireturn, 1) := by decide +kernel
theorem dL_law_2295 : decode cL_law 2295 = .ok (.goto 605, 3) := by decide +kernel
theorem dL_law_2298 : decode cL_law 2298 = .ok (.aload_n 1, 1) := by decide +kernel
theorem dL_law_2299 : decode cL_law 2299 = .ok (.aload_n 0, 1) := by decide +kernel
theorem dL_law_2300 : decode cL_law 2300 = .ok (.iload 4, 2) := by decide +kernel
theorem dL_law_2302 : decode cL_law 2302 = .ok (.iconst 1, 1) := by decide +kernel
theorem dL_law_2303 : decode cL_law 2303 = .ok (.iadd, 1) := by decide +kernel
theorem dL_law_2304 : decode cL_law 2304 = .ok (.iaload, 1) := by decide +kernel
theorem dL_law_2305 : decode cL_law 2305 = .ok (.aload_n 3, 1) := by decide +kernel
theorem dL_law_2306 : decode cL_law 2306 = .ok (.invokestatic 296, 3) := by decide +kernel
theorem dL_law_2309 : decode cL_law 2309 = .ok (.istore 5, 2) := by decide +kernel
theorem dL_law_2311 : decode cL_law 2311 = .ok (.aload_n 2, 1) := by decide +kernel
theorem dL_law_2312 : decode cL_law 2312 = .ok (.aload_n 0, 1) := by decide +kernel
theorem dL_law_2313 : decode cL_law 2313 = .ok (.iload 4, 2) := by decide +kernel
theorem dL_law_2315 : decode cL_law 2315 = .ok (.iconst 1, 1) := by decide +kernel
theorem dL_law_2316 : decode cL_law 2316 = .ok (.iadd, 1) := by decide +kernel
theorem dL_law_2317 : decode cL_law 2317 = .ok (.iaload, 1) := by decide +kernel
theorem dL_law_2318 : decode cL_law 2318 = .ok (.invokevirtual 298, 3) := by decide +kernel
theorem dL_law_2321 : decode cL_law 2321 = .ok (.istore 6, 2) := by decide +kernel
theorem dL_law_2323 : decode cL_law 2323 = .ok (.aload_n 2, 1) := by decide +kernel
theorem dL_law_2324 : decode cL_law 2324 = .ok (.invokevirtual 146, 3) := by decide +kernel
theorem dL_law_2327 : decode cL_law 2327 = .ok (.iload 5, 2) := by decide +kernel
theorem dL_law_2329 : decode cL_law 2329 = .ok (.if_icmp .eq 5, 3) := by decide +kernel
theorem dL_law_2332 : decode cL_law 2332 = .ok (.iconst 0, 1) := by decide +kernel
theorem dL_law_2333 : decode cL_law 2333 = .ok (.ireturn, 1) := by decide +kernel
theorem dL_law_2334 : decode cL_law 2334 = .ok (.iload 5, 2) := by decide +kernel
theorem dL_law_2336 : decode cL_law 2336 = .ok (.ifCond .ne 15, 3) := by decide +kernel
theorem dL_law_2339 : decode cL_law 2339 = .ok (.aload_n 3, 1) := by decide +kernel
theorem dL_law_2340 : decode cL_law 2340 = .ok (.iconst 0, 1) := by decide +kernel
theorem dL_law_2341 : decode cL_law 2341 = .ok (.laload, 1) := by decide +kernel
theorem dL_law_2342 : decode cL_law 2342 = .ok (.iload 6, 2) := by decide +kernel
theorem dL_law_2344 : decode cL_law 2344 = .ok (.i2l, 1) := by decide +kernel
theorem dL_law_2345 : decode cL_law 2345 = .ok (.lcmp, 1) := by decide +kernel
theorem dL_law_2346 : decode cL_law 2346 = .ok (.ifCond .eq 5, 3) := by decide +kernel
theorem dL_law_2349 : decode cL_law 2349 = .ok (.iconst 0, 1) := by decide +kernel
theorem dL_law_2350 : decode cL_law 2350 = .ok (.ireturn, 1) := by decide +kernel
theorem dL_law_2351 : decode cL_law 2351 = .ok (.goto 549, 3) := by decide +kernel
theorem dL_law_2354 : decode cL_law 2354 = .ok (.aload_n 1, 1) := by decide +kernel
theorem dL_law_2355 : decode cL_law 2355 = .ok (.aload_n 0, 1) := by decide +kernel
theorem dL_law_2356 : decode cL_law 2356 = .ok (.iload 4, 2) := by decide +kernel
theorem dL_law_2358 : decode cL_law 2358 = .ok (.iconst 1, 1) := by decide +kernel
theorem dL_law_2359 : decode cL_law 2359 = .ok (.iadd, 1) := by decide +kernel
theorem dL_law_2360 : decode cL_law 2360 = .ok (.iaload, 1) := by decide +kernel
theorem dL_law_2361 : decode cL_law 2361 = .ok (.aload_n 3, 1) := by decide +kernel
theorem dL_law_2362 : decode cL_law 2362 = .ok (.invokestatic 299, 3) := by decide +kernel
theorem dL_law_2365 : decode cL_law 2365 = .ok (.istore 5, 2) := by decide +kernel
theorem dL_law_2367 : decode cL_law 2367 = .ok (.aload_n 2, 1) := by decide +kernel
theorem dL_law_2368 : decode cL_law 2368 = .ok (.aload_n 0, 1) := by decide +kernel
theorem dL_law_2369 : decode cL_law 2369 = .ok (.iload 4, 2) := by decide +kernel
theorem dL_law_2371 : decode cL_law 2371 = .ok (.iconst 1, 1) := by decide +kernel
theorem dL_law_2372 : decode cL_law 2372 = .ok (.iadd, 1) := by decide +kernel
theorem dL_law_2373 : decode cL_law 2373 = .ok (.iaload, 1) := by decide +kernel
theorem dL_law_2374 : decode cL_law 2374 = .ok (.invokevirtual 301, 3) := by decide +kernel
theorem dL_law_2377 : decode cL_law 2377 = .ok (.istore 6, 2) := by decide +kernel
theorem dL_law_2379 : decode cL_law 2379 = .ok (.aload_n 2, 1) := by decide +kernel
theorem dL_law_2380 : decode cL_law 2380 = .ok (.invokevirtual 146, 3) := by decide +kernel
theorem dL_law_2383 : decode cL_law 2383 = .ok (.iload 5, 2) := by decide +kernel
theorem dL_law_2385 : decode cL_law 2385 = .ok (.if_icmp .eq 5, 3) := by decide +kernel
theorem dL_law_2388 : decode cL_law 2388 = .ok (.iconst 0, 1) := by decide +kernel
theorem dL_law_2389 : decode cL_law 2389 = .ok (.ireturn, 1) := by decide +kernel
theorem dL_law_2390 : decode cL_law 2390 = .ok (.iload 5, 2) := by decide +kernel
theorem dL_law_2392 : decode cL_law 2392 = .ok (.ifCond .ne 15, 3) := by decide +kernel
theorem dL_law_2395 : decode cL_law 2395 = .ok (.aload_n 3, 1) := by decide +kernel
theorem dL_law_2396 : decode cL_law 2396 = .ok (.iconst 0, 1) := by decide +kernel
theorem dL_law_2397 : decode cL_law 2397 = .ok (.laload, 1) := by decide +kernel
theorem dL_law_2398 : decode cL_law 2398 = .ok (.iload 6, 2) := by decide +kernel
theorem dL_law_2400 : decode cL_law 2400 = .ok (.i2l, 1) := by decide +kernel
theorem dL_law_2401 : decode cL_law 2401 = .ok (.lcmp, 1) := by decide +kernel
theorem dL_law_2402 : decode cL_law 2402 = .ok (.ifCond .eq 5, 3) := by decide +kernel
theorem dL_law_2405 : decode cL_law 2405 = .ok (.iconst 0, 1) := by decide +kernel
theorem dL_law_2406 : decode cL_law 2406 = .ok (.ireturn, 1) := by decide +kernel
theorem dL_law_2407 : decode cL_law 2407 = .ok (.goto 493, 3) := by decide +kernel
theorem dL_law_2410 : decode cL_law 2410 = .ok (.aload_n 1, 1) := by decide +kernel
theorem dL_law_2411 : decode cL_law 2411 = .ok (.aload_n 0, 1) := by decide +kernel
theorem dL_law_2412 : decode cL_law 2412 = .ok (.iload 4, 2) := by decide +kernel
theorem dL_law_2414 : decode cL_law 2414 = .ok (.iconst 1, 1) := by decide +kernel
theorem dL_law_2415 : decode cL_law 2415 = .ok (.iadd, 1) := by decide +kernel
theorem dL_law_2416 : decode cL_law 2416 = .ok (.iaload, 1) := by decide +kernel
theorem dL_law_2417 : decode cL_law 2417 = .ok (.aload_n 3, 1) := by decide +kernel
theorem dL_law_2418 : decode cL_law 2418 = .ok (.invokestatic 302, 3) := by decide +kernel
theorem dL_law_2421 : decode cL_law 2421 = .ok (.istore 5, 2) := by decide +kernel
theorem dL_law_2423 : decode cL_law 2423 = .ok (.aload_n 2, 1) := by decide +kernel
theorem dL_law_2424 : decode cL_law 2424 = .ok (.aload_n 0, 1) := by decide +kernel
theorem dL_law_2425 : decode cL_law 2425 = .ok (.iload 4, 2) := by decide +kernel
theorem dL_law_2427 : decode cL_law 2427 = .ok (.iconst 1, 1) := by decide +kernel
theorem dL_law_2428 : decode cL_law 2428 = .ok (.iadd, 1) := by decide +kernel
theorem dL_law_2429 : decode cL_law 2429 = .ok (.iaload, 1) := by decide +kernel
theorem dL_law_2430 : decode cL_law 2430 = .ok (.invokevirtual 304, 3) := by decide +kernel
theorem dL_law_2433 : decode cL_law 2433 = .ok (.istore 6, 2) := by decide +kernel
theorem dL_law_2435 : decode cL_law 2435 = .ok (.aload_n 2, 1) := by decide +kernel
theorem dL_law_2436 : decode cL_law 2436 = .ok (.invokevirtual 146, 3) := by decide +kernel
theorem dL_law_2439 : decode cL_law 2439 = .ok (.iload 5, 2) := by decide +kernel
theorem dL_law_2441 : decode cL_law 2441 = .ok (.if_icmp .eq 5, 3) := by decide +kernel
theorem dL_law_2444 : decode cL_law 2444 = .ok (.iconst 0, 1) := by decide +kernel
theorem dL_law_2445 : decode cL_law 2445 = .ok (.ireturn, 1) := by decide +kernel
theorem dL_law_2446 : decode cL_law 2446 = .ok (.iload 5, 2) := by decide +kernel
theorem dL_law_2448 : decode cL_law 2448 = .ok (.ifCond .ne 15, 3) := by decide +kernel
theorem dL_law_2451 : decode cL_law 2451 = .ok (.aload_n 3, 1) := by decide +kernel
theorem dL_law_2452 : decode cL_law 2452 = .ok (.iconst 0, 1) := by decide +kernel
theorem dL_law_2453 : decode cL_law 2453 = .ok (.laload, 1) := by decide +kernel
theorem dL_law_2454 : decode cL_law 2454 = .ok (.iload 6, 2) := by decide +kernel
theorem dL_law_2456 : decode cL_law 2456 = .ok (.i2l, 1) := by decide +kernel
theorem dL_law_2457 : decode cL_law 2457 = .ok (.lcmp, 1) := by decide +kernel
theorem dL_law_2458 : decode cL_law 2458 = .ok (.ifCond .eq 5, 3) := by decide +kernel
theorem dL_law_2461 : decode cL_law 2461 = .ok (.iconst 0, 1) := by decide +kernel
theorem dL_law_2462 : decode cL_law 2462 = .ok (.ireturn, 1) := by decide +kernel
theorem dL_law_2463 : decode cL_law 2463 = .ok (.goto 437, 3) := by decide +kernel
theorem dL_law_2466 : decode cL_law 2466 = .ok (.aload_n 1, 1) := by decide +kernel
theorem dL_law_2467 : decode cL_law 2467 = .ok (.aload_n 0, 1) := by decide +kernel
theorem dL_law_2468 : decode cL_law 2468 = .ok (.iload 4, 2) := by decide +kernel
theorem dL_law_2470 : decode cL_law 2470 = .ok (.iconst 1, 1) := by decide +kernel
theorem dL_law_2471 : decode cL_law 2471 = .ok (.iadd, 1) := by decide +kernel
theorem dL_law_2472 : decode cL_law 2472 = .ok (.iaload, 1) := by decide +kernel
theorem dL_law_2473 : decode cL_law 2473 = .ok (.aload_n 3, 1) := by decide +kernel
theorem dL_law_2474 : decode cL_law 2474 = .ok (.invokestatic 305, 3) := by decide +kernel
theorem dL_law_2477 : decode cL_law 2477 = .ok (.istore 5, 2) := by decide +kernel
theorem dL_law_2479 : decode cL_law 2479 = .ok (.aload_n 2, 1) := by decide +kernel
theorem dL_law_2480 : decode cL_law 2480 = .ok (.aload_n 0, 1) := by decide +kernel
theorem dL_law_2481 : decode cL_law 2481 = .ok (.iload 4, 2) := by decide +kernel
theorem dL_law_2483 : decode cL_law 2483 = .ok (.iconst 1, 1) := by decide +kernel
theorem dL_law_2484 : decode cL_law 2484 = .ok (.iadd, 1) := by decide +kernel
theorem dL_law_2485 : decode cL_law 2485 = .ok (.iaload, 1) := by decide +kernel
theorem dL_law_2486 : decode cL_law 2486 = .ok (.invokevirtual 307, 3) := by decide +kernel
theorem dL_law_2489 : decode cL_law 2489 = .ok (.istore 6, 2) := by decide +kernel
theorem dL_law_2491 : decode cL_law 2491 = .ok (.aload_n 2, 1) := by decide +kernel
theorem dL_law_2492 : decode cL_law 2492 = .ok (.invokevirtual 146, 3) := by decide +kernel
theorem dL_law_2495 : decode cL_law 2495 = .ok (.iload 5, 2) := by decide +kernel
theorem dL_law_2497 : decode cL_law 2497 = .ok (.if_icmp .eq 5, 3) := by decide +kernel
theorem dL_law_2500 : decode cL_law 2500 = .ok (.iconst 0, 1) := by decide +kernel
theorem dL_law_2501 : decode cL_law 2501 = .ok (.ireturn, 1) := by decide +kernel
theorem dL_law_2502 : decode cL_law 2502 = .ok (.iload 5, 2) := by decide +kernel
theorem dL_law_2504 : decode cL_law 2504 = .ok (.ifCond .ne 15, 3) := by decide +kernel
theorem dL_law_2507 : decode cL_law 2507 = .ok (.aload_n 3, 1) := by decide +kernel
theorem dL_law_2508 : decode cL_law 2508 = .ok (.iconst 0, 1) := by decide +kernel
theorem dL_law_2509 : decode cL_law 2509 = .ok (.laload, 1) := by decide +kernel
theorem dL_law_2510 : decode cL_law 2510 = .ok (.iload 6, 2) := by decide +kernel
theorem dL_law_2512 : decode cL_law 2512 = .ok (.i2l, 1) := by decide +kernel
theorem dL_law_2513 : decode cL_law 2513 = .ok (.lcmp, 1) := by decide +kernel
theorem dL_law_2514 : decode cL_law 2514 = .ok (.ifCond .eq 5, 3) := by decide +kernel
theorem dL_law_2517 : decode cL_law 2517 = .ok (.iconst 0, 1) := by decide +kernel
theorem dL_law_2518 : decode cL_law 2518 = .ok (.ireturn, 1) := by decide +kernel
theorem dL_law_2519 : decode cL_law 2519 = .ok (.goto 381, 3) := by decide +kernel
theorem dL_law_2522 : decode cL_law 2522 = .ok (.aload_n 1, 1) := by decide +kernel
theorem dL_law_2523 : decode cL_law 2523 = .ok (.aload_n 0, 1) := by decide +kernel
theorem dL_law_2524 : decode cL_law 2524 = .ok (.iload 4, 2) := by decide +kernel
theorem dL_law_2526 : decode cL_law 2526 = .ok (.iconst 1, 1) := by decide +kernel
theorem dL_law_2527 : decode cL_law 2527 = .ok (.iadd, 1) := by decide +kernel
theorem dL_law_2528 : decode cL_law 2528 = .ok (.iaload, 1) := by decide +kernel
theorem dL_law_2529 : decode cL_law 2529 = .ok (.aload_n 3, 1) := by decide +kernel
theorem dL_law_2530 : decode cL_law 2530 = .ok (.invokestatic 308, 3) := by decide +kernel
theorem dL_law_2533 : decode cL_law 2533 = .ok (.istore 5, 2) := by decide +kernel
theorem dL_law_2535 : decode cL_law 2535 = .ok (.aload_n 2, 1) := by decide +kernel
theorem dL_law_2536 : decode cL_law 2536 = .ok (.aload_n 0, 1) := by decide +kernel
theorem dL_law_2537 : decode cL_law 2537 = .ok (.iload 4, 2) := by decide +kernel
theorem dL_law_2539 : decode cL_law 2539 = .ok (.iconst 1, 1) := by decide +kernel
theorem dL_law_2540 : decode cL_law 2540 = .ok (.iadd, 1) := by decide +kernel
theorem dL_law_2541 : decode cL_law 2541 = .ok (.iaload, 1) := by decide +kernel
theorem dL_law_2542 : decode cL_law 2542 = .ok (.invokevirtual 310, 3) := by decide +kernel
theorem dL_law_2545 : decode cL_law 2545 = .ok (.istore 6, 2) := by decide +kernel
theorem dL_law_2547 : decode cL_law 2547 = .ok (.aload_n 2, 1) := by decide +kernel
theorem dL_law_2548 : decode cL_law 2548 = .ok (.invokevirtual 146, 3) := by decide +kernel
theorem dL_law_2551 : decode cL_law 2551 = .ok (.iload 5, 2) := by decide +kernel
theorem dL_law_2553 : decode cL_law 2553 = .ok (.if_icmp .eq 5, 3) := by decide +kernel
theorem dL_law_2556 : decode cL_law 2556 = .ok (.iconst 0, 1) := by decide +kernel
theorem dL_law_2557 : decode cL_law 2557 = .ok (.ireturn, 1) := by decide +kernel
theorem dL_law_2558 : decode cL_law 2558 = .ok (.iload 5, 2) := by decide +kernel
theorem dL_law_2560 : decode cL_law 2560 = .ok (.ifCond .ne 22, 3) := by decide +kernel
theorem dL_law_2563 : decode cL_law 2563 = .ok (.aload_n 3, 1) := by decide +kernel
theorem dL_law_2564 : decode cL_law 2564 = .ok (.iconst 0, 1) := by decide +kernel
theorem dL_law_2565 : decode cL_law 2565 = .ok (.laload, 1) := by decide +kernel
theorem dL_law_2566 : decode cL_law 2566 = .ok (.iload 6, 2) := by decide +kernel
theorem dL_law_2568 : decode cL_law 2568 = .ok (.ifCond .eq 7, 3) := by decide +kernel
theorem dL_law_2571 : decode cL_law 2571 = .ok (.lconst 1, 1) := by decide +kernel
theorem dL_law_2572 : decode cL_law 2572 = .ok (.goto 4, 3) := by decide +kernel
theorem dL_law_2575 : decode cL_law 2575 = .ok (.lconst 0, 1) := by decide +kernel
theorem dL_law_2576 : decode cL_law 2576 = .ok (.lcmp, 1) := by decide +kernel
theorem dL_law_2577 : decode cL_law 2577 = .ok (.ifCond .eq 5, 3) := by decide +kernel
theorem dL_law_2580 : decode cL_law 2580 = .ok (.iconst 0, 1) := by decide +kernel
theorem dL_law_2581 : decode cL_law 2581 = .ok (.ireturn, 1) := by decide +kernel
theorem dL_law_2582 : decode cL_law 2582 = .ok (.goto 318, 3) := by decide +kernel
theorem dL_law_2585 : decode cL_law 2585 = .ok (.aload_n 1, 1) := by decide +kernel
theorem dL_law_2586 : decode cL_law 2586 = .ok (.aload_n 0, 1) := by decide +kernel
theorem dL_law_2587 : decode cL_law 2587 = .ok (.iload 4, 2) := by decide +kernel
theorem dL_law_2589 : decode cL_law 2589 = .ok (.iconst 1, 1) := by decide +kernel
theorem dL_law_2590 : decode cL_law 2590 = .ok (.iadd, 1) := by decide +kernel
theorem dL_law_2591 : decode cL_law 2591 = .ok (.iaload, 1) := by decide +kernel
theorem dL_law_2592 : decode cL_law 2592 = .ok (.aload_n 0, 1) := by decide +kernel
theorem dL_law_2593 : decode cL_law 2593 = .ok (.iload 4, 2) := by decide +kernel
theorem dL_law_2595 : decode cL_law 2595 = .ok (.iconst 2, 1) := by decide +kernel
theorem dL_law_2596 : decode cL_law 2596 = .ok (.iadd, 1) := by decide +kernel
theorem dL_law_2597 : decode cL_law 2597 = .ok (.iaload, 1) := by decide +kernel
theorem dL_law_2598 : decode cL_law 2598 = .ok (.aload_n 3, 1) := by decide +kernel
theorem dL_law_2599 : decode cL_law 2599 = .ok (.invokestatic 311, 3) := by decide +kernel
theorem dL_law_2602 : decode cL_law 2602 = .ok (.istore 5, 2) := by decide +kernel
theorem dL_law_2604 : decode cL_law 2604 = .ok (.aload_n 2, 1) := by decide +kernel
theorem dL_law_2605 : decode cL_law 2605 = .ok (.aload_n 0, 1) := by decide +kernel
theorem dL_law_2606 : decode cL_law 2606 = .ok (.iload 4, 2) := by decide +kernel
theorem dL_law_2608 : decode cL_law 2608 = .ok (.iconst 1, 1) := by decide +kernel
theorem dL_law_2609 : decode cL_law 2609 = .ok (.iadd, 1) := by decide +kernel
theorem dL_law_2610 : decode cL_law 2610 = .ok (.iaload, 1) := by decide +kernel
theorem dL_law_2611 : decode cL_law 2611 = .ok (.aload_n 0, 1) := by decide +kernel
theorem dL_law_2612 : decode cL_law 2612 = .ok (.iload 4, 2) := by decide +kernel
theorem dL_law_2614 : decode cL_law 2614 = .ok (.iconst 2, 1) := by decide +kernel
theorem dL_law_2615 : decode cL_law 2615 = .ok (.iadd, 1) := by decide +kernel
theorem dL_law_2616 : decode cL_law 2616 = .ok (.iaload, 1) := by decide +kernel
theorem dL_law_2617 : decode cL_law 2617 = .ok (.invokevirtual 313, 3) := by decide +kernel
theorem dL_law_2620 : decode cL_law 2620 = .ok (.istore 6, 2) := by decide +kernel
theorem dL_law_2622 : decode cL_law 2622 = .ok (.aload_n 2, 1) := by decide +kernel
theorem dL_law_2623 : decode cL_law 2623 = .ok (.invokevirtual 146, 3) := by decide +kernel
theorem dL_law_2626 : decode cL_law 2626 = .ok (.iload 5, 2) := by decide +kernel
theorem dL_law_2628 : decode cL_law 2628 = .ok (.if_icmp .eq 5, 3) := by decide +kernel
theorem dL_law_2631 : decode cL_law 2631 = .ok (.iconst 0, 1) := by decide +kernel
theorem dL_law_2632 : decode cL_law 2632 = .ok (.ireturn, 1) := by decide +kernel
theorem dL_law_2633 : decode cL_law 2633 = .ok (.iload 5, 2) := by decide +kernel
theorem dL_law_2635 : decode cL_law 2635 = .ok (.ifCond .ne 15, 3) := by decide +kernel
theorem dL_law_2638 : decode cL_law 2638 = .ok (.aload_n 3, 1) := by decide +kernel
theorem dL_law_2639 : decode cL_law 2639 = .ok (.iconst 0, 1) := by decide +kernel
theorem dL_law_2640 : decode cL_law 2640 = .ok (.laload, 1) := by decide +kernel
theorem dL_law_2641 : decode cL_law 2641 = .ok (.iload 6, 2) := by decide +kernel
theorem dL_law_2643 : decode cL_law 2643 = .ok (.i2l, 1) := by decide +kernel
theorem dL_law_2644 : decode cL_law 2644 = .ok (.lcmp, 1) := by decide +kernel
theorem dL_law_2645 : decode cL_law 2645 = .ok (.ifCond .eq 5, 3) := by decide +kernel
theorem dL_law_2648 : decode cL_law 2648 = .ok (.iconst 0, 1) := by decide +kernel
theorem dL_law_2649 : decode cL_law 2649 = .ok (.ireturn, 1) := by decide +kernel
theorem dL_law_2650 : decode cL_law 2650 = .ok (.goto 250, 3) := by decide +kernel
theorem dL_law_2653 : decode cL_law 2653 = .ok (.aload_n 1, 1) := by decide +kernel
theorem dL_law_2654 : decode cL_law 2654 = .ok (.aload_n 0, 1) := by decide +kernel
theorem dL_law_2655 : decode cL_law 2655 = .ok (.iload 4, 2) := by decide +kernel
theorem dL_law_2657 : decode cL_law 2657 = .ok (.iconst 1, 1) := by decide +kernel
theorem dL_law_2658 : decode cL_law 2658 = .ok (.iadd, 1) := by decide +kernel
theorem dL_law_2659 : decode cL_law 2659 = .ok (.iaload, 1) := by decide +kernel
theorem dL_law_2660 : decode cL_law 2660 = .ok (.aload_n 3, 1) := by decide +kernel
theorem dL_law_2661 : decode cL_law 2661 = .ok (.invokestatic 314, 3) := by decide +kernel
theorem dL_law_2664 : decode cL_law 2664 = .ok (.istore 5, 2) := by decide +kernel
theorem dL_law_2666 : decode cL_law 2666 = .ok (.aload_n 2, 1) := by decide +kernel
theorem dL_law_2667 : decode cL_law 2667 = .ok (.aload_n 0, 1) := by decide +kernel
theorem dL_law_2668 : decode cL_law 2668 = .ok (.iload 4, 2) := by decide +kernel
theorem dL_law_2670 : decode cL_law 2670 = .ok (.iconst 1, 1) := by decide +kernel
theorem dL_law_2671 : decode cL_law 2671 = .ok (.iadd, 1) := by decide +kernel
theorem dL_law_2672 : decode cL_law 2672 = .ok (.iaload, 1) := by decide +kernel
theorem dL_law_2673 : decode cL_law 2673 = .ok (.invokevirtual 316, 3) := by decide +kernel
theorem dL_law_2676 : decode cL_law 2676 = .ok (.istore 6, 2) := by decide +kernel
theorem dL_law_2678 : decode cL_law 2678 = .ok (.aload_n 2, 1) := by decide +kernel
theorem dL_law_2679 : decode cL_law 2679 = .ok (.invokevirtual 146, 3) := by decide +kernel
theorem dL_law_2682 : decode cL_law 2682 = .ok (.iload 5, 2) := by decide +kernel
theorem dL_law_2684 : decode cL_law 2684 = .ok (.if_icmp .eq 5, 3) := by decide +kernel
theorem dL_law_2687 : decode cL_law 2687 = .ok (.iconst 0, 1) := by decide +kernel
theorem dL_law_2688 : decode cL_law 2688 = .ok (.ireturn, 1) := by decide +kernel
theorem dL_law_2689 : decode cL_law 2689 = .ok (.iload 5, 2) := by decide +kernel
theorem dL_law_2691 : decode cL_law 2691 = .ok (.ifCond .ne 15, 3) := by decide +kernel
theorem dL_law_2694 : decode cL_law 2694 = .ok (.aload_n 3, 1) := by decide +kernel
theorem dL_law_2695 : decode cL_law 2695 = .ok (.iconst 0, 1) := by decide +kernel
theorem dL_law_2696 : decode cL_law 2696 = .ok (.laload, 1) := by decide +kernel
theorem dL_law_2697 : decode cL_law 2697 = .ok (.iload 6, 2) := by decide +kernel
theorem dL_law_2699 : decode cL_law 2699 = .ok (.i2l, 1) := by decide +kernel
theorem dL_law_2700 : decode cL_law 2700 = .ok (.lcmp, 1) := by decide +kernel
theorem dL_law_2701 : decode cL_law 2701 = .ok (.ifCond .eq 5, 3) := by decide +kernel
theorem dL_law_2704 : decode cL_law 2704 = .ok (.iconst 0, 1) := by decide +kernel
theorem dL_law_2705 : decode cL_law 2705 = .ok (.ireturn, 1) := by decide +kernel
theorem dL_law_2706 : decode cL_law 2706 = .ok (.goto 194, 3) := by decide +kernel
theorem dL_law_2709 : decode cL_law 2709 = .ok (.aload_n 1, 1) := by decide +kernel
theorem dL_law_2710 : decode cL_law 2710 = .ok (.aload_n 0, 1) := by decide +kernel
theorem dL_law_2711 : decode cL_law 2711 = .ok (.iload 4, 2) := by decide +kernel
theorem dL_law_2713 : decode cL_law 2713 = .ok (.iconst 1, 1) := by decide +kernel
theorem dL_law_2714 : decode cL_law 2714 = .ok (.iadd, 1) := by decide +kernel
theorem dL_law_2715 : decode cL_law 2715 = .ok (.iaload, 1) := by decide +kernel
theorem dL_law_2716 : decode cL_law 2716 = .ok (.aload_n 3, 1) := by decide +kernel
theorem dL_law_2717 : decode cL_law 2717 = .ok (.invokestatic 317, 3) := by decide +kernel
theorem dL_law_2720 : decode cL_law 2720 = .ok (.istore 5, 2) := by decide +kernel
theorem dL_law_2722 : decode cL_law 2722 = .ok (.aload_n 2, 1) := by decide +kernel
theorem dL_law_2723 : decode cL_law 2723 = .ok (.aload_n 0, 1) := by decide +kernel
theorem dL_law_2724 : decode cL_law 2724 = .ok (.iload 4, 2) := by decide +kernel
theorem dL_law_2726 : decode cL_law 2726 = .ok (.iconst 1, 1) := by decide +kernel
theorem dL_law_2727 : decode cL_law 2727 = .ok (.iadd, 1) := by decide +kernel
theorem dL_law_2728 : decode cL_law 2728 = .ok (.iaload, 1) := by decide +kernel
theorem dL_law_2729 : decode cL_law 2729 = .ok (.invokevirtual 319, 3) := by decide +kernel
theorem dL_law_2732 : decode cL_law 2732 = .ok (.istore 6, 2) := by decide +kernel
theorem dL_law_2734 : decode cL_law 2734 = .ok (.aload_n 2, 1) := by decide +kernel
theorem dL_law_2735 : decode cL_law 2735 = .ok (.invokevirtual 146, 3) := by decide +kernel
theorem dL_law_2738 : decode cL_law 2738 = .ok (.iload 5, 2) := by decide +kernel
theorem dL_law_2740 : decode cL_law 2740 = .ok (.if_icmp .eq 5, 3) := by decide +kernel
theorem dL_law_2743 : decode cL_law 2743 = .ok (.iconst 0, 1) := by decide +kernel
theorem dL_law_2744 : decode cL_law 2744 = .ok (.ireturn, 1) := by decide +kernel
theorem dL_law_2745 : decode cL_law 2745 = .ok (.iload 5, 2) := by decide +kernel
theorem dL_law_2747 : decode cL_law 2747 = .ok (.ifCond .ne 15, 3) := by decide +kernel
theorem dL_law_2750 : decode cL_law 2750 = .ok (.aload_n 3, 1) := by decide +kernel
theorem dL_law_2751 : decode cL_law 2751 = .ok (.iconst 0, 1) := by decide +kernel
theorem dL_law_2752 : decode cL_law 2752 = .ok (.laload, 1) := by decide +kernel
theorem dL_law_2753 : decode cL_law 2753 = .ok (.iload 6, 2) := by decide +kernel
theorem dL_law_2755 : decode cL_law 2755 = .ok (.i2l, 1) := by decide +kernel
theorem dL_law_2756 : decode cL_law 2756 = .ok (.lcmp, 1) := by decide +kernel
theorem dL_law_2757 : decode cL_law 2757 = .ok (.ifCond .eq 5, 3) := by decide +kernel
theorem dL_law_2760 : decode cL_law 2760 = .ok (.iconst 0, 1) := by decide +kernel
theorem dL_law_2761 : decode cL_law 2761 = .ok (.ireturn, 1) := by decide +kernel
theorem dL_law_2762 : decode cL_law 2762 = .ok (.goto 138, 3) := by decide +kernel
theorem dL_law_2765 : decode cL_law 2765 = .ok (.aload_n 1, 1) := by decide +kernel
theorem dL_law_2766 : decode cL_law 2766 = .ok (.invokevirtual 320, 3) := by decide +kernel
theorem dL_law_2769 : decode cL_law 2769 = .ok (.aload_n 2, 1) := by decide +kernel
theorem dL_law_2770 : decode cL_law 2770 = .ok (.invokevirtual 323, 3) := by decide +kernel
theorem dL_law_2773 : decode cL_law 2773 = .ok (.if_icmp .eq 127, 3) := by decide +kernel
theorem dL_law_2776 : decode cL_law 2776 = .ok (.iconst 0, 1) := by decide +kernel
theorem dL_law_2777 : decode cL_law 2777 = .ok (.ireturn, 1) := by decide +kernel
theorem dL_law_2778 : decode cL_law 2778 = .ok (.aload_n 1, 1) := by decide +kernel
theorem dL_law_2779 : decode cL_law 2779 = .ok (.invokevirtual 324, 3) := by decide +kernel
theorem dL_law_2782 : decode cL_law 2782 = .ok (.dstore 5, 2) := by decide +kernel
theorem dL_law_2784 : decode cL_law 2784 = .ok (.aload_n 2, 1) := by decide +kernel
theorem dL_law_2785 : decode cL_law 2785 = .ok (.invokevirtual 328, 3) := by decide +kernel
theorem dL_law_2788 : decode cL_law 2788 = .ok (.dstore 7, 2) := by decide +kernel
theorem dL_law_2790 : decode cL_law 2790 = .ok (.dload 5, 2) := by decide +kernel
theorem dL_law_2792 : decode cL_law 2792 = .ok (.dload 7, 2) := by decide +kernel
theorem dL_law_2794 : decode cL_law 2794 = .ok (.dcmp .l, 1) := by decide +kernel
theorem dL_law_2795 : decode cL_law 2795 = .ok (.ifCond .eq 21, 3) := by decide +kernel
theorem dL_law_2798 : decode cL_law 2798 = .ok (.dload 5, 2) := by decide +kernel
theorem dL_law_2800 : decode cL_law 2800 = .ok (.dload 5, 2) := by decide +kernel
theorem dL_law_2802 : decode cL_law 2802 = .ok (.dcmp .l, 1) := by decide +kernel
theorem dL_law_2803 : decode cL_law 2803 = .ok (.ifCond .eq 11, 3) := by decide +kernel
theorem dL_law_2806 : decode cL_law 2806 = .ok (.dload 7, 2) := by decide +kernel
theorem dL_law_2808 : decode cL_law 2808 = .ok (.dload 7, 2) := by decide +kernel
theorem dL_law_2810 : decode cL_law 2810 = .ok (.dcmp .l, 1) := by decide +kernel
theorem dL_law_2811 : decode cL_law 2811 = .ok (.ifCond .ne 5, 3) := by decide +kernel
theorem dL_law_2814 : decode cL_law 2814 = .ok (.iconst 0, 1) := by decide +kernel
theorem dL_law_2815 : decode cL_law 2815 = .ok (.ireturn, 1) := by decide +kernel
theorem dL_law_2816 : decode cL_law 2816 = .ok (.goto 84, 3) := by decide +kernel
theorem dL_law_2819 : decode cL_law 2819 = .ok (.aload_n 1, 1) := by decide +kernel
theorem dL_law_2820 : decode cL_law 2820 = .ok (.invokevirtual 329, 3) := by decide +kernel
theorem dL_law_2823 : decode cL_law 2823 = .ok (.f2d, 1) := by decide +kernel
theorem dL_law_2824 : decode cL_law 2824 = .ok (.dstore 5, 2) := by decide +kernel
theorem dL_law_2826 : decode cL_law 2826 = .ok (.aload_n 2, 1) := by decide +kernel
theorem dL_law_2827 : decode cL_law 2827 = .ok (.invokevirtual 333, 3) := by decide +kernel
theorem dL_law_2830 : decode cL_law 2830 = .ok (.f2d, 1) := by decide +kernel
theorem dL_law_2831 : decode cL_law 2831 = .ok (.dstore 7, 2) := by decide +kernel
theorem dL_law_2833 : decode cL_law 2833 = .ok (.dload 5, 2) := by decide +kernel
theorem dL_law_2835 : decode cL_law 2835 = .ok (.dload 7, 2) := by decide +kernel
theorem dL_law_2837 : decode cL_law 2837 = .ok (.dcmp .l, 1) := by decide +kernel
theorem dL_law_2838 : decode cL_law 2838 = .ok (.ifCond .eq 21, 3) := by decide +kernel
theorem dL_law_2841 : decode cL_law 2841 = .ok (.dload 5, 2) := by decide +kernel
theorem dL_law_2843 : decode cL_law 2843 = .ok (.dload 5, 2) := by decide +kernel
theorem dL_law_2845 : decode cL_law 2845 = .ok (.dcmp .l, 1) := by decide +kernel
theorem dL_law_2846 : decode cL_law 2846 = .ok (.ifCond .eq 11, 3) := by decide +kernel
theorem dL_law_2849 : decode cL_law 2849 = .ok (.dload 7, 2) := by decide +kernel
theorem dL_law_2851 : decode cL_law 2851 = .ok (.dload 7, 2) := by decide +kernel
theorem dL_law_2853 : decode cL_law 2853 = .ok (.dcmp .l, 1) := by decide +kernel
theorem dL_law_2854 : decode cL_law 2854 = .ok (.ifCond .ne 5, 3) := by decide +kernel
theorem dL_law_2857 : decode cL_law 2857 = .ok (.iconst 0, 1) := by decide +kernel
theorem dL_law_2858 : decode cL_law 2858 = .ok (.ireturn, 1) := by decide +kernel
theorem dL_law_2859 : decode cL_law 2859 = .ok (.goto 41, 3) := by decide +kernel
theorem dL_law_2862 : decode cL_law 2862 = .ok (.aload_n 1, 1) := by decide +kernel
theorem dL_law_2863 : decode cL_law 2863 = .ok (.invokevirtual 334, 3) := by decide +kernel
theorem dL_law_2866 : decode cL_law 2866 = .ok (.aload_n 2, 1) := by decide +kernel
theorem dL_law_2867 : decode cL_law 2867 = .ok (.invokevirtual 337, 3) := by decide +kernel
theorem dL_law_2870 : decode cL_law 2870 = .ok (.if_icmp .eq 30, 3) := by decide +kernel
theorem dL_law_2873 : decode cL_law 2873 = .ok (.iconst 0, 1) := by decide +kernel
theorem dL_law_2874 : decode cL_law 2874 = .ok (.ireturn, 1) := by decide +kernel
theorem dL_law_2875 : decode cL_law 2875 = .ok (.aload_n 1, 1) := by decide +kernel
theorem dL_law_2876 : decode cL_law 2876 = .ok (.aload_n 0, 1) := by decide +kernel
theorem dL_law_2877 : decode cL_law 2877 = .ok (.iload 4, 2) := by decide +kernel
theorem dL_law_2879 : decode cL_law 2879 = .ok (.iconst 1, 1) := by decide +kernel
theorem dL_law_2880 : decode cL_law 2880 = .ok (.iadd, 1) := by decide +kernel
theorem dL_law_2881 : decode cL_law 2881 = .ok (.iaload, 1) := by decide +kernel
theorem dL_law_2882 : decode cL_law 2882 = .ok (.invokevirtual 338, 3) := by decide +kernel
theorem dL_law_2885 : decode cL_law 2885 = .ok (.aload_n 2, 1) := by decide +kernel
theorem dL_law_2886 : decode cL_law 2886 = .ok (.aload_n 0, 1) := by decide +kernel
theorem dL_law_2887 : decode cL_law 2887 = .ok (.iload 4, 2) := by decide +kernel
theorem dL_law_2889 : decode cL_law 2889 = .ok (.iconst 1, 1) := by decide +kernel
theorem dL_law_2890 : decode cL_law 2890 = .ok (.iadd, 1) := by decide +kernel
theorem dL_law_2891 : decode cL_law 2891 = .ok (.iaload, 1) := by decide +kernel
theorem dL_law_2892 : decode cL_law 2892 = .ok (.invokevirtual 341, 3) := by decide +kernel
theorem dL_law_2895 : decode cL_law 2895 = .ok (.if_icmp .eq 5, 3) := by decide +kernel
theorem dL_law_2898 : decode cL_law 2898 = .ok (.iconst 0, 1) := by decide +kernel
theorem dL_law_2899 : decode cL_law 2899 = .ok (.ireturn, 1) := by decide +kernel
theorem dL_law_2900 : decode cL_law 2900 = .ok (.iinc 4 6, 3) := by decide +kernel
theorem dL_law_2903 : decode cL_law 2903 = .ok (.goto (-2880), 3) := by decide +kernel
theorem dL_law_2906 : decode cL_law 2906 = .ok (.iconst 1, 1) := by decide +kernel
theorem dL_law_2907 : decode cL_law 2907 = .ok (.ireturn, 1) := by decide +kernel
