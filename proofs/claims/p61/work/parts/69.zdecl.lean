theorem dL_truncateInput_0 : decode cL_truncateInput 0 = .ok (.aload_n 0, 1) := by decide +kernel
theorem dL_truncateInput_1 : decode cL_truncateInput 1 = .ok (.iload_n 1, 1) := by decide +kernel
theorem dL_truncateInput_2 : decode cL_truncateInput 2 = .ok (.invokevirtual 7, 3) := by decide +kernel
theorem dL_truncateInput_5 : decode cL_truncateInput 5 = .ok (.ireturn, 1) := by decide +kernel
theorem dL_truncateInput_6 : decode cL_truncateInput 6 = .ok (.astore_n 2, 1) := by decide +kernel
theorem dL_truncateInput_7 : decode cL_truncateInput 7 = .ok (.bipush (-18), 2) := by decide +kernel
theorem dL_truncateInput_9 : decode cL_truncateInput 9 = .ok (.ireturn, 1) := by decide +kernel
theorem dL_call_0 : decode cL_call 0 = .ok (.aload_n 0, 1) := by decide +kernel
theorem dL_call_1 : decode cL_call 1 = .ok (.iload_n 1, 1) := by decide +kernel
theorem dL_call_2 : decode cL_call 2 = .ok (.iload_n 2, 1) := by decide +kernel
theorem dL_call_3 : decode cL_call 3 = .ok (.iload_n 3, 1) := by decide +kernel
theorem dL_call_4 : decode cL_call 4 = .ok (.invokevirtual 15, 3) := by decide +kernel
theorem dL_call_7 : decode cL_call 7 = .ok (.ireturn, 1) := by decide +kernel
theorem dL_call_8 : decode cL_call 8 = .ok (.astore 4, 2) := by decide +kernel
theorem dL_call_10 : decode cL_call 10 = .ok (.bipush (-17), 2) := by decide +kernel
theorem dL_call_12 : decode cL_call 12 = .ok (.ireturn, 1) := by decide +kernel
theorem dL_call_13 : decode cL_call 13 = .ok (.astore 4, 2) := by decide +kernel
theorem dL_call_15 : decode cL_call 15 = .ok (.bipush (-18), 2) := by decide +kernel
theorem dL_call_17 : decode cL_call 17 = .ok (.ireturn, 1) := by decide +kernel
theorem dL_call_18 : decode cL_call 18 = .ok (.astore 4, 2) := by decide +kernel
theorem dL_call_20 : decode cL_call 20 = .ok (.bipush (-19), 2) := by decide +kernel
theorem dL_call_22 : decode cL_call 22 = .ok (.ireturn, 1) := by decide +kernel
theorem dL_callTrunk_0 : decode cL_callTrunk 0 = .ok (.aload_n 0, 1) := by decide +kernel
theorem dL_callTrunk_1 : decode cL_callTrunk 1 = .ok (.iload_n 1, 1) := by decide +kernel
theorem dL_callTrunk_2 : decode cL_callTrunk 2 = .ok (.iload_n 2, 1) := by decide +kernel
theorem dL_callTrunk_3 : decode cL_callTrunk 3 = .ok (.iload_n 3, 1) := by decide +kernel
theorem dL_callTrunk_4 : decode cL_callTrunk 4 = .ok (.invokevirtual 23, 3) := by decide +kernel
theorem dL_callTrunk_7 : decode cL_callTrunk 7 = .ok (.ireturn, 1) := by decide +kernel
theorem dL_callTrunk_8 : decode cL_callTrunk 8 = .ok (.astore 4, 2) := by decide +kernel
theorem dL_callTrunk_10 : decode cL_callTrunk 10 = .ok (.bipush (-17), 2) := by decide +kernel
theorem dL_callTrunk_12 : decode cL_callTrunk 12 = .ok (.ireturn, 1) := by decide +kernel
theorem dL_callTrunk_13 : decode cL_callTrunk 13 = .ok (.astore 4, 2) := by decide +kernel
theorem dL_callTrunk_15 : decode cL_callTrunk 15 = .ok (.bipush (-19), 2) := by decide +kernel
theorem dL_callTrunk_17 : decode cL_callTrunk 17 = .ok (.ireturn, 1) := by decide +kernel
theorem dL_end_0 : decode cL_end 0 = .ok (.aload_n 0, 1) := by decide +kernel
theorem dL_end_1 : decode cL_end 1 = .ok (.iload_n 1, 1) := by decide +kernel
theorem dL_end_2 : decode cL_end 2 = .ok (.invokevirtual 26, 3) := by decide +kernel
theorem dL_end_5 : decode cL_end 5 = .ok (.ireturn, 1) := by decide +kernel
theorem dL_end_6 : decode cL_end 6 = .ok (.astore_n 2, 1) := by decide +kernel
theorem dL_end_7 : decode cL_end 7 = .ok (.bipush (-17), 2) := by decide +kernel
theorem dL_end_9 : decode cL_end 9 = .ok (.ireturn, 1) := by decide +kernel
theorem dL_end_10 : decode cL_end 10 = .ok (.astore_n 2, 1) := by decide +kernel
theorem dL_end_11 : decode cL_end 11 = .ok (.bipush (-19), 2) := by decide +kernel
theorem dL_end_13 : decode cL_end 13 = .ok (.ireturn, 1) := by decide +kernel
theorem dL_waitFor_0 : decode cL_waitFor 0 = .ok (.aload_n 0, 1) := by decide +kernel
theorem dL_waitFor_1 : decode cL_waitFor 1 = .ok (.iload_n 1, 1) := by decide +kernel
theorem dL_waitFor_2 : decode cL_waitFor 2 = .ok (.invokevirtual 29, 3) := by decide +kernel
theorem dL_waitFor_5 : decode cL_waitFor 5 = .ok (.ireturn, 1) := by decide +kernel
theorem dL_waitFor_6 : decode cL_waitFor 6 = .ok (.astore_n 2, 1) := by decide +kernel
theorem dL_waitFor_7 : decode cL_waitFor 7 = .ok (.bipush (-18), 2) := by decide +kernel
theorem dL_waitFor_9 : decode cL_waitFor 9 = .ok (.ireturn, 1) := by decide +kernel
theorem dL_waitFor_10 : decode cL_waitFor 10 = .ok (.astore_n 2, 1) := by decide +kernel
theorem dL_waitFor_11 : decode cL_waitFor 11 = .ok (.bipush (-19), 2) := by decide +kernel
theorem dL_waitFor_13 : decode cL_waitFor 13 = .ok (.ireturn, 1) := by decide +kernel
theorem dL_setCuriosity_0 : decode cL_setCuriosity 0 = .ok (.aload_n 0, 1) := by decide +kernel
theorem dL_setCuriosity_1 : decode cL_setCuriosity 1 = .ok (.iload_n 1, 1) := by decide +kernel
theorem dL_setCuriosity_2 : decode cL_setCuriosity 2 = .ok (.iload_n 2, 1) := by decide +kernel
theorem dL_setCuriosity_3 : decode cL_setCuriosity 3 = .ok (.invokevirtual 32, 3) := by decide +kernel
theorem dL_setCuriosity_6 : decode cL_setCuriosity 6 = .ok (.ireturn, 1) := by decide +kernel
theorem dL_setCuriosity_7 : decode cL_setCuriosity 7 = .ok (.astore_n 3, 1) := by decide +kernel
theorem dL_setCuriosity_8 : decode cL_setCuriosity 8 = .ok (.bipush (-17), 2) := by decide +kernel
theorem dL_setCuriosity_10 : decode cL_setCuriosity 10 = .ok (.ireturn, 1) := by decide +kernel
theorem dL_setCuriosity_11 : decode cL_setCuriosity 11 = .ok (.astore_n 3, 1) := by decide +kernel
theorem dL_setCuriosity_12 : decode cL_setCuriosity 12 = .ok (.bipush (-18), 2) := by decide +kernel
theorem dL_setCuriosity_14 : decode cL_setCuriosity 14 = .ok (.ireturn, 1) := by decide +kernel
theorem dL_undo_0 : decode cL_undo 0 = .ok (.aload_n 0, 1) := by decide +kernel
theorem dL_undo_1 : decode cL_undo 1 = .ok (.invokevirtual 36, 3) := by decide +kernel
theorem dL_undo_4 : decode cL_undo 4 = .ok (.ireturn, 1) := by decide +kernel
theorem dL_undo_5 : decode cL_undo 5 = .ok (.astore_n 1, 1) := by decide +kernel
theorem dL_undo_6 : decode cL_undo 6 = .ok (.bipush (-19), 2) := by decide +kernel
theorem dL_undo_8 : decode cL_undo 8 = .ok (.ireturn, 1) := by decide +kernel
theorem dL_isLineBusy_0 : decode cL_isLineBusy 0 = .ok (.aload_n 0, 1) := by decide +kernel
theorem dL_isLineBusy_1 : decode cL_isLineBusy 1 = .ok (.iload_n 1, 1) := by decide +kernel
theorem dL_isLineBusy_2 : decode cL_isLineBusy 2 = .ok (.invokevirtual 40, 3) := by decide +kernel
theorem dL_isLineBusy_5 : decode cL_isLineBusy 5 = .ok (.ifCond .eq 7, 3) := by decide +kernel
theorem dL_isLineBusy_8 : decode cL_isLineBusy 8 = .ok (.iconst 1, 1) := by decide +kernel
theorem dL_isLineBusy_9 : decode cL_isLineBusy 9 = .ok (.goto 4, 3) := by decide +kernel
theorem dL_isLineBusy_12 : decode cL_isLineBusy 12 = .ok (.iconst 0, 1) := by decide +kernel
theorem dL_isLineBusy_13 : decode cL_isLineBusy 13 = .ok (.ireturn, 1) := by decide +kernel
theorem dL_isLineBusy_14 : decode cL_isLineBusy 14 = .ok (.astore_n 2, 1) := by decide +kernel
theorem dL_isLineBusy_15 : decode cL_isLineBusy 15 = .ok (.bipush (-17), 2) := by decide +kernel
theorem dL_isLineBusy_17 : decode cL_isLineBusy 17 = .ok (.ireturn, 1) := by decide +kernel
theorem dL_isTrunkBusy_0 : decode cL_isTrunkBusy 0 = .ok (.aload_n 0, 1) := by decide +kernel
theorem dL_isTrunkBusy_1 : decode cL_isTrunkBusy 1 = .ok (.iload_n 1, 1) := by decide +kernel
theorem dL_isTrunkBusy_2 : decode cL_isTrunkBusy 2 = .ok (.invokevirtual 44, 3) := by decide +kernel
theorem dL_isTrunkBusy_5 : decode cL_isTrunkBusy 5 = .ok (.ifCond .eq 7, 3) := by decide +kernel
theorem dL_isTrunkBusy_8 : decode cL_isTrunkBusy 8 = .ok (.iconst 1, 1) := by decide +kernel
theorem dL_isTrunkBusy_9 : decode cL_isTrunkBusy 9 = .ok (.goto 4, 3) := by decide +kernel
theorem dL_isTrunkBusy_12 : decode cL_isTrunkBusy 12 = .ok (.iconst 0, 1) := by decide +kernel
theorem dL_isTrunkBusy_13 : decode cL_isTrunkBusy 13 = .ok (.ireturn, 1) := by decide +kernel
theorem dL_isTrunkBusy_14 : decode cL_isTrunkBusy 14 = .ok (.astore_n 2, 1) := by decide +kernel
theorem dL_isTrunkBusy_15 : decode cL_isTrunkBusy 15 = .ok (.bipush (-17), 2) := by decide +kernel
theorem dL_isTrunkBusy_17 : decode cL_isTrunkBusy 17 = .ok (.ireturn, 1) := by decide +kernel
theorem dL_toll_0 : decode cL_toll 0 = .ok (.aload_n 0, 1) := by decide +kernel
theorem dL_toll_1 : decode cL_toll 1 = .ok (.iload_n 1, 1) := by decide +kernel
theorem dL_toll_2 : decode cL_toll 2 = .ok (.invokevirtual 47, 3) := by decide +kernel
theorem dL_toll_5 : decode cL_toll 5 = .ok (.ireturn, 1) := by decide +kernel
theorem dL_toll_6 : decode cL_toll 6 = .ok (.astore_n 2, 1) := by decide +kernel
theorem dL_toll_7 : decode cL_toll 7 = .ok (.bipush (-17), 2) := by decide +kernel
theorem dL_toll_9 : decode cL_toll 9 = .ok (.ireturn, 1) := by decide +kernel
theorem dL_lineOf_0 : decode cL_lineOf 0 = .ok (.aload_n 0, 1) := by decide +kernel
theorem dL_lineOf_1 : decode cL_lineOf 1 = .ok (.iload_n 1, 1) := by decide +kernel
theorem dL_lineOf_2 : decode cL_lineOf 2 = .ok (.invokevirtual 50, 3) := by decide +kernel
theorem dL_lineOf_5 : decode cL_lineOf 5 = .ok (.ireturn, 1) := by decide +kernel
theorem dL_lineOf_6 : decode cL_lineOf 6 = .ok (.astore_n 2, 1) := by decide +kernel
theorem dL_lineOf_7 : decode cL_lineOf 7 = .ok (.bipush (-17), 2) := by decide +kernel
theorem dL_lineOf_9 : decode cL_lineOf 9 = .ok (.ireturn, 1) := by decide +kernel
theorem dL_curiosity_0 : decode cL_curiosity 0 = .ok (.aload_n 0, 1) := by decide +kernel
theorem dL_curiosity_1 : decode cL_curiosity 1 = .ok (.iload_n 1, 1) := by decide +kernel
theorem dL_curiosity_2 : decode cL_curiosity 2 = .ok (.invokevirtual 53, 3) := by decide +kernel
theorem dL_curiosity_5 : decode cL_curiosity 5 = .ok (.ireturn, 1) := by decide +kernel
theorem dL_curiosity_6 : decode cL_curiosity 6 = .ok (.astore_n 2, 1) := by decide +kernel
theorem dL_curiosity_7 : decode cL_curiosity 7 = .ok (.bipush (-17), 2) := by decide +kernel
theorem dL_curiosity_9 : decode cL_curiosity 9 = .ok (.ireturn, 1) := by decide +kernel
theorem dL_bill_0 : decode cL_bill 0 = .ok (.aload_n 0, 1) := by decide +kernel
theorem dL_bill_1 : decode cL_bill 1 = .ok (.iload_n 1, 1) := by decide +kernel
theorem dL_bill_2 : decode cL_bill 2 = .ok (.invokevirtual 56, 3) := by decide +kernel
theorem dL_bill_5 : decode cL_bill 5 = .ok (.ireturn, 1) := by decide +kernel
theorem dL_bill_6 : decode cL_bill 6 = .ok (.astore_n 2, 1) := by decide +kernel
theorem dL_bill_7 : decode cL_bill 7 = .ok (.bipush (-17), 2) := by decide +kernel
theorem dL_bill_9 : decode cL_bill 9 = .ok (.ireturn, 1) := by decide +kernel
theorem dL_secretsKnown_0 : decode cL_secretsKnown 0 = .ok (.aload_n 0, 1) := by decide +kernel
theorem dL_secretsKnown_1 : decode cL_secretsKnown 1 = .ok (.iload_n 1, 1) := by decide +kernel
theorem dL_secretsKnown_2 : decode cL_secretsKnown 2 = .ok (.invokevirtual 59, 3) := by decide +kernel
theorem dL_secretsKnown_5 : decode cL_secretsKnown 5 = .ok (.ireturn, 1) := by decide +kernel
theorem dL_secretsKnown_6 : decode cL_secretsKnown 6 = .ok (.astore_n 2, 1) := by decide +kernel
theorem dL_secretsKnown_7 : decode cL_secretsKnown 7 = .ok (.bipush (-17), 2) := by decide +kernel
theorem dL_secretsKnown_9 : decode cL_secretsKnown 9 = .ok (.ireturn, 1) := by decide +kernel
theorem dL_knowers_0 : decode cL_knowers 0 = .ok (.aload_n 0, 1) := by decide +kernel
theorem dL_knowers_1 : decode cL_knowers 1 = .ok (.iload_n 1, 1) := by decide +kernel
theorem dL_knowers_2 : decode cL_knowers 2 = .ok (.invokevirtual 62, 3) := by decide +kernel
theorem dL_knowers_5 : decode cL_knowers 5 = .ok (.ireturn, 1) := by decide +kernel
theorem dL_knowers_6 : decode cL_knowers 6 = .ok (.astore_n 2, 1) := by decide +kernel
theorem dL_knowers_7 : decode cL_knowers 7 = .ok (.bipush (-17), 2) := by decide +kernel
theorem dL_knowers_9 : decode cL_knowers 9 = .ok (.ireturn, 1) := by decide +kernel
theorem dL_callState_0 : decode cL_callState 0 = .ok (.aload_n 0, 1) := by decide +kernel
theorem dL_callState_1 : decode cL_callState 1 = .ok (.iload_n 1, 1) := by decide +kernel
theorem dL_callState_2 : decode cL_callState 2 = .ok (.invokevirtual 65, 3) := by decide +kernel
theorem dL_callState_5 : decode cL_callState 5 = .ok (.ireturn, 1) := by decide +kernel
theorem dL_callState_6 : decode cL_callState 6 = .ok (.astore_n 2, 1) := by decide +kernel
theorem dL_callState_7 : decode cL_callState 7 = .ok (.bipush (-17), 2) := by decide +kernel
theorem dL_callState_9 : decode cL_callState 9 = .ok (.ireturn, 1) := by decide +kernel
theorem dL_callerOf_0 : decode cL_callerOf 0 = .ok (.aload_n 0, 1) := by decide +kernel
theorem dL_callerOf_1 : decode cL_callerOf 1 = .ok (.iload_n 1, 1) := by decide +kernel
theorem dL_callerOf_2 : decode cL_callerOf 2 = .ok (.invokevirtual 68, 3) := by decide +kernel
theorem dL_callerOf_5 : decode cL_callerOf 5 = .ok (.ireturn, 1) := by decide +kernel
theorem dL_callerOf_6 : decode cL_callerOf 6 = .ok (.astore_n 2, 1) := by decide +kernel
theorem dL_callerOf_7 : decode cL_callerOf 7 = .ok (.bipush (-17), 2) := by decide +kernel
theorem dL_callerOf_9 : decode cL_callerOf 9 = .ok (.ireturn, 1) := by decide +kernel
theorem dL_calledSubscriber_0 : decode cL_calledSubscriber 0 = .ok (.aload_n 0, 1) := by decide +kernel
theorem dL_calledSubscriber_1 : decode cL_calledSubscriber 1 = .ok (.iload_n 1, 1) := by decide +kernel
theorem dL_calledSubscriber_2 : decode cL_calledSubscriber 2 = .ok (.invokevirtual 71, 3) := by decide +kernel
theorem dL_calledSubscriber_5 : decode cL_calledSubscriber 5 = .ok (.ireturn, 1) := by decide +kernel
theorem dL_calledSubscriber_6 : decode cL_calledSubscriber 6 = .ok (.astore_n 2, 1) := by decide +kernel
theorem dL_calledSubscriber_7 : decode cL_calledSubscriber 7 = .ok (.bipush (-17), 2) := by decide +kernel
theorem dL_calledSubscriber_9 : decode cL_calledSubscriber 9 = .ok (.ireturn, 1) := by decide +kernel
theorem dL_calledTrunk_0 : decode cL_calledTrunk 0 = .ok (.aload_n 0, 1) := by decide +kernel
theorem dL_calledTrunk_1 : decode cL_calledTrunk 1 = .ok (.iload_n 1, 1) := by decide +kernel
theorem dL_calledTrunk_2 : decode cL_calledTrunk 2 = .ok (.invokevirtual 74, 3) := by decide +kernel
theorem dL_calledTrunk_5 : decode cL_calledTrunk 5 = .ok (.ireturn, 1) := by decide +kernel
theorem dL_calledTrunk_6 : decode cL_calledTrunk 6 = .ok (.astore_n 2, 1) := by decide +kernel
theorem dL_calledTrunk_7 : decode cL_calledTrunk 7 = .ok (.bipush (-17), 2) := by decide +kernel
theorem dL_calledTrunk_9 : decode cL_calledTrunk 9 = .ok (.ireturn, 1) := by decide +kernel
theorem dL_startTime_0 : decode cL_startTime 0 = .ok (.aload_n 0, 1) := by decide +kernel
theorem dL_startTime_1 : decode cL_startTime 1 = .ok (.iload_n 1, 1) := by decide +kernel
theorem dL_startTime_2 : decode cL_startTime 2 = .ok (.invokevirtual 77, 3) := by decide +kernel
theorem dL_startTime_5 : decode cL_startTime 5 = .ok (.ireturn, 1) := by decide +kernel
theorem dL_startTime_6 : decode cL_startTime 6 = .ok (.astore_n 2, 1) := by decide +kernel
theorem dL_startTime_7 : decode cL_startTime 7 = .ok (.bipush (-17), 2) := by decide +kernel
theorem dL_startTime_9 : decode cL_startTime 9 = .ok (.ireturn, 1) := by decide +kernel
theorem dL_endTime_0 : decode cL_endTime 0 = .ok (.aload_n 0, 1) := by decide +kernel
theorem dL_endTime_1 : decode cL_endTime 1 = .ok (.iload_n 1, 1) := by decide +kernel
theorem dL_endTime_2 : decode cL_endTime 2 = .ok (.invokevirtual 80, 3) := by decide +kernel
theorem dL_endTime_5 : decode cL_endTime 5 = .ok (.ireturn, 1) := by decide +kernel
theorem dL_endTime_6 : decode cL_endTime 6 = .ok (.astore_n 2, 1) := by decide +kernel
theorem dL_endTime_7 : decode cL_endTime 7 = .ok (.bipush (-17), 2) := by decide +kernel
theorem dL_endTime_9 : decode cL_endTime 9 = .ok (.ireturn, 1) := by decide +kernel
theorem dL_listeners_0 : decode cL_listeners 0 = .ok (.aload_n 0, 1) := by decide +kernel
theorem dL_listeners_1 : decode cL_listeners 1 = .ok (.iload_n 1, 1) := by decide +kernel
theorem dL_listeners_2 : decode cL_listeners 2 = .ok (.invokevirtual 83, 3) := by decide +kernel
theorem dL_listeners_5 : decode cL_listeners 5 = .ok (.ireturn, 1) := by decide +kernel
theorem dL_listeners_6 : decode cL_listeners 6 = .ok (.astore_n 2, 1) := by decide +kernel
theorem dL_listeners_7 : decode cL_listeners 7 = .ok (.bipush (-17), 2) := by decide +kernel
theorem dL_listeners_9 : decode cL_listeners 9 = .ok (.ireturn, 1) := by decide +kernel
theorem dL_volume_0 : decode cL_volume 0 = .ok (.aload_n 0, 1) := by decide +kernel
theorem dL_volume_1 : decode cL_volume 1 = .ok (.iload_n 1, 1) := by decide +kernel
theorem dL_volume_2 : decode cL_volume 2 = .ok (.invokevirtual 86, 3) := by decide +kernel
theorem dL_volume_5 : decode cL_volume 5 = .ok (.ireturn, 1) := by decide +kernel
theorem dL_volume_6 : decode cL_volume 6 = .ok (.astore_n 2, 1) := by decide +kernel
theorem dL_volume_7 : decode cL_volume 7 = .ok (.bipush (-17), 2) := by decide +kernel
theorem dL_volume_9 : decode cL_volume 9 = .ok (.ireturn, 1) := by decide +kernel
theorem dL_charge_0 : decode cL_charge 0 = .ok (.aload_n 0, 1) := by decide +kernel
theorem dL_charge_1 : decode cL_charge 1 = .ok (.iload_n 1, 1) := by decide +kernel
theorem dL_charge_2 : decode cL_charge 2 = .ok (.invokevirtual 89, 3) := by decide +kernel
theorem dL_charge_5 : decode cL_charge 5 = .ok (.ireturn, 1) := by decide +kernel
theorem dL_charge_6 : decode cL_charge 6 = .ok (.astore_n 2, 1) := by decide +kernel
theorem dL_charge_7 : decode cL_charge 7 = .ok (.bipush (-17), 2) := by decide +kernel
theorem dL_charge_9 : decode cL_charge 9 = .ok (.ireturn, 1) := by decide +kernel
theorem dL_obstacle_0 : decode cL_obstacle 0 = .ok (.aload_n 0, 1) := by decide +kernel
theorem dL_obstacle_1 : decode cL_obstacle 1 = .ok (.iload_n 1, 1) := by decide +kernel
theorem dL_obstacle_2 : decode cL_obstacle 2 = .ok (.invokevirtual 92, 3) := by decide +kernel
theorem dL_obstacle_5 : decode cL_obstacle 5 = .ok (.ireturn, 1) := by decide +kernel
theorem dL_obstacle_6 : decode cL_obstacle 6 = .ok (.astore_n 2, 1) := by decide +kernel
theorem dL_obstacle_7 : decode cL_obstacle 7 = .ok (.bipush (-17), 2) := by decide +kernel
theorem dL_obstacle_9 : decode cL_obstacle 9 = .ok (.ireturn, 1) := by decide +kernel
theorem dL_queuePlace_0 : decode cL_queuePlace 0 = .ok (.aload_n 0, 1) := by decide +kernel
theorem dL_queuePlace_1 : decode cL_queuePlace 1 = .ok (.iload_n 1, 1) := by decide +kernel
theorem dL_queuePlace_2 : decode cL_queuePlace 2 = .ok (.invokevirtual 95, 3) := by decide +kernel
theorem dL_queuePlace_5 : decode cL_queuePlace 5 = .ok (.ireturn, 1) := by decide +kernel
theorem dL_queuePlace_6 : decode cL_queuePlace 6 = .ok (.astore_n 2, 1) := by decide +kernel
theorem dL_queuePlace_7 : decode cL_queuePlace 7 = .ok (.bipush (-17), 2) := by decide +kernel
theorem dL_queuePlace_9 : decode cL_queuePlace 9 = .ok (.ireturn, 1) := by decide +kernel
theorem dL_startsIfEnded_0 : decode cL_startsIfEnded 0 = .ok (.aload_n 0, 1) := by decide +kernel
theorem dL_startsIfEnded_1 : decode cL_startsIfEnded 1 = .ok (.iload_n 1, 1) := by decide +kernel
theorem dL_startsIfEnded_2 : decode cL_startsIfEnded 2 = .ok (.invokevirtual 98, 3) := by decide +kernel
theorem dL_startsIfEnded_5 : decode cL_startsIfEnded 5 = .ok (.ireturn, 1) := by decide +kernel
theorem dL_startsIfEnded_6 : decode cL_startsIfEnded 6 = .ok (.astore_n 2, 1) := by decide +kernel
theorem dL_startsIfEnded_7 : decode cL_startsIfEnded 7 = .ok (.bipush (-17), 2) := by decide +kernel
theorem dL_startsIfEnded_9 : decode cL_startsIfEnded 9 = .ok (.ireturn, 1) := by decide +kernel
theorem dL_listenersBetween_0 : decode cL_listenersBetween 0 = .ok (.aload_n 0, 1) := by decide +kernel
theorem dL_listenersBetween_1 : decode cL_listenersBetween 1 = .ok (.iload_n 1, 1) := by decide +kernel
theorem dL_listenersBetween_2 : decode cL_listenersBetween 2 = .ok (.iload_n 2, 1) := by decide +kernel
theorem dL_listenersBetween_3 : decode cL_listenersBetween 3 = .ok (.invokevirtual 101, 3) := by decide +kernel
theorem dL_listenersBetween_6 : decode cL_listenersBetween 6 = .ok (.ireturn, 1) := by decide +kernel
theorem dL_listenersBetween_7 : decode cL_listenersBetween 7 = .ok (.astore_n 3, 1) := by decide +kernel
theorem dL_listenersBetween_8 : decode cL_listenersBetween 8 = .ok (.bipush (-17), 2) := by decide +kernel
theorem dL_listenersBetween_10 : decode cL_listenersBetween 10 = .ok (.ireturn, 1) := by decide +kernel
theorem dL_listenersBetween_11 : decode cL_listenersBetween 11 = .ok (.astore_n 3, 1) := by decide +kernel
theorem dL_listenersBetween_12 : decode cL_listenersBetween 12 = .ok (.bipush (-18), 2) := by decide +kernel
theorem dL_listenersBetween_14 : decode cL_listenersBetween 14 = .ok (.ireturn, 1) := by decide +kernel
theorem dL_word_0 : decode cL_word 0 = .ok (.iconst 0, 1) := by decide +kernel
theorem dL_word_1 : decode cL_word 1 = .ok (.istore_n 2, 1) := by decide +kernel
theorem dL_word_2 : decode cL_word 2 = .ok (.iload_n 1, 1) := by decide +kernel
theorem dL_word_3 : decode cL_word 3 = .ok (.istore_n 3, 1) := by decide +kernel
theorem dL_word_4 : decode cL_word 4 = .ok (.iload_n 3, 1) := by decide +kernel
theorem dL_word_5 : decode cL_word 5 = .ok (.iload_n 1, 1) := by decide +kernel
theorem dL_word_6 : decode cL_word 6 = .ok (.iconst 4, 1) := by decide +kernel
theorem dL_word_7 : decode cL_word 7 = .ok (.iadd, 1) := by decide +kernel
theorem dL_word_8 : decode cL_word 8 = .ok (.if_icmp .ge 32, 3) := by decide +kernel
theorem dL_word_11 : decode cL_word 11 = .ok (.iload_n 2, 1) := by decide +kernel
theorem dL_word_12 : decode cL_word 12 = .ok (.bipush 8, 2) := by decide +kernel
theorem dL_word_14 : decode cL_word 14 = .ok (.ishl, 1) := by decide +kernel
theorem dL_word_15 : decode cL_word 15 = .ok (.iload_n 3, 1) := by decide +kernel
theorem dL_word_16 : decode cL_word 16 = .ok (.aload_n 0, 1) := by decide +kernel
theorem dL_word_17 : decode cL_word 17 = .ok (.invokevirtual 104, 3) := by decide +kernel
theorem dL_word_20 : decode cL_word 20 = .ok (.if_icmp .ge 11, 3) := by decide +kernel
theorem dL_word_23 : decode cL_word 23 = .ok (.aload_n 0, 1) := by decide +kernel
theorem dL_word_24 : decode cL_word 24 = .ok (.iload_n 3, 1) := by decide +kernel
theorem dL_word_25 : decode cL_word 25 = .ok (.invokevirtual 109, 3) := by decide +kernel
theorem dL_word_28 : decode cL_word 28 = .ok (.goto 4, 3) := by decide +kernel
theorem dL_word_31 : decode cL_word 31 = .ok (.iconst 0, 1) := by decide +kernel
theorem dL_word_32 : decode cL_word 32 = .ok (.ior, 1) := by decide +kernel
theorem dL_word_33 : decode cL_word 33 = .ok (.istore_n 2, 1) := by decide +kernel
theorem dL_word_34 : decode cL_word 34 = .ok (.iinc 3 1, 3) := by decide +kernel
theorem dL_word_37 : decode cL_word 37 = .ok (.goto (-33), 3) := by decide +kernel
theorem dL_word_40 : decode cL_word 40 = .ok (.iload_n 2, 1) := by decide +kernel
theorem dL_word_41 : decode cL_word 41 = .ok (.ireturn, 1) := by decide +kernel
theorem dL_write_0 : decode cL_write 0 = .ok (.aload_n 0, 1) := by decide +kernel
theorem dL_write_1 : decode cL_write 1 = .ok (.iconst 0, 1) := by decide +kernel
theorem dL_write_2 : decode cL_write 2 = .ok (.invokestatic 113, 3) := by decide +kernel
theorem dL_write_5 : decode cL_write 5 = .ok (.ifCond .eq 5, 3) := by decide +kernel
theorem dL_write_8 : decode cL_write 8 = .ok (.iconst 0, 1) := by decide +kernel
theorem dL_write_9 : decode cL_write 9 = .ok (.ireturn, 1) := by decide +kernel
theorem dL_write_10 : decode cL_write 10 = .ok (.iconst 0, 1) := by decide +kernel
theorem dL_write_11 : decode cL_write 11 = .ok (.istore_n 2, 1) := by decide +kernel
theorem dL_write_12 : decode cL_write 12 = .ok (.iload_n 2, 1) := by decide +kernel
theorem dL_write_13 : decode cL_write 13 = .ok (.aload_n 1, 1) := by decide +kernel
theorem dL_write_14 : decode cL_write 14 = .ok (.invokevirtual 104, 3) := by decide +kernel
theorem dL_write_17 : decode cL_write 17 = .ok (.if_icmp .ge 58, 3) := by decide +kernel
theorem dL_write_20 : decode cL_write 20 = .ok (.aload_n 0, 1) := by decide +kernel
theorem dL_write_21 : decode cL_write 21 = .ok (.aload_n 1, 1) := by decide +kernel
theorem dL_write_22 : decode cL_write 22 = .ok (.iload_n 2, 1) := by decide +kernel
theorem dL_write_23 : decode cL_write 23 = .ok (.invokestatic 118, 3) := by decide +kernel
theorem dL_write_26 : decode cL_write 26 = .ok (.aload_n 1, 1) := by decide +kernel
theorem dL_write_27 : decode cL_write 27 = .ok (.iload_n 2, 1) := by decide +kernel
theorem dL_write_28 : decode cL_write 28 = .ok (.iconst 4, 1) := by decide +kernel
theorem dL_write_29 : decode cL_write 29 = .ok (.iadd, 1) := by decide +kernel
theorem dL_write_30 : decode cL_write 30 = .ok (.invokestatic 118, 3) := by decide +kernel
theorem dL_write_33 : decode cL_write 33 = .ok (.aload_n 1, 1) := by decide +kernel
theorem dL_write_34 : decode cL_write 34 = .ok (.iload_n 2, 1) := by decide +kernel
theorem dL_write_35 : decode cL_write 35 = .ok (.bipush 8, 2) := by decide +kernel
theorem dL_write_37 : decode cL_write 37 = .ok (.iadd, 1) := by decide +kernel
theorem dL_write_38 : decode cL_write 38 = .ok (.invokestatic 118, 3) := by decide +kernel
theorem dL_write_41 : decode cL_write 41 = .ok (.aload_n 1, 1) := by decide +kernel
theorem dL_write_42 : decode cL_write 42 = .ok (.iload_n 2, 1) := by decide +kernel
theorem dL_write_43 : decode cL_write 43 = .ok (.bipush 12, 2) := by decide +kernel
theorem dL_write_45 : decode cL_write 45 = .ok (.iadd, 1) := by decide +kernel
theorem dL_write_46 : decode cL_write 46 = .ok (.invokestatic 118, 3) := by decide +kernel
theorem dL_write_49 : decode cL_write 49 = .ok (.aload_n 1, 1) := by decide +kernel
theorem dL_write_50 : decode cL_write 50 = .ok (.iload_n 2, 1) := by decide +kernel
theorem dL_write_51 : decode cL_write 51 = .ok (.bipush 16, 2) := by decide +kernel
theorem dL_write_53 : decode cL_write 53 = .ok (.iadd, 1) := by decide +kernel
theorem dL_write_54 : decode cL_write 54 = .ok (.invokestatic 118, 3) := by decide +kernel
theorem dL_write_57 : decode cL_write 57 = .ok (.invokevirtual 122, 3) := by decide +kernel
theorem dL_write_60 : decode cL_write 60 = .ok (.iload_n 2, 1) := by decide +kernel
theorem dL_write_61 : decode cL_write 61 = .ok (.bipush 20, 2) := by decide +kernel
theorem dL_write_63 : decode cL_write 63 = .ok (.iadd, 1) := by decide +kernel
theorem dL_write_64 : decode cL_write 64 = .ok (.if_icmp .eq 5, 3) := by decide +kernel
theorem dL_write_67 : decode cL_write 67 = .ok (.iconst 0, 1) := by decide +kernel
theorem dL_write_68 : decode cL_write 68 = .ok (.ireturn, 1) := by decide +kernel
theorem dL_write_69 : decode cL_write 69 = .ok (.iinc 2 20, 3) := by decide +kernel
theorem dL_write_72 : decode cL_write 72 = .ok (.goto (-60), 3) := by decide +kernel
theorem dL_write_75 : decode cL_write 75 = .ok (.aload_n 0, 1) := by decide +kernel
theorem dL_write_76 : decode cL_write 76 = .ok (.aload_n 1, 1) := by decide +kernel
theorem dL_write_77 : decode cL_write 77 = .ok (.invokevirtual 104, 3) := by decide +kernel
theorem dL_write_80 : decode cL_write 80 = .ok (.invokestatic 113, 3) := by decide +kernel
theorem dL_write_83 : decode cL_write 83 = .ok (.aload_n 1, 1) := by decide +kernel
theorem dL_write_84 : decode cL_write 84 = .ok (.invokevirtual 104, 3) := by decide +kernel
theorem dL_write_87 : decode cL_write 87 = .ok (.if_icmp .ne 7, 3) := by decide +kernel
theorem dL_write_90 : decode cL_write 90 = .ok (.iconst 1, 1) := by decide +kernel
theorem dL_write_91 : decode cL_write 91 = .ok (.goto 4, 3) := by decide +kernel
theorem dL_write_94 : decode cL_write 94 = .ok (.iconst 0, 1) := by decide +kernel
theorem dL_write_95 : decode cL_write 95 = .ok (.ireturn, 1) := by decide +kernel
theorem dL_draw_0 : decode cL_draw 0 = .ok (.aload_n 0, 1) := by decide +kernel
theorem dL_draw_1 : decode cL_draw 1 = .ok (.iconst 0, 1) := by decide +kernel
theorem dL_draw_2 : decode cL_draw 2 = .ok (.aload_n 0, 1) := by decide +kernel
theorem dL_draw_3 : decode cL_draw 3 = .ok (.iconst 0, 1) := by decide +kernel
theorem dL_draw_4 : decode cL_draw 4 = .ok (.iaload, 1) := by decide +kernel
theorem dL_draw_5 : decode cL_draw 5 = .ok (.ldc 126, 2) := by decide +kernel
theorem dL_draw_7 : decode cL_draw 7 = .ok (.imul, 1) := by decide +kernel
theorem dL_draw_8 : decode cL_draw 8 = .ok (.sipush 12345, 3) := by decide +kernel
theorem dL_draw_11 : decode cL_draw 11 = .ok (.iadd, 1) := by decide +kernel
theorem dL_draw_12 : decode cL_draw 12 = .ok (.iastore, 1) := by decide +kernel
theorem dL_draw_13 : decode cL_draw 13 = .ok (.aload_n 0, 1) := by decide +kernel
theorem dL_draw_14 : decode cL_draw 14 = .ok (.iconst 0, 1) := by decide +kernel
theorem dL_draw_15 : decode cL_draw 15 = .ok (.iaload, 1) := by decide +kernel
theorem dL_draw_16 : decode cL_draw 16 = .ok (.bipush 8, 2) := by decide +kernel
theorem dL_draw_18 : decode cL_draw 18 = .ok (.iushr, 1) := by decide +kernel
theorem dL_draw_19 : decode cL_draw 19 = .ok (.iload_n 1, 1) := by decide +kernel
theorem dL_draw_20 : decode cL_draw 20 = .ok (.irem, 1) := by decide +kernel
theorem dL_draw_21 : decode cL_draw 21 = .ok (.ireturn, 1) := by decide +kernel
theorem dL_ones_0 : decode cL_ones 0 = .ok (.iconst 0, 1) := by decide +kernel
theorem dL_ones_1 : decode cL_ones 1 = .ok (.istore_n 1, 1) := by decide +kernel
theorem dL_ones_2 : decode cL_ones 2 = .ok (.iconst 0, 1) := by decide +kernel
theorem dL_ones_3 : decode cL_ones 3 = .ok (.istore_n 2, 1) := by decide +kernel
theorem dL_ones_4 : decode cL_ones 4 = .ok (.iload_n 2, 1) := by decide +kernel
theorem dL_ones_5 : decode cL_ones 5 = .ok (.bipush 31, 2) := by decide +kernel
theorem dL_ones_7 : decode cL_ones 7 = .ok (.if_icmp .ge 17, 3) := by decide +kernel
theorem dL_ones_10 : decode cL_ones 10 = .ok (.iload_n 1, 1) := by decide +kernel
theorem dL_ones_11 : decode cL_ones 11 = .ok (.iload_n 0, 1) := by decide +kernel
theorem dL_ones_12 : decode cL_ones 12 = .ok (.iload_n 2, 1) := by decide +kernel
theorem dL_ones_13 : decode cL_ones 13 = .ok (.ishr, 1) := by decide +kernel
theorem dL_ones_14 : decode cL_ones 14 = .ok (.iconst 1, 1) := by decide +kernel
theorem dL_ones_15 : decode cL_ones 15 = .ok (.iand, 1) := by decide +kernel
theorem dL_ones_16 : decode cL_ones 16 = .ok (.iadd, 1) := by decide +kernel
theorem dL_ones_17 : decode cL_ones 17 = .ok (.istore_n 1, 1) := by decide +kernel
theorem dL_ones_18 : decode cL_ones 18 = .ok (.iinc 2 1, 3) := by decide +kernel
theorem dL_ones_21 : decode cL_ones 21 = .ok (.goto (-17), 3) := by decide +kernel
theorem dL_ones_24 : decode cL_ones 24 = .ok (.iload_n 1, 1) := by decide +kernel
theorem dL_ones_25 : decode cL_ones 25 = .ok (.ireturn, 1) := by decide +kernel
theorem dL_isSound_0 : decode cL_isSound 0 = .ok (.bipush 6, 2) := by decide +kernel
theorem dL_isSound_2 : decode cL_isSound 2 = .ok (.newarray .int, 2) := by decide +kernel
theorem dL_isSound_4 : decode cL_isSound 4 = .ok (.astore_n 1, 1) := by decide +kernel
theorem dL_isSound_5 : decode cL_isSound 5 = .ok (.iconst 4, 1) := by decide +kernel
theorem dL_isSound_6 : decode cL_isSound 6 = .ok (.newarray .int, 2) := by decide +kernel
theorem dL_isSound_8 : decode cL_isSound 8 = .ok (.astore_n 2, 1) := by decide +kernel
theorem dL_isSound_9 : decode cL_isSound 9 = .ok (.iconst 0, 1) := by decide +kernel
theorem dL_isSound_10 : decode cL_isSound 10 = .ok (.istore_n 3, 1) := by decide +kernel
theorem dL_isSound_11 : decode cL_isSound 11 = .ok (.iconst 0, 1) := by decide +kernel
theorem dL_isSound_12 : decode cL_isSound 12 = .ok (.istore 4, 2) := by decide +kernel
theorem dL_isSound_14 : decode cL_isSound 14 = .ok (.iconst 0, 1) := by decide +kernel
theorem dL_isSound_15 : decode cL_isSound 15 = .ok (.istore 5, 2) := by decide +kernel
theorem dL_isSound_17 : decode cL_isSound 17 = .ok (.iconst 0, 1) := by decide +kernel
theorem dL_isSound_18 : decode cL_isSound 18 = .ok (.istore 6, 2) := by decide +kernel
theorem dL_isSound_20 : decode cL_isSound 20 = .ok (.aload_n 0, 1) := by decide +kernel
theorem dL_isSound_21 : decode cL_isSound 21 = .ok (.invokevirtual 127, 3) := by decide +kernel
theorem dL_isSound_24 : decode cL_isSound 24 = .ok (.istore 7, 2) := by decide +kernel
theorem dL_isSound_26 : decode cL_isSound 26 = .ok (.iconst 0, 1) := by decide +kernel
theorem dL_isSound_27 : decode cL_isSound 27 = .ok (.istore 8, 2) := by decide +kernel
theorem dL_isSound_29 : decode cL_isSound 29 = .ok (.iload 8, 2) := by decide +kernel
theorem dL_isSound_31 : decode cL_isSound 31 = .ok (.aload_n 0, 1) := by decide +kernel
theorem dL_isSound_32 : decode cL_isSound 32 = .ok (.invokevirtual 130, 3) := by decide +kernel
theorem dL_isSound_35 : decode cL_isSound 35 = .ok (.if_icmp .ge 517, 3) := by decide +kernel
theorem dL_isSound_38 : decode cL_isSound 38 = .ok (.aload_n 0, 1) := by decide +kernel
theorem dL_isSound_39 : decode cL_isSound 39 = .ok (.iload 8, 2) := by decide +kernel
theorem dL_isSound_41 : decode cL_isSound 41 = .ok (.invokestatic 133, 3) := by decide +kernel
theorem dL_isSound_44 : decode cL_isSound 44 = .ok (.istore 9, 2) := by decide +kernel
theorem dL_isSound_46 : decode cL_isSound 46 = .ok (.aload_n 0, 1) := by decide +kernel
theorem dL_isSound_47 : decode cL_isSound 47 = .ok (.iload 8, 2) := by decide +kernel
theorem dL_isSound_49 : decode cL_isSound 49 = .ok (.invokestatic 135, 3) := by decide +kernel
theorem dL_isSound_52 : decode cL_isSound 52 = .ok (.istore 10, 2) := by decide +kernel
theorem dL_isSound_54 : decode cL_isSound 54 = .ok (.aload_n 0, 1) := by decide +kernel
theorem dL_isSound_55 : decode cL_isSound 55 = .ok (.iload 8, 2) := by decide +kernel
theorem dL_isSound_57 : decode cL_isSound 57 = .ok (.invokestatic 137, 3) := by decide +kernel
theorem dL_isSound_60 : decode cL_isSound 60 = .ok (.istore 11, 2) := by decide +kernel
theorem dL_isSound_62 : decode cL_isSound 62 = .ok (.aload_n 0, 1) := by decide +kernel
theorem dL_isSound_63 : decode cL_isSound 63 = .ok (.iload 8, 2) := by decide +kernel
theorem dL_isSound_65 : decode cL_isSound 65 = .ok (.invokestatic 139, 3) := by decide +kernel
theorem dL_isSound_68 : decode cL_isSound 68 = .ok (.istore 12, 2) := by decide +kernel
theorem dL_isSound_70 : decode cL_isSound 70 = .ok (.iload 10, 2) := by decide +kernel
theorem dL_isSound_72 : decode cL_isSound 72 = .ok (.iconst (-1), 1) := by decide +kernel
theorem dL_isSound_73 : decode cL_isSound 73 = .ok (.if_icmp .ne 7, 3) := by decide +kernel
theorem dL_isSound_76 : decode cL_isSound 76 = .ok (.iconst 1, 1) := by decide +kernel
theorem dL_isSound_77 : decode cL_isSound 77 = .ok (.goto 4, 3) := by decide +kernel
theorem dL_isSound_80 : decode cL_isSound 80 = .ok (.iconst 0, 1) := by decide +kernel
theorem dL_isSound_81 : decode cL_isSound 81 = .ok (.iload 12, 2) := by decide +kernel
theorem dL_isSound_83 : decode cL_isSound 83 = .ok (.iconst (-1), 1) := by decide +kernel
theorem dL_isSound_84 : decode cL_isSound 84 = .ok (.if_icmp .ne 7, 3) := by decide +kernel
theorem dL_isSound_87 : decode cL_isSound 87 = .ok (.iconst 1, 1) := by decide +kernel
theorem dL_isSound_88 : decode cL_isSound 88 = .ok (.goto 4, 3) := by decide +kernel
theorem dL_isSound_91 : decode cL_isSound 91 = .ok (.iconst 0, 1) := by decide +kernel
theorem dL_isSound_92 : decode cL_isSound 92 = .ok (.if_icmp .eq 66, 3) := by decide +kernel
theorem dL_isSound_95 : decode cL_isSound 95 = .ok (.aload_n 0, 1) := by decide +kernel
theorem dL_isSound_96 : decode cL_isSound 96 = .ok (.iload 8, 2) := by decide +kernel
theorem dL_isSound_98 : decode cL_isSound 98 = .ok (.invokestatic 141, 3) := by decide +kernel
theorem dL_isSound_101 : decode cL_isSound 101 = .ok (.iconst (-1), 1) := by decide +kernel
theorem dL_isSound_102 : decode cL_isSound 102 = .ok (.if_icmp .ne 7, 3) := by decide +kernel
theorem dL_isSound_105 : decode cL_isSound 105 = .ok (.iconst 1, 1) := by decide +kernel
theorem dL_isSound_106 : decode cL_isSound 106 = .ok (.goto 4, 3) := by decide +kernel
theorem dL_isSound_109 : decode cL_isSound 109 = .ok (.iconst 0, 1) := by decide +kernel
theorem dL_isSound_110 : decode cL_isSound 110 = .ok (.iload 9, 2) := by decide +kernel
theorem dL_isSound_112 : decode cL_isSound 112 = .ok (.ifCond .eq 9, 3) := by decide +kernel
theorem dL_isSound_115 : decode cL_isSound 115 = .ok (.iload 9, 2) := by decide +kernel
theorem dL_isSound_117 : decode cL_isSound 117 = .ok (.iconst 3, 1) := by decide +kernel
theorem dL_isSound_118 : decode cL_isSound 118 = .ok (.if_icmp .ne 7, 3) := by decide +kernel
theorem dL_isSound_121 : decode cL_isSound 121 = .ok (.iconst 1, 1) := by decide +kernel
theorem dL_isSound_122 : decode cL_isSound 122 = .ok (.goto 4, 3) := by decide +kernel
theorem dL_isSound_125 : decode cL_isSound 125 = .ok (.iconst 0, 1) := by decide +kernel
theorem dL_isSound_126 : decode cL_isSound 126 = .ok (.if_icmp .ne 32, 3) := by decide +kernel
theorem dL_isSound_129 : decode cL_isSound 129 = .ok (.aload_n 0, 1) := by decide +kernel
theorem dL_isSound_130 : decode cL_isSound 130 = .ok (.iload 8, 2) := by decide +kernel
theorem dL_isSound_132 : decode cL_isSound 132 = .ok (.invokestatic 143, 3) := by decide +kernel
theorem dL_isSound_135 : decode cL_isSound 135 = .ok (.iconst (-1), 1) := by decide +kernel
theorem dL_isSound_136 : decode cL_isSound 136 = .ok (.if_icmp .ne 7, 3) := by decide +kernel
theorem dL_isSound_139 : decode cL_isSound 139 = .ok (.iconst 1, 1) := by decide +kernel
theorem dL_isSound_140 : decode cL_isSound 140 = .ok (.goto 4, 3) := by decide +kernel
theorem dL_isSound_143 : decode cL_isSound 143 = .ok (.iconst 0, 1) := by decide +kernel
theorem dL_isSound_144 : decode cL_isSound 144 = .ok (.iload 9, 2) := by decide +kernel
theorem dL_isSound_146 : decode cL_isSound 146 = .ok (.iconst 2, 1) := by decide +kernel
theorem dL_isSound_147 : decode cL_isSound 147 = .ok (.if_icmp .ge 7, 3) := by decide +kernel
theorem dL_isSound_150 : decode cL_isSound 150 = .ok (.iconst 1, 1) := by decide +kernel
theorem dL_isSound_151 : decode cL_isSound 151 = .ok (.goto 4, 3) := by decide +kernel
theorem dL_isSound_154 : decode cL_isSound 154 = .ok (.iconst 0, 1) := by decide +kernel
theorem dL_isSound_155 : decode cL_isSound 155 = .ok (.if_icmp .eq 5, 3) := by decide +kernel
theorem dL_isSound_158 : decode cL_isSound 158 = .ok (.iconst 0, 1) := by decide +kernel
theorem dL_isSound_159 : decode cL_isSound 159 = .ok (.ireturn, 1) := by decide +kernel
theorem dL_isSound_160 : decode cL_isSound 160 = .ok (.bipush 100, 2) := by decide +kernel
theorem dL_isSound_162 : decode cL_isSound 162 = .ok (.istore 13, 2) := by decide +kernel
theorem dL_isSound_164 : decode cL_isSound 164 = .ok (.aload_n 0, 1) := by decide +kernel
theorem dL_isSound_165 : decode cL_isSound 165 = .ok (.iload 8, 2) := by decide +kernel
theorem dL_isSound_167 : decode cL_isSound 167 = .ok (.invokestatic 145, 3) := by decide +kernel
theorem dL_isSound_170 : decode cL_isSound 170 = .ok (.invokestatic 147, 3) := by decide +kernel
theorem dL_isSound_173 : decode cL_isSound 173 = .ok (.istore 14, 2) := by decide +kernel
theorem dL_isSound_175 : decode cL_isSound 175 = .ok (.iload 14, 2) := by decide +kernel
theorem dL_isSound_177 : decode cL_isSound 177 = .ok (.ifCond .le 22, 3) := by decide +kernel
theorem dL_isSound_180 : decode cL_isSound 180 = .ok (.iload 13, 2) := by decide +kernel
theorem dL_isSound_182 : decode cL_isSound 182 = .ok (.iload 13, 2) := by decide +kernel
theorem dL_isSound_184 : decode cL_isSound 184 = .ok (.bipush 9, 2) := by decide +kernel
theorem dL_isSound_186 : decode cL_isSound 186 = .ok (.iadd, 1) := by decide +kernel
theorem dL_isSound_187 : decode cL_isSound 187 = .ok (.bipush 10, 2) := by decide +kernel
theorem dL_isSound_189 : decode cL_isSound 189 = .ok (.idiv, 1) := by decide +kernel
theorem dL_isSound_190 : decode cL_isSound 190 = .ok (.isub, 1) := by decide +kernel
theorem dL_isSound_191 : decode cL_isSound 191 = .ok (.istore 13, 2) := by decide +kernel
theorem dL_isSound_193 : decode cL_isSound 193 = .ok (.iinc 14 (-1), 3) := by decide +kernel
theorem dL_isSound_196 : decode cL_isSound 196 = .ok (.goto (-21), 3) := by decide +kernel
theorem dL_isSound_199 : decode cL_isSound 199 = .ok (.aload_n 0, 1) := by decide +kernel
theorem dL_isSound_200 : decode cL_isSound 200 = .ok (.iload 8, 2) := by decide +kernel
theorem dL_isSound_202 : decode cL_isSound 202 = .ok (.invokestatic 150, 3) := by decide +kernel
theorem dL_isSound_205 : decode cL_isSound 205 = .ok (.iload 13, 2) := by decide +kernel
theorem dL_isSound_207 : decode cL_isSound 207 = .ok (.if_icmp .ne 22, 3) := by decide +kernel
theorem dL_isSound_210 : decode cL_isSound 210 = .ok (.aload_n 0, 1) := by decide +kernel
theorem dL_isSound_211 : decode cL_isSound 211 = .ok (.iload 8, 2) := by decide +kernel
theorem dL_isSound_213 : decode cL_isSound 213 = .ok (.invokestatic 141, 3) := by decide +kernel
theorem dL_isSound_216 : decode cL_isSound 216 = .ok (.iconst (-1), 1) := by decide +kernel
theorem dL_isSound_217 : decode cL_isSound 217 = .ok (.if_icmp .ne 14, 3) := by decide +kernel
theorem dL_isSound_220 : decode cL_isSound 220 = .ok (.aload_n 0, 1) := by decide +kernel
theorem dL_isSound_221 : decode cL_isSound 221 = .ok (.iload 8, 2) := by decide +kernel
theorem dL_isSound_223 : decode cL_isSound 223 = .ok (.invokestatic 145, 3) := by decide +kernel
theorem dL_isSound_226 : decode cL_isSound 226 = .ok (.ifCond .eq 5, 3) := by decide +kernel
theorem dL_isSound_229 : decode cL_isSound 229 = .ok (.iconst 0, 1) := by decide +kernel
theorem dL_isSound_230 : decode cL_isSound 230 = .ok (.ireturn, 1) := by decide +kernel
theorem dL_isSound_231 : decode cL_isSound 231 = .ok (.iload 9, 2) := by decide +kernel
theorem dL_isSound_233 : decode cL_isSound 233 = .ok (.iconst 1, 1) := by decide +kernel
theorem dL_isSound_234 : decode cL_isSound 234 = .ok (.if_icmp .ne 10, 3) := by decide +kernel
theorem dL_isSound_237 : decode cL_isSound 237 = .ok (.aload_n 0, 1) := by decide +kernel
theorem dL_isSound_238 : decode cL_isSound 238 = .ok (.invokevirtual 152, 3) := by decide +kernel
theorem dL_isSound_241 : decode cL_isSound 241 = .ok (.goto 9, 3) := by decide +kernel
theorem dL_isSound_244 : decode cL_isSound 244 = .ok (.aload_n 0, 1) := by decide +kernel
theorem dL_isSound_245 : decode cL_isSound 245 = .ok (.iload 8, 2) := by decide +kernel
theorem dL_isSound_247 : decode cL_isSound 247 = .ok (.invokestatic 143, 3) := by decide +kernel
theorem dL_isSound_250 : decode cL_isSound 250 = .ok (.aload_n 0, 1) := by decide +kernel
theorem dL_isSound_251 : decode cL_isSound 251 = .ok (.iload 8, 2) := by decide +kernel
theorem dL_isSound_253 : decode cL_isSound 253 = .ok (.invokestatic 141, 3) := by decide +kernel
theorem dL_isSound_256 : decode cL_isSound 256 = .ok (.isub, 1) := by decide +kernel
theorem dL_isSound_257 : decode cL_isSound 257 = .ok (.istore 14, 2) := by decide +kernel
theorem dL_isSound_259 : decode cL_isSound 259 = .ok (.iconst 1, 1) := by decide +kernel
theorem dL_isSound_260 : decode cL_isSound 260 = .ok (.istore 15, 2) := by decide +kernel
theorem dL_isSound_262 : decode cL_isSound 262 = .ok (.bipush 60, 2) := by decide +kernel
theorem dL_isSound_264 : decode cL_isSound 264 = .ok (.iload 15, 2) := by decide +kernel
theorem dL_isSound_266 : decode cL_isSound 266 = .ok (.imul, 1) := by decide +kernel
theorem dL_isSound_267 : decode cL_isSound 267 = .ok (.iload 14, 2) := by decide +kernel
theorem dL_isSound_269 : decode cL_isSound 269 = .ok (.if_icmp .ge 9, 3) := by decide +kernel
theorem dL_isSound_272 : decode cL_isSound 272 = .ok (.iinc 15 1, 3) := by decide +kernel
theorem dL_isSound_275 : decode cL_isSound 275 = .ok (.goto (-13), 3) := by decide +kernel
theorem dL_isSound_278 : decode cL_isSound 278 = .ok (.iload 9, 2) := by decide +kernel
theorem dL_isSound_280 : decode cL_isSound 280 = .ok (.ifCond .eq 9, 3) := by decide +kernel
theorem dL_isSound_283 : decode cL_isSound 283 = .ok (.iload 9, 2) := by decide +kernel
theorem dL_isSound_285 : decode cL_isSound 285 = .ok (.iconst 3, 1) := by decide +kernel
theorem dL_isSound_286 : decode cL_isSound 286 = .ok (.if_icmp .ne 7, 3) := by decide +kernel
theorem dL_isSound_289 : decode cL_isSound 289 = .ok (.iconst 0, 1) := by decide +kernel
theorem dL_isSound_290 : decode cL_isSound 290 = .ok (.goto 22, 3) := by decide +kernel
theorem dL_isSound_293 : decode cL_isSound 293 = .ok (.iload 10, 2) := by decide +kernel
theorem dL_isSound_295 : decode cL_isSound 295 = .ok (.iconst (-1), 1) := by decide +kernel
theorem dL_isSound_296 : decode cL_isSound 296 = .ok (.if_icmp .ne 7, 3) := by decide +kernel
theorem dL_isSound_299 : decode cL_isSound 299 = .ok (.iconst 5, 1) := by decide +kernel
theorem dL_isSound_300 : decode cL_isSound 300 = .ok (.goto 12, 3) := by decide +kernel
theorem dL_isSound_303 : decode cL_isSound 303 = .ok (.aload_n 0, 1) := by decide +kernel
theorem dL_isSound_304 : decode cL_isSound 304 = .ok (.iload 10, 2) := by decide +kernel
theorem dL_isSound_306 : decode cL_isSound 306 = .ok (.invokestatic 155, 3) := by decide +kernel
theorem dL_isSound_309 : decode cL_isSound 309 = .ok (.iload 15, 2) := by decide +kernel
theorem dL_isSound_311 : decode cL_isSound 311 = .ok (.imul, 1) := by decide +kernel
theorem dL_isSound_312 : decode cL_isSound 312 = .ok (.istore 16, 2) := by decide +kernel
theorem dL_isSound_314 : decode cL_isSound 314 = .ok (.aload_n 0, 1) := by decide +kernel
theorem dL_isSound_315 : decode cL_isSound 315 = .ok (.iload 8, 2) := by decide +kernel
theorem dL_isSound_317 : decode cL_isSound 317 = .ok (.invokestatic 157, 3) := by decide +kernel
theorem dL_isSound_320 : decode cL_isSound 320 = .ok (.iload 16, 2) := by decide +kernel
theorem dL_isSound_322 : decode cL_isSound 322 = .ok (.if_icmp .eq 5, 3) := by decide +kernel
theorem dL_isSound_325 : decode cL_isSound 325 = .ok (.iconst 0, 1) := by decide +kernel
theorem dL_isSound_326 : decode cL_isSound 326 = .ok (.ireturn, 1) := by decide +kernel
theorem dL_isSound_327 : decode cL_isSound 327 = .ok (.iload 9, 2) := by decide +kernel
theorem dL_isSound_329 : decode cL_isSound 329 = .ok (.iconst 2, 1) := by decide +kernel
theorem dL_isSound_330 : decode cL_isSound 330 = .ok (.if_icmp .ne 10, 3) := by decide +kernel
theorem dL_isSound_333 : decode cL_isSound 333 = .ok (.iload 4, 2) := by decide +kernel
theorem dL_isSound_335 : decode cL_isSound 335 = .ok (.iload 16, 2) := by decide +kernel
theorem dL_isSound_337 : decode cL_isSound 337 = .ok (.iadd, 1) := by decide +kernel
theorem dL_isSound_338 : decode cL_isSound 338 = .ok (.istore 4, 2) := by decide +kernel
theorem dL_isSound_340 : decode cL_isSound 340 = .ok (.iload 9, 2) := by decide +kernel
theorem dL_isSound_342 : decode cL_isSound 342 = .ok (.ifCond .ne 93, 3) := by decide +kernel
theorem dL_isSound_345 : decode cL_isSound 345 = .ok (.iinc 5 1, 3) := by decide +kernel
theorem dL_isSound_348 : decode cL_isSound 348 = .ok (.aload_n 0, 1) := by decide +kernel
theorem dL_isSound_349 : decode cL_isSound 349 = .ok (.iload 8, 2) := by decide +kernel
theorem dL_isSound_351 : decode cL_isSound 351 = .ok (.invokestatic 159, 3) := by decide +kernel
theorem dL_isSound_354 : decode cL_isSound 354 = .ok (.iconst 1, 1) := by decide +kernel
theorem dL_isSound_355 : decode cL_isSound 355 = .ok (.if_icmp .lt 35, 3) := by decide +kernel
theorem dL_isSound_358 : decode cL_isSound 358 = .ok (.aload_n 0, 1) := by decide +kernel
theorem dL_isSound_359 : decode cL_isSound 359 = .ok (.iload 8, 2) := by decide +kernel
theorem dL_isSound_361 : decode cL_isSound 361 = .ok (.invokestatic 159, 3) := by decide +kernel
theorem dL_isSound_364 : decode cL_isSound 364 = .ok (.iconst 3, 1) := by decide +kernel
theorem dL_isSound_365 : decode cL_isSound 365 = .ok (.if_icmp .gt 25, 3) := by decide +kernel
theorem dL_isSound_368 : decode cL_isSound 368 = .ok (.aload_n 0, 1) := by decide +kernel
theorem dL_isSound_369 : decode cL_isSound 369 = .ok (.iload 8, 2) := by decide +kernel
theorem dL_isSound_371 : decode cL_isSound 371 = .ok (.invokestatic 161, 3) := by decide +kernel
theorem dL_isSound_374 : decode cL_isSound 374 = .ok (.ifCond .lt 16, 3) := by decide +kernel
theorem dL_isSound_377 : decode cL_isSound 377 = .ok (.aload_n 0, 1) := by decide +kernel
theorem dL_isSound_378 : decode cL_isSound 378 = .ok (.iload 8, 2) := by decide +kernel
theorem dL_isSound_380 : decode cL_isSound 380 = .ok (.invokestatic 161, 3) := by decide +kernel
theorem dL_isSound_383 : decode cL_isSound 383 = .ok (.aload_n 0, 1) := by decide +kernel
theorem dL_isSound_384 : decode cL_isSound 384 = .ok (.invokevirtual 163, 3) := by decide +kernel
theorem dL_isSound_387 : decode cL_isSound 387 = .ok (.if_icmp .lt 5, 3) := by decide +kernel
theorem dL_isSound_390 : decode cL_isSound 390 = .ok (.iconst 0, 1) := by decide +kernel
theorem dL_isSound_391 : decode cL_isSound 391 = .ok (.ireturn, 1) := by decide +kernel
theorem dL_isSound_392 : decode cL_isSound 392 = .ok (.aload_n 0, 1) := by decide +kernel
theorem dL_isSound_393 : decode cL_isSound 393 = .ok (.iload 8, 2) := by decide +kernel
theorem dL_isSound_395 : decode cL_isSound 395 = .ok (.invokestatic 159, 3) := by decide +kernel
theorem dL_isSound_398 : decode cL_isSound 398 = .ok (.iconst 1, 1) := by decide +kernel
theorem dL_isSound_399 : decode cL_isSound 399 = .ok (.if_icmp .ne 17, 3) := by decide +kernel
theorem dL_isSound_402 : decode cL_isSound 402 = .ok (.aload_n 0, 1) := by decide +kernel
theorem dL_isSound_403 : decode cL_isSound 403 = .ok (.aload_n 0, 1) := by decide +kernel
theorem dL_isSound_404 : decode cL_isSound 404 = .ok (.iload 11, 2) := by decide +kernel
theorem dL_isSound_406 : decode cL_isSound 406 = .ok (.invokestatic 166, 3) := by decide +kernel
theorem dL_isSound_409 : decode cL_isSound 409 = .ok (.invokestatic 168, 3) := by decide +kernel
theorem dL_isSound_412 : decode cL_isSound 412 = .ok (.iconst 1, 1) := by decide +kernel
theorem dL_isSound_413 : decode cL_isSound 413 = .ok (.if_icmp .ne 20, 3) := by decide +kernel
theorem dL_isSound_416 : decode cL_isSound 416 = .ok (.aload_n 0, 1) := by decide +kernel
theorem dL_isSound_417 : decode cL_isSound 417 = .ok (.iload 8, 2) := by decide +kernel
theorem dL_isSound_419 : decode cL_isSound 419 = .ok (.invokestatic 159, 3) := by decide +kernel
theorem dL_isSound_422 : decode cL_isSound 422 = .ok (.iconst 3, 1) := by decide +kernel
theorem dL_isSound_423 : decode cL_isSound 423 = .ok (.if_icmp .ne 33, 3) := by decide +kernel
theorem dL_isSound_426 : decode cL_isSound 426 = .ok (.aload_n 0, 1) := by decide +kernel
theorem dL_isSound_427 : decode cL_isSound 427 = .ok (.invokevirtual 170, 3) := by decide +kernel
theorem dL_isSound_430 : decode cL_isSound 430 = .ok (.ifCond .eq 26, 3) := by decide +kernel
theorem dL_isSound_433 : decode cL_isSound 433 = .ok (.iconst 0, 1) := by decide +kernel
theorem dL_isSound_434 : decode cL_isSound 434 = .ok (.ireturn, 1) := by decide +kernel
theorem dL_isSound_435 : decode cL_isSound 435 = .ok (.aload_n 0, 1) := by decide +kernel
theorem dL_isSound_436 : decode cL_isSound 436 = .ok (.iload 8, 2) := by decide +kernel
theorem dL_isSound_438 : decode cL_isSound 438 = .ok (.invokestatic 159, 3) := by decide +kernel
theorem dL_isSound_441 : decode cL_isSound 441 = .ok (.ifCond .ne 13, 3) := by decide +kernel
theorem dL_isSound_444 : decode cL_isSound 444 = .ok (.aload_n 0, 1) := by decide +kernel
theorem dL_isSound_445 : decode cL_isSound 445 = .ok (.iload 8, 2) := by decide +kernel
theorem dL_isSound_447 : decode cL_isSound 447 = .ok (.invokestatic 161, 3) := by decide +kernel
theorem dL_isSound_450 : decode cL_isSound 450 = .ok (.iconst (-1), 1) := by decide +kernel
theorem dL_isSound_451 : decode cL_isSound 451 = .ok (.if_icmp .eq 5, 3) := by decide +kernel
theorem dL_isSound_454 : decode cL_isSound 454 = .ok (.iconst 0, 1) := by decide +kernel
theorem dL_isSound_455 : decode cL_isSound 455 = .ok (.ireturn, 1) := by decide +kernel
theorem dL_isSound_456 : decode cL_isSound 456 = .ok (.iload 9, 2) := by decide +kernel
theorem dL_isSound_458 : decode cL_isSound 458 = .ok (.iconst 1, 1) := by decide +kernel
theorem dL_isSound_459 : decode cL_isSound 459 = .ok (.if_icmp .eq 6, 3) := by decide +kernel
theorem dL_isSound_462 : decode cL_isSound 462 = .ok (.goto 84, 3) := by decide +kernel
theorem dL_isSound_465 : decode cL_isSound 465 = .ok (.iinc 6 1, 3) := by decide +kernel
theorem dL_isSound_468 : decode cL_isSound 468 = .ok (.aload_n 1, 1) := by decide +kernel
theorem dL_isSound_469 : decode cL_isSound 469 = .ok (.aload_n 0, 1) := by decide +kernel
theorem dL_isSound_470 : decode cL_isSound 470 = .ok (.iload 11, 2) := by decide +kernel
theorem dL_isSound_472 : decode cL_isSound 472 = .ok (.invokestatic 166, 3) := by decide +kernel
theorem dL_isSound_475 : decode cL_isSound 475 = .ok (.dup2, 1) := by decide +kernel
theorem dL_isSound_476 : decode cL_isSound 476 = .ok (.iaload, 1) := by decide +kernel
theorem dL_isSound_477 : decode cL_isSound 477 = .ok (.iconst 1, 1) := by decide +kernel
theorem dL_isSound_478 : decode cL_isSound 478 = .ok (.iadd, 1) := by decide +kernel
theorem dL_isSound_479 : decode cL_isSound 479 = .ok (.iastore, 1) := by decide +kernel
theorem dL_isSound_480 : decode cL_isSound 480 = .ok (.iload 10, 2) := by decide +kernel
theorem dL_isSound_482 : decode cL_isSound 482 = .ok (.ifCond .lt 14, 3) := by decide +kernel
theorem dL_isSound_485 : decode cL_isSound 485 = .ok (.aload_n 2, 1) := by decide +kernel
theorem dL_isSound_486 : decode cL_isSound 486 = .ok (.iload 10, 2) := by decide +kernel
theorem dL_isSound_488 : decode cL_isSound 488 = .ok (.dup2, 1) := by decide +kernel
theorem dL_isSound_489 : decode cL_isSound 489 = .ok (.iaload, 1) := by decide +kernel
theorem dL_isSound_490 : decode cL_isSound 490 = .ok (.iconst 1, 1) := by decide +kernel
theorem dL_isSound_491 : decode cL_isSound 491 = .ok (.iadd, 1) := by decide +kernel
theorem dL_isSound_492 : decode cL_isSound 492 = .ok (.iastore, 1) := by decide +kernel
theorem dL_isSound_493 : decode cL_isSound 493 = .ok (.goto 30, 3) := by decide +kernel
theorem dL_isSound_496 : decode cL_isSound 496 = .ok (.aload_n 0, 1) := by decide +kernel
theorem dL_isSound_497 : decode cL_isSound 497 = .ok (.iload 12, 2) := by decide +kernel
theorem dL_isSound_499 : decode cL_isSound 499 = .ok (.invokestatic 166, 3) := by decide +kernel
theorem dL_isSound_502 : decode cL_isSound 502 = .ok (.aload_n 0, 1) := by decide +kernel
theorem dL_isSound_503 : decode cL_isSound 503 = .ok (.iload 11, 2) := by decide +kernel
theorem dL_isSound_505 : decode cL_isSound 505 = .ok (.invokestatic 166, 3) := by decide +kernel
theorem dL_isSound_508 : decode cL_isSound 508 = .ok (.if_icmp .eq 15, 3) := by decide +kernel
theorem dL_isSound_511 : decode cL_isSound 511 = .ok (.aload_n 1, 1) := by decide +kernel
theorem dL_isSound_512 : decode cL_isSound 512 = .ok (.aload_n 0, 1) := by decide +kernel
theorem dL_isSound_513 : decode cL_isSound 513 = .ok (.iload 12, 2) := by decide +kernel
theorem dL_isSound_515 : decode cL_isSound 515 = .ok (.invokestatic 166, 3) := by decide +kernel
theorem dL_isSound_518 : decode cL_isSound 518 = .ok (.dup2, 1) := by decide +kernel
theorem dL_isSound_519 : decode cL_isSound 519 = .ok (.iaload, 1) := by decide +kernel
theorem dL_isSound_520 : decode cL_isSound 520 = .ok (.iconst 1, 1) := by decide +kernel
theorem dL_isSound_521 : decode cL_isSound 521 = .ok (.iadd, 1) := by decide +kernel
theorem dL_isSound_522 : decode cL_isSound 522 = .ok (.iastore, 1) := by decide +kernel
theorem dL_isSound_523 : decode cL_isSound 523 = .ok (.iload 10, 2) := by decide +kernel
theorem dL_isSound_525 : decode cL_isSound 525 = .ok (.ifCond .ge 18, 3) := by decide +kernel
theorem dL_isSound_528 : decode cL_isSound 528 = .ok (.aload_n 0, 1) := by decide +kernel
theorem dL_isSound_529 : decode cL_isSound 529 = .ok (.iload 12, 2) := by decide +kernel
theorem dL_isSound_531 : decode cL_isSound 531 = .ok (.invokestatic 166, 3) := by decide +kernel
theorem dL_isSound_534 : decode cL_isSound 534 = .ok (.aload_n 0, 1) := by decide +kernel
theorem dL_isSound_535 : decode cL_isSound 535 = .ok (.iload 11, 2) := by decide +kernel
theorem dL_isSound_537 : decode cL_isSound 537 = .ok (.invokestatic 166, 3) := by decide +kernel
theorem dL_isSound_540 : decode cL_isSound 540 = .ok (.if_icmp .eq 6, 3) := by decide +kernel
theorem dL_isSound_543 : decode cL_isSound 543 = .ok (.iinc 3 1, 3) := by decide +kernel
theorem dL_isSound_546 : decode cL_isSound 546 = .ok (.iinc 8 1, 3) := by decide +kernel
theorem dL_isSound_549 : decode cL_isSound 549 = .ok (.goto (-520), 3) := by decide +kernel
theorem dL_isSound_552 : decode cL_isSound 552 = .ok (.iconst 0, 1) := by decide +kernel
theorem dL_isSound_553 : decode cL_isSound 553 = .ok (.istore 8, 2) := by decide +kernel
theorem dL_isSound_555 : decode cL_isSound 555 = .ok (.iload 8, 2) := by decide +kernel
theorem dL_isSound_557 : decode cL_isSound 557 = .ok (.aload_n 0, 1) := by decide +kernel
theorem dL_isSound_558 : decode cL_isSound 558 = .ok (.invokevirtual 173, 3) := by decide +kernel
theorem dL_isSound_561 : decode cL_isSound 561 = .ok (.if_icmp .ge 32, 3) := by decide +kernel
theorem dL_isSound_564 : decode cL_isSound 564 = .ok (.aload_n 1, 1) := by decide +kernel
theorem dL_isSound_565 : decode cL_isSound 565 = .ok (.iload 8, 2) := by decide +kernel
theorem dL_isSound_567 : decode cL_isSound 567 = .ok (.iaload, 1) := by decide +kernel
theorem dL_isSound_568 : decode cL_isSound 568 = .ok (.iconst 1, 1) := by decide +kernel
theorem dL_isSound_569 : decode cL_isSound 569 = .ok (.if_icmp .gt 16, 3) := by decide +kernel
theorem dL_isSound_572 : decode cL_isSound 572 = .ok (.aload_n 0, 1) := by decide +kernel
theorem dL_isSound_573 : decode cL_isSound 573 = .ok (.iload 8, 2) := by decide +kernel
theorem dL_isSound_575 : decode cL_isSound 575 = .ok (.invokestatic 168, 3) := by decide +kernel
theorem dL_isSound_578 : decode cL_isSound 578 = .ok (.aload_n 1, 1) := by decide +kernel
theorem dL_isSound_579 : decode cL_isSound 579 = .ok (.iload 8, 2) := by decide +kernel
theorem dL_isSound_581 : decode cL_isSound 581 = .ok (.iaload, 1) := by decide +kernel
theorem dL_isSound_582 : decode cL_isSound 582 = .ok (.if_icmp .eq 5, 3) := by decide +kernel
theorem dL_isSound_585 : decode cL_isSound 585 = .ok (.iconst 0, 1) := by decide +kernel
theorem dL_isSound_586 : decode cL_isSound 586 = .ok (.ireturn, 1) := by decide +kernel
theorem dL_isSound_587 : decode cL_isSound 587 = .ok (.iinc 8 1, 3) := by decide +kernel
theorem dL_isSound_590 : decode cL_isSound 590 = .ok (.goto (-35), 3) := by decide +kernel
theorem dL_isSound_593 : decode cL_isSound 593 = .ok (.iconst 0, 1) := by decide +kernel
theorem dL_isSound_594 : decode cL_isSound 594 = .ok (.istore 8, 2) := by decide +kernel
theorem dL_isSound_596 : decode cL_isSound 596 = .ok (.iload 8, 2) := by decide +kernel
theorem dL_isSound_598 : decode cL_isSound 598 = .ok (.aload_n 0, 1) := by decide +kernel
theorem dL_isSound_599 : decode cL_isSound 599 = .ok (.invokevirtual 176, 3) := by decide +kernel
theorem dL_isSound_602 : decode cL_isSound 602 = .ok (.if_icmp .ge 32, 3) := by decide +kernel
theorem dL_isSound_605 : decode cL_isSound 605 = .ok (.aload_n 2, 1) := by decide +kernel
theorem dL_isSound_606 : decode cL_isSound 606 = .ok (.iload 8, 2) := by decide +kernel
theorem dL_isSound_608 : decode cL_isSound 608 = .ok (.iaload, 1) := by decide +kernel
theorem dL_isSound_609 : decode cL_isSound 609 = .ok (.iconst 1, 1) := by decide +kernel
theorem dL_isSound_610 : decode cL_isSound 610 = .ok (.if_icmp .gt 16, 3) := by decide +kernel
theorem dL_isSound_613 : decode cL_isSound 613 = .ok (.aload_n 0, 1) := by decide +kernel
theorem dL_isSound_614 : decode cL_isSound 614 = .ok (.iload 8, 2) := by decide +kernel
theorem dL_isSound_616 : decode cL_isSound 616 = .ok (.invokestatic 179, 3) := by decide +kernel
theorem dL_isSound_619 : decode cL_isSound 619 = .ok (.aload_n 2, 1) := by decide +kernel
theorem dL_isSound_620 : decode cL_isSound 620 = .ok (.iload 8, 2) := by decide +kernel
theorem dL_isSound_622 : decode cL_isSound 622 = .ok (.iaload, 1) := by decide +kernel
theorem dL_isSound_623 : decode cL_isSound 623 = .ok (.if_icmp .eq 5, 3) := by decide +kernel
theorem dL_isSound_626 : decode cL_isSound 626 = .ok (.iconst 0, 1) := by decide +kernel
theorem dL_isSound_627 : decode cL_isSound 627 = .ok (.ireturn, 1) := by decide +kernel
theorem dL_isSound_628 : decode cL_isSound 628 = .ok (.iinc 8 1, 3) := by decide +kernel
theorem dL_isSound_631 : decode cL_isSound 631 = .ok (.goto (-35), 3) := by decide +kernel
theorem dL_isSound_634 : decode cL_isSound 634 = .ok (.iconst 0, 1) := by decide +kernel
theorem dL_isSound_635 : decode cL_isSound 635 = .ok (.istore 8, 2) := by decide +kernel
theorem dL_isSound_637 : decode cL_isSound 637 = .ok (.iconst 0, 1) := by decide +kernel
theorem dL_isSound_638 : decode cL_isSound 638 = .ok (.istore 9, 2) := by decide +kernel
theorem dL_isSound_640 : decode cL_isSound 640 = .ok (.iconst 0, 1) := by decide +kernel
theorem dL_isSound_641 : decode cL_isSound 641 = .ok (.istore 10, 2) := by decide +kernel
theorem dL_isSound_643 : decode cL_isSound 643 = .ok (.iload 10, 2) := by decide +kernel
theorem dL_isSound_645 : decode cL_isSound 645 = .ok (.iload 7, 2) := by decide +kernel
theorem dL_isSound_647 : decode cL_isSound 647 = .ok (.if_icmp .ge 84, 3) := by decide +kernel
theorem dL_isSound_650 : decode cL_isSound 650 = .ok (.iload 8, 2) := by decide +kernel
theorem dL_isSound_652 : decode cL_isSound 652 = .ok (.aload_n 0, 1) := by decide +kernel
theorem dL_isSound_653 : decode cL_isSound 653 = .ok (.iload 10, 2) := by decide +kernel
theorem dL_isSound_655 : decode cL_isSound 655 = .ok (.invokestatic 181, 3) := by decide +kernel
theorem dL_isSound_658 : decode cL_isSound 658 = .ok (.iadd, 1) := by decide +kernel
theorem dL_isSound_659 : decode cL_isSound 659 = .ok (.istore 8, 2) := by decide +kernel
theorem dL_isSound_661 : decode cL_isSound 661 = .ok (.iload 9, 2) := by decide +kernel
theorem dL_isSound_663 : decode cL_isSound 663 = .ok (.aload_n 0, 1) := by decide +kernel
theorem dL_isSound_664 : decode cL_isSound 664 = .ok (.iload 10, 2) := by decide +kernel
theorem dL_isSound_666 : decode cL_isSound 666 = .ok (.invokestatic 183, 3) := by decide +kernel
theorem dL_isSound_669 : decode cL_isSound 669 = .ok (.invokestatic 147, 3) := by decide +kernel
theorem dL_isSound_672 : decode cL_isSound 672 = .ok (.iadd, 1) := by decide +kernel
theorem dL_isSound_673 : decode cL_isSound 673 = .ok (.istore 9, 2) := by decide +kernel
theorem dL_isSound_675 : decode cL_isSound 675 = .ok (.aload_n 0, 1) := by decide +kernel
theorem dL_isSound_676 : decode cL_isSound 676 = .ok (.iload 10, 2) := by decide +kernel
theorem dL_isSound_678 : decode cL_isSound 678 = .ok (.invokestatic 183, 3) := by decide +kernel
theorem dL_isSound_681 : decode cL_isSound 681 = .ok (.iload 10, 2) := by decide +kernel
theorem dL_isSound_683 : decode cL_isSound 683 = .ok (.ishr, 1) := by decide +kernel
theorem dL_isSound_684 : decode cL_isSound 684 = .ok (.iconst 1, 1) := by decide +kernel
theorem dL_isSound_685 : decode cL_isSound 685 = .ok (.iand, 1) := by decide +kernel
theorem dL_isSound_686 : decode cL_isSound 686 = .ok (.iconst 1, 1) := by decide +kernel
theorem dL_isSound_687 : decode cL_isSound 687 = .ok (.if_icmp .ne 36, 3) := by decide +kernel
theorem dL_isSound_690 : decode cL_isSound 690 = .ok (.aload_n 0, 1) := by decide +kernel
theorem dL_isSound_691 : decode cL_isSound 691 = .ok (.iload 10, 2) := by decide +kernel
theorem dL_isSound_693 : decode cL_isSound 693 = .ok (.invokestatic 185, 3) := by decide +kernel
theorem dL_isSound_696 : decode cL_isSound 696 = .ok (.iconst 1, 1) := by decide +kernel
theorem dL_isSound_697 : decode cL_isSound 697 = .ok (.if_icmp .lt 26, 3) := by decide +kernel
theorem dL_isSound_700 : decode cL_isSound 700 = .ok (.aload_n 0, 1) := by decide +kernel
theorem dL_isSound_701 : decode cL_isSound 701 = .ok (.iload 10, 2) := by decide +kernel
theorem dL_isSound_703 : decode cL_isSound 703 = .ok (.invokestatic 183, 3) := by decide +kernel
theorem dL_isSound_706 : decode cL_isSound 706 = .ok (.invokestatic 147, 3) := by decide +kernel
theorem dL_isSound_709 : decode cL_isSound 709 = .ok (.aload_n 0, 1) := by decide +kernel
theorem dL_isSound_710 : decode cL_isSound 710 = .ok (.aload_n 0, 1) := by decide +kernel
theorem dL_isSound_711 : decode cL_isSound 711 = .ok (.invokevirtual 187, 3) := by decide +kernel
theorem dL_isSound_714 : decode cL_isSound 714 = .ok (.invokestatic 183, 3) := by decide +kernel
theorem dL_isSound_717 : decode cL_isSound 717 = .ok (.invokestatic 147, 3) := by decide +kernel
theorem dL_isSound_720 : decode cL_isSound 720 = .ok (.if_icmp .le 5, 3) := by decide +kernel
theorem dL_isSound_723 : decode cL_isSound 723 = .ok (.iconst 0, 1) := by decide +kernel
theorem dL_isSound_724 : decode cL_isSound 724 = .ok (.ireturn, 1) := by decide +kernel
theorem dL_isSound_725 : decode cL_isSound 725 = .ok (.iinc 10 1, 3) := by decide +kernel
theorem dL_isSound_728 : decode cL_isSound 728 = .ok (.goto (-85), 3) := by decide +kernel
theorem dL_isSound_731 : decode cL_isSound 731 = .ok (.iload 8, 2) := by decide +kernel
theorem dL_isSound_733 : decode cL_isSound 733 = .ok (.iload 4, 2) := by decide +kernel
theorem dL_isSound_735 : decode cL_isSound 735 = .ok (.if_icmp .ne 71, 3) := by decide +kernel
theorem dL_isSound_738 : decode cL_isSound 738 = .ok (.aload_n 0, 1) := by decide +kernel
theorem dL_isSound_739 : decode cL_isSound 739 = .ok (.invokevirtual 170, 3) := by decide +kernel
theorem dL_isSound_742 : decode cL_isSound 742 = .ok (.aload_n 0, 1) := by decide +kernel
theorem dL_isSound_743 : decode cL_isSound 743 = .ok (.invokevirtual 190, 3) := by decide +kernel
theorem dL_isSound_746 : decode cL_isSound 746 = .ok (.iload_n 3, 1) := by decide +kernel
theorem dL_isSound_747 : decode cL_isSound 747 = .ok (.isub, 1) := by decide +kernel
theorem dL_isSound_748 : decode cL_isSound 748 = .ok (.if_icmp .ne 58, 3) := by decide +kernel
theorem dL_isSound_751 : decode cL_isSound 751 = .ok (.iload_n 3, 1) := by decide +kernel
theorem dL_isSound_752 : decode cL_isSound 752 = .ok (.aload_n 0, 1) := by decide +kernel
theorem dL_isSound_753 : decode cL_isSound 753 = .ok (.invokevirtual 190, 3) := by decide +kernel
theorem dL_isSound_756 : decode cL_isSound 756 = .ok (.if_icmp .gt 50, 3) := by decide +kernel
theorem dL_isSound_759 : decode cL_isSound 759 = .ok (.iload 5, 2) := by decide +kernel
theorem dL_isSound_761 : decode cL_isSound 761 = .ok (.aload_n 0, 1) := by decide +kernel
theorem dL_isSound_762 : decode cL_isSound 762 = .ok (.invokevirtual 163, 3) := by decide +kernel
theorem dL_isSound_765 : decode cL_isSound 765 = .ok (.if_icmp .ne 41, 3) := by decide +kernel
theorem dL_isSound_768 : decode cL_isSound 768 = .ok (.iload 6, 2) := by decide +kernel
theorem dL_isSound_770 : decode cL_isSound 770 = .ok (.aload_n 0, 1) := by decide +kernel
theorem dL_isSound_771 : decode cL_isSound 771 = .ok (.invokevirtual 193, 3) := by decide +kernel
theorem dL_isSound_774 : decode cL_isSound 774 = .ok (.if_icmp .ne 32, 3) := by decide +kernel
theorem dL_isSound_777 : decode cL_isSound 777 = .ok (.aload_n 0, 1) := by decide +kernel
theorem dL_isSound_778 : decode cL_isSound 778 = .ok (.invokevirtual 196, 3) := by decide +kernel
theorem dL_isSound_781 : decode cL_isSound 781 = .ok (.iload 9, 2) := by decide +kernel
theorem dL_isSound_783 : decode cL_isSound 783 = .ok (.i2f, 1) := by decide +kernel
theorem dL_isSound_784 : decode cL_isSound 784 = .ok (.iload 7, 2) := by decide +kernel
theorem dL_isSound_786 : decode cL_isSound 786 = .ok (.iload 7, 2) := by decide +kernel
theorem dL_isSound_788 : decode cL_isSound 788 = .ok (.imul, 1) := by decide +kernel
theorem dL_isSound_789 : decode cL_isSound 789 = .ok (.i2f, 1) := by decide +kernel
theorem dL_isSound_790 : decode cL_isSound 790 = .ok (.fdiv, 1) := by decide +kernel
theorem dL_isSound_791 : decode cL_isSound 791 = .ok (.fcmp .l, 1) := by decide +kernel
theorem dL_isSound_792 : decode cL_isSound 792 = .ok (.ifCond .ne 14, 3) := by decide +kernel
theorem dL_isSound_795 : decode cL_isSound 795 = .ok (.aload_n 0, 1) := by decide +kernel
theorem dL_isSound_796 : decode cL_isSound 796 = .ok (.invokevirtual 200, 3) := by decide +kernel
theorem dL_isSound_799 : decode cL_isSound 799 = .ok (.ifCond .ne 7, 3) := by decide +kernel
theorem dL_isSound_802 : decode cL_isSound 802 = .ok (.iconst 1, 1) := by decide +kernel
theorem dL_isSound_803 : decode cL_isSound 803 = .ok (.goto 4, 3) := by decide +kernel
theorem dL_isSound_806 : decode cL_isSound 806 = .ok (.iconst 0, 1) := by decide +kernel
theorem dL_isSound_807 : decode cL_isSound 807 = .ok (.ireturn, 1) := by decide +kernel
theorem dL_acts_0 : decode cL_acts 0 = .ok (.aload_n 0, 1) := by decide +kernel
theorem dL_acts_1 : decode cL_acts 1 = .ok (.invokevirtual 127, 3) := by decide +kernel
theorem dL_acts_4 : decode cL_acts 4 = .ok (.istore_n 2, 1) := by decide +kernel
theorem dL_acts_5 : decode cL_acts 5 = .ok (.aload_n 1, 1) := by decide +kernel
theorem dL_acts_6 : decode cL_acts 6 = .ok (.iload_n 2, 1) := by decide +kernel
theorem dL_acts_7 : decode cL_acts 7 = .ok (.invokestatic 203, 3) := by decide +kernel
theorem dL_acts_10 : decode cL_acts 10 = .ok (.istore_n 3, 1) := by decide +kernel
theorem dL_acts_11 : decode cL_acts 11 = .ok (.aload_n 0, 1) := by decide +kernel
theorem dL_acts_12 : decode cL_acts 12 = .ok (.invokevirtual 130, 3) := by decide +kernel
theorem dL_acts_15 : decode cL_acts 15 = .ok (.istore 4, 2) := by decide +kernel
theorem dL_acts_17 : decode cL_acts 17 = .ok (.aload_n 0, 1) := by decide +kernel
theorem dL_acts_18 : decode cL_acts 18 = .ok (.iload_n 3, 1) := by decide +kernel
theorem dL_acts_19 : decode cL_acts 19 = .ok (.invokestatic 183, 3) := by decide +kernel
theorem dL_acts_22 : decode cL_acts 22 = .ok (.istore 5, 2) := by decide +kernel
theorem dL_acts_24 : decode cL_acts 24 = .ok (.aload_n 1, 1) := by decide +kernel
theorem dL_acts_25 : decode cL_acts 25 = .ok (.bipush 8, 2) := by decide +kernel
theorem dL_acts_27 : decode cL_acts 27 = .ok (.invokestatic 203, 3) := by decide +kernel
theorem dL_acts_30 : decode cL_acts 30 = .ok (.tableswitch 660 0 6 #[42, 42, 42, 314, 479, 479, 623], 42) := by decide +kernel
theorem dL_acts_72 : decode cL_acts 72 = .ok (.aload_n 1, 1) := by decide +kernel
theorem dL_acts_73 : decode cL_acts 73 = .ok (.iload_n 2, 1) := by decide +kernel
theorem dL_acts_74 : decode cL_acts 74 = .ok (.invokestatic 203, 3) := by decide +kernel
theorem dL_acts_77 : decode cL_acts 77 = .ok (.istore 6, 2) := by decide +kernel
theorem dL_acts_79 : decode cL_acts 79 = .ok (.iload_n 3, 1) := by decide +kernel
theorem dL_acts_80 : decode cL_acts 80 = .ok (.iload 6, 2) := by decide +kernel
theorem dL_acts_82 : decode cL_acts 82 = .ok (.if_icmp .ne 34, 3) := by decide +kernel
theorem dL_acts_85 : decode cL_acts 85 = .ok (.aload_n 0, 1) := by decide +kernel
theorem dL_acts_86 : decode cL_acts 86 = .ok (.iload_n 3, 1) := by decide +kernel
theorem dL_acts_87 : decode cL_acts 87 = .ok (.iload 6, 2) := by decide +kernel
theorem dL_acts_89 : decode cL_acts 89 = .ok (.iconst 0, 1) := by decide +kernel
theorem dL_acts_90 : decode cL_acts 90 = .ok (.invokestatic 207, 3) := by decide +kernel
theorem dL_acts_93 : decode cL_acts 93 = .ok (.bipush (-18), 2) := by decide +kernel
theorem dL_acts_95 : decode cL_acts 95 = .ok (.if_icmp .ne 19, 3) := by decide +kernel
theorem dL_acts_98 : decode cL_acts 98 = .ok (.aload_n 0, 1) := by decide +kernel
theorem dL_acts_99 : decode cL_acts 99 = .ok (.iload_n 3, 1) := by decide +kernel
theorem dL_acts_100 : decode cL_acts 100 = .ok (.iload 6, 2) := by decide +kernel
theorem dL_acts_102 : decode cL_acts 102 = .ok (.invokestatic 210, 3) := by decide +kernel
theorem dL_acts_105 : decode cL_acts 105 = .ok (.bipush (-18), 2) := by decide +kernel
theorem dL_acts_107 : decode cL_acts 107 = .ok (.if_icmp .ne 7, 3) := by decide +kernel
theorem dL_acts_110 : decode cL_acts 110 = .ok (.iconst 1, 1) := by decide +kernel
theorem dL_acts_111 : decode cL_acts 111 = .ok (.goto 4, 3) := by decide +kernel
theorem dL_acts_114 : decode cL_acts 114 = .ok (.iconst 0, 1) := by decide +kernel
theorem dL_acts_115 : decode cL_acts 115 = .ok (.ireturn, 1) := by decide +kernel
theorem dL_acts_116 : decode cL_acts 116 = .ok (.aload_n 0, 1) := by decide +kernel
theorem dL_acts_117 : decode cL_acts 117 = .ok (.iload_n 3, 1) := by decide +kernel
theorem dL_acts_118 : decode cL_acts 118 = .ok (.iload 6, 2) := by decide +kernel
theorem dL_acts_120 : decode cL_acts 120 = .ok (.invokestatic 210, 3) := by decide +kernel
theorem dL_acts_123 : decode cL_acts 123 = .ok (.istore 7, 2) := by decide +kernel
theorem dL_acts_125 : decode cL_acts 125 = .ok (.iload 5, 2) := by decide +kernel
theorem dL_acts_127 : decode cL_acts 127 = .ok (.aload_n 0, 1) := by decide +kernel
theorem dL_acts_128 : decode cL_acts 128 = .ok (.iload 6, 2) := by decide +kernel
theorem dL_acts_130 : decode cL_acts 130 = .ok (.invokestatic 183, 3) := by decide +kernel
theorem dL_acts_133 : decode cL_acts 133 = .ok (.ior, 1) := by decide +kernel
theorem dL_acts_134 : decode cL_acts 134 = .ok (.istore 8, 2) := by decide +kernel
theorem dL_acts_136 : decode cL_acts 136 = .ok (.aload_n 0, 1) := by decide +kernel
theorem dL_acts_137 : decode cL_acts 137 = .ok (.iload_n 3, 1) := by decide +kernel
theorem dL_acts_138 : decode cL_acts 138 = .ok (.iload 6, 2) := by decide +kernel
theorem dL_acts_140 : decode cL_acts 140 = .ok (.aload_n 1, 1) := by decide +kernel
theorem dL_acts_141 : decode cL_acts 141 = .ok (.iconst 3, 1) := by decide +kernel
theorem dL_acts_142 : decode cL_acts 142 = .ok (.invokestatic 203, 3) := by decide +kernel
theorem dL_acts_145 : decode cL_acts 145 = .ok (.ifCond .ne 7, 3) := by decide +kernel
theorem dL_acts_148 : decode cL_acts 148 = .ok (.iconst 1, 1) := by decide +kernel
theorem dL_acts_149 : decode cL_acts 149 = .ok (.goto 4, 3) := by decide +kernel
theorem dL_acts_152 : decode cL_acts 152 = .ok (.iconst 0, 1) := by decide +kernel
theorem dL_acts_153 : decode cL_acts 153 = .ok (.invokestatic 207, 3) := by decide +kernel
theorem dL_acts_156 : decode cL_acts 156 = .ok (.istore 9, 2) := by decide +kernel
theorem dL_acts_158 : decode cL_acts 158 = .ok (.iload 4, 2) := by decide +kernel
theorem dL_acts_160 : decode cL_acts 160 = .ok (.bipush 40, 2) := by decide +kernel
theorem dL_acts_162 : decode cL_acts 162 = .ok (.if_icmp .ne 16, 3) := by decide +kernel
theorem dL_acts_165 : decode cL_acts 165 = .ok (.iload 9, 2) := by decide +kernel
theorem dL_acts_167 : decode cL_acts 167 = .ok (.bipush (-19), 2) := by decide +kernel
theorem dL_acts_169 : decode cL_acts 169 = .ok (.if_icmp .ne 7, 3) := by decide +kernel
theorem dL_acts_172 : decode cL_acts 172 = .ok (.iconst 1, 1) := by decide +kernel
theorem dL_acts_173 : decode cL_acts 173 = .ok (.goto 4, 3) := by decide +kernel
theorem dL_acts_176 : decode cL_acts 176 = .ok (.iconst 0, 1) := by decide +kernel
theorem dL_acts_177 : decode cL_acts 177 = .ok (.ireturn, 1) := by decide +kernel
theorem dL_acts_178 : decode cL_acts 178 = .ok (.iload 9, 2) := by decide +kernel
theorem dL_acts_180 : decode cL_acts 180 = .ok (.iload 4, 2) := by decide +kernel
theorem dL_acts_182 : decode cL_acts 182 = .ok (.if_icmp .ne 24, 3) := by decide +kernel
theorem dL_acts_185 : decode cL_acts 185 = .ok (.aload_n 0, 1) := by decide +kernel
theorem dL_acts_186 : decode cL_acts 186 = .ok (.iload 9, 2) := by decide +kernel
theorem dL_acts_188 : decode cL_acts 188 = .ok (.invokestatic 137, 3) := by decide +kernel
theorem dL_acts_191 : decode cL_acts 191 = .ok (.iload_n 3, 1) := by decide +kernel
theorem dL_acts_192 : decode cL_acts 192 = .ok (.if_icmp .ne 14, 3) := by decide +kernel
theorem dL_acts_195 : decode cL_acts 195 = .ok (.aload_n 0, 1) := by decide +kernel
theorem dL_acts_196 : decode cL_acts 196 = .ok (.iload 9, 2) := by decide +kernel
theorem dL_acts_198 : decode cL_acts 198 = .ok (.invokestatic 139, 3) := by decide +kernel
theorem dL_acts_201 : decode cL_acts 201 = .ok (.iload 6, 2) := by decide +kernel
theorem dL_acts_203 : decode cL_acts 203 = .ok (.if_icmp .eq 5, 3) := by decide +kernel
theorem dL_acts_206 : decode cL_acts 206 = .ok (.iconst 0, 1) := by decide +kernel
theorem dL_acts_207 : decode cL_acts 207 = .ok (.ireturn, 1) := by decide +kernel
theorem dL_acts_208 : decode cL_acts 208 = .ok (.aload_n 0, 1) := by decide +kernel
theorem dL_acts_209 : decode cL_acts 209 = .ok (.iload 9, 2) := by decide +kernel
theorem dL_acts_211 : decode cL_acts 211 = .ok (.invokestatic 133, 3) := by decide +kernel
theorem dL_acts_214 : decode cL_acts 214 = .ok (.ifCond .ne 19, 3) := by decide +kernel
theorem dL_acts_217 : decode cL_acts 217 = .ok (.aload_n 0, 1) := by decide +kernel
theorem dL_acts_218 : decode cL_acts 218 = .ok (.iload_n 3, 1) := by decide +kernel
theorem dL_acts_219 : decode cL_acts 219 = .ok (.invokestatic 183, 3) := by decide +kernel
theorem dL_acts_222 : decode cL_acts 222 = .ok (.iload 5, 2) := by decide +kernel
theorem dL_acts_224 : decode cL_acts 224 = .ok (.if_icmp .ne 7, 3) := by decide +kernel
theorem dL_acts_227 : decode cL_acts 227 = .ok (.iconst 1, 1) := by decide +kernel
theorem dL_acts_228 : decode cL_acts 228 = .ok (.goto 4, 3) := by decide +kernel
theorem dL_acts_231 : decode cL_acts 231 = .ok (.iconst 0, 1) := by decide +kernel
theorem dL_acts_232 : decode cL_acts 232 = .ok (.ireturn, 1) := by decide +kernel
theorem dL_acts_233 : decode cL_acts 233 = .ok (.aload_n 0, 1) := by decide +kernel
theorem dL_acts_234 : decode cL_acts 234 = .ok (.iload 9, 2) := by decide +kernel
theorem dL_acts_236 : decode cL_acts 236 = .ok (.invokestatic 133, 3) := by decide +kernel
theorem dL_acts_239 : decode cL_acts 239 = .ok (.iconst 1, 1) := by decide +kernel
theorem dL_acts_240 : decode cL_acts 240 = .ok (.if_icmp .ne 48, 3) := by decide +kernel
theorem dL_acts_243 : decode cL_acts 243 = .ok (.aload_n 0, 1) := by decide +kernel
theorem dL_acts_244 : decode cL_acts 244 = .ok (.iload 9, 2) := by decide +kernel
theorem dL_acts_246 : decode cL_acts 246 = .ok (.invokestatic 145, 3) := by decide +kernel
theorem dL_acts_249 : decode cL_acts 249 = .ok (.iload 7, 2) := by decide +kernel
theorem dL_acts_251 : decode cL_acts 251 = .ok (.if_icmp .ne 37, 3) := by decide +kernel
theorem dL_acts_254 : decode cL_acts 254 = .ok (.aload_n 0, 1) := by decide +kernel
theorem dL_acts_255 : decode cL_acts 255 = .ok (.iload_n 3, 1) := by decide +kernel
theorem dL_acts_256 : decode cL_acts 256 = .ok (.invokestatic 183, 3) := by decide +kernel
theorem dL_acts_259 : decode cL_acts 259 = .ok (.iload 8, 2) := by decide +kernel
theorem dL_acts_261 : decode cL_acts 261 = .ok (.if_icmp .ne 27, 3) := by decide +kernel
theorem dL_acts_264 : decode cL_acts 264 = .ok (.aload_n 0, 1) := by decide +kernel
theorem dL_acts_265 : decode cL_acts 265 = .ok (.iload 6, 2) := by decide +kernel
theorem dL_acts_267 : decode cL_acts 267 = .ok (.invokestatic 183, 3) := by decide +kernel
theorem dL_acts_270 : decode cL_acts 270 = .ok (.iload 8, 2) := by decide +kernel
theorem dL_acts_272 : decode cL_acts 272 = .ok (.if_icmp .ne 16, 3) := by decide +kernel
theorem dL_acts_275 : decode cL_acts 275 = .ok (.aload_n 0, 1) := by decide +kernel
theorem dL_acts_276 : decode cL_acts 276 = .ok (.iload 9, 2) := by decide +kernel
theorem dL_acts_278 : decode cL_acts 278 = .ok (.invokestatic 141, 3) := by decide +kernel
theorem dL_acts_281 : decode cL_acts 281 = .ok (.aload_n 0, 1) := by decide +kernel
theorem dL_acts_282 : decode cL_acts 282 = .ok (.invokevirtual 152, 3) := by decide +kernel
theorem dL_acts_285 : decode cL_acts 285 = .ok (.if_icmp .eq 5, 3) := by decide +kernel
theorem dL_acts_288 : decode cL_acts 288 = .ok (.iconst 0, 1) := by decide +kernel
theorem dL_acts_289 : decode cL_acts 289 = .ok (.ireturn, 1) := by decide +kernel
theorem dL_acts_290 : decode cL_acts 290 = .ok (.iconst 0, 1) := by decide +kernel
theorem dL_acts_291 : decode cL_acts 291 = .ok (.istore 10, 2) := by decide +kernel
theorem dL_acts_293 : decode cL_acts 293 = .ok (.iload 10, 2) := by decide +kernel
theorem dL_acts_295 : decode cL_acts 295 = .ok (.iload_n 2, 1) := by decide +kernel
theorem dL_acts_296 : decode cL_acts 296 = .ok (.if_icmp .ge 46, 3) := by decide +kernel
theorem dL_acts_299 : decode cL_acts 299 = .ok (.iload 7, 2) := by decide +kernel
theorem dL_acts_301 : decode cL_acts 301 = .ok (.iload 10, 2) := by decide +kernel
theorem dL_acts_303 : decode cL_acts 303 = .ok (.ishr, 1) := by decide +kernel
theorem dL_acts_304 : decode cL_acts 304 = .ok (.iconst 1, 1) := by decide +kernel
theorem dL_acts_305 : decode cL_acts 305 = .ok (.iand, 1) := by decide +kernel
theorem dL_acts_306 : decode cL_acts 306 = .ok (.iconst 1, 1) := by decide +kernel
theorem dL_acts_307 : decode cL_acts 307 = .ok (.if_icmp .ne 29, 3) := by decide +kernel
theorem dL_acts_310 : decode cL_acts 310 = .ok (.aload_n 0, 1) := by decide +kernel
theorem dL_acts_311 : decode cL_acts 311 = .ok (.iload 10, 2) := by decide +kernel
theorem dL_acts_313 : decode cL_acts 313 = .ok (.invokestatic 183, 3) := by decide +kernel
theorem dL_acts_316 : decode cL_acts 316 = .ok (.iload 8, 2) := by decide +kernel
theorem dL_acts_318 : decode cL_acts 318 = .ok (.iand, 1) := by decide +kernel
theorem dL_acts_319 : decode cL_acts 319 = .ok (.iload 8, 2) := by decide +kernel
theorem dL_acts_321 : decode cL_acts 321 = .ok (.if_icmp .ne 13, 3) := by decide +kernel
theorem dL_acts_324 : decode cL_acts 324 = .ok (.aload_n 0, 1) := by decide +kernel
theorem dL_acts_325 : decode cL_acts 325 = .ok (.iload 10, 2) := by decide +kernel
theorem dL_acts_327 : decode cL_acts 327 = .ok (.invokestatic 213, 3) := by decide +kernel
theorem dL_acts_330 : decode cL_acts 330 = .ok (.iconst 5, 1) := by decide +kernel
theorem dL_acts_331 : decode cL_acts 331 = .ok (.if_icmp .ge 5, 3) := by decide +kernel
theorem dL_acts_334 : decode cL_acts 334 = .ok (.iconst 0, 1) := by decide +kernel
theorem dL_acts_335 : decode cL_acts 335 = .ok (.ireturn, 1) := by decide +kernel
theorem dL_acts_336 : decode cL_acts 336 = .ok (.iinc 10 1, 3) := by decide +kernel
theorem dL_acts_339 : decode cL_acts 339 = .ok (.goto (-46), 3) := by decide +kernel
theorem dL_acts_342 : decode cL_acts 342 = .ok (.iconst 1, 1) := by decide +kernel
theorem dL_acts_343 : decode cL_acts 343 = .ok (.ireturn, 1) := by decide +kernel
theorem dL_acts_344 : decode cL_acts 344 = .ok (.aload_n 0, 1) := by decide +kernel
theorem dL_acts_345 : decode cL_acts 345 = .ok (.invokevirtual 176, 3) := by decide +kernel
theorem dL_acts_348 : decode cL_acts 348 = .ok (.ifCond .ne 21, 3) := by decide +kernel
theorem dL_acts_351 : decode cL_acts 351 = .ok (.aload_n 0, 1) := by decide +kernel
theorem dL_acts_352 : decode cL_acts 352 = .ok (.iload_n 3, 1) := by decide +kernel
theorem dL_acts_353 : decode cL_acts 353 = .ok (.iconst 0, 1) := by decide +kernel
theorem dL_acts_354 : decode cL_acts 354 = .ok (.iconst 0, 1) := by decide +kernel
theorem dL_acts_355 : decode cL_acts 355 = .ok (.invokestatic 215, 3) := by decide +kernel
theorem dL_acts_358 : decode cL_acts 358 = .ok (.bipush (-17), 2) := by decide +kernel
theorem dL_acts_360 : decode cL_acts 360 = .ok (.if_icmp .ne 7, 3) := by decide +kernel
theorem dL_acts_363 : decode cL_acts 363 = .ok (.iconst 1, 1) := by decide +kernel
theorem dL_acts_364 : decode cL_acts 364 = .ok (.goto 4, 3) := by decide +kernel
theorem dL_acts_367 : decode cL_acts 367 = .ok (.iconst 0, 1) := by decide +kernel
theorem dL_acts_368 : decode cL_acts 368 = .ok (.ireturn, 1) := by decide +kernel
theorem dL_acts_369 : decode cL_acts 369 = .ok (.aload_n 1, 1) := by decide +kernel
theorem dL_acts_370 : decode cL_acts 370 = .ok (.aload_n 0, 1) := by decide +kernel
theorem dL_acts_371 : decode cL_acts 371 = .ok (.invokevirtual 176, 3) := by decide +kernel
theorem dL_acts_374 : decode cL_acts 374 = .ok (.invokestatic 203, 3) := by decide +kernel
theorem dL_acts_377 : decode cL_acts 377 = .ok (.istore 6, 2) := by decide +kernel
theorem dL_acts_379 : decode cL_acts 379 = .ok (.aload_n 0, 1) := by decide +kernel
theorem dL_acts_380 : decode cL_acts 380 = .ok (.aload_n 0, 1) := by decide +kernel
theorem dL_acts_381 : decode cL_acts 381 = .ok (.iload_n 3, 1) := by decide +kernel
theorem dL_acts_382 : decode cL_acts 382 = .ok (.invokestatic 166, 3) := by decide +kernel
theorem dL_acts_385 : decode cL_acts 385 = .ok (.invokestatic 168, 3) := by decide +kernel
theorem dL_acts_388 : decode cL_acts 388 = .ok (.ifCond .ne 23, 3) := by decide +kernel
theorem dL_acts_391 : decode cL_acts 391 = .ok (.aload_n 0, 1) := by decide +kernel
theorem dL_acts_392 : decode cL_acts 392 = .ok (.iload 6, 2) := by decide +kernel
theorem dL_acts_394 : decode cL_acts 394 = .ok (.invokestatic 179, 3) := by decide +kernel
theorem dL_acts_397 : decode cL_acts 397 = .ok (.ifCond .ne 14, 3) := by decide +kernel
theorem dL_acts_400 : decode cL_acts 400 = .ok (.aload_n 0, 1) := by decide +kernel
theorem dL_acts_401 : decode cL_acts 401 = .ok (.invokevirtual 170, 3) := by decide +kernel
theorem dL_acts_404 : decode cL_acts 404 = .ok (.ifCond .le 7, 3) := by decide +kernel
theorem dL_acts_407 : decode cL_acts 407 = .ok (.iconst 1, 1) := by decide +kernel
theorem dL_acts_408 : decode cL_acts 408 = .ok (.goto 4, 3) := by decide +kernel
theorem dL_acts_411 : decode cL_acts 411 = .ok (.iconst 0, 1) := by decide +kernel
theorem dL_acts_412 : decode cL_acts 412 = .ok (.istore 7, 2) := by decide +kernel
theorem dL_acts_414 : decode cL_acts 414 = .ok (.aload_n 0, 1) := by decide +kernel
theorem dL_acts_415 : decode cL_acts 415 = .ok (.iload_n 3, 1) := by decide +kernel
theorem dL_acts_416 : decode cL_acts 416 = .ok (.iload 6, 2) := by decide +kernel
theorem dL_acts_418 : decode cL_acts 418 = .ok (.aload_n 1, 1) := by decide +kernel
theorem dL_acts_419 : decode cL_acts 419 = .ok (.iconst 3, 1) := by decide +kernel
theorem dL_acts_420 : decode cL_acts 420 = .ok (.invokestatic 203, 3) := by decide +kernel
theorem dL_acts_423 : decode cL_acts 423 = .ok (.ifCond .ne 7, 3) := by decide +kernel
theorem dL_acts_426 : decode cL_acts 426 = .ok (.iconst 1, 1) := by decide +kernel
theorem dL_acts_427 : decode cL_acts 427 = .ok (.goto 4, 3) := by decide +kernel
theorem dL_acts_430 : decode cL_acts 430 = .ok (.iconst 0, 1) := by decide +kernel
theorem dL_acts_431 : decode cL_acts 431 = .ok (.invokestatic 215, 3) := by decide +kernel
theorem dL_acts_434 : decode cL_acts 434 = .ok (.istore 8, 2) := by decide +kernel
theorem dL_acts_436 : decode cL_acts 436 = .ok (.iload 4, 2) := by decide +kernel
theorem dL_acts_438 : decode cL_acts 438 = .ok (.bipush 40, 2) := by decide +kernel
theorem dL_acts_440 : decode cL_acts 440 = .ok (.if_icmp .ne 16, 3) := by decide +kernel
theorem dL_acts_443 : decode cL_acts 443 = .ok (.iload 8, 2) := by decide +kernel
theorem dL_acts_445 : decode cL_acts 445 = .ok (.bipush (-19), 2) := by decide +kernel
theorem dL_acts_447 : decode cL_acts 447 = .ok (.if_icmp .ne 7, 3) := by decide +kernel
theorem dL_acts_450 : decode cL_acts 450 = .ok (.iconst 1, 1) := by decide +kernel
theorem dL_acts_451 : decode cL_acts 451 = .ok (.goto 4, 3) := by decide +kernel
theorem dL_acts_454 : decode cL_acts 454 = .ok (.iconst 0, 1) := by decide +kernel
theorem dL_acts_455 : decode cL_acts 455 = .ok (.ireturn, 1) := by decide +kernel
theorem dL_acts_456 : decode cL_acts 456 = .ok (.iload 8, 2) := by decide +kernel
theorem dL_acts_458 : decode cL_acts 458 = .ok (.iload 4, 2) := by decide +kernel
theorem dL_acts_460 : decode cL_acts 460 = .ok (.if_icmp .ne 47, 3) := by decide +kernel
theorem dL_acts_463 : decode cL_acts 463 = .ok (.aload_n 0, 1) := by decide +kernel
theorem dL_acts_464 : decode cL_acts 464 = .ok (.iload 8, 2) := by decide +kernel
theorem dL_acts_466 : decode cL_acts 466 = .ok (.invokestatic 133, 3) := by decide +kernel
theorem dL_acts_469 : decode cL_acts 469 = .ok (.iload 7, 2) := by decide +kernel
theorem dL_acts_471 : decode cL_acts 471 = .ok (.ifCond .eq 7, 3) := by decide +kernel
theorem dL_acts_474 : decode cL_acts 474 = .ok (.iconst 1, 1) := by decide +kernel
theorem dL_acts_475 : decode cL_acts 475 = .ok (.goto 4, 3) := by decide +kernel
theorem dL_acts_478 : decode cL_acts 478 = .ok (.iconst 0, 1) := by decide +kernel
theorem dL_acts_479 : decode cL_acts 479 = .ok (.if_icmp .ne 28, 3) := by decide +kernel
theorem dL_acts_482 : decode cL_acts 482 = .ok (.aload_n 0, 1) := by decide +kernel
theorem dL_acts_483 : decode cL_acts 483 = .ok (.iload 8, 2) := by decide +kernel
theorem dL_acts_485 : decode cL_acts 485 = .ok (.invokestatic 135, 3) := by decide +kernel
theorem dL_acts_488 : decode cL_acts 488 = .ok (.iload 6, 2) := by decide +kernel
theorem dL_acts_490 : decode cL_acts 490 = .ok (.if_icmp .ne 17, 3) := by decide +kernel
theorem dL_acts_493 : decode cL_acts 493 = .ok (.aload_n 0, 1) := by decide +kernel
theorem dL_acts_494 : decode cL_acts 494 = .ok (.iload_n 3, 1) := by decide +kernel
theorem dL_acts_495 : decode cL_acts 495 = .ok (.invokestatic 183, 3) := by decide +kernel
theorem dL_acts_498 : decode cL_acts 498 = .ok (.iload 5, 2) := by decide +kernel
theorem dL_acts_500 : decode cL_acts 500 = .ok (.if_icmp .ne 7, 3) := by decide +kernel
theorem dL_acts_503 : decode cL_acts 503 = .ok (.iconst 1, 1) := by decide +kernel
theorem dL_acts_504 : decode cL_acts 504 = .ok (.goto 4, 3) := by decide +kernel
theorem dL_acts_507 : decode cL_acts 507 = .ok (.iconst 0, 1) := by decide +kernel
theorem dL_acts_508 : decode cL_acts 508 = .ok (.ireturn, 1) := by decide +kernel
theorem dL_acts_509 : decode cL_acts 509 = .ok (.iload 4, 2) := by decide +kernel
theorem dL_acts_511 : decode cL_acts 511 = .ok (.ifCond .ne 19, 3) := by decide +kernel
theorem dL_acts_514 : decode cL_acts 514 = .ok (.aload_n 0, 1) := by decide +kernel
theorem dL_acts_515 : decode cL_acts 515 = .ok (.iconst 0, 1) := by decide +kernel
theorem dL_acts_516 : decode cL_acts 516 = .ok (.invokestatic 217, 3) := by decide +kernel
theorem dL_acts_519 : decode cL_acts 519 = .ok (.bipush (-17), 2) := by decide +kernel
theorem dL_acts_521 : decode cL_acts 521 = .ok (.if_icmp .ne 7, 3) := by decide +kernel
theorem dL_acts_524 : decode cL_acts 524 = .ok (.iconst 1, 1) := by decide +kernel
theorem dL_acts_525 : decode cL_acts 525 = .ok (.goto 4, 3) := by decide +kernel
theorem dL_acts_528 : decode cL_acts 528 = .ok (.iconst 0, 1) := by decide +kernel
theorem dL_acts_529 : decode cL_acts 529 = .ok (.ireturn, 1) := by decide +kernel
theorem dL_acts_530 : decode cL_acts 530 = .ok (.aload_n 1, 1) := by decide +kernel
theorem dL_acts_531 : decode cL_acts 531 = .ok (.iload 4, 2) := by decide +kernel
theorem dL_acts_533 : decode cL_acts 533 = .ok (.invokestatic 203, 3) := by decide +kernel
theorem dL_acts_536 : decode cL_acts 536 = .ok (.istore 6, 2) := by decide +kernel
theorem dL_acts_538 : decode cL_acts 538 = .ok (.aload_n 0, 1) := by decide +kernel
theorem dL_acts_539 : decode cL_acts 539 = .ok (.iload 6, 2) := by decide +kernel
theorem dL_acts_541 : decode cL_acts 541 = .ok (.invokestatic 133, 3) := by decide +kernel
theorem dL_acts_544 : decode cL_acts 544 = .ok (.istore 7, 2) := by decide +kernel
theorem dL_acts_546 : decode cL_acts 546 = .ok (.aload_n 0, 1) := by decide +kernel
theorem dL_acts_547 : decode cL_acts 547 = .ok (.iload 6, 2) := by decide +kernel
theorem dL_acts_549 : decode cL_acts 549 = .ok (.invokestatic 219, 3) := by decide +kernel
theorem dL_acts_552 : decode cL_acts 552 = .ok (.istore 8, 2) := by decide +kernel
theorem dL_acts_554 : decode cL_acts 554 = .ok (.aload_n 0, 1) := by decide +kernel
theorem dL_acts_555 : decode cL_acts 555 = .ok (.invokevirtual 193, 3) := by decide +kernel
theorem dL_acts_558 : decode cL_acts 558 = .ok (.istore 9, 2) := by decide +kernel
theorem dL_acts_560 : decode cL_acts 560 = .ok (.aload_n 0, 1) := by decide +kernel
theorem dL_acts_561 : decode cL_acts 561 = .ok (.iload 6, 2) := by decide +kernel
theorem dL_acts_563 : decode cL_acts 563 = .ok (.invokestatic 217, 3) := by decide +kernel
theorem dL_acts_566 : decode cL_acts 566 = .ok (.istore 10, 2) := by decide +kernel
theorem dL_acts_568 : decode cL_acts 568 = .ok (.iload 7, 2) := by decide +kernel
theorem dL_acts_570 : decode cL_acts 570 = .ok (.iconst 1, 1) := by decide +kernel
theorem dL_acts_571 : decode cL_acts 571 = .ok (.if_icmp .le 21, 3) := by decide +kernel
theorem dL_acts_574 : decode cL_acts 574 = .ok (.iload 10, 2) := by decide +kernel
theorem dL_acts_576 : decode cL_acts 576 = .ok (.bipush (-19), 2) := by decide +kernel
theorem dL_acts_578 : decode cL_acts 578 = .ok (.if_icmp .ne 12, 3) := by decide +kernel
theorem dL_acts_581 : decode cL_acts 581 = .ok (.iload 8, 2) := by decide +kernel
theorem dL_acts_583 : decode cL_acts 583 = .ok (.ifCond .ne 7, 3) := by decide +kernel
theorem dL_acts_586 : decode cL_acts 586 = .ok (.iconst 1, 1) := by decide +kernel
theorem dL_acts_587 : decode cL_acts 587 = .ok (.goto 4, 3) := by decide +kernel
theorem dL_acts_590 : decode cL_acts 590 = .ok (.iconst 0, 1) := by decide +kernel
theorem dL_acts_591 : decode cL_acts 591 = .ok (.ireturn, 1) := by decide +kernel
theorem dL_acts_592 : decode cL_acts 592 = .ok (.iload 10, 2) := by decide +kernel
theorem dL_acts_594 : decode cL_acts 594 = .ok (.iload 8, 2) := by decide +kernel
theorem dL_acts_596 : decode cL_acts 596 = .ok (.if_icmp .ne 55, 3) := by decide +kernel
theorem dL_acts_599 : decode cL_acts 599 = .ok (.aload_n 0, 1) := by decide +kernel
theorem dL_acts_600 : decode cL_acts 600 = .ok (.iload 6, 2) := by decide +kernel
theorem dL_acts_602 : decode cL_acts 602 = .ok (.invokestatic 133, 3) := by decide +kernel
theorem dL_acts_605 : decode cL_acts 605 = .ok (.iload 7, 2) := by decide +kernel
theorem dL_acts_607 : decode cL_acts 607 = .ok (.iconst 1, 1) := by decide +kernel
theorem dL_acts_608 : decode cL_acts 608 = .ok (.if_icmp .ne 7, 3) := by decide +kernel
theorem dL_acts_611 : decode cL_acts 611 = .ok (.iconst 2, 1) := by decide +kernel
theorem dL_acts_612 : decode cL_acts 612 = .ok (.goto 4, 3) := by decide +kernel
theorem dL_acts_615 : decode cL_acts 615 = .ok (.iconst 3, 1) := by decide +kernel
theorem dL_acts_616 : decode cL_acts 616 = .ok (.if_icmp .ne 35, 3) := by decide +kernel
theorem dL_acts_619 : decode cL_acts 619 = .ok (.aload_n 0, 1) := by decide +kernel
theorem dL_acts_620 : decode cL_acts 620 = .ok (.iload 6, 2) := by decide +kernel
theorem dL_acts_622 : decode cL_acts 622 = .ok (.invokestatic 143, 3) := by decide +kernel
theorem dL_acts_625 : decode cL_acts 625 = .ok (.aload_n 0, 1) := by decide +kernel
theorem dL_acts_626 : decode cL_acts 626 = .ok (.invokevirtual 152, 3) := by decide +kernel
theorem dL_acts_629 : decode cL_acts 629 = .ok (.if_icmp .ne 22, 3) := by decide +kernel
theorem dL_acts_632 : decode cL_acts 632 = .ok (.aload_n 0, 1) := by decide +kernel
theorem dL_acts_633 : decode cL_acts 633 = .ok (.invokevirtual 193, 3) := by decide +kernel
theorem dL_acts_636 : decode cL_acts 636 = .ok (.iload 9, 2) := by decide +kernel
theorem dL_acts_638 : decode cL_acts 638 = .ok (.iload 7, 2) := by decide +kernel
theorem dL_acts_640 : decode cL_acts 640 = .ok (.isub, 1) := by decide +kernel
theorem dL_acts_641 : decode cL_acts 641 = .ok (.iload 8, 2) := by decide +kernel
theorem dL_acts_643 : decode cL_acts 643 = .ok (.iadd, 1) := by decide +kernel
theorem dL_acts_644 : decode cL_acts 644 = .ok (.if_icmp .ne 7, 3) := by decide +kernel
theorem dL_acts_647 : decode cL_acts 647 = .ok (.iconst 1, 1) := by decide +kernel
theorem dL_acts_648 : decode cL_acts 648 = .ok (.goto 4, 3) := by decide +kernel
theorem dL_acts_651 : decode cL_acts 651 = .ok (.iconst 0, 1) := by decide +kernel
theorem dL_acts_652 : decode cL_acts 652 = .ok (.ireturn, 1) := by decide +kernel
theorem dL_acts_653 : decode cL_acts 653 = .ok (.iconst 1, 1) := by decide +kernel
theorem dL_acts_654 : decode cL_acts 654 = .ok (.aload_n 1, 1) := by decide +kernel
theorem dL_acts_655 : decode cL_acts 655 = .ok (.sipush 200, 3) := by decide +kernel
theorem dL_acts_658 : decode cL_acts 658 = .ok (.invokestatic 203, 3) := by decide +kernel
theorem dL_acts_661 : decode cL_acts 661 = .ok (.iadd, 1) := by decide +kernel
theorem dL_acts_662 : decode cL_acts 662 = .ok (.istore 6, 2) := by decide +kernel
theorem dL_acts_664 : decode cL_acts 664 = .ok (.aload_n 0, 1) := by decide +kernel
theorem dL_acts_665 : decode cL_acts 665 = .ok (.invokevirtual 152, 3) := by decide +kernel
theorem dL_acts_668 : decode cL_acts 668 = .ok (.istore 7, 2) := by decide +kernel
theorem dL_acts_670 : decode cL_acts 670 = .ok (.aload_n 0, 1) := by decide +kernel
theorem dL_acts_671 : decode cL_acts 671 = .ok (.iload 6, 2) := by decide +kernel
theorem dL_acts_673 : decode cL_acts 673 = .ok (.invokestatic 221, 3) := by decide +kernel
theorem dL_acts_676 : decode cL_acts 676 = .ok (.iload 7, 2) := by decide +kernel
theorem dL_acts_678 : decode cL_acts 678 = .ok (.iload 6, 2) := by decide +kernel
theorem dL_acts_680 : decode cL_acts 680 = .ok (.iadd, 1) := by decide +kernel
theorem dL_acts_681 : decode cL_acts 681 = .ok (.if_icmp .ne 7, 3) := by decide +kernel
theorem dL_acts_684 : decode cL_acts 684 = .ok (.iconst 1, 1) := by decide +kernel
theorem dL_acts_685 : decode cL_acts 685 = .ok (.goto 4, 3) := by decide +kernel
theorem dL_acts_688 : decode cL_acts 688 = .ok (.iconst 0, 1) := by decide +kernel
theorem dL_acts_689 : decode cL_acts 689 = .ok (.ireturn, 1) := by decide +kernel
theorem dL_acts_690 : decode cL_acts 690 = .ok (.aload_n 0, 1) := by decide +kernel
theorem dL_acts_691 : decode cL_acts 691 = .ok (.iload_n 3, 1) := by decide +kernel
theorem dL_acts_692 : decode cL_acts 692 = .ok (.invokestatic 213, 3) := by decide +kernel
theorem dL_acts_695 : decode cL_acts 695 = .ok (.istore 6, 2) := by decide +kernel
theorem dL_acts_697 : decode cL_acts 697 = .ok (.aload_n 1, 1) := by decide +kernel
theorem dL_acts_698 : decode cL_acts 698 = .ok (.bipush 10, 2) := by decide +kernel
theorem dL_acts_700 : decode cL_acts 700 = .ok (.invokestatic 203, 3) := by decide +kernel
theorem dL_acts_703 : decode cL_acts 703 = .ok (.istore 7, 2) := by decide +kernel
theorem dL_acts_705 : decode cL_acts 705 = .ok (.aload_n 0, 1) := by decide +kernel
theorem dL_acts_706 : decode cL_acts 706 = .ok (.iload_n 3, 1) := by decide +kernel
theorem dL_acts_707 : decode cL_acts 707 = .ok (.iload 7, 2) := by decide +kernel
theorem dL_acts_709 : decode cL_acts 709 = .ok (.invokestatic 223, 3) := by decide +kernel
theorem dL_acts_712 : decode cL_acts 712 = .ok (.iload 6, 2) := by decide +kernel
theorem dL_acts_714 : decode cL_acts 714 = .ok (.if_icmp .ne 27, 3) := by decide +kernel
theorem dL_acts_717 : decode cL_acts 717 = .ok (.aload_n 0, 1) := by decide +kernel
theorem dL_acts_718 : decode cL_acts 718 = .ok (.iload_n 3, 1) := by decide +kernel
theorem dL_acts_719 : decode cL_acts 719 = .ok (.invokestatic 213, 3) := by decide +kernel
theorem dL_acts_722 : decode cL_acts 722 = .ok (.iload 7, 2) := by decide +kernel
theorem dL_acts_724 : decode cL_acts 724 = .ok (.if_icmp .ne 17, 3) := by decide +kernel
theorem dL_acts_727 : decode cL_acts 727 = .ok (.aload_n 0, 1) := by decide +kernel
theorem dL_acts_728 : decode cL_acts 728 = .ok (.iload_n 3, 1) := by decide +kernel
theorem dL_acts_729 : decode cL_acts 729 = .ok (.invokestatic 183, 3) := by decide +kernel
theorem dL_acts_732 : decode cL_acts 732 = .ok (.iload 5, 2) := by decide +kernel
theorem dL_acts_734 : decode cL_acts 734 = .ok (.if_icmp .ne 7, 3) := by decide +kernel
theorem dL_acts_737 : decode cL_acts 737 = .ok (.iconst 1, 1) := by decide +kernel
theorem dL_acts_738 : decode cL_acts 738 = .ok (.goto 4, 3) := by decide +kernel
theorem dL_acts_741 : decode cL_acts 741 = .ok (.iconst 0, 1) := by decide +kernel
theorem dL_acts_742 : decode cL_acts 742 = .ok (.ireturn, 1) := by decide +kernel
theorem dL_law_0 : decode cL_law 0 = .ok (.iconst 3, 1) := by decide +kernel
theorem dL_law_1 : decode cL_law 1 = .ok (.anewarray 105, 3) := by decide +kernel
theorem dL_law_4 : decode cL_law 4 = .ok (.dup, 1) := by decide +kernel
theorem dL_law_5 : decode cL_law 5 = .ok (.iconst 0, 1) := by decide +kernel
theorem dL_law_6 : decode cL_law 6 = .ok (.ldc 225, 2) := by decide +kernel
theorem dL_law_8 : decode cL_law 8 = .ok (.aastore, 1) := by decide +kernel
theorem dL_law_9 : decode cL_law 9 = .ok (.dup, 1) := by decide +kernel
theorem dL_law_10 : decode cL_law 10 = .ok (.iconst 1, 1) := by decide +kernel
theorem dL_law_11 : decode cL_law 11 = .ok (.ldc 227, 2) := by decide +kernel
theorem dL_law_13 : decode cL_law 13 = .ok (.aastore, 1) := by decide +kernel
theorem dL_law_14 : decode cL_law 14 = .ok (.dup, 1) := by decide +kernel
theorem dL_law_15 : decode cL_law 15 = .ok (.iconst 2, 1) := by decide +kernel
theorem dL_law_16 : decode cL_law 16 = .ok (.ldc 229, 2) := by decide +kernel
theorem dL_law_18 : decode cL_law 18 = .ok (.aastore, 1) := by decide +kernel
theorem dL_law_19 : decode cL_law 19 = .ok (.astore_n 1, 1) := by decide +kernel
theorem dL_law_20 : decode cL_law 20 = .ok (.iconst 0, 1) := by decide +kernel
theorem dL_law_21 : decode cL_law 21 = .ok (.istore_n 2, 1) := by decide +kernel
theorem dL_law_22 : decode cL_law 22 = .ok (.iload_n 2, 1) := by decide +kernel
theorem dL_law_23 : decode cL_law 23 = .ok (.aload_n 0, 1) := by decide +kernel
theorem dL_law_24 : decode cL_law 24 = .ok (.arraylength, 1) := by decide +kernel
theorem dL_law_25 : decode cL_law 25 = .ok (.if_icmp .ge 410, 3) := by decide +kernel
theorem dL_law_28 : decode cL_law 28 = .ok (.iload_n 2, 1) := by decide +kernel
theorem dL_law_29 : decode cL_law 29 = .ok (.iconst 1, 1) := by decide +kernel
theorem dL_law_30 : decode cL_law 30 = .ok (.if_icmp .ge 405, 3) := by decide +kernel
theorem dL_law_33 : decode cL_law 33 = .ok (.iconst 1, 1) := by decide +kernel
theorem dL_law_34 : decode cL_law 34 = .ok (.newarray .int, 2) := by decide +kernel
theorem dL_law_36 : decode cL_law 36 = .ok (.dup, 1) := by decide +kernel
theorem dL_law_37 : decode cL_law 37 = .ok (.iconst 0, 1) := by decide +kernel
theorem dL_law_38 : decode cL_law 38 = .ok (.aload_n 0, 1) := by decide +kernel
theorem dL_law_39 : decode cL_law 39 = .ok (.iload_n 2, 1) := by decide +kernel
theorem dL_law_40 : decode cL_law 40 = .ok (.iaload, 1) := by decide +kernel
theorem dL_law_41 : decode cL_law 41 = .ok (.iastore, 1) := by decide +kernel
theorem dL_law_42 : decode cL_law 42 = .ok (.astore_n 3, 1) := by decide +kernel
theorem dL_law_43 : decode cL_law 43 = .ok (.new 8, 3) := by decide +kernel
theorem dL_law_46 : decode cL_law 46 = .ok (.dup, 1) := by decide +kernel
theorem dL_law_47 : decode cL_law 47 = .ok (.invokespecial 231, 3) := by decide +kernel
theorem dL_law_50 : decode cL_law 50 = .ok (.astore 4, 2) := by decide +kernel
theorem dL_law_52 : decode cL_law 52 = .ok (.iconst 1, 1) := by decide +kernel
theorem dL_law_53 : decode cL_law 53 = .ok (.aload_n 3, 1) := by decide +kernel
theorem dL_law_54 : decode cL_law 54 = .ok (.iconst 4, 1) := by decide +kernel
theorem dL_law_55 : decode cL_law 55 = .ok (.invokestatic 203, 3) := by decide +kernel
theorem dL_law_58 : decode cL_law 58 = .ok (.iadd, 1) := by decide +kernel
theorem dL_law_59 : decode cL_law 59 = .ok (.istore 5, 2) := by decide +kernel
theorem dL_law_61 : decode cL_law 61 = .ok (.new 232, 3) := by decide +kernel
theorem dL_law_64 : decode cL_law 64 = .ok (.dup, 1) := by decide +kernel
theorem dL_law_65 : decode cL_law 65 = .ok (.ldc 234, 2) := by decide +kernel
theorem dL_law_67 : decode cL_law 67 = .ok (.invokespecial 236, 3) := by decide +kernel
theorem dL_law_70 : decode cL_law 70 = .ok (.iload 5, 2) := by decide +kernel
theorem dL_law_72 : decode cL_law 72 = .ok (.invokevirtual 239, 3) := by decide +kernel
theorem dL_law_75 : decode cL_law 75 = .ok (.bipush 32, 2) := by decide +kernel
theorem dL_law_77 : decode cL_law 77 = .ok (.invokevirtual 242, 3) := by decide +kernel
theorem dL_law_80 : decode cL_law 80 = .ok (.iconst 1, 1) := by decide +kernel
theorem dL_law_81 : decode cL_law 81 = .ok (.aload_n 3, 1) := by decide +kernel
theorem dL_law_82 : decode cL_law 82 = .ok (.iconst 3, 1) := by decide +kernel
theorem dL_law_83 : decode cL_law 83 = .ok (.invokestatic 203, 3) := by decide +kernel
theorem dL_law_86 : decode cL_law 86 = .ok (.iadd, 1) := by decide +kernel
theorem dL_law_87 : decode cL_law 87 = .ok (.invokevirtual 239, 3) := by decide +kernel
theorem dL_law_90 : decode cL_law 90 = .ok (.bipush 59, 2) := by decide +kernel
theorem dL_law_92 : decode cL_law 92 = .ok (.invokevirtual 242, 3) := by decide +kernel
theorem dL_law_95 : decode cL_law 95 = .ok (.astore 6, 2) := by decide +kernel
theorem dL_law_97 : decode cL_law 97 = .ok (.aload_n 3, 1) := by decide +kernel
theorem dL_law_98 : decode cL_law 98 = .ok (.iconst 3, 1) := by decide +kernel
theorem dL_law_99 : decode cL_law 99 = .ok (.invokestatic 203, 3) := by decide +kernel
theorem dL_law_102 : decode cL_law 102 = .ok (.istore 7, 2) := by decide +kernel
theorem dL_law_104 : decode cL_law 104 = .ok (.iload 7, 2) := by decide +kernel
theorem dL_law_106 : decode cL_law 106 = .ok (.ifCond .le 33, 3) := by decide +kernel
theorem dL_law_109 : decode cL_law 109 = .ok (.aload 6, 2) := by decide +kernel
theorem dL_law_111 : decode cL_law 111 = .ok (.ldc 245, 2) := by decide +kernel
theorem dL_law_113 : decode cL_law 113 = .ok (.invokevirtual 247, 3) := by decide +kernel
theorem dL_law_116 : decode cL_law 116 = .ok (.iconst 1, 1) := by decide +kernel
theorem dL_law_117 : decode cL_law 117 = .ok (.aload_n 3, 1) := by decide +kernel
theorem dL_law_118 : decode cL_law 118 = .ok (.bipush 99, 2) := by decide +kernel
theorem dL_law_120 : decode cL_law 120 = .ok (.invokestatic 203, 3) := by decide +kernel
theorem dL_law_123 : decode cL_law 123 = .ok (.iadd, 1) := by decide +kernel
theorem dL_law_124 : decode cL_law 124 = .ok (.invokevirtual 239, 3) := by decide +kernel
theorem dL_law_127 : decode cL_law 127 = .ok (.bipush 59, 2) := by decide +kernel
theorem dL_law_129 : decode cL_law 129 = .ok (.invokevirtual 242, 3) := by decide +kernel
theorem dL_law_132 : decode cL_law 132 = .ok (.pop, 1) := by decide +kernel
theorem dL_law_133 : decode cL_law 133 = .ok (.iinc 7 (-1), 3) := by decide +kernel
theorem dL_law_136 : decode cL_law 136 = .ok (.goto (-32), 3) := by decide +kernel
theorem dL_law_139 : decode cL_law 139 = .ok (.iconst 0, 1) := by decide +kernel
theorem dL_law_140 : decode cL_law 140 = .ok (.istore 7, 2) := by decide +kernel
theorem dL_law_142 : decode cL_law 142 = .ok (.iconst 0, 1) := by decide +kernel
theorem dL_law_143 : decode cL_law 143 = .ok (.istore 8, 2) := by decide +kernel
theorem dL_law_145 : decode cL_law 145 = .ok (.iload 8, 2) := by decide +kernel
theorem dL_law_147 : decode cL_law 147 = .ok (.iconst 3, 1) := by decide +kernel
theorem dL_law_148 : decode cL_law 148 = .ok (.iload 5, 2) := by decide +kernel
theorem dL_law_150 : decode cL_law 150 = .ok (.imul, 1) := by decide +kernel
theorem dL_law_151 : decode cL_law 151 = .ok (.if_icmp .ge 90, 3) := by decide +kernel
theorem dL_law_154 : decode cL_law 154 = .ok (.iload 7, 2) := by decide +kernel
theorem dL_law_156 : decode cL_law 156 = .ok (.ifCond .le 14, 3) := by decide +kernel
theorem dL_law_159 : decode cL_law 159 = .ok (.aload_n 3, 1) := by decide +kernel
theorem dL_law_160 : decode cL_law 160 = .ok (.iconst 4, 1) := by decide +kernel
theorem dL_law_161 : decode cL_law 161 = .ok (.invokestatic 203, 3) := by decide +kernel
theorem dL_law_164 : decode cL_law 164 = .ok (.ifCond .ne 6, 3) := by decide +kernel
theorem dL_law_167 : decode cL_law 167 = .ok (.goto 68, 3) := by decide +kernel
theorem dL_law_170 : decode cL_law 170 = .ok (.aload 6, 2) := by decide +kernel
theorem dL_law_172 : decode cL_law 172 = .ok (.ldc 250, 2) := by decide +kernel
theorem dL_law_174 : decode cL_law 174 = .ok (.invokevirtual 247, 3) := by decide +kernel
theorem dL_law_177 : decode cL_law 177 = .ok (.bipush 97, 2) := by decide +kernel
theorem dL_law_179 : decode cL_law 179 = .ok (.iload 8, 2) := by decide +kernel
theorem dL_law_181 : decode cL_law 181 = .ok (.iadd, 1) := by decide +kernel
theorem dL_law_182 : decode cL_law 182 = .ok (.i2c, 1) := by decide +kernel
theorem dL_law_183 : decode cL_law 183 = .ok (.invokevirtual 242, 3) := by decide +kernel
theorem dL_law_186 : decode cL_law 186 = .ok (.bipush 32, 2) := by decide +kernel
theorem dL_law_188 : decode cL_law 188 = .ok (.invokevirtual 242, 3) := by decide +kernel
theorem dL_law_191 : decode cL_law 191 = .ok (.iload 8, 2) := by decide +kernel
theorem dL_law_193 : decode cL_law 193 = .ok (.iconst 3, 1) := by decide +kernel
theorem dL_law_194 : decode cL_law 194 = .ok (.idiv, 1) := by decide +kernel
theorem dL_law_195 : decode cL_law 195 = .ok (.invokevirtual 239, 3) := by decide +kernel
theorem dL_law_198 : decode cL_law 198 = .ok (.bipush 32, 2) := by decide +kernel
theorem dL_law_200 : decode cL_law 200 = .ok (.invokevirtual 242, 3) := by decide +kernel
theorem dL_law_203 : decode cL_law 203 = .ok (.aload_n 1, 1) := by decide +kernel
theorem dL_law_204 : decode cL_law 204 = .ok (.iload 8, 2) := by decide +kernel
theorem dL_law_206 : decode cL_law 206 = .ok (.iconst 3, 1) := by decide +kernel
theorem dL_law_207 : decode cL_law 207 = .ok (.irem, 1) := by decide +kernel
theorem dL_law_208 : decode cL_law 208 = .ok (.aaload, 1) := by decide +kernel
theorem dL_law_209 : decode cL_law 209 = .ok (.invokevirtual 247, 3) := by decide +kernel
theorem dL_law_212 : decode cL_law 212 = .ok (.bipush 32, 2) := by decide +kernel
theorem dL_law_214 : decode cL_law 214 = .ok (.invokevirtual 242, 3) := by decide +kernel
theorem dL_law_217 : decode cL_law 217 = .ok (.aload_n 3, 1) := by decide +kernel
theorem dL_law_218 : decode cL_law 218 = .ok (.bipush 10, 2) := by decide +kernel
theorem dL_law_220 : decode cL_law 220 = .ok (.invokestatic 203, 3) := by decide +kernel
theorem dL_law_223 : decode cL_law 223 = .ok (.invokevirtual 239, 3) := by decide +kernel
theorem dL_law_226 : decode cL_law 226 = .ok (.bipush 59, 2) := by decide +kernel
theorem dL_law_228 : decode cL_law 228 = .ok (.invokevirtual 242, 3) := by decide +kernel
theorem dL_law_231 : decode cL_law 231 = .ok (.pop, 1) := by decide +kernel
theorem dL_law_232 : decode cL_law 232 = .ok (.iinc 7 1, 3) := by decide +kernel
theorem dL_law_235 : decode cL_law 235 = .ok (.iinc 8 1, 3) := by decide +kernel
theorem dL_law_238 : decode cL_law 238 = .ok (.goto (-93), 3) := by decide +kernel
theorem dL_law_241 : decode cL_law 241 = .ok (.aload 4, 2) := by decide +kernel
theorem dL_law_243 : decode cL_law 243 = .ok (.aload 6, 2) := by decide +kernel
theorem dL_law_245 : decode cL_law 245 = .ok (.invokevirtual 252, 3) := by decide +kernel
theorem dL_law_248 : decode cL_law 248 = .ok (.invokestatic 256, 3) := by decide +kernel
theorem dL_law_251 : decode cL_law 251 = .ok (.ifCond .eq 21, 3) := by decide +kernel
theorem dL_law_254 : decode cL_law 254 = .ok (.aload 4, 2) := by decide +kernel
theorem dL_law_256 : decode cL_law 256 = .ok (.invokevirtual 260, 3) := by decide +kernel
theorem dL_law_259 : decode cL_law 259 = .ok (.iload 7, 2) := by decide +kernel
theorem dL_law_261 : decode cL_law 261 = .ok (.if_icmp .ne 11, 3) := by decide +kernel
theorem dL_law_264 : decode cL_law 264 = .ok (.aload 4, 2) := by decide +kernel
theorem dL_law_266 : decode cL_law 266 = .ok (.invokestatic 263, 3) := by decide +kernel
theorem dL_law_269 : decode cL_law 269 = .ok (.ifCond .ne 5, 3) := by decide +kernel
theorem dL_law_272 : decode cL_law 272 = .ok (.iconst 0, 1) := by decide +kernel
theorem dL_law_273 : decode cL_law 273 = .ok (.ireturn, 1) := by decide +kernel
theorem dL_law_274 : decode cL_law 274 = .ok (.iconst 0, 1) := by decide +kernel
theorem dL_law_275 : decode cL_law 275 = .ok (.istore 8, 2) := by decide +kernel
theorem dL_law_277 : decode cL_law 277 = .ok (.iload 8, 2) := by decide +kernel
theorem dL_law_279 : decode cL_law 279 = .ok (.bipush 30, 2) := by decide +kernel
theorem dL_law_281 : decode cL_law 281 = .ok (.if_icmp .ge 37, 3) := by decide +kernel
theorem dL_law_284 : decode cL_law 284 = .ok (.aload 4, 2) := by decide +kernel
theorem dL_law_286 : decode cL_law 286 = .ok (.aload_n 3, 1) := by decide +kernel
theorem dL_law_287 : decode cL_law 287 = .ok (.invokestatic 267, 3) := by decide +kernel
theorem dL_law_290 : decode cL_law 290 = .ok (.ifCond .ne 5, 3) := by decide +kernel
theorem dL_law_293 : decode cL_law 293 = .ok (.iconst 0, 1) := by decide +kernel
theorem dL_law_294 : decode cL_law 294 = .ok (.ireturn, 1) := by decide +kernel
theorem dL_law_295 : decode cL_law 295 = .ok (.iload 8, 2) := by decide +kernel
theorem dL_law_297 : decode cL_law 297 = .ok (.iconst 3, 1) := by decide +kernel
theorem dL_law_298 : decode cL_law 298 = .ok (.irem, 1) := by decide +kernel
theorem dL_law_299 : decode cL_law 299 = .ok (.ifCond .ne 13, 3) := by decide +kernel
theorem dL_law_302 : decode cL_law 302 = .ok (.aload 4, 2) := by decide +kernel
theorem dL_law_304 : decode cL_law 304 = .ok (.invokestatic 263, 3) := by decide +kernel
theorem dL_law_307 : decode cL_law 307 = .ok (.ifCond .ne 5, 3) := by decide +kernel
theorem dL_law_310 : decode cL_law 310 = .ok (.iconst 0, 1) := by decide +kernel
theorem dL_law_311 : decode cL_law 311 = .ok (.ireturn, 1) := by decide +kernel
theorem dL_law_312 : decode cL_law 312 = .ok (.iinc 8 1, 3) := by decide +kernel
theorem dL_law_315 : decode cL_law 315 = .ok (.goto (-38), 3) := by decide +kernel
theorem dL_law_318 : decode cL_law 318 = .ok (.aload 4, 2) := by decide +kernel
theorem dL_law_320 : decode cL_law 320 = .ok (.invokevirtual 271, 3) := by decide +kernel
theorem dL_law_323 : decode cL_law 323 = .ok (.istore 8, 2) := by decide +kernel
theorem dL_law_325 : decode cL_law 325 = .ok (.aload 4, 2) := by decide +kernel
theorem dL_law_327 : decode cL_law 327 = .ok (.invokevirtual 130, 3) := by decide +kernel
theorem dL_law_330 : decode cL_law 330 = .ok (.istore 9, 2) := by decide +kernel
theorem dL_law_332 : decode cL_law 332 = .ok (.aload 4, 2) := by decide +kernel
theorem dL_law_334 : decode cL_law 334 = .ok (.invokevirtual 152, 3) := by decide +kernel
theorem dL_law_337 : decode cL_law 337 = .ok (.istore 10, 2) := by decide +kernel
theorem dL_law_339 : decode cL_law 339 = .ok (.aload 4, 2) := by decide +kernel
theorem dL_law_341 : decode cL_law 341 = .ok (.invokevirtual 196, 3) := by decide +kernel
theorem dL_law_344 : decode cL_law 344 = .ok (.fstore 11, 2) := by decide +kernel
theorem dL_law_346 : decode cL_law 346 = .ok (.aload 4, 2) := by decide +kernel
theorem dL_law_348 : decode cL_law 348 = .ok (.bipush 61, 2) := by decide +kernel
theorem dL_law_350 : decode cL_law 350 = .ok (.invokestatic 221, 3) := by decide +kernel
theorem dL_law_353 : decode cL_law 353 = .ok (.iload 10, 2) := by decide +kernel
theorem dL_law_355 : decode cL_law 355 = .ok (.bipush 61, 2) := by decide +kernel
theorem dL_law_357 : decode cL_law 357 = .ok (.iadd, 1) := by decide +kernel
theorem dL_law_358 : decode cL_law 358 = .ok (.if_icmp .ne 69, 3) := by decide +kernel
theorem dL_law_361 : decode cL_law 361 = .ok (.aload 4, 2) := by decide +kernel
theorem dL_law_363 : decode cL_law 363 = .ok (.invokestatic 263, 3) := by decide +kernel
theorem dL_law_366 : decode cL_law 366 = .ok (.ifCond .eq 61, 3) := by decide +kernel
theorem dL_law_369 : decode cL_law 369 = .ok (.aload 4, 2) := by decide +kernel
theorem dL_law_371 : decode cL_law 371 = .ok (.invokestatic 274, 3) := by decide +kernel
theorem dL_law_374 : decode cL_law 374 = .ok (.bipush 8, 2) := by decide +kernel
theorem dL_law_376 : decode cL_law 376 = .ok (.iload 8, 2) := by decide +kernel
theorem dL_law_378 : decode cL_law 378 = .ok (.iconst 1, 1) := by decide +kernel
theorem dL_law_379 : decode cL_law 379 = .ok (.iadd, 1) := by decide +kernel
theorem dL_law_380 : decode cL_law 380 = .ok (.invokestatic 277, 3) := by decide +kernel
theorem dL_law_383 : decode cL_law 383 = .ok (.iconst 1, 1) := by decide +kernel
theorem dL_law_384 : decode cL_law 384 = .ok (.isub, 1) := by decide +kernel
theorem dL_law_385 : decode cL_law 385 = .ok (.if_icmp .ne 42, 3) := by decide +kernel
theorem dL_law_388 : decode cL_law 388 = .ok (.aload 4, 2) := by decide +kernel
theorem dL_law_390 : decode cL_law 390 = .ok (.invokevirtual 152, 3) := by decide +kernel
theorem dL_law_393 : decode cL_law 393 = .ok (.iload 10, 2) := by decide +kernel
theorem dL_law_395 : decode cL_law 395 = .ok (.if_icmp .ne 32, 3) := by decide +kernel
theorem dL_law_398 : decode cL_law 398 = .ok (.aload 4, 2) := by decide +kernel
theorem dL_law_400 : decode cL_law 400 = .ok (.invokevirtual 130, 3) := by decide +kernel
theorem dL_law_403 : decode cL_law 403 = .ok (.iload 9, 2) := by decide +kernel
theorem dL_law_405 : decode cL_law 405 = .ok (.if_icmp .ne 22, 3) := by decide +kernel
theorem dL_law_408 : decode cL_law 408 = .ok (.aload 4, 2) := by decide +kernel
theorem dL_law_410 : decode cL_law 410 = .ok (.invokevirtual 196, 3) := by decide +kernel
theorem dL_law_413 : decode cL_law 413 = .ok (.fload 11, 2) := by decide +kernel
theorem dL_law_415 : decode cL_law 415 = .ok (.fcmp .l, 1) := by decide +kernel
theorem dL_law_416 : decode cL_law 416 = .ok (.ifCond .ne 11, 3) := by decide +kernel
theorem dL_law_419 : decode cL_law 419 = .ok (.aload 4, 2) := by decide +kernel
theorem dL_law_421 : decode cL_law 421 = .ok (.invokestatic 263, 3) := by decide +kernel
theorem dL_law_424 : decode cL_law 424 = .ok (.ifCond .ne 5, 3) := by decide +kernel
theorem dL_law_427 : decode cL_law 427 = .ok (.iconst 0, 1) := by decide +kernel
theorem dL_law_428 : decode cL_law 428 = .ok (.ireturn, 1) := by decide +kernel
theorem dL_law_429 : decode cL_law 429 = .ok (.iinc 2 1, 3) := by decide +kernel
theorem dL_law_432 : decode cL_law 432 = .ok (.goto (-410), 3) := by decide +kernel
theorem dL_law_435 : decode cL_law 435 = .ok (.iconst 1, 1) := by decide +kernel
theorem dL_law_436 : decode cL_law 436 = .ok (.ireturn, 1) := by decide +kernel
