theorem dX8_resolveBreaches_0 : decode cX8_resolveBreaches 0 = .ok (.iload_n 1, 1) := by decide +kernel
theorem dX8_resolveBreaches_1 : decode cX8_resolveBreaches 1 = .ok (.iconst (-1), 1) := by decide +kernel
theorem dX8_resolveBreaches_2 : decode cX8_resolveBreaches 2 = .ok (.aload_n 0, 1) := by decide +kernel
theorem dX8_resolveBreaches_3 : decode cX8_resolveBreaches 3 = .ok (.getfield 12, 3) := by decide +kernel
theorem dX8_resolveBreaches_6 : decode cX8_resolveBreaches 6 = .ok (.getfield 44, 3) := by decide +kernel
theorem dX8_resolveBreaches_9 : decode cX8_resolveBreaches 9 = .ok (.getfield 68, 3) := by decide +kernel
theorem dX8_resolveBreaches_12 : decode cX8_resolveBreaches 12 = .ok (.getfield 78, 3) := by decide +kernel
theorem dX8_resolveBreaches_15 : decode cX8_resolveBreaches 15 = .ok (.iconst 1, 1) := by decide +kernel
theorem dX8_resolveBreaches_16 : decode cX8_resolveBreaches 16 = .ok (.isub, 1) := by decide +kernel
theorem dX8_resolveBreaches_17 : decode cX8_resolveBreaches 17 = .ok (.invokestatic 40, 3) := by decide +kernel
theorem dX8_resolveBreaches_20 : decode cX8_resolveBreaches 20 = .ok (.ifCond .eq 17, 3) := by decide +kernel
theorem dX8_resolveBreaches_23 : decode cX8_resolveBreaches 23 = .ok (.aload_n 0, 1) := by decide +kernel
theorem dX8_resolveBreaches_24 : decode cX8_resolveBreaches 24 = .ok (.getfield 12, 3) := by decide +kernel
theorem dX8_resolveBreaches_27 : decode cX8_resolveBreaches 27 = .ok (.getfield 44, 3) := by decide +kernel
theorem dX8_resolveBreaches_30 : decode cX8_resolveBreaches 30 = .ok (.iload_n 1, 1) := by decide +kernel
theorem dX8_resolveBreaches_31 : decode cX8_resolveBreaches 31 = .ok (.invokevirtual 182, 3) := by decide +kernel
theorem dX8_resolveBreaches_34 : decode cX8_resolveBreaches 34 = .ok (.goto 5, 3) := by decide +kernel
theorem dX8_resolveBreaches_37 : decode cX8_resolveBreaches 37 = .ok (.bipush (-3), 2) := by decide +kernel
theorem dX8_resolveBreaches_39 : decode cX8_resolveBreaches 39 = .ok (.ireturn, 1) := by decide +kernel
theorem dX8_forecast_0 : decode cX8_forecast 0 = .ok (.aload_n 0, 1) := by decide +kernel
theorem dX8_forecast_1 : decode cX8_forecast 1 = .ok (.getfield 12, 3) := by decide +kernel
theorem dX8_forecast_4 : decode cX8_forecast 4 = .ok (.getfield 44, 3) := by decide +kernel
theorem dX8_forecast_7 : decode cX8_forecast 7 = .ok (.getfield 104, 3) := by decide +kernel
theorem dX8_forecast_10 : decode cX8_forecast 10 = .ok (.iload_n 1, 1) := by decide +kernel
theorem dX8_forecast_11 : decode cX8_forecast 11 = .ok (.invokevirtual 140, 3) := by decide +kernel
theorem dX8_forecast_14 : decode cX8_forecast 14 = .ok (.ifCond .ne 6, 3) := by decide +kernel
theorem dX8_forecast_17 : decode cX8_forecast 17 = .ok (.bipush (-2), 2) := by decide +kernel
theorem dX8_forecast_19 : decode cX8_forecast 19 = .ok (.ireturn, 1) := by decide +kernel
theorem dX8_forecast_20 : decode cX8_forecast 20 = .ok (.aload_n 0, 1) := by decide +kernel
theorem dX8_forecast_21 : decode cX8_forecast 21 = .ok (.getfield 25, 3) := by decide +kernel
theorem dX8_forecast_24 : decode cX8_forecast 24 = .ok (.aload_n 0, 1) := by decide +kernel
theorem dX8_forecast_25 : decode cX8_forecast 25 = .ok (.getfield 12, 3) := by decide +kernel
theorem dX8_forecast_28 : decode cX8_forecast 28 = .ok (.getfield 44, 3) := by decide +kernel
theorem dX8_forecast_31 : decode cX8_forecast 31 = .ok (.invokevirtual 188, 3) := by decide +kernel
theorem dX8_forecast_34 : decode cX8_forecast 34 = .ok (.aload_n 0, 1) := by decide +kernel
theorem dX8_forecast_35 : decode cX8_forecast 35 = .ok (.getfield 25, 3) := by decide +kernel
theorem dX8_forecast_38 : decode cX8_forecast 38 = .ok (.sipush 10080, 3) := by decide +kernel
theorem dX8_forecast_41 : decode cX8_forecast 41 = .ok (.invokevirtual 114, 3) := by decide +kernel
theorem dX8_forecast_44 : decode cX8_forecast 44 = .ok (.aload_n 0, 1) := by decide +kernel
theorem dX8_forecast_45 : decode cX8_forecast 45 = .ok (.getfield 25, 3) := by decide +kernel
theorem dX8_forecast_48 : decode cX8_forecast 48 = .ok (.getfield 104, 3) := by decide +kernel
theorem dX8_forecast_51 : decode cX8_forecast 51 = .ok (.getfield 155, 3) := by decide +kernel
theorem dX8_forecast_54 : decode cX8_forecast 54 = .ok (.iload_n 1, 1) := by decide +kernel
theorem dX8_forecast_55 : decode cX8_forecast 55 = .ok (.iaload, 1) := by decide +kernel
theorem dX8_forecast_56 : decode cX8_forecast 56 = .ok (.ireturn, 1) := by decide +kernel
theorem dX8_breachesAhead_0 : decode cX8_breachesAhead 0 = .ok (.aload_n 0, 1) := by decide +kernel
theorem dX8_breachesAhead_1 : decode cX8_breachesAhead 1 = .ok (.getfield 25, 3) := by decide +kernel
theorem dX8_breachesAhead_4 : decode cX8_breachesAhead 4 = .ok (.aload_n 0, 1) := by decide +kernel
theorem dX8_breachesAhead_5 : decode cX8_breachesAhead 5 = .ok (.getfield 12, 3) := by decide +kernel
theorem dX8_breachesAhead_8 : decode cX8_breachesAhead 8 = .ok (.getfield 44, 3) := by decide +kernel
theorem dX8_breachesAhead_11 : decode cX8_breachesAhead 11 = .ok (.invokevirtual 188, 3) := by decide +kernel
theorem dX8_breachesAhead_14 : decode cX8_breachesAhead 14 = .ok (.aload_n 0, 1) := by decide +kernel
theorem dX8_breachesAhead_15 : decode cX8_breachesAhead 15 = .ok (.getfield 25, 3) := by decide +kernel
theorem dX8_breachesAhead_18 : decode cX8_breachesAhead 18 = .ok (.sipush 10080, 3) := by decide +kernel
theorem dX8_breachesAhead_21 : decode cX8_breachesAhead 21 = .ok (.invokevirtual 114, 3) := by decide +kernel
theorem dX8_breachesAhead_24 : decode cX8_breachesAhead 24 = .ok (.aload_n 0, 1) := by decide +kernel
theorem dX8_breachesAhead_25 : decode cX8_breachesAhead 25 = .ok (.getfield 25, 3) := by decide +kernel
theorem dX8_breachesAhead_28 : decode cX8_breachesAhead 28 = .ok (.invokevirtual 192, 3) := by decide +kernel
theorem dX8_breachesAhead_31 : decode cX8_breachesAhead 31 = .ok (.aload_n 0, 1) := by decide +kernel
theorem dX8_breachesAhead_32 : decode cX8_breachesAhead 32 = .ok (.getfield 12, 3) := by decide +kernel
theorem dX8_breachesAhead_35 : decode cX8_breachesAhead 35 = .ok (.getfield 44, 3) := by decide +kernel
theorem dX8_breachesAhead_38 : decode cX8_breachesAhead 38 = .ok (.invokevirtual 192, 3) := by decide +kernel
theorem dX8_breachesAhead_41 : decode cX8_breachesAhead 41 = .ok (.isub, 1) := by decide +kernel
theorem dX8_breachesAhead_42 : decode cX8_breachesAhead 42 = .ok (.ireturn, 1) := by decide +kernel
theorem dX8_historyLength_0 : decode cX8_historyLength 0 = .ok (.aload_n 0, 1) := by decide +kernel
theorem dX8_historyLength_1 : decode cX8_historyLength 1 = .ok (.getfield 12, 3) := by decide +kernel
theorem dX8_historyLength_4 : decode cX8_historyLength 4 = .ok (.getfield 88, 3) := by decide +kernel
theorem dX8_historyLength_7 : decode cX8_historyLength 7 = .ok (.getfield 198, 3) := by decide +kernel
theorem dX8_historyLength_10 : decode cX8_historyLength 10 = .ok (.ireturn, 1) := by decide +kernel
theorem dX8_logSize_0 : decode cX8_logSize 0 = .ok (.aload_n 0, 1) := by decide +kernel
theorem dX8_logSize_1 : decode cX8_logSize 1 = .ok (.getfield 12, 3) := by decide +kernel
theorem dX8_logSize_4 : decode cX8_logSize 4 = .ok (.getfield 44, 3) := by decide +kernel
theorem dX8_logSize_7 : decode cX8_logSize 7 = .ok (.getfield 227, 3) := by decide +kernel
theorem dX8_logSize_10 : decode cX8_logSize 10 = .ok (.getfield 231, 3) := by decide +kernel
theorem dX8_logSize_13 : decode cX8_logSize 13 = .ok (.ireturn, 1) := by decide +kernel
theorem dX8_logTime_0 : decode cX8_logTime 0 = .ok (.aload_n 0, 1) := by decide +kernel
theorem dX8_logTime_1 : decode cX8_logTime 1 = .ok (.aload_n 0, 1) := by decide +kernel
theorem dX8_logTime_2 : decode cX8_logTime 2 = .ok (.getfield 12, 3) := by decide +kernel
theorem dX8_logTime_5 : decode cX8_logTime 5 = .ok (.getfield 44, 3) := by decide +kernel
theorem dX8_logTime_8 : decode cX8_logTime 8 = .ok (.getfield 227, 3) := by decide +kernel
theorem dX8_logTime_11 : decode cX8_logTime 11 = .ok (.getfield 236, 3) := by decide +kernel
theorem dX8_logTime_14 : decode cX8_logTime 14 = .ok (.iload_n 1, 1) := by decide +kernel
theorem dX8_logTime_15 : decode cX8_logTime 15 = .ok (.invokevirtual 237, 3) := by decide +kernel
theorem dX8_logTime_18 : decode cX8_logTime 18 = .ok (.ireturn, 1) := by decide +kernel
theorem dX8_logType_0 : decode cX8_logType 0 = .ok (.aload_n 0, 1) := by decide +kernel
theorem dX8_logType_1 : decode cX8_logType 1 = .ok (.aload_n 0, 1) := by decide +kernel
theorem dX8_logType_2 : decode cX8_logType 2 = .ok (.getfield 12, 3) := by decide +kernel
theorem dX8_logType_5 : decode cX8_logType 5 = .ok (.getfield 44, 3) := by decide +kernel
theorem dX8_logType_8 : decode cX8_logType 8 = .ok (.getfield 227, 3) := by decide +kernel
theorem dX8_logType_11 : decode cX8_logType 11 = .ok (.getfield 240, 3) := by decide +kernel
theorem dX8_logType_14 : decode cX8_logType 14 = .ok (.iload_n 1, 1) := by decide +kernel
theorem dX8_logType_15 : decode cX8_logType 15 = .ok (.invokevirtual 237, 3) := by decide +kernel
theorem dX8_logType_18 : decode cX8_logType 18 = .ok (.ireturn, 1) := by decide +kernel
theorem dX8_logTicket_0 : decode cX8_logTicket 0 = .ok (.aload_n 0, 1) := by decide +kernel
theorem dX8_logTicket_1 : decode cX8_logTicket 1 = .ok (.aload_n 0, 1) := by decide +kernel
theorem dX8_logTicket_2 : decode cX8_logTicket 2 = .ok (.getfield 12, 3) := by decide +kernel
theorem dX8_logTicket_5 : decode cX8_logTicket 5 = .ok (.getfield 44, 3) := by decide +kernel
theorem dX8_logTicket_8 : decode cX8_logTicket 8 = .ok (.getfield 227, 3) := by decide +kernel
theorem dX8_logTicket_11 : decode cX8_logTicket 11 = .ok (.getfield 241, 3) := by decide +kernel
theorem dX8_logTicket_14 : decode cX8_logTicket 14 = .ok (.iload_n 1, 1) := by decide +kernel
theorem dX8_logTicket_15 : decode cX8_logTicket 15 = .ok (.invokevirtual 237, 3) := by decide +kernel
theorem dX8_logTicket_18 : decode cX8_logTicket 18 = .ok (.ireturn, 1) := by decide +kernel
theorem dX8_logDetail_0 : decode cX8_logDetail 0 = .ok (.aload_n 0, 1) := by decide +kernel
theorem dX8_logDetail_1 : decode cX8_logDetail 1 = .ok (.aload_n 0, 1) := by decide +kernel
theorem dX8_logDetail_2 : decode cX8_logDetail 2 = .ok (.getfield 12, 3) := by decide +kernel
theorem dX8_logDetail_5 : decode cX8_logDetail 5 = .ok (.getfield 44, 3) := by decide +kernel
theorem dX8_logDetail_8 : decode cX8_logDetail 8 = .ok (.getfield 227, 3) := by decide +kernel
theorem dX8_logDetail_11 : decode cX8_logDetail 11 = .ok (.getfield 244, 3) := by decide +kernel
theorem dX8_logDetail_14 : decode cX8_logDetail 14 = .ok (.iload_n 1, 1) := by decide +kernel
theorem dX8_logDetail_15 : decode cX8_logDetail 15 = .ok (.invokevirtual 237, 3) := by decide +kernel
theorem dX8_logDetail_18 : decode cX8_logDetail 18 = .ok (.ireturn, 1) := by decide +kernel
theorem dX8_ofEvent_0 : decode cX8_ofEvent 0 = .ok (.iload_n 2, 1) := by decide +kernel
theorem dX8_ofEvent_1 : decode cX8_ofEvent 1 = .ok (.iconst 0, 1) := by decide +kernel
theorem dX8_ofEvent_2 : decode cX8_ofEvent 2 = .ok (.aload_n 0, 1) := by decide +kernel
theorem dX8_ofEvent_3 : decode cX8_ofEvent 3 = .ok (.getfield 12, 3) := by decide +kernel
theorem dX8_ofEvent_6 : decode cX8_ofEvent 6 = .ok (.getfield 44, 3) := by decide +kernel
theorem dX8_ofEvent_9 : decode cX8_ofEvent 9 = .ok (.getfield 227, 3) := by decide +kernel
theorem dX8_ofEvent_12 : decode cX8_ofEvent 12 = .ok (.getfield 231, 3) := by decide +kernel
theorem dX8_ofEvent_15 : decode cX8_ofEvent 15 = .ok (.iconst 1, 1) := by decide +kernel
theorem dX8_ofEvent_16 : decode cX8_ofEvent 16 = .ok (.isub, 1) := by decide +kernel
theorem dX8_ofEvent_17 : decode cX8_ofEvent 17 = .ok (.invokestatic 40, 3) := by decide +kernel
theorem dX8_ofEvent_20 : decode cX8_ofEvent 20 = .ok (.ifCond .eq 9, 3) := by decide +kernel
theorem dX8_ofEvent_23 : decode cX8_ofEvent 23 = .ok (.aload_n 1, 1) := by decide +kernel
theorem dX8_ofEvent_24 : decode cX8_ofEvent 24 = .ok (.iload_n 2, 1) := by decide +kernel
theorem dX8_ofEvent_25 : decode cX8_ofEvent 25 = .ok (.iaload, 1) := by decide +kernel
theorem dX8_ofEvent_26 : decode cX8_ofEvent 26 = .ok (.goto 5, 3) := by decide +kernel
theorem dX8_ofEvent_29 : decode cX8_ofEvent 29 = .ok (.bipush (-4), 2) := by decide +kernel
theorem dX8_ofEvent_31 : decode cX8_ofEvent 31 = .ok (.ireturn, 1) := by decide +kernel
theorem dX8_save_0 : decode cX8_save 0 = .ok (.iload_n 1, 1) := by decide +kernel
theorem dX8_save_1 : decode cX8_save 1 = .ok (.iconst 0, 1) := by decide +kernel
theorem dX8_save_2 : decode cX8_save 2 = .ok (.iconst 1, 1) := by decide +kernel
theorem dX8_save_3 : decode cX8_save 3 = .ok (.invokestatic 40, 3) := by decide +kernel
theorem dX8_save_6 : decode cX8_save 6 = .ok (.ifCond .ne 5, 3) := by decide +kernel
theorem dX8_save_9 : decode cX8_save 9 = .ok (.iconst 0, 1) := by decide +kernel
theorem dX8_save_10 : decode cX8_save 10 = .ok (.ireturn, 1) := by decide +kernel
theorem dX8_save_11 : decode cX8_save 11 = .ok (.aload_n 0, 1) := by decide +kernel
theorem dX8_save_12 : decode cX8_save 12 = .ok (.getfield 16, 3) := by decide +kernel
theorem dX8_save_15 : decode cX8_save 15 = .ok (.iload_n 1, 1) := by decide +kernel
theorem dX8_save_16 : decode cX8_save 16 = .ok (.aaload, 1) := by decide +kernel
theorem dX8_save_17 : decode cX8_save 17 = .ok (.astore_n 2, 1) := by decide +kernel
theorem dX8_save_18 : decode cX8_save 18 = .ok (.aload_n 2, 1) := by decide +kernel
theorem dX8_save_19 : decode cX8_save 19 = .ok (.ifnonnull 18, 3) := by decide +kernel
theorem dX8_save_22 : decode cX8_save 22 = .ok (.new 9, 3) := by decide +kernel
theorem dX8_save_25 : decode cX8_save 25 = .ok (.dup, 1) := by decide +kernel
theorem dX8_save_26 : decode cX8_save 26 = .ok (.invokespecial 11, 3) := by decide +kernel
theorem dX8_save_29 : decode cX8_save 29 = .ok (.astore_n 2, 1) := by decide +kernel
theorem dX8_save_30 : decode cX8_save 30 = .ok (.aload_n 0, 1) := by decide +kernel
theorem dX8_save_31 : decode cX8_save 31 = .ok (.getfield 16, 3) := by decide +kernel
theorem dX8_save_34 : decode cX8_save 34 = .ok (.iload_n 1, 1) := by decide +kernel
theorem dX8_save_35 : decode cX8_save 35 = .ok (.aload_n 2, 1) := by decide +kernel
theorem dX8_save_36 : decode cX8_save 36 = .ok (.aastore, 1) := by decide +kernel
theorem dX8_save_37 : decode cX8_save 37 = .ok (.aload_n 2, 1) := by decide +kernel
theorem dX8_save_38 : decode cX8_save 38 = .ok (.aload_n 0, 1) := by decide +kernel
theorem dX8_save_39 : decode cX8_save 39 = .ok (.getfield 12, 3) := by decide +kernel
theorem dX8_save_42 : decode cX8_save 42 = .ok (.invokevirtual 284, 3) := by decide +kernel
theorem dX8_save_45 : decode cX8_save 45 = .ok (.iconst 1, 1) := by decide +kernel
theorem dX8_save_46 : decode cX8_save 46 = .ok (.ireturn, 1) := by decide +kernel
theorem dX8_restore_0 : decode cX8_restore 0 = .ok (.iload_n 1, 1) := by decide +kernel
theorem dX8_restore_1 : decode cX8_restore 1 = .ok (.iconst 0, 1) := by decide +kernel
theorem dX8_restore_2 : decode cX8_restore 2 = .ok (.iconst 1, 1) := by decide +kernel
theorem dX8_restore_3 : decode cX8_restore 3 = .ok (.invokestatic 40, 3) := by decide +kernel
theorem dX8_restore_6 : decode cX8_restore 6 = .ok (.ifCond .ne 5, 3) := by decide +kernel
theorem dX8_restore_9 : decode cX8_restore 9 = .ok (.iconst 0, 1) := by decide +kernel
theorem dX8_restore_10 : decode cX8_restore 10 = .ok (.ireturn, 1) := by decide +kernel
theorem dX8_restore_11 : decode cX8_restore 11 = .ok (.aload_n 0, 1) := by decide +kernel
theorem dX8_restore_12 : decode cX8_restore 12 = .ok (.getfield 16, 3) := by decide +kernel
theorem dX8_restore_15 : decode cX8_restore 15 = .ok (.iload_n 1, 1) := by decide +kernel
theorem dX8_restore_16 : decode cX8_restore 16 = .ok (.aaload, 1) := by decide +kernel
theorem dX8_restore_17 : decode cX8_restore 17 = .ok (.astore_n 2, 1) := by decide +kernel
theorem dX8_restore_18 : decode cX8_restore 18 = .ok (.aload_n 2, 1) := by decide +kernel
theorem dX8_restore_19 : decode cX8_restore 19 = .ok (.ifnonnull 5, 3) := by decide +kernel
theorem dX8_restore_22 : decode cX8_restore 22 = .ok (.iconst 0, 1) := by decide +kernel
theorem dX8_restore_23 : decode cX8_restore 23 = .ok (.ireturn, 1) := by decide +kernel
theorem dX8_restore_24 : decode cX8_restore 24 = .ok (.aload_n 0, 1) := by decide +kernel
theorem dX8_restore_25 : decode cX8_restore 25 = .ok (.getfield 12, 3) := by decide +kernel
theorem dX8_restore_28 : decode cX8_restore 28 = .ok (.aload_n 2, 1) := by decide +kernel
theorem dX8_restore_29 : decode cX8_restore 29 = .ok (.invokevirtual 284, 3) := by decide +kernel
theorem dX8_restore_32 : decode cX8_restore 32 = .ok (.iconst 1, 1) := by decide +kernel
theorem dX8_restore_33 : decode cX8_restore 33 = .ok (.ireturn, 1) := by decide +kernel
theorem dX8_within_0 : decode cX8_within 0 = .ok (.iload_n 0, 1) := by decide +kernel
theorem dX8_within_1 : decode cX8_within 1 = .ok (.iload_n 1, 1) := by decide +kernel
theorem dX8_within_2 : decode cX8_within 2 = .ok (.if_icmp .lt 12, 3) := by decide +kernel
theorem dX8_within_5 : decode cX8_within 5 = .ok (.iload_n 0, 1) := by decide +kernel
theorem dX8_within_6 : decode cX8_within 6 = .ok (.iload_n 2, 1) := by decide +kernel
theorem dX8_within_7 : decode cX8_within 7 = .ok (.if_icmp .gt 7, 3) := by decide +kernel
theorem dX8_within_10 : decode cX8_within 10 = .ok (.iconst 1, 1) := by decide +kernel
theorem dX8_within_11 : decode cX8_within 11 = .ok (.goto 4, 3) := by decide +kernel
theorem dX8_within_14 : decode cX8_within 14 = .ok (.iconst 0, 1) := by decide +kernel
theorem dX8_within_15 : decode cX8_within 15 = .ok (.ireturn, 1) := by decide +kernel
theorem dJ13_bitCount_95d88_0 : decode cJ13_bitCount_95d88 0 = .ok (.lload_n 0, 1) := by decide +kernel
theorem dJ13_bitCount_95d88_1 : decode cJ13_bitCount_95d88 1 = .ok (.lload_n 0, 1) := by decide +kernel
theorem dJ13_bitCount_95d88_2 : decode cJ13_bitCount_95d88 2 = .ok (.iconst 1, 1) := by decide +kernel
theorem dJ13_bitCount_95d88_3 : decode cJ13_bitCount_95d88 3 = .ok (.lushr, 1) := by decide +kernel
theorem dJ13_bitCount_95d88_4 : decode cJ13_bitCount_95d88 4 = .ok (.ldc2_w 314, 3) := by decide +kernel
theorem dJ13_bitCount_95d88_7 : decode cJ13_bitCount_95d88 7 = .ok (.land, 1) := by decide +kernel
theorem dJ13_bitCount_95d88_8 : decode cJ13_bitCount_95d88 8 = .ok (.lsub, 1) := by decide +kernel
theorem dJ13_bitCount_95d88_9 : decode cJ13_bitCount_95d88 9 = .ok (.lstore_n 0, 1) := by decide +kernel
theorem dJ13_bitCount_95d88_10 : decode cJ13_bitCount_95d88 10 = .ok (.lload_n 0, 1) := by decide +kernel
theorem dJ13_bitCount_95d88_11 : decode cJ13_bitCount_95d88 11 = .ok (.ldc2_w 316, 3) := by decide +kernel
theorem dJ13_bitCount_95d88_14 : decode cJ13_bitCount_95d88 14 = .ok (.land, 1) := by decide +kernel
theorem dJ13_bitCount_95d88_15 : decode cJ13_bitCount_95d88 15 = .ok (.lload_n 0, 1) := by decide +kernel
theorem dJ13_bitCount_95d88_16 : decode cJ13_bitCount_95d88 16 = .ok (.iconst 2, 1) := by decide +kernel
theorem dJ13_bitCount_95d88_17 : decode cJ13_bitCount_95d88 17 = .ok (.lushr, 1) := by decide +kernel
theorem dJ13_bitCount_95d88_18 : decode cJ13_bitCount_95d88 18 = .ok (.ldc2_w 316, 3) := by decide +kernel
theorem dJ13_bitCount_95d88_21 : decode cJ13_bitCount_95d88 21 = .ok (.land, 1) := by decide +kernel
theorem dJ13_bitCount_95d88_22 : decode cJ13_bitCount_95d88 22 = .ok (.ladd, 1) := by decide +kernel
theorem dJ13_bitCount_95d88_23 : decode cJ13_bitCount_95d88 23 = .ok (.lstore_n 0, 1) := by decide +kernel
theorem dJ13_bitCount_95d88_24 : decode cJ13_bitCount_95d88 24 = .ok (.lload_n 0, 1) := by decide +kernel
theorem dJ13_bitCount_95d88_25 : decode cJ13_bitCount_95d88 25 = .ok (.lload_n 0, 1) := by decide +kernel
theorem dJ13_bitCount_95d88_26 : decode cJ13_bitCount_95d88 26 = .ok (.iconst 4, 1) := by decide +kernel
theorem dJ13_bitCount_95d88_27 : decode cJ13_bitCount_95d88 27 = .ok (.lushr, 1) := by decide +kernel
theorem dJ13_bitCount_95d88_28 : decode cJ13_bitCount_95d88 28 = .ok (.ladd, 1) := by decide +kernel
theorem dJ13_bitCount_95d88_29 : decode cJ13_bitCount_95d88 29 = .ok (.ldc2_w 318, 3) := by decide +kernel
theorem dJ13_bitCount_95d88_32 : decode cJ13_bitCount_95d88 32 = .ok (.land, 1) := by decide +kernel
theorem dJ13_bitCount_95d88_33 : decode cJ13_bitCount_95d88 33 = .ok (.lstore_n 0, 1) := by decide +kernel
theorem dJ13_bitCount_95d88_34 : decode cJ13_bitCount_95d88 34 = .ok (.lload_n 0, 1) := by decide +kernel
theorem dJ13_bitCount_95d88_35 : decode cJ13_bitCount_95d88 35 = .ok (.lload_n 0, 1) := by decide +kernel
theorem dJ13_bitCount_95d88_36 : decode cJ13_bitCount_95d88 36 = .ok (.bipush 8, 2) := by decide +kernel
theorem dJ13_bitCount_95d88_38 : decode cJ13_bitCount_95d88 38 = .ok (.lushr, 1) := by decide +kernel
theorem dJ13_bitCount_95d88_39 : decode cJ13_bitCount_95d88 39 = .ok (.ladd, 1) := by decide +kernel
theorem dJ13_bitCount_95d88_40 : decode cJ13_bitCount_95d88 40 = .ok (.lstore_n 0, 1) := by decide +kernel
theorem dJ13_bitCount_95d88_41 : decode cJ13_bitCount_95d88 41 = .ok (.lload_n 0, 1) := by decide +kernel
theorem dJ13_bitCount_95d88_42 : decode cJ13_bitCount_95d88 42 = .ok (.lload_n 0, 1) := by decide +kernel
theorem dJ13_bitCount_95d88_43 : decode cJ13_bitCount_95d88 43 = .ok (.bipush 16, 2) := by decide +kernel
theorem dJ13_bitCount_95d88_45 : decode cJ13_bitCount_95d88 45 = .ok (.lushr, 1) := by decide +kernel
theorem dJ13_bitCount_95d88_46 : decode cJ13_bitCount_95d88 46 = .ok (.ladd, 1) := by decide +kernel
theorem dJ13_bitCount_95d88_47 : decode cJ13_bitCount_95d88 47 = .ok (.lstore_n 0, 1) := by decide +kernel
theorem dJ13_bitCount_95d88_48 : decode cJ13_bitCount_95d88 48 = .ok (.lload_n 0, 1) := by decide +kernel
theorem dJ13_bitCount_95d88_49 : decode cJ13_bitCount_95d88 49 = .ok (.lload_n 0, 1) := by decide +kernel
theorem dJ13_bitCount_95d88_50 : decode cJ13_bitCount_95d88 50 = .ok (.bipush 32, 2) := by decide +kernel
theorem dJ13_bitCount_95d88_52 : decode cJ13_bitCount_95d88 52 = .ok (.lushr, 1) := by decide +kernel
theorem dJ13_bitCount_95d88_53 : decode cJ13_bitCount_95d88 53 = .ok (.ladd, 1) := by decide +kernel
theorem dJ13_bitCount_95d88_54 : decode cJ13_bitCount_95d88 54 = .ok (.lstore_n 0, 1) := by decide +kernel
theorem dJ13_bitCount_95d88_55 : decode cJ13_bitCount_95d88 55 = .ok (.lload_n 0, 1) := by decide +kernel
theorem dJ13_bitCount_95d88_56 : decode cJ13_bitCount_95d88 56 = .ok (.l2i, 1) := by decide +kernel
theorem dJ13_bitCount_95d88_57 : decode cJ13_bitCount_95d88 57 = .ok (.bipush 127, 2) := by decide +kernel
theorem dJ13_bitCount_95d88_59 : decode cJ13_bitCount_95d88 59 = .ok (.iand, 1) := by decide +kernel
theorem dJ13_bitCount_95d88_60 : decode cJ13_bitCount_95d88 60 = .ok (.ireturn, 1) := by decide +kernel
theorem dJ9_max_7cf53_0 : decode cJ9_max_7cf53 0 = .ok (.iload_n 0, 1) := by decide +kernel
theorem dJ9_max_7cf53_1 : decode cJ9_max_7cf53 1 = .ok (.iload_n 1, 1) := by decide +kernel
theorem dJ9_max_7cf53_2 : decode cJ9_max_7cf53 2 = .ok (.if_icmp .lt 7, 3) := by decide +kernel
theorem dJ9_max_7cf53_5 : decode cJ9_max_7cf53 5 = .ok (.iload_n 0, 1) := by decide +kernel
theorem dJ9_max_7cf53_6 : decode cJ9_max_7cf53 6 = .ok (.goto 4, 3) := by decide +kernel
theorem dJ9_max_7cf53_9 : decode cJ9_max_7cf53 9 = .ok (.iload_n 1, 1) := by decide +kernel
theorem dJ9_max_7cf53_10 : decode cJ9_max_7cf53 10 = .ok (.ireturn, 1) := by decide +kernel
theorem dJ9_min_7cf53_0 : decode cJ9_min_7cf53 0 = .ok (.iload_n 0, 1) := by decide +kernel
theorem dJ9_min_7cf53_1 : decode cJ9_min_7cf53 1 = .ok (.iload_n 1, 1) := by decide +kernel
theorem dJ9_min_7cf53_2 : decode cJ9_min_7cf53 2 = .ok (.if_icmp .gt 7, 3) := by decide +kernel
theorem dJ9_min_7cf53_5 : decode cJ9_min_7cf53 5 = .ok (.iload_n 0, 1) := by decide +kernel
theorem dJ9_min_7cf53_6 : decode cJ9_min_7cf53 6 = .ok (.goto 4, 3) := by decide +kernel
theorem dJ9_min_7cf53_9 : decode cJ9_min_7cf53 9 = .ok (.iload_n 1, 1) := by decide +kernel
theorem dJ9_min_7cf53_10 : decode cJ9_min_7cf53 10 = .ok (.ireturn, 1) := by decide +kernel
theorem dJxa1e45_init_da8c8_0 : decode cJxa1e45_init_da8c8 0 = .ok (.aload_n 0, 1) := by decide +kernel
theorem dJxa1e45_init_da8c8_1 : decode cJxa1e45_init_da8c8 1 = .ok (.invokespecial 1, 3) := by decide +kernel
theorem dJxa1e45_init_da8c8_4 : decode cJxa1e45_init_da8c8 4 = .ok (.return_, 1) := by decide +kernel
theorem dJxc12de_init_da8c8_0 : decode cJxc12de_init_da8c8 0 = .ok (.aload_n 0, 1) := by decide +kernel
theorem dJxc12de_init_da8c8_1 : decode cJxc12de_init_da8c8 1 = .ok (.invokespecial 1, 3) := by decide +kernel
theorem dJxc12de_init_da8c8_4 : decode cJxc12de_init_da8c8 4 = .ok (.aload_n 0, 1) := by decide +kernel
theorem dJxc12de_init_da8c8_5 : decode cJxc12de_init_da8c8 5 = .ok (.iconst 0, 1) := by decide +kernel
theorem dJxc12de_init_da8c8_6 : decode cJxc12de_init_da8c8 6 = .ok (.putfield 7, 3) := by decide +kernel
theorem dJxc12de_init_da8c8_9 : decode cJxc12de_init_da8c8 9 = .ok (.return_, 1) := by decide +kernel
theorem dJx4a65c_init_da8c8_0 : decode cJx4a65c_init_da8c8 0 = .ok (.aload_n 0, 1) := by decide +kernel
theorem dJx4a65c_init_da8c8_1 : decode cJx4a65c_init_da8c8 1 = .ok (.invokespecial 1, 3) := by decide +kernel
theorem dJx4a65c_init_da8c8_4 : decode cJx4a65c_init_da8c8 4 = .ok (.aload_n 0, 1) := by decide +kernel
theorem dJx4a65c_init_da8c8_5 : decode cJx4a65c_init_da8c8 5 = .ok (.getstatic 39, 3) := by decide +kernel
theorem dJx4a65c_init_da8c8_8 : decode cJx4a65c_init_da8c8 8 = .ok (.putfield 9, 3) := by decide +kernel
theorem dJx4a65c_init_da8c8_11 : decode cJx4a65c_init_da8c8 11 = .ok (.return_, 1) := by decide +kernel
theorem dJx4a65c_grow_92f84_0 : decode cJx4a65c_grow_92f84 0 = .ok (.aload_n 0, 1) := by decide +kernel
theorem dJx4a65c_grow_92f84_1 : decode cJx4a65c_grow_92f84 1 = .ok (.getfield 9, 3) := by decide +kernel
theorem dJx4a65c_grow_92f84_4 : decode cJx4a65c_grow_92f84 4 = .ok (.arraylength, 1) := by decide +kernel
theorem dJx4a65c_grow_92f84_5 : decode cJx4a65c_grow_92f84 5 = .ok (.istore_n 2, 1) := by decide +kernel
theorem dJx4a65c_grow_92f84_6 : decode cJx4a65c_grow_92f84 6 = .ok (.iload_n 2, 1) := by decide +kernel
theorem dJx4a65c_grow_92f84_7 : decode cJx4a65c_grow_92f84 7 = .ok (.ifCond .gt 13, 3) := by decide +kernel
theorem dJx4a65c_grow_92f84_10 : decode cJx4a65c_grow_92f84 10 = .ok (.aload_n 0, 1) := by decide +kernel
theorem dJx4a65c_grow_92f84_11 : decode cJx4a65c_grow_92f84 11 = .ok (.getfield 9, 3) := by decide +kernel
theorem dJx4a65c_grow_92f84_14 : decode cJx4a65c_grow_92f84 14 = .ok (.getstatic 39, 3) := by decide +kernel
theorem dJx4a65c_grow_92f84_17 : decode cJx4a65c_grow_92f84 17 = .ok (.if_acmp .eq 28, 3) := by decide +kernel
theorem dJx4a65c_grow_92f84_20 : decode cJx4a65c_grow_92f84 20 = .ok (.iload_n 2, 1) := by decide +kernel
theorem dJx4a65c_grow_92f84_21 : decode cJx4a65c_grow_92f84 21 = .ok (.iload_n 1, 1) := by decide +kernel
theorem dJx4a65c_grow_92f84_22 : decode cJx4a65c_grow_92f84 22 = .ok (.iload_n 2, 1) := by decide +kernel
theorem dJx4a65c_grow_92f84_23 : decode cJx4a65c_grow_92f84 23 = .ok (.isub, 1) := by decide +kernel
theorem dJx4a65c_grow_92f84_24 : decode cJx4a65c_grow_92f84 24 = .ok (.iload_n 2, 1) := by decide +kernel
theorem dJx4a65c_grow_92f84_25 : decode cJx4a65c_grow_92f84 25 = .ok (.iconst 1, 1) := by decide +kernel
theorem dJx4a65c_grow_92f84_26 : decode cJx4a65c_grow_92f84 26 = .ok (.ishr, 1) := by decide +kernel
theorem dJx4a65c_grow_92f84_27 : decode cJx4a65c_grow_92f84 27 = .ok (.invokestatic 73, 3) := by decide +kernel
theorem dJx4a65c_grow_92f84_30 : decode cJx4a65c_grow_92f84 30 = .ok (.istore_n 3, 1) := by decide +kernel
theorem dJx4a65c_grow_92f84_31 : decode cJx4a65c_grow_92f84 31 = .ok (.aload_n 0, 1) := by decide +kernel
theorem dJx4a65c_grow_92f84_32 : decode cJx4a65c_grow_92f84 32 = .ok (.aload_n 0, 1) := by decide +kernel
theorem dJx4a65c_grow_92f84_33 : decode cJx4a65c_grow_92f84 33 = .ok (.getfield 9, 3) := by decide +kernel
theorem dJx4a65c_grow_92f84_36 : decode cJx4a65c_grow_92f84 36 = .ok (.iload_n 3, 1) := by decide +kernel
theorem dJx4a65c_grow_92f84_37 : decode cJx4a65c_grow_92f84 37 = .ok (.invokestatic 66, 3) := by decide +kernel
theorem dJx4a65c_grow_92f84_40 : decode cJx4a65c_grow_92f84 40 = .ok (.dup_x1, 1) := by decide +kernel
theorem dJx4a65c_grow_92f84_41 : decode cJx4a65c_grow_92f84 41 = .ok (.putfield 9, 3) := by decide +kernel
theorem dJx4a65c_grow_92f84_44 : decode cJx4a65c_grow_92f84 44 = .ok (.areturn, 1) := by decide +kernel
theorem dJx4a65c_grow_92f84_45 : decode cJx4a65c_grow_92f84 45 = .ok (.aload_n 0, 1) := by decide +kernel
theorem dJx4a65c_grow_92f84_46 : decode cJx4a65c_grow_92f84 46 = .ok (.bipush 10, 2) := by decide +kernel
theorem dJx4a65c_grow_92f84_48 : decode cJx4a65c_grow_92f84 48 = .ok (.iload_n 1, 1) := by decide +kernel
theorem dJx4a65c_grow_92f84_49 : decode cJx4a65c_grow_92f84 49 = .ok (.invokestatic 79, 3) := by decide +kernel
theorem dJx4a65c_grow_92f84_52 : decode cJx4a65c_grow_92f84 52 = .ok (.anewarray 7, 3) := by decide +kernel
theorem dJx4a65c_grow_92f84_55 : decode cJx4a65c_grow_92f84 55 = .ok (.dup_x1, 1) := by decide +kernel
theorem dJx4a65c_grow_92f84_56 : decode cJx4a65c_grow_92f84 56 = .ok (.putfield 9, 3) := by decide +kernel
theorem dJx4a65c_grow_92f84_59 : decode cJx4a65c_grow_92f84 59 = .ok (.areturn, 1) := by decide +kernel
theorem dJx4a65c_grow_d5877_0 : decode cJx4a65c_grow_d5877 0 = .ok (.aload_n 0, 1) := by decide +kernel
theorem dJx4a65c_grow_d5877_1 : decode cJx4a65c_grow_d5877 1 = .ok (.aload_n 0, 1) := by decide +kernel
theorem dJx4a65c_grow_d5877_2 : decode cJx4a65c_grow_d5877 2 = .ok (.getfield 48, 3) := by decide +kernel
theorem dJx4a65c_grow_d5877_5 : decode cJx4a65c_grow_d5877 5 = .ok (.iconst 1, 1) := by decide +kernel
theorem dJx4a65c_grow_d5877_6 : decode cJx4a65c_grow_d5877 6 = .ok (.iadd, 1) := by decide +kernel
theorem dJx4a65c_grow_d5877_7 : decode cJx4a65c_grow_d5877 7 = .ok (.invokevirtual 69, 3) := by decide +kernel
theorem dJx4a65c_grow_d5877_10 : decode cJx4a65c_grow_d5877 10 = .ok (.areturn, 1) := by decide +kernel
theorem dJx4a65c_size_8abf5_0 : decode cJx4a65c_size_8abf5 0 = .ok (.aload_n 0, 1) := by decide +kernel
theorem dJx4a65c_size_8abf5_1 : decode cJx4a65c_size_8abf5 1 = .ok (.getfield 48, 3) := by decide +kernel
theorem dJx4a65c_size_8abf5_4 : decode cJx4a65c_size_8abf5 4 = .ok (.ireturn, 1) := by decide +kernel
theorem dJx4a65c_elementData_915e3_0 : decode cJx4a65c_elementData_915e3 0 = .ok (.aload_n 0, 1) := by decide +kernel
theorem dJx4a65c_elementData_915e3_1 : decode cJx4a65c_elementData_915e3 1 = .ok (.getfield 9, 3) := by decide +kernel
theorem dJx4a65c_elementData_915e3_4 : decode cJx4a65c_elementData_915e3 4 = .ok (.iload_n 1, 1) := by decide +kernel
theorem dJx4a65c_elementData_915e3_5 : decode cJx4a65c_elementData_915e3 5 = .ok (.aaload, 1) := by decide +kernel
theorem dJx4a65c_elementData_915e3_6 : decode cJx4a65c_elementData_915e3 6 = .ok (.areturn, 1) := by decide +kernel
theorem dJx4a65c_get_915e3_0 : decode cJx4a65c_get_915e3 0 = .ok (.iload_n 1, 1) := by decide +kernel
theorem dJx4a65c_get_915e3_1 : decode cJx4a65c_get_915e3 1 = .ok (.aload_n 0, 1) := by decide +kernel
theorem dJx4a65c_get_915e3_2 : decode cJx4a65c_get_915e3 2 = .ok (.getfield 48, 3) := by decide +kernel
theorem dJx4a65c_get_915e3_5 : decode cJx4a65c_get_915e3 5 = .ok (.invokestatic 118, 3) := by decide +kernel
theorem dJx4a65c_get_915e3_8 : decode cJx4a65c_get_915e3 8 = .ok (.pop, 1) := by decide +kernel
theorem dJx4a65c_get_915e3_9 : decode cJx4a65c_get_915e3 9 = .ok (.aload_n 0, 1) := by decide +kernel
theorem dJx4a65c_get_915e3_10 : decode cJx4a65c_get_915e3 10 = .ok (.iload_n 1, 1) := by decide +kernel
theorem dJx4a65c_get_915e3_11 : decode cJx4a65c_get_915e3 11 = .ok (.invokevirtual 123, 3) := by decide +kernel
theorem dJx4a65c_get_915e3_14 : decode cJx4a65c_get_915e3 14 = .ok (.areturn, 1) := by decide +kernel
theorem dJx4a65c_add_72be8_0 : decode cJx4a65c_add_72be8 0 = .ok (.iload_n 3, 1) := by decide +kernel
theorem dJx4a65c_add_72be8_1 : decode cJx4a65c_add_72be8 1 = .ok (.aload_n 2, 1) := by decide +kernel
theorem dJx4a65c_add_72be8_2 : decode cJx4a65c_add_72be8 2 = .ok (.arraylength, 1) := by decide +kernel
theorem dJx4a65c_add_72be8_3 : decode cJx4a65c_add_72be8 3 = .ok (.if_icmp .ne 8, 3) := by decide +kernel
theorem dJx4a65c_add_72be8_6 : decode cJx4a65c_add_72be8 6 = .ok (.aload_n 0, 1) := by decide +kernel
theorem dJx4a65c_add_72be8_7 : decode cJx4a65c_add_72be8 7 = .ok (.invokevirtual 129, 3) := by decide +kernel
theorem dJx4a65c_add_72be8_10 : decode cJx4a65c_add_72be8 10 = .ok (.astore_n 2, 1) := by decide +kernel
theorem dJx4a65c_add_72be8_11 : decode cJx4a65c_add_72be8 11 = .ok (.aload_n 2, 1) := by decide +kernel
theorem dJx4a65c_add_72be8_12 : decode cJx4a65c_add_72be8 12 = .ok (.iload_n 3, 1) := by decide +kernel
theorem dJx4a65c_add_72be8_13 : decode cJx4a65c_add_72be8 13 = .ok (.aload_n 1, 1) := by decide +kernel
theorem dJx4a65c_add_72be8_14 : decode cJx4a65c_add_72be8 14 = .ok (.aastore, 1) := by decide +kernel
theorem dJx4a65c_add_72be8_15 : decode cJx4a65c_add_72be8 15 = .ok (.aload_n 0, 1) := by decide +kernel
theorem dJx4a65c_add_72be8_16 : decode cJx4a65c_add_72be8 16 = .ok (.iload_n 3, 1) := by decide +kernel
theorem dJx4a65c_add_72be8_17 : decode cJx4a65c_add_72be8 17 = .ok (.iconst 1, 1) := by decide +kernel
theorem dJx4a65c_add_72be8_18 : decode cJx4a65c_add_72be8 18 = .ok (.iadd, 1) := by decide +kernel
theorem dJx4a65c_add_72be8_19 : decode cJx4a65c_add_72be8 19 = .ok (.putfield 48, 3) := by decide +kernel
theorem dJx4a65c_add_72be8_22 : decode cJx4a65c_add_72be8 22 = .ok (.return_, 1) := by decide +kernel
theorem dJx4a65c_add_9ea2d_0 : decode cJx4a65c_add_9ea2d 0 = .ok (.aload_n 0, 1) := by decide +kernel
theorem dJx4a65c_add_9ea2d_1 : decode cJx4a65c_add_9ea2d 1 = .ok (.dup, 1) := by decide +kernel
theorem dJx4a65c_add_9ea2d_2 : decode cJx4a65c_add_9ea2d 2 = .ok (.getfield 63, 3) := by decide +kernel
theorem dJx4a65c_add_9ea2d_5 : decode cJx4a65c_add_9ea2d 5 = .ok (.iconst 1, 1) := by decide +kernel
theorem dJx4a65c_add_9ea2d_6 : decode cJx4a65c_add_9ea2d 6 = .ok (.iadd, 1) := by decide +kernel
theorem dJx4a65c_add_9ea2d_7 : decode cJx4a65c_add_9ea2d 7 = .ok (.putfield 63, 3) := by decide +kernel
theorem dJx4a65c_add_9ea2d_10 : decode cJx4a65c_add_9ea2d 10 = .ok (.aload_n 0, 1) := by decide +kernel
theorem dJx4a65c_add_9ea2d_11 : decode cJx4a65c_add_9ea2d 11 = .ok (.aload_n 1, 1) := by decide +kernel
theorem dJx4a65c_add_9ea2d_12 : decode cJx4a65c_add_9ea2d 12 = .ok (.aload_n 0, 1) := by decide +kernel
theorem dJx4a65c_add_9ea2d_13 : decode cJx4a65c_add_9ea2d 13 = .ok (.getfield 9, 3) := by decide +kernel
theorem dJx4a65c_add_9ea2d_16 : decode cJx4a65c_add_9ea2d 16 = .ok (.aload_n 0, 1) := by decide +kernel
theorem dJx4a65c_add_9ea2d_17 : decode cJx4a65c_add_9ea2d 17 = .ok (.getfield 48, 3) := by decide +kernel
theorem dJx4a65c_add_9ea2d_20 : decode cJx4a65c_add_9ea2d 20 = .ok (.invokevirtual 131, 3) := by decide +kernel
theorem dJx4a65c_add_9ea2d_23 : decode cJx4a65c_add_9ea2d 23 = .ok (.iconst 1, 1) := by decide +kernel
theorem dJx4a65c_add_9ea2d_24 : decode cJx4a65c_add_9ea2d 24 = .ok (.ireturn, 1) := by decide +kernel
theorem dJ7_fill_53178_0 : decode cJ7_fill_53178 0 = .ok (.iconst 0, 1) := by decide +kernel
theorem dJ7_fill_53178_1 : decode cJ7_fill_53178 1 = .ok (.istore_n 2, 1) := by decide +kernel
theorem dJ7_fill_53178_2 : decode cJ7_fill_53178 2 = .ok (.aload_n 0, 1) := by decide +kernel
theorem dJ7_fill_53178_3 : decode cJ7_fill_53178 3 = .ok (.arraylength, 1) := by decide +kernel
theorem dJ7_fill_53178_4 : decode cJ7_fill_53178 4 = .ok (.istore_n 3, 1) := by decide +kernel
theorem dJ7_fill_53178_5 : decode cJ7_fill_53178 5 = .ok (.iload_n 2, 1) := by decide +kernel
theorem dJ7_fill_53178_6 : decode cJ7_fill_53178 6 = .ok (.iload_n 3, 1) := by decide +kernel
theorem dJ7_fill_53178_7 : decode cJ7_fill_53178 7 = .ok (.if_icmp .ge 13, 3) := by decide +kernel
theorem dJ7_fill_53178_10 : decode cJ7_fill_53178 10 = .ok (.aload_n 0, 1) := by decide +kernel
theorem dJ7_fill_53178_11 : decode cJ7_fill_53178 11 = .ok (.iload_n 2, 1) := by decide +kernel
theorem dJ7_fill_53178_12 : decode cJ7_fill_53178 12 = .ok (.iload_n 1, 1) := by decide +kernel
theorem dJ7_fill_53178_13 : decode cJ7_fill_53178 13 = .ok (.iastore, 1) := by decide +kernel
theorem dJ7_fill_53178_14 : decode cJ7_fill_53178 14 = .ok (.iinc 2 1, 3) := by decide +kernel
theorem dJ7_fill_53178_17 : decode cJ7_fill_53178 17 = .ok (.goto (-12), 3) := by decide +kernel
theorem dJ7_fill_53178_20 : decode cJ7_fill_53178 20 = .ok (.return_, 1) := by decide +kernel
theorem dJ7_copyOf_1904c_0 : decode cJ7_copyOf_1904c 0 = .ok (.aload_n 0, 1) := by decide +kernel
theorem dJ7_copyOf_1904c_1 : decode cJ7_copyOf_1904c 1 = .ok (.iload_n 1, 1) := by decide +kernel
theorem dJ7_copyOf_1904c_2 : decode cJ7_copyOf_1904c 2 = .ok (.aload_n 0, 1) := by decide +kernel
theorem dJ7_copyOf_1904c_3 : decode cJ7_copyOf_1904c 3 = .ok (.invokevirtual 86, 3) := by decide +kernel
theorem dJ7_copyOf_1904c_6 : decode cJ7_copyOf_1904c 6 = .ok (.invokestatic 300, 3) := by decide +kernel
theorem dJ7_copyOf_1904c_9 : decode cJ7_copyOf_1904c 9 = .ok (.areturn, 1) := by decide +kernel
theorem dJ7_copyOf_6403c_0 : decode cJ7_copyOf_6403c 0 = .ok (.aload_n 2, 1) := by decide +kernel
theorem dJ7_copyOf_6403c_1 : decode cJ7_copyOf_6403c 1 = .ok (.ldc 110, 2) := by decide +kernel
theorem dJ7_copyOf_6403c_3 : decode cJ7_copyOf_6403c 3 = .ok (.if_acmp .ne 10, 3) := by decide +kernel
theorem dJ7_copyOf_6403c_6 : decode cJ7_copyOf_6403c 6 = .ok (.iload_n 1, 1) := by decide +kernel
theorem dJ7_copyOf_6403c_7 : decode cJ7_copyOf_6403c 7 = .ok (.anewarray 2, 3) := by decide +kernel
theorem dJ7_copyOf_6403c_10 : decode cJ7_copyOf_6403c 10 = .ok (.goto 14, 3) := by decide +kernel
theorem dJ7_copyOf_6403c_13 : decode cJ7_copyOf_6403c 13 = .ok (.aload_n 2, 1) := by decide +kernel
theorem dJ7_copyOf_6403c_14 : decode cJ7_copyOf_6403c 14 = .ok (.invokevirtual 90, 3) := by decide +kernel
theorem dJ7_copyOf_6403c_17 : decode cJ7_copyOf_6403c 17 = .ok (.iload_n 1, 1) := by decide +kernel
theorem dJ7_copyOf_6403c_18 : decode cJ7_copyOf_6403c 18 = .ok (.invokestatic 95, 3) := by decide +kernel
theorem dJ7_copyOf_6403c_21 : decode cJ7_copyOf_6403c 21 = .ok (.checkcast 110, 3) := by decide +kernel
theorem dJ7_copyOf_6403c_24 : decode cJ7_copyOf_6403c 24 = .ok (.astore_n 3, 1) := by decide +kernel
theorem dJ7_copyOf_6403c_25 : decode cJ7_copyOf_6403c 25 = .ok (.aload_n 0, 1) := by decide +kernel
theorem dJ7_copyOf_6403c_26 : decode cJ7_copyOf_6403c 26 = .ok (.iconst 0, 1) := by decide +kernel
theorem dJ7_copyOf_6403c_27 : decode cJ7_copyOf_6403c 27 = .ok (.aload_n 3, 1) := by decide +kernel
theorem dJ7_copyOf_6403c_28 : decode cJ7_copyOf_6403c 28 = .ok (.iconst 0, 1) := by decide +kernel
theorem dJ7_copyOf_6403c_29 : decode cJ7_copyOf_6403c 29 = .ok (.aload_n 0, 1) := by decide +kernel
theorem dJ7_copyOf_6403c_30 : decode cJ7_copyOf_6403c 30 = .ok (.arraylength, 1) := by decide +kernel
theorem dJ7_copyOf_6403c_31 : decode cJ7_copyOf_6403c 31 = .ok (.iload_n 1, 1) := by decide +kernel
theorem dJ7_copyOf_6403c_32 : decode cJ7_copyOf_6403c 32 = .ok (.invokestatic 304, 3) := by decide +kernel
theorem dJ7_copyOf_6403c_35 : decode cJ7_copyOf_6403c 35 = .ok (.invokestatic 150, 3) := by decide +kernel
theorem dJ7_copyOf_6403c_38 : decode cJ7_copyOf_6403c 38 = .ok (.aload_n 3, 1) := by decide +kernel
theorem dJ7_copyOf_6403c_39 : decode cJ7_copyOf_6403c 39 = .ok (.areturn, 1) := by decide +kernel
theorem dJ15_checkIndex_7cf53_0 : decode cJ15_checkIndex_7cf53 0 = .ok (.iload_n 0, 1) := by decide +kernel
theorem dJ15_checkIndex_7cf53_1 : decode cJ15_checkIndex_7cf53 1 = .ok (.iload_n 1, 1) := by decide +kernel
theorem dJ15_checkIndex_7cf53_2 : decode cJ15_checkIndex_7cf53 2 = .ok (.aconst_null, 1) := by decide +kernel
theorem dJ15_checkIndex_7cf53_3 : decode cJ15_checkIndex_7cf53 3 = .ok (.invokestatic 105, 3) := by decide +kernel
theorem dJ15_checkIndex_7cf53_6 : decode cJ15_checkIndex_7cf53 6 = .ok (.ireturn, 1) := by decide +kernel
theorem dJ8_newLength_cabcc_0 : decode cJ8_newLength_cabcc 0 = .ok (.iload_n 0, 1) := by decide +kernel
theorem dJ8_newLength_cabcc_1 : decode cJ8_newLength_cabcc 1 = .ok (.iload_n 1, 1) := by decide +kernel
theorem dJ8_newLength_cabcc_2 : decode cJ8_newLength_cabcc 2 = .ok (.iload_n 2, 1) := by decide +kernel
theorem dJ8_newLength_cabcc_3 : decode cJ8_newLength_cabcc 3 = .ok (.invokestatic 194, 3) := by decide +kernel
theorem dJ8_newLength_cabcc_6 : decode cJ8_newLength_cabcc 6 = .ok (.iadd, 1) := by decide +kernel
theorem dJ8_newLength_cabcc_7 : decode cJ8_newLength_cabcc 7 = .ok (.istore_n 3, 1) := by decide +kernel
theorem dJ8_newLength_cabcc_8 : decode cJ8_newLength_cabcc 8 = .ok (.iconst 0, 1) := by decide +kernel
theorem dJ8_newLength_cabcc_9 : decode cJ8_newLength_cabcc 9 = .ok (.iload_n 3, 1) := by decide +kernel
theorem dJ8_newLength_cabcc_10 : decode cJ8_newLength_cabcc 10 = .ok (.if_icmp .ge 11, 3) := by decide +kernel
theorem dJ8_newLength_cabcc_13 : decode cJ8_newLength_cabcc 13 = .ok (.iload_n 3, 1) := by decide +kernel
theorem dJ8_newLength_cabcc_14 : decode cJ8_newLength_cabcc 14 = .ok (.ldc 200, 2) := by decide +kernel
theorem dJ8_newLength_cabcc_16 : decode cJ8_newLength_cabcc 16 = .ok (.if_icmp .gt 5, 3) := by decide +kernel
theorem dJ8_newLength_cabcc_19 : decode cJ8_newLength_cabcc 19 = .ok (.iload_n 3, 1) := by decide +kernel
theorem dJ8_newLength_cabcc_20 : decode cJ8_newLength_cabcc 20 = .ok (.ireturn, 1) := by decide +kernel
theorem dJ8_newLength_cabcc_21 : decode cJ8_newLength_cabcc 21 = .ok (.iload_n 0, 1) := by decide +kernel
theorem dJ8_newLength_cabcc_22 : decode cJ8_newLength_cabcc 22 = .ok (.iload_n 1, 1) := by decide +kernel
theorem dJ8_newLength_cabcc_23 : decode cJ8_newLength_cabcc 23 = .ok (.invokestatic 201, 3) := by decide +kernel
theorem dJ8_newLength_cabcc_26 : decode cJ8_newLength_cabcc 26 = .ok (.ireturn, 1) := by decide +kernel
theorem dJ8_hugeLength_7cf53_0 : decode cJ8_hugeLength_7cf53 0 = .ok (.iload_n 0, 1) := by decide +kernel
theorem dJ8_hugeLength_7cf53_1 : decode cJ8_hugeLength_7cf53 1 = .ok (.iload_n 1, 1) := by decide +kernel
theorem dJ8_hugeLength_7cf53_2 : decode cJ8_hugeLength_7cf53 2 = .ok (.iadd, 1) := by decide +kernel
theorem dJ8_hugeLength_7cf53_3 : decode cJ8_hugeLength_7cf53 3 = .ok (.istore_n 2, 1) := by decide +kernel
theorem dJ8_hugeLength_7cf53_4 : decode cJ8_hugeLength_7cf53 4 = .ok (.iload_n 2, 1) := by decide +kernel
theorem dJ8_hugeLength_7cf53_5 : decode cJ8_hugeLength_7cf53 5 = .ok (.ifCond .ge 44, 3) := by decide +kernel
theorem dJ8_hugeLength_7cf53_8 : decode cJ8_hugeLength_7cf53 8 = .ok (.new 204, 3) := by decide +kernel
theorem dJ8_hugeLength_7cf53_11 : decode cJ8_hugeLength_7cf53 11 = .ok (.dup, 1) := by decide +kernel
theorem dJ8_hugeLength_7cf53_12 : decode cJ8_hugeLength_7cf53 12 = .ok (.new 89, 3) := by decide +kernel
theorem dJ8_hugeLength_7cf53_15 : decode cJ8_hugeLength_7cf53 15 = .ok (.dup, 1) := by decide +kernel
theorem dJ8_hugeLength_7cf53_16 : decode cJ8_hugeLength_7cf53 16 = .ok (.invokespecial 91, 3) := by decide +kernel
theorem dJ8_hugeLength_7cf53_19 : decode cJ8_hugeLength_7cf53 19 = .ok (.ldc 206, 2) := by decide +kernel
theorem dJ8_hugeLength_7cf53_21 : decode cJ8_hugeLength_7cf53 21 = .ok (.invokevirtual 94, 3) := by decide +kernel
theorem dJ8_hugeLength_7cf53_24 : decode cJ8_hugeLength_7cf53 24 = .ok (.iload_n 0, 1) := by decide +kernel
theorem dJ8_hugeLength_7cf53_25 : decode cJ8_hugeLength_7cf53 25 = .ok (.invokevirtual 98, 3) := by decide +kernel
theorem dJ8_hugeLength_7cf53_28 : decode cJ8_hugeLength_7cf53 28 = .ok (.ldc 208, 2) := by decide +kernel
theorem dJ8_hugeLength_7cf53_30 : decode cJ8_hugeLength_7cf53 30 = .ok (.invokevirtual 94, 3) := by decide +kernel
theorem dJ8_hugeLength_7cf53_33 : decode cJ8_hugeLength_7cf53 33 = .ok (.iload_n 1, 1) := by decide +kernel
theorem dJ8_hugeLength_7cf53_34 : decode cJ8_hugeLength_7cf53 34 = .ok (.invokevirtual 98, 3) := by decide +kernel
theorem dJ8_hugeLength_7cf53_37 : decode cJ8_hugeLength_7cf53 37 = .ok (.ldc 210, 2) := by decide +kernel
theorem dJ8_hugeLength_7cf53_39 : decode cJ8_hugeLength_7cf53 39 = .ok (.invokevirtual 94, 3) := by decide +kernel
theorem dJ8_hugeLength_7cf53_42 : decode cJ8_hugeLength_7cf53 42 = .ok (.invokevirtual 101, 3) := by decide +kernel
theorem dJ8_hugeLength_7cf53_45 : decode cJ8_hugeLength_7cf53 45 = .ok (.invokespecial 212, 3) := by decide +kernel
theorem dJ8_hugeLength_7cf53_48 : decode cJ8_hugeLength_7cf53 48 = .ok (.athrow, 1) := by decide +kernel
theorem dJ8_hugeLength_7cf53_49 : decode cJ8_hugeLength_7cf53 49 = .ok (.iload_n 2, 1) := by decide +kernel
theorem dJ8_hugeLength_7cf53_50 : decode cJ8_hugeLength_7cf53 50 = .ok (.ldc 200, 2) := by decide +kernel
theorem dJ8_hugeLength_7cf53_52 : decode cJ8_hugeLength_7cf53 52 = .ok (.if_icmp .gt 6, 3) := by decide +kernel
theorem dJ8_hugeLength_7cf53_55 : decode cJ8_hugeLength_7cf53 55 = .ok (.ldc 200, 2) := by decide +kernel
theorem dJ8_hugeLength_7cf53_57 : decode cJ8_hugeLength_7cf53 57 = .ok (.ireturn, 1) := by decide +kernel
theorem dJ8_hugeLength_7cf53_58 : decode cJ8_hugeLength_7cf53 58 = .ok (.iload_n 2, 1) := by decide +kernel
theorem dJ8_hugeLength_7cf53_59 : decode cJ8_hugeLength_7cf53 59 = .ok (.ireturn, 1) := by decide +kernel
theorem dJ3_checkIndex_8e157_0 : decode cJ3_checkIndex_8e157 0 = .ok (.iload_n 0, 1) := by decide +kernel
theorem dJ3_checkIndex_8e157_1 : decode cJ3_checkIndex_8e157 1 = .ok (.ifCond .lt 8, 3) := by decide +kernel
theorem dJ3_checkIndex_8e157_4 : decode cJ3_checkIndex_8e157 4 = .ok (.iload_n 0, 1) := by decide +kernel
theorem dJ3_checkIndex_8e157_5 : decode cJ3_checkIndex_8e157 5 = .ok (.iload_n 1, 1) := by decide +kernel
theorem dJ3_checkIndex_8e157_6 : decode cJ3_checkIndex_8e157 6 = .ok (.if_icmp .lt 10, 3) := by decide +kernel
theorem dJ3_checkIndex_8e157_9 : decode cJ3_checkIndex_8e157 9 = .ok (.aload_n 2, 1) := by decide +kernel
theorem dJ3_checkIndex_8e157_10 : decode cJ3_checkIndex_8e157 10 = .ok (.iload_n 0, 1) := by decide +kernel
theorem dJ3_checkIndex_8e157_11 : decode cJ3_checkIndex_8e157 11 = .ok (.iload_n 1, 1) := by decide +kernel
theorem dJ3_checkIndex_8e157_12 : decode cJ3_checkIndex_8e157 12 = .ok (.invokestatic 95, 3) := by decide +kernel
theorem dJ3_checkIndex_8e157_15 : decode cJ3_checkIndex_8e157 15 = .ok (.athrow, 1) := by decide +kernel
theorem dJ3_checkIndex_8e157_16 : decode cJ3_checkIndex_8e157 16 = .ok (.iload_n 0, 1) := by decide +kernel
theorem dJ3_checkIndex_8e157_17 : decode cJ3_checkIndex_8e157 17 = .ok (.ireturn, 1) := by decide +kernel
theorem dL_init_0 : decode cL_init 0 = .ok (.aload_n 0, 1) := by decide +kernel
theorem dL_init_1 : decode cL_init 1 = .ok (.invokespecial 1, 3) := by decide +kernel
theorem dL_init_4 : decode cL_init 4 = .ok (.aload_n 0, 1) := by decide +kernel
theorem dL_init_5 : decode cL_init 5 = .ok (.new 7, 3) := by decide +kernel
theorem dL_init_8 : decode cL_init 8 = .ok (.dup, 1) := by decide +kernel
theorem dL_init_9 : decode cL_init 9 = .ok (.invokespecial 9, 3) := by decide +kernel
theorem dL_init_12 : decode cL_init 12 = .ok (.putfield 10, 3) := by decide +kernel
theorem dL_init_15 : decode cL_init 15 = .ok (.aload_n 0, 1) := by decide +kernel
theorem dL_init_16 : decode cL_init 16 = .ok (.new 16, 3) := by decide +kernel
theorem dL_init_19 : decode cL_init 19 = .ok (.dup, 1) := by decide +kernel
theorem dL_init_20 : decode cL_init 20 = .ok (.invokespecial 18, 3) := by decide +kernel
theorem dL_init_23 : decode cL_init 23 = .ok (.putfield 19, 3) := by decide +kernel
theorem dL_init_26 : decode cL_init 26 = .ok (.return_, 1) := by decide +kernel
theorem dL_at_0 : decode cL_at 0 = .ok (.iload_n 1, 1) := by decide +kernel
theorem dL_at_1 : decode cL_at 1 = .ok (.aload_n 0, 1) := by decide +kernel
theorem dL_at_2 : decode cL_at 2 = .ok (.arraylength, 1) := by decide +kernel
theorem dL_at_3 : decode cL_at 3 = .ok (.if_icmp .ge 9, 3) := by decide +kernel
theorem dL_at_6 : decode cL_at 6 = .ok (.aload_n 0, 1) := by decide +kernel
theorem dL_at_7 : decode cL_at 7 = .ok (.iload_n 1, 1) := by decide +kernel
theorem dL_at_8 : decode cL_at 8 = .ok (.iaload, 1) := by decide +kernel
theorem dL_at_9 : decode cL_at 9 = .ok (.goto 4, 3) := by decide +kernel
theorem dL_at_12 : decode cL_at 12 = .ok (.iconst 0, 1) := by decide +kernel
theorem dL_at_13 : decode cL_at 13 = .ok (.istore_n 2, 1) := by decide +kernel
theorem dL_at_14 : decode cL_at 14 = .ok (.iload_n 2, 1) := by decide +kernel
theorem dL_at_15 : decode cL_at 15 = .ok (.ifCond .le 22, 3) := by decide +kernel
theorem dL_at_18 : decode cL_at 18 = .ok (.iload_n 2, 1) := by decide +kernel
theorem dL_at_19 : decode cL_at 19 = .ok (.sipush 512, 3) := by decide +kernel
theorem dL_at_22 : decode cL_at 22 = .ok (.if_icmp .ge 15, 3) := by decide +kernel
theorem dL_at_25 : decode cL_at 25 = .ok (.iload_n 2, 1) := by decide +kernel
theorem dL_at_26 : decode cL_at 26 = .ok (.ldc 23, 2) := by decide +kernel
theorem dL_at_28 : decode cL_at 28 = .ok (.imul, 1) := by decide +kernel
theorem dL_at_29 : decode cL_at 29 = .ok (.iload_n 1, 1) := by decide +kernel
theorem dL_at_30 : decode cL_at 30 = .ok (.ldc 24, 2) := by decide +kernel
theorem dL_at_32 : decode cL_at 32 = .ok (.imul, 1) := by decide +kernel
theorem dL_at_33 : decode cL_at 33 = .ok (.ixor, 1) := by decide +kernel
theorem dL_at_34 : decode cL_at 34 = .ok (.goto 4, 3) := by decide +kernel
theorem dL_at_37 : decode cL_at 37 = .ok (.iload_n 2, 1) := by decide +kernel
theorem dL_at_38 : decode cL_at 38 = .ok (.ireturn, 1) := by decide +kernel
theorem dL_draw_0 : decode cL_draw 0 = .ok (.aload_n 0, 1) := by decide +kernel
theorem dL_draw_1 : decode cL_draw 1 = .ok (.getfield 25, 3) := by decide +kernel
theorem dL_draw_4 : decode cL_draw 4 = .ok (.aload_n 0, 1) := by decide +kernel
theorem dL_draw_5 : decode cL_draw 5 = .ok (.getfield 29, 3) := by decide +kernel
theorem dL_draw_8 : decode cL_draw 8 = .ok (.iconst 1, 1) := by decide +kernel
theorem dL_draw_9 : decode cL_draw 9 = .ok (.aload_n 0, 1) := by decide +kernel
theorem dL_draw_10 : decode cL_draw 10 = .ok (.getfield 25, 3) := by decide +kernel
theorem dL_draw_13 : decode cL_draw 13 = .ok (.arraylength, 1) := by decide +kernel
theorem dL_draw_14 : decode cL_draw 14 = .ok (.invokestatic 33, 3) := by decide +kernel
theorem dL_draw_17 : decode cL_draw 17 = .ok (.irem, 1) := by decide +kernel
theorem dL_draw_18 : decode cL_draw 18 = .ok (.invokestatic 39, 3) := by decide +kernel
theorem dL_draw_21 : decode cL_draw 21 = .ok (.aload_n 0, 1) := by decide +kernel
theorem dL_draw_22 : decode cL_draw 22 = .ok (.getfield 29, 3) := by decide +kernel
theorem dL_draw_25 : decode cL_draw 25 = .ok (.ldc 43, 2) := by decide +kernel
theorem dL_draw_27 : decode cL_draw 27 = .ok (.imul, 1) := by decide +kernel
theorem dL_draw_28 : decode cL_draw 28 = .ok (.iadd, 1) := by decide +kernel
theorem dL_draw_29 : decode cL_draw 29 = .ok (.istore_n 2, 1) := by decide +kernel
theorem dL_draw_30 : decode cL_draw 30 = .ok (.aload_n 0, 1) := by decide +kernel
theorem dL_draw_31 : decode cL_draw 31 = .ok (.dup, 1) := by decide +kernel
theorem dL_draw_32 : decode cL_draw 32 = .ok (.getfield 29, 3) := by decide +kernel
theorem dL_draw_35 : decode cL_draw 35 = .ok (.iconst 1, 1) := by decide +kernel
theorem dL_draw_36 : decode cL_draw 36 = .ok (.iadd, 1) := by decide +kernel
theorem dL_draw_37 : decode cL_draw 37 = .ok (.putfield 29, 3) := by decide +kernel
theorem dL_draw_40 : decode cL_draw 40 = .ok (.iload_n 2, 1) := by decide +kernel
theorem dL_draw_41 : decode cL_draw 41 = .ok (.iload_n 2, 1) := by decide +kernel
theorem dL_draw_42 : decode cL_draw 42 = .ok (.bipush 15, 2) := by decide +kernel
theorem dL_draw_44 : decode cL_draw 44 = .ok (.iushr, 1) := by decide +kernel
theorem dL_draw_45 : decode cL_draw 45 = .ok (.ixor, 1) := by decide +kernel
theorem dL_draw_46 : decode cL_draw 46 = .ok (.istore_n 2, 1) := by decide +kernel
theorem dL_draw_47 : decode cL_draw 47 = .ok (.iload_n 2, 1) := by decide +kernel
theorem dL_draw_48 : decode cL_draw 48 = .ok (.ldc 44, 2) := by decide +kernel
theorem dL_draw_50 : decode cL_draw 50 = .ok (.imul, 1) := by decide +kernel
theorem dL_draw_51 : decode cL_draw 51 = .ok (.istore_n 2, 1) := by decide +kernel
theorem dL_draw_52 : decode cL_draw 52 = .ok (.iload_n 2, 1) := by decide +kernel
theorem dL_draw_53 : decode cL_draw 53 = .ok (.iload_n 2, 1) := by decide +kernel
theorem dL_draw_54 : decode cL_draw 54 = .ok (.bipush 13, 2) := by decide +kernel
theorem dL_draw_56 : decode cL_draw 56 = .ok (.iushr, 1) := by decide +kernel
theorem dL_draw_57 : decode cL_draw 57 = .ok (.ixor, 1) := by decide +kernel
theorem dL_draw_58 : decode cL_draw 58 = .ok (.istore_n 2, 1) := by decide +kernel
theorem dL_draw_59 : decode cL_draw 59 = .ok (.iload_n 2, 1) := by decide +kernel
theorem dL_draw_60 : decode cL_draw 60 = .ok (.ldc 45, 2) := by decide +kernel
theorem dL_draw_62 : decode cL_draw 62 = .ok (.iand, 1) := by decide +kernel
theorem dL_draw_63 : decode cL_draw 63 = .ok (.iload_n 1, 1) := by decide +kernel
theorem dL_draw_64 : decode cL_draw 64 = .ok (.irem, 1) := by decide +kernel
theorem dL_draw_65 : decode cL_draw 65 = .ok (.ireturn, 1) := by decide +kernel
theorem dL_begins_0 : decode cL_begins 0 = .ok (.iconst 1, 1) := by decide +kernel
theorem dL_begins_1 : decode cL_begins 1 = .ok (.aload_n 0, 1) := by decide +kernel
theorem dL_begins_2 : decode cL_begins 2 = .ok (.iconst 5, 1) := by decide +kernel
theorem dL_begins_3 : decode cL_begins 3 = .ok (.invokevirtual 46, 3) := by decide +kernel
theorem dL_begins_6 : decode cL_begins 6 = .ok (.iadd, 1) := by decide +kernel
theorem dL_begins_7 : decode cL_begins 7 = .ok (.istore_n 1, 1) := by decide +kernel
theorem dL_begins_8 : decode cL_begins 8 = .ok (.iload_n 1, 1) := by decide +kernel
theorem dL_begins_9 : decode cL_begins 9 = .ok (.ifCond .le 148, 3) := by decide +kernel
theorem dL_begins_12 : decode cL_begins 12 = .ok (.bipush 6, 2) := by decide +kernel
theorem dL_begins_14 : decode cL_begins 14 = .ok (.newarray .int, 2) := by decide +kernel
theorem dL_begins_16 : decode cL_begins 16 = .ok (.dup, 1) := by decide +kernel
theorem dL_begins_17 : decode cL_begins 17 = .ok (.iconst 0, 1) := by decide +kernel
theorem dL_begins_18 : decode cL_begins 18 = .ok (.aload_n 0, 1) := by decide +kernel
theorem dL_begins_19 : decode cL_begins 19 = .ok (.sipush 200, 3) := by decide +kernel
theorem dL_begins_22 : decode cL_begins 22 = .ok (.invokevirtual 46, 3) := by decide +kernel
theorem dL_begins_25 : decode cL_begins 25 = .ok (.iastore, 1) := by decide +kernel
theorem dL_begins_26 : decode cL_begins 26 = .ok (.dup, 1) := by decide +kernel
theorem dL_begins_27 : decode cL_begins 27 = .ok (.iconst 1, 1) := by decide +kernel
theorem dL_begins_28 : decode cL_begins 28 = .ok (.aload_n 0, 1) := by decide +kernel
theorem dL_begins_29 : decode cL_begins 29 = .ok (.sipush 500, 3) := by decide +kernel
theorem dL_begins_32 : decode cL_begins 32 = .ok (.invokevirtual 46, 3) := by decide +kernel
theorem dL_begins_35 : decode cL_begins 35 = .ok (.iastore, 1) := by decide +kernel
theorem dL_begins_36 : decode cL_begins 36 = .ok (.dup, 1) := by decide +kernel
theorem dL_begins_37 : decode cL_begins 37 = .ok (.iconst 2, 1) := by decide +kernel
theorem dL_begins_38 : decode cL_begins 38 = .ok (.iconst 1, 1) := by decide +kernel
theorem dL_begins_39 : decode cL_begins 39 = .ok (.aload_n 0, 1) := by decide +kernel
theorem dL_begins_40 : decode cL_begins 40 = .ok (.bipush 60, 2) := by decide +kernel
theorem dL_begins_42 : decode cL_begins 42 = .ok (.invokevirtual 46, 3) := by decide +kernel
theorem dL_begins_45 : decode cL_begins 45 = .ok (.iadd, 1) := by decide +kernel
theorem dL_begins_46 : decode cL_begins 46 = .ok (.iastore, 1) := by decide +kernel
theorem dL_begins_47 : decode cL_begins 47 = .ok (.dup, 1) := by decide +kernel
theorem dL_begins_48 : decode cL_begins 48 = .ok (.iconst 3, 1) := by decide +kernel
theorem dL_begins_49 : decode cL_begins 49 = .ok (.aload_n 0, 1) := by decide +kernel
theorem dL_begins_50 : decode cL_begins 50 = .ok (.iconst 3, 1) := by decide +kernel
theorem dL_begins_51 : decode cL_begins 51 = .ok (.invokevirtual 46, 3) := by decide +kernel
theorem dL_begins_54 : decode cL_begins 54 = .ok (.iastore, 1) := by decide +kernel
theorem dL_begins_55 : decode cL_begins 55 = .ok (.dup, 1) := by decide +kernel
theorem dL_begins_56 : decode cL_begins 56 = .ok (.iconst 4, 1) := by decide +kernel
theorem dL_begins_57 : decode cL_begins 57 = .ok (.aload_n 0, 1) := by decide +kernel
theorem dL_begins_58 : decode cL_begins 58 = .ok (.iconst 2, 1) := by decide +kernel
theorem dL_begins_59 : decode cL_begins 59 = .ok (.invokevirtual 46, 3) := by decide +kernel
theorem dL_begins_62 : decode cL_begins 62 = .ok (.ifCond .ne 7, 3) := by decide +kernel
theorem dL_begins_65 : decode cL_begins 65 = .ok (.iconst 0, 1) := by decide +kernel
theorem dL_begins_66 : decode cL_begins 66 = .ok (.goto 12, 3) := by decide +kernel
theorem dL_begins_69 : decode cL_begins 69 = .ok (.iconst 1, 1) := by decide +kernel
theorem dL_begins_70 : decode cL_begins 70 = .ok (.aload_n 0, 1) := by decide +kernel
theorem dL_begins_71 : decode cL_begins 71 = .ok (.sipush 200, 3) := by decide +kernel
theorem dL_begins_74 : decode cL_begins 74 = .ok (.invokevirtual 46, 3) := by decide +kernel
theorem dL_begins_77 : decode cL_begins 77 = .ok (.iadd, 1) := by decide +kernel
theorem dL_begins_78 : decode cL_begins 78 = .ok (.iastore, 1) := by decide +kernel
theorem dL_begins_79 : decode cL_begins 79 = .ok (.dup, 1) := by decide +kernel
theorem dL_begins_80 : decode cL_begins 80 = .ok (.iconst 5, 1) := by decide +kernel
theorem dL_begins_81 : decode cL_begins 81 = .ok (.aload_n 0, 1) := by decide +kernel
theorem dL_begins_82 : decode cL_begins 82 = .ok (.iconst 3, 1) := by decide +kernel
theorem dL_begins_83 : decode cL_begins 83 = .ok (.invokevirtual 46, 3) := by decide +kernel
theorem dL_begins_86 : decode cL_begins 86 = .ok (.ifCond .ne 7, 3) := by decide +kernel
theorem dL_begins_89 : decode cL_begins 89 = .ok (.iconst 1, 1) := by decide +kernel
theorem dL_begins_90 : decode cL_begins 90 = .ok (.goto 4, 3) := by decide +kernel
theorem dL_begins_93 : decode cL_begins 93 = .ok (.iconst 0, 1) := by decide +kernel
theorem dL_begins_94 : decode cL_begins 94 = .ok (.iastore, 1) := by decide +kernel
theorem dL_begins_95 : decode cL_begins 95 = .ok (.astore_n 2, 1) := by decide +kernel
theorem dL_begins_96 : decode cL_begins 96 = .ok (.aload_n 0, 1) := by decide +kernel
theorem dL_begins_97 : decode cL_begins 97 = .ok (.getfield 10, 3) := by decide +kernel
theorem dL_begins_100 : decode cL_begins 100 = .ok (.aload_n 2, 1) := by decide +kernel
theorem dL_begins_101 : decode cL_begins 101 = .ok (.iconst 0, 1) := by decide +kernel
theorem dL_begins_102 : decode cL_begins 102 = .ok (.iaload, 1) := by decide +kernel
theorem dL_begins_103 : decode cL_begins 103 = .ok (.aload_n 2, 1) := by decide +kernel
theorem dL_begins_104 : decode cL_begins 104 = .ok (.iconst 1, 1) := by decide +kernel
theorem dL_begins_105 : decode cL_begins 105 = .ok (.iaload, 1) := by decide +kernel
theorem dL_begins_106 : decode cL_begins 106 = .ok (.aload_n 2, 1) := by decide +kernel
theorem dL_begins_107 : decode cL_begins 107 = .ok (.iconst 2, 1) := by decide +kernel
theorem dL_begins_108 : decode cL_begins 108 = .ok (.iaload, 1) := by decide +kernel
theorem dL_begins_109 : decode cL_begins 109 = .ok (.aload_n 2, 1) := by decide +kernel
theorem dL_begins_110 : decode cL_begins 110 = .ok (.iconst 3, 1) := by decide +kernel
theorem dL_begins_111 : decode cL_begins 111 = .ok (.iaload, 1) := by decide +kernel
theorem dL_begins_112 : decode cL_begins 112 = .ok (.aload_n 2, 1) := by decide +kernel
theorem dL_begins_113 : decode cL_begins 113 = .ok (.iconst 4, 1) := by decide +kernel
theorem dL_begins_114 : decode cL_begins 114 = .ok (.iaload, 1) := by decide +kernel
theorem dL_begins_115 : decode cL_begins 115 = .ok (.aload_n 2, 1) := by decide +kernel
theorem dL_begins_116 : decode cL_begins 116 = .ok (.iconst 5, 1) := by decide +kernel
theorem dL_begins_117 : decode cL_begins 117 = .ok (.iaload, 1) := by decide +kernel
theorem dL_begins_118 : decode cL_begins 118 = .ok (.iconst 1, 1) := by decide +kernel
theorem dL_begins_119 : decode cL_begins 119 = .ok (.if_icmp .ne 7, 3) := by decide +kernel
theorem dL_begins_122 : decode cL_begins 122 = .ok (.iconst 1, 1) := by decide +kernel
theorem dL_begins_123 : decode cL_begins 123 = .ok (.goto 4, 3) := by decide +kernel
theorem dL_begins_126 : decode cL_begins 126 = .ok (.iconst 0, 1) := by decide +kernel
theorem dL_begins_127 : decode cL_begins 127 = .ok (.invokevirtual 50, 3) := by decide +kernel
theorem dL_begins_130 : decode cL_begins 130 = .ok (.aload_n 0, 1) := by decide +kernel
theorem dL_begins_131 : decode cL_begins 131 = .ok (.getfield 19, 3) := by decide +kernel
theorem dL_begins_134 : decode cL_begins 134 = .ok (.invokevirtual 54, 3) := by decide +kernel
theorem dL_begins_137 : decode cL_begins 137 = .ok (.if_icmp .eq 5, 3) := by decide +kernel
theorem dL_begins_140 : decode cL_begins 140 = .ok (.iconst 0, 1) := by decide +kernel
theorem dL_begins_141 : decode cL_begins 141 = .ok (.ireturn, 1) := by decide +kernel
theorem dL_begins_142 : decode cL_begins 142 = .ok (.aload_n 0, 1) := by decide +kernel
theorem dL_begins_143 : decode cL_begins 143 = .ok (.getfield 19, 3) := by decide +kernel
theorem dL_begins_146 : decode cL_begins 146 = .ok (.aload_n 2, 1) := by decide +kernel
theorem dL_begins_147 : decode cL_begins 147 = .ok (.invokevirtual 58, 3) := by decide +kernel
theorem dL_begins_150 : decode cL_begins 150 = .ok (.pop, 1) := by decide +kernel
theorem dL_begins_151 : decode cL_begins 151 = .ok (.iinc 1 (-1), 3) := by decide +kernel
theorem dL_begins_154 : decode cL_begins 154 = .ok (.goto (-146), 3) := by decide +kernel
theorem dL_begins_157 : decode cL_begins 157 = .ok (.iconst 0, 1) := by decide +kernel
theorem dL_begins_158 : decode cL_begins 158 = .ok (.istore_n 1, 1) := by decide +kernel
theorem dL_begins_159 : decode cL_begins 159 = .ok (.iload_n 1, 1) := by decide +kernel
theorem dL_begins_160 : decode cL_begins 160 = .ok (.iconst 4, 1) := by decide +kernel
theorem dL_begins_161 : decode cL_begins 161 = .ok (.if_icmp .ge 36, 3) := by decide +kernel
theorem dL_begins_164 : decode cL_begins 164 = .ok (.aload_n 0, 1) := by decide +kernel
theorem dL_begins_165 : decode cL_begins 165 = .ok (.iconst 2, 1) := by decide +kernel
theorem dL_begins_166 : decode cL_begins 166 = .ok (.invokevirtual 46, 3) := by decide +kernel
theorem dL_begins_169 : decode cL_begins 169 = .ok (.ifCond .ne 22, 3) := by decide +kernel
theorem dL_begins_172 : decode cL_begins 172 = .ok (.aload_n 0, 1) := by decide +kernel
theorem dL_begins_173 : decode cL_begins 173 = .ok (.getfield 10, 3) := by decide +kernel
theorem dL_begins_176 : decode cL_begins 176 = .ok (.iload_n 1, 1) := by decide +kernel
theorem dL_begins_177 : decode cL_begins 177 = .ok (.aload_n 0, 1) := by decide +kernel
theorem dL_begins_178 : decode cL_begins 178 = .ok (.iconst 5, 1) := by decide +kernel
theorem dL_begins_179 : decode cL_begins 179 = .ok (.invokevirtual 46, 3) := by decide +kernel
theorem dL_begins_182 : decode cL_begins 182 = .ok (.invokevirtual 62, 3) := by decide +kernel
theorem dL_begins_185 : decode cL_begins 185 = .ok (.iconst 1, 1) := by decide +kernel
theorem dL_begins_186 : decode cL_begins 186 = .ok (.if_icmp .eq 5, 3) := by decide +kernel
theorem dL_begins_189 : decode cL_begins 189 = .ok (.iconst 0, 1) := by decide +kernel
theorem dL_begins_190 : decode cL_begins 190 = .ok (.ireturn, 1) := by decide +kernel
theorem dL_begins_191 : decode cL_begins 191 = .ok (.iinc 1 1, 3) := by decide +kernel
theorem dL_begins_194 : decode cL_begins 194 = .ok (.goto (-35), 3) := by decide +kernel
theorem dL_begins_197 : decode cL_begins 197 = .ok (.iconst 1, 1) := by decide +kernel
theorem dL_begins_198 : decode cL_begins 198 = .ok (.ireturn, 1) := by decide +kernel
theorem dL_acts_0 : decode cL_acts 0 = .ok (.aload_n 0, 1) := by decide +kernel
theorem dL_acts_1 : decode cL_acts 1 = .ok (.getfield 10, 3) := by decide +kernel
theorem dL_acts_4 : decode cL_acts 4 = .ok (.invokevirtual 65, 3) := by decide +kernel
theorem dL_acts_7 : decode cL_acts 7 = .ok (.istore_n 1, 1) := by decide +kernel
theorem dL_acts_8 : decode cL_acts 8 = .ok (.aload_n 0, 1) := by decide +kernel
theorem dL_acts_9 : decode cL_acts 9 = .ok (.iconst 1, 1) := by decide +kernel
theorem dL_acts_10 : decode cL_acts 10 = .ok (.iload_n 1, 1) := by decide +kernel
theorem dL_acts_11 : decode cL_acts 11 = .ok (.invokestatic 33, 3) := by decide +kernel
theorem dL_acts_14 : decode cL_acts 14 = .ok (.invokevirtual 46, 3) := by decide +kernel
theorem dL_acts_17 : decode cL_acts 17 = .ok (.istore_n 2, 1) := by decide +kernel
theorem dL_acts_18 : decode cL_acts 18 = .ok (.iload_n 1, 1) := by decide +kernel
theorem dL_acts_19 : decode cL_acts 19 = .ok (.ifCond .ne 7, 3) := by decide +kernel
theorem dL_acts_22 : decode cL_acts 22 = .ok (.iconst 0, 1) := by decide +kernel
theorem dL_acts_23 : decode cL_acts 23 = .ok (.goto 11, 3) := by decide +kernel
theorem dL_acts_26 : decode cL_acts 26 = .ok (.aload_n 0, 1) := by decide +kernel
theorem dL_acts_27 : decode cL_acts 27 = .ok (.getfield 10, 3) := by decide +kernel
theorem dL_acts_30 : decode cL_acts 30 = .ok (.iload_n 2, 1) := by decide +kernel
theorem dL_acts_31 : decode cL_acts 31 = .ok (.invokevirtual 68, 3) := by decide +kernel
theorem dL_acts_34 : decode cL_acts 34 = .ok (.istore_n 3, 1) := by decide +kernel
theorem dL_acts_35 : decode cL_acts 35 = .ok (.aload_n 0, 1) := by decide +kernel
theorem dL_acts_36 : decode cL_acts 36 = .ok (.getfield 10, 3) := by decide +kernel
theorem dL_acts_39 : decode cL_acts 39 = .ok (.invokevirtual 71, 3) := by decide +kernel
theorem dL_acts_42 : decode cL_acts 42 = .ok (.istore 4, 2) := by decide +kernel
theorem dL_acts_44 : decode cL_acts 44 = .ok (.aload_n 0, 1) := by decide +kernel
theorem dL_acts_45 : decode cL_acts 45 = .ok (.bipush 8, 2) := by decide +kernel
theorem dL_acts_47 : decode cL_acts 47 = .ok (.invokevirtual 46, 3) := by decide +kernel
theorem dL_acts_50 : decode cL_acts 50 = .ok (.tableswitch 476 0 5 #[38, 106, 173, 288, 315, 339], 38) := by decide +kernel
theorem dL_acts_88 : decode cL_acts 88 = .ok (.iload_n 1, 1) := by decide +kernel
theorem dL_acts_89 : decode cL_acts 89 = .ok (.ifCond .eq 61, 3) := by decide +kernel
theorem dL_acts_92 : decode cL_acts 92 = .ok (.aload_n 0, 1) := by decide +kernel
theorem dL_acts_93 : decode cL_acts 93 = .ok (.getfield 10, 3) := by decide +kernel
theorem dL_acts_96 : decode cL_acts 96 = .ok (.iload_n 2, 1) := by decide +kernel
theorem dL_acts_97 : decode cL_acts 97 = .ok (.invokevirtual 74, 3) := by decide +kernel
theorem dL_acts_100 : decode cL_acts 100 = .ok (.ifCond .ge 7, 3) := by decide +kernel
theorem dL_acts_103 : decode cL_acts 103 = .ok (.iconst 1, 1) := by decide +kernel
theorem dL_acts_104 : decode cL_acts 104 = .ok (.goto 4, 3) := by decide +kernel
theorem dL_acts_107 : decode cL_acts 107 = .ok (.iconst 0, 1) := by decide +kernel
theorem dL_acts_108 : decode cL_acts 108 = .ok (.iload_n 3, 1) := by decide +kernel
theorem dL_acts_109 : decode cL_acts 109 = .ok (.iconst 1, 1) := by decide +kernel
theorem dL_acts_110 : decode cL_acts 110 = .ok (.if_icmp .le 7, 3) := by decide +kernel
theorem dL_acts_113 : decode cL_acts 113 = .ok (.iconst 1, 1) := by decide +kernel
theorem dL_acts_114 : decode cL_acts 114 = .ok (.goto 4, 3) := by decide +kernel
theorem dL_acts_117 : decode cL_acts 117 = .ok (.iconst 0, 1) := by decide +kernel
theorem dL_acts_118 : decode cL_acts 118 = .ok (.if_icmp .ne 36, 3) := by decide +kernel
theorem dL_acts_121 : decode cL_acts 121 = .ok (.iload_n 3, 1) := by decide +kernel
theorem dL_acts_122 : decode cL_acts 122 = .ok (.iconst 1, 1) := by decide +kernel
theorem dL_acts_123 : decode cL_acts 123 = .ok (.if_icmp .gt 27, 3) := by decide +kernel
theorem dL_acts_126 : decode cL_acts 126 = .ok (.aload_n 0, 1) := by decide +kernel
theorem dL_acts_127 : decode cL_acts 127 = .ok (.getfield 10, 3) := by decide +kernel
theorem dL_acts_130 : decode cL_acts 130 = .ok (.iload_n 2, 1) := by decide +kernel
theorem dL_acts_131 : decode cL_acts 131 = .ok (.invokevirtual 68, 3) := by decide +kernel
theorem dL_acts_134 : decode cL_acts 134 = .ok (.iconst 2, 1) := by decide +kernel
theorem dL_acts_135 : decode cL_acts 135 = .ok (.if_icmp .ne 19, 3) := by decide +kernel
theorem dL_acts_138 : decode cL_acts 138 = .ok (.aload_n 0, 1) := by decide +kernel
theorem dL_acts_139 : decode cL_acts 139 = .ok (.iload 4, 2) := by decide +kernel
theorem dL_acts_141 : decode cL_acts 141 = .ok (.iconst 2, 1) := by decide +kernel
theorem dL_acts_142 : decode cL_acts 142 = .ok (.iload_n 2, 1) := by decide +kernel
theorem dL_acts_143 : decode cL_acts 143 = .ok (.iconst 0, 1) := by decide +kernel
theorem dL_acts_144 : decode cL_acts 144 = .ok (.invokevirtual 77, 3) := by decide +kernel
theorem dL_acts_147 : decode cL_acts 147 = .ok (.ifCond .eq 7, 3) := by decide +kernel
theorem dL_acts_150 : decode cL_acts 150 = .ok (.iconst 1, 1) := by decide +kernel
theorem dL_acts_151 : decode cL_acts 151 = .ok (.goto 4, 3) := by decide +kernel
theorem dL_acts_154 : decode cL_acts 154 = .ok (.iconst 0, 1) := by decide +kernel
theorem dL_acts_155 : decode cL_acts 155 = .ok (.ireturn, 1) := by decide +kernel
theorem dL_acts_156 : decode cL_acts 156 = .ok (.iload_n 1, 1) := by decide +kernel
theorem dL_acts_157 : decode cL_acts 157 = .ok (.ifCond .eq 60, 3) := by decide +kernel
theorem dL_acts_160 : decode cL_acts 160 = .ok (.aload_n 0, 1) := by decide +kernel
theorem dL_acts_161 : decode cL_acts 161 = .ok (.getfield 10, 3) := by decide +kernel
theorem dL_acts_164 : decode cL_acts 164 = .ok (.iload_n 2, 1) := by decide +kernel
theorem dL_acts_165 : decode cL_acts 165 = .ok (.invokevirtual 81, 3) := by decide +kernel
theorem dL_acts_168 : decode cL_acts 168 = .ok (.ifCond .ge 7, 3) := by decide +kernel
theorem dL_acts_171 : decode cL_acts 171 = .ok (.iconst 1, 1) := by decide +kernel
theorem dL_acts_172 : decode cL_acts 172 = .ok (.goto 4, 3) := by decide +kernel
theorem dL_acts_175 : decode cL_acts 175 = .ok (.iconst 0, 1) := by decide +kernel
theorem dL_acts_176 : decode cL_acts 176 = .ok (.iload_n 3, 1) := by decide +kernel
theorem dL_acts_177 : decode cL_acts 177 = .ok (.iconst 2, 1) := by decide +kernel
theorem dL_acts_178 : decode cL_acts 178 = .ok (.if_icmp .eq 7, 3) := by decide +kernel
theorem dL_acts_181 : decode cL_acts 181 = .ok (.iconst 1, 1) := by decide +kernel
theorem dL_acts_182 : decode cL_acts 182 = .ok (.goto 4, 3) := by decide +kernel
theorem dL_acts_185 : decode cL_acts 185 = .ok (.iconst 0, 1) := by decide +kernel
theorem dL_acts_186 : decode cL_acts 186 = .ok (.if_icmp .ne 35, 3) := by decide +kernel
theorem dL_acts_189 : decode cL_acts 189 = .ok (.iload_n 3, 1) := by decide +kernel
theorem dL_acts_190 : decode cL_acts 190 = .ok (.iconst 2, 1) := by decide +kernel
theorem dL_acts_191 : decode cL_acts 191 = .ok (.if_icmp .ne 26, 3) := by decide +kernel
theorem dL_acts_194 : decode cL_acts 194 = .ok (.aload_n 0, 1) := by decide +kernel
theorem dL_acts_195 : decode cL_acts 195 = .ok (.getfield 10, 3) := by decide +kernel
theorem dL_acts_198 : decode cL_acts 198 = .ok (.iload_n 2, 1) := by decide +kernel
theorem dL_acts_199 : decode cL_acts 199 = .ok (.invokevirtual 68, 3) := by decide +kernel
theorem dL_acts_202 : decode cL_acts 202 = .ok (.ifCond .ne 19, 3) := by decide +kernel
theorem dL_acts_205 : decode cL_acts 205 = .ok (.aload_n 0, 1) := by decide +kernel
theorem dL_acts_206 : decode cL_acts 206 = .ok (.iload 4, 2) := by decide +kernel
theorem dL_acts_208 : decode cL_acts 208 = .ok (.iconst 3, 1) := by decide +kernel
theorem dL_acts_209 : decode cL_acts 209 = .ok (.iload_n 2, 1) := by decide +kernel
theorem dL_acts_210 : decode cL_acts 210 = .ok (.iconst 0, 1) := by decide +kernel
theorem dL_acts_211 : decode cL_acts 211 = .ok (.invokevirtual 77, 3) := by decide +kernel
theorem dL_acts_214 : decode cL_acts 214 = .ok (.ifCond .eq 7, 3) := by decide +kernel
theorem dL_acts_217 : decode cL_acts 217 = .ok (.iconst 1, 1) := by decide +kernel
theorem dL_acts_218 : decode cL_acts 218 = .ok (.goto 4, 3) := by decide +kernel
theorem dL_acts_221 : decode cL_acts 221 = .ok (.iconst 0, 1) := by decide +kernel
theorem dL_acts_222 : decode cL_acts 222 = .ok (.ireturn, 1) := by decide +kernel
theorem dL_acts_223 : decode cL_acts 223 = .ok (.iload_n 1, 1) := by decide +kernel
theorem dL_acts_224 : decode cL_acts 224 = .ok (.ifCond .ne 5, 3) := by decide +kernel
theorem dL_acts_227 : decode cL_acts 227 = .ok (.iconst 1, 1) := by decide +kernel
theorem dL_acts_228 : decode cL_acts 228 = .ok (.ireturn, 1) := by decide +kernel
theorem dL_acts_229 : decode cL_acts 229 = .ok (.aload_n 0, 1) := by decide +kernel
theorem dL_acts_230 : decode cL_acts 230 = .ok (.getfield 10, 3) := by decide +kernel
theorem dL_acts_233 : decode cL_acts 233 = .ok (.iload_n 2, 1) := by decide +kernel
theorem dL_acts_234 : decode cL_acts 234 = .ok (.invokevirtual 84, 3) := by decide +kernel
theorem dL_acts_237 : decode cL_acts 237 = .ok (.istore 5, 2) := by decide +kernel
theorem dL_acts_239 : decode cL_acts 239 = .ok (.aload_n 0, 1) := by decide +kernel
theorem dL_acts_240 : decode cL_acts 240 = .ok (.getfield 10, 3) := by decide +kernel
theorem dL_acts_243 : decode cL_acts 243 = .ok (.iload_n 2, 1) := by decide +kernel
theorem dL_acts_244 : decode cL_acts 244 = .ok (.invokevirtual 87, 3) := by decide +kernel
theorem dL_acts_247 : decode cL_acts 247 = .ok (.istore 6, 2) := by decide +kernel
theorem dL_acts_249 : decode cL_acts 249 = .ok (.iload_n 3, 1) := by decide +kernel
theorem dL_acts_250 : decode cL_acts 250 = .ok (.iconst 2, 1) := by decide +kernel
theorem dL_acts_251 : decode cL_acts 251 = .ok (.if_icmp .ge 74, 3) := by decide +kernel
theorem dL_acts_254 : decode cL_acts 254 = .ok (.iload 5, 2) := by decide +kernel
theorem dL_acts_256 : decode cL_acts 256 = .ok (.iconst 3, 1) := by decide +kernel
theorem dL_acts_257 : decode cL_acts 257 = .ok (.if_icmp .ge 68, 3) := by decide +kernel
theorem dL_acts_260 : decode cL_acts 260 = .ok (.iload 6, 2) := by decide +kernel
theorem dL_acts_262 : decode cL_acts 262 = .ok (.iload 5, 2) := by decide +kernel
theorem dL_acts_264 : decode cL_acts 264 = .ok (.iconst 1, 1) := by decide +kernel
theorem dL_acts_265 : decode cL_acts 265 = .ok (.iadd, 1) := by decide +kernel
theorem dL_acts_266 : decode cL_acts 266 = .ok (.if_icmp .ne 55, 3) := by decide +kernel
theorem dL_acts_269 : decode cL_acts 269 = .ok (.aload_n 0, 1) := by decide +kernel
theorem dL_acts_270 : decode cL_acts 270 = .ok (.getfield 10, 3) := by decide +kernel
theorem dL_acts_273 : decode cL_acts 273 = .ok (.iload_n 2, 1) := by decide +kernel
theorem dL_acts_274 : decode cL_acts 274 = .ok (.invokevirtual 84, 3) := by decide +kernel
theorem dL_acts_277 : decode cL_acts 277 = .ok (.iload 6, 2) := by decide +kernel
theorem dL_acts_279 : decode cL_acts 279 = .ok (.if_icmp .ne 42, 3) := by decide +kernel
theorem dL_acts_282 : decode cL_acts 282 = .ok (.aload_n 0, 1) := by decide +kernel
theorem dL_acts_283 : decode cL_acts 283 = .ok (.getfield 10, 3) := by decide +kernel
theorem dL_acts_286 : decode cL_acts 286 = .ok (.iload_n 2, 1) := by decide +kernel
theorem dL_acts_287 : decode cL_acts 287 = .ok (.invokevirtual 68, 3) := by decide +kernel
theorem dL_acts_290 : decode cL_acts 290 = .ok (.ifCond .ne 31, 3) := by decide +kernel
theorem dL_acts_293 : decode cL_acts 293 = .ok (.aload_n 0, 1) := by decide +kernel
theorem dL_acts_294 : decode cL_acts 294 = .ok (.getfield 10, 3) := by decide +kernel
theorem dL_acts_297 : decode cL_acts 297 = .ok (.iload_n 2, 1) := by decide +kernel
theorem dL_acts_298 : decode cL_acts 298 = .ok (.invokevirtual 90, 3) := by decide +kernel
theorem dL_acts_301 : decode cL_acts 301 = .ok (.ifCond .ne 20, 3) := by decide +kernel
theorem dL_acts_304 : decode cL_acts 304 = .ok (.aload_n 0, 1) := by decide +kernel
theorem dL_acts_305 : decode cL_acts 305 = .ok (.iload 4, 2) := by decide +kernel
theorem dL_acts_307 : decode cL_acts 307 = .ok (.iconst 4, 1) := by decide +kernel
theorem dL_acts_308 : decode cL_acts 308 = .ok (.iload_n 2, 1) := by decide +kernel
theorem dL_acts_309 : decode cL_acts 309 = .ok (.iload 6, 2) := by decide +kernel
theorem dL_acts_311 : decode cL_acts 311 = .ok (.invokevirtual 77, 3) := by decide +kernel
theorem dL_acts_314 : decode cL_acts 314 = .ok (.ifCond .eq 7, 3) := by decide +kernel
theorem dL_acts_317 : decode cL_acts 317 = .ok (.iconst 1, 1) := by decide +kernel
theorem dL_acts_318 : decode cL_acts 318 = .ok (.goto 19, 3) := by decide +kernel
theorem dL_acts_321 : decode cL_acts 321 = .ok (.iconst 0, 1) := by decide +kernel
theorem dL_acts_322 : decode cL_acts 322 = .ok (.goto 15, 3) := by decide +kernel
theorem dL_acts_325 : decode cL_acts 325 = .ok (.iload 6, 2) := by decide +kernel
theorem dL_acts_327 : decode cL_acts 327 = .ok (.bipush (-5), 2) := by decide +kernel
theorem dL_acts_329 : decode cL_acts 329 = .ok (.if_icmp .ne 7, 3) := by decide +kernel
theorem dL_acts_332 : decode cL_acts 332 = .ok (.iconst 1, 1) := by decide +kernel
theorem dL_acts_333 : decode cL_acts 333 = .ok (.goto 4, 3) := by decide +kernel
theorem dL_acts_336 : decode cL_acts 336 = .ok (.iconst 0, 1) := by decide +kernel
theorem dL_acts_337 : decode cL_acts 337 = .ok (.ireturn, 1) := by decide +kernel
theorem dL_acts_338 : decode cL_acts 338 = .ok (.iload_n 1, 1) := by decide +kernel
theorem dL_acts_339 : decode cL_acts 339 = .ok (.ifCond .eq 20, 3) := by decide +kernel
theorem dL_acts_342 : decode cL_acts 342 = .ok (.aload_n 0, 1) := by decide +kernel
theorem dL_acts_343 : decode cL_acts 343 = .ok (.iconst 2, 1) := by decide +kernel
theorem dL_acts_344 : decode cL_acts 344 = .ok (.invokevirtual 46, 3) := by decide +kernel
theorem dL_acts_347 : decode cL_acts 347 = .ok (.ifCond .eq 12, 3) := by decide +kernel
theorem dL_acts_350 : decode cL_acts 350 = .ok (.aload_n 0, 1) := by decide +kernel
theorem dL_acts_351 : decode cL_acts 351 = .ok (.iload_n 2, 1) := by decide +kernel
theorem dL_acts_352 : decode cL_acts 352 = .ok (.iload_n 3, 1) := by decide +kernel
theorem dL_acts_353 : decode cL_acts 353 = .ok (.invokevirtual 93, 3) := by decide +kernel
theorem dL_acts_356 : decode cL_acts 356 = .ok (.ifCond .eq 7, 3) := by decide +kernel
theorem dL_acts_359 : decode cL_acts 359 = .ok (.iconst 1, 1) := by decide +kernel
theorem dL_acts_360 : decode cL_acts 360 = .ok (.goto 4, 3) := by decide +kernel
theorem dL_acts_363 : decode cL_acts 363 = .ok (.iconst 0, 1) := by decide +kernel
theorem dL_acts_364 : decode cL_acts 364 = .ok (.ireturn, 1) := by decide +kernel
theorem dL_acts_365 : decode cL_acts 365 = .ok (.iload_n 1, 1) := by decide +kernel
theorem dL_acts_366 : decode cL_acts 366 = .ok (.iconst 2, 1) := by decide +kernel
theorem dL_acts_367 : decode cL_acts 367 = .ok (.if_icmp .lt 16, 3) := by decide +kernel
theorem dL_acts_370 : decode cL_acts 370 = .ok (.aload_n 0, 1) := by decide +kernel
theorem dL_acts_371 : decode cL_acts 371 = .ok (.iload_n 2, 1) := by decide +kernel
theorem dL_acts_372 : decode cL_acts 372 = .ok (.aload_n 0, 1) := by decide +kernel
theorem dL_acts_373 : decode cL_acts 373 = .ok (.iload_n 1, 1) := by decide +kernel
theorem dL_acts_374 : decode cL_acts 374 = .ok (.invokevirtual 46, 3) := by decide +kernel
theorem dL_acts_377 : decode cL_acts 377 = .ok (.invokevirtual 97, 3) := by decide +kernel
theorem dL_acts_380 : decode cL_acts 380 = .ok (.ifCond .eq 7, 3) := by decide +kernel
theorem dL_acts_383 : decode cL_acts 383 = .ok (.iconst 1, 1) := by decide +kernel
theorem dL_acts_384 : decode cL_acts 384 = .ok (.goto 4, 3) := by decide +kernel
theorem dL_acts_387 : decode cL_acts 387 = .ok (.iconst 0, 1) := by decide +kernel
theorem dL_acts_388 : decode cL_acts 388 = .ok (.ireturn, 1) := by decide +kernel
theorem dL_acts_389 : decode cL_acts 389 = .ok (.iload_n 1, 1) := by decide +kernel
theorem dL_acts_390 : decode cL_acts 390 = .ok (.ifCond .ne 5, 3) := by decide +kernel
theorem dL_acts_393 : decode cL_acts 393 = .ok (.iconst 1, 1) := by decide +kernel
theorem dL_acts_394 : decode cL_acts 394 = .ok (.ireturn, 1) := by decide +kernel
theorem dL_acts_395 : decode cL_acts 395 = .ok (.aload_n 0, 1) := by decide +kernel
theorem dL_acts_396 : decode cL_acts 396 = .ok (.getfield 10, 3) := by decide +kernel
theorem dL_acts_399 : decode cL_acts 399 = .ok (.iload_n 2, 1) := by decide +kernel
theorem dL_acts_400 : decode cL_acts 400 = .ok (.invokevirtual 100, 3) := by decide +kernel
theorem dL_acts_403 : decode cL_acts 403 = .ok (.istore 5, 2) := by decide +kernel
theorem dL_acts_405 : decode cL_acts 405 = .ok (.aload_n 0, 1) := by decide +kernel
theorem dL_acts_406 : decode cL_acts 406 = .ok (.getfield 10, 3) := by decide +kernel
theorem dL_acts_409 : decode cL_acts 409 = .ok (.iload_n 2, 1) := by decide +kernel
theorem dL_acts_410 : decode cL_acts 410 = .ok (.invokevirtual 90, 3) := by decide +kernel
theorem dL_acts_413 : decode cL_acts 413 = .ok (.istore 6, 2) := by decide +kernel
theorem dL_acts_415 : decode cL_acts 415 = .ok (.aload_n 0, 1) := by decide +kernel
theorem dL_acts_416 : decode cL_acts 416 = .ok (.getfield 10, 3) := by decide +kernel
theorem dL_acts_419 : decode cL_acts 419 = .ok (.iload_n 2, 1) := by decide +kernel
theorem dL_acts_420 : decode cL_acts 420 = .ok (.invokevirtual 103, 3) := by decide +kernel
theorem dL_acts_423 : decode cL_acts 423 = .ok (.istore 7, 2) := by decide +kernel
theorem dL_acts_425 : decode cL_acts 425 = .ok (.iload_n 3, 1) := by decide +kernel
theorem dL_acts_426 : decode cL_acts 426 = .ok (.iconst 4, 1) := by decide +kernel
theorem dL_acts_427 : decode cL_acts 427 = .ok (.if_icmp .eq 18, 3) := by decide +kernel
theorem dL_acts_430 : decode cL_acts 430 = .ok (.iload 7, 2) := by decide +kernel
theorem dL_acts_432 : decode cL_acts 432 = .ok (.bipush (-5), 2) := by decide +kernel
theorem dL_acts_434 : decode cL_acts 434 = .ok (.if_icmp .ne 7, 3) := by decide +kernel
theorem dL_acts_437 : decode cL_acts 437 = .ok (.iconst 1, 1) := by decide +kernel
theorem dL_acts_438 : decode cL_acts 438 = .ok (.goto 87, 3) := by decide +kernel
theorem dL_acts_441 : decode cL_acts 441 = .ok (.iconst 0, 1) := by decide +kernel
theorem dL_acts_442 : decode cL_acts 442 = .ok (.goto 83, 3) := by decide +kernel
theorem dL_acts_445 : decode cL_acts 445 = .ok (.iload 7, 2) := by decide +kernel
theorem dL_acts_447 : decode cL_acts 447 = .ok (.iload 5, 2) := by decide +kernel
theorem dL_acts_449 : decode cL_acts 449 = .ok (.if_icmp .ne 75, 3) := by decide +kernel
theorem dL_acts_452 : decode cL_acts 452 = .ok (.aload_n 0, 1) := by decide +kernel
theorem dL_acts_453 : decode cL_acts 453 = .ok (.getfield 10, 3) := by decide +kernel
theorem dL_acts_456 : decode cL_acts 456 = .ok (.iload_n 2, 1) := by decide +kernel
theorem dL_acts_457 : decode cL_acts 457 = .ok (.invokevirtual 68, 3) := by decide +kernel
theorem dL_acts_460 : decode cL_acts 460 = .ok (.ifCond .ne 64, 3) := by decide +kernel
theorem dL_acts_463 : decode cL_acts 463 = .ok (.aload_n 0, 1) := by decide +kernel
theorem dL_acts_464 : decode cL_acts 464 = .ok (.getfield 10, 3) := by decide +kernel
theorem dL_acts_467 : decode cL_acts 467 = .ok (.iload_n 2, 1) := by decide +kernel
theorem dL_acts_468 : decode cL_acts 468 = .ok (.invokevirtual 100, 3) := by decide +kernel
theorem dL_acts_471 : decode cL_acts 471 = .ok (.iconst (-1), 1) := by decide +kernel
theorem dL_acts_472 : decode cL_acts 472 = .ok (.if_icmp .ne 52, 3) := by decide +kernel
theorem dL_acts_475 : decode cL_acts 475 = .ok (.aload_n 0, 1) := by decide +kernel
theorem dL_acts_476 : decode cL_acts 476 = .ok (.getfield 10, 3) := by decide +kernel
theorem dL_acts_479 : decode cL_acts 479 = .ok (.iload_n 2, 1) := by decide +kernel
theorem dL_acts_480 : decode cL_acts 480 = .ok (.invokevirtual 90, 3) := by decide +kernel
theorem dL_acts_483 : decode cL_acts 483 = .ok (.iload 6, 2) := by decide +kernel
theorem dL_acts_485 : decode cL_acts 485 = .ok (.if_icmp .ne 39, 3) := by decide +kernel
theorem dL_acts_488 : decode cL_acts 488 = .ok (.aload_n 0, 1) := by decide +kernel
theorem dL_acts_489 : decode cL_acts 489 = .ok (.getfield 10, 3) := by decide +kernel
theorem dL_acts_492 : decode cL_acts 492 = .ok (.iload 5, 2) := by decide +kernel
theorem dL_acts_494 : decode cL_acts 494 = .ok (.invokevirtual 106, 3) := by decide +kernel
theorem dL_acts_497 : decode cL_acts 497 = .ok (.iload_n 2, 1) := by decide +kernel
theorem dL_acts_498 : decode cL_acts 498 = .ok (.lshr, 1) := by decide +kernel
theorem dL_acts_499 : decode cL_acts 499 = .ok (.lconst 1, 1) := by decide +kernel
theorem dL_acts_500 : decode cL_acts 500 = .ok (.land, 1) := by decide +kernel
theorem dL_acts_501 : decode cL_acts 501 = .ok (.lconst 0, 1) := by decide +kernel
theorem dL_acts_502 : decode cL_acts 502 = .ok (.lcmp, 1) := by decide +kernel
theorem dL_acts_503 : decode cL_acts 503 = .ok (.ifCond .ne 21, 3) := by decide +kernel
theorem dL_acts_506 : decode cL_acts 506 = .ok (.aload_n 0, 1) := by decide +kernel
theorem dL_acts_507 : decode cL_acts 507 = .ok (.iload 4, 2) := by decide +kernel
theorem dL_acts_509 : decode cL_acts 509 = .ok (.bipush 7, 2) := by decide +kernel
theorem dL_acts_511 : decode cL_acts 511 = .ok (.iload_n 2, 1) := by decide +kernel
theorem dL_acts_512 : decode cL_acts 512 = .ok (.iload 5, 2) := by decide +kernel
theorem dL_acts_514 : decode cL_acts 514 = .ok (.invokevirtual 77, 3) := by decide +kernel
theorem dL_acts_517 : decode cL_acts 517 = .ok (.ifCond .eq 7, 3) := by decide +kernel
theorem dL_acts_520 : decode cL_acts 520 = .ok (.iconst 1, 1) := by decide +kernel
theorem dL_acts_521 : decode cL_acts 521 = .ok (.goto 4, 3) := by decide +kernel
theorem dL_acts_524 : decode cL_acts 524 = .ok (.iconst 0, 1) := by decide +kernel
theorem dL_acts_525 : decode cL_acts 525 = .ok (.ireturn, 1) := by decide +kernel
theorem dL_acts_526 : decode cL_acts 526 = .ok (.aload_n 0, 1) := by decide +kernel
theorem dL_acts_527 : decode cL_acts 527 = .ok (.aload_n 0, 1) := by decide +kernel
theorem dL_acts_528 : decode cL_acts 528 = .ok (.getfield 19, 3) := by decide +kernel
theorem dL_acts_531 : decode cL_acts 531 = .ok (.invokevirtual 54, 3) := by decide +kernel
theorem dL_acts_534 : decode cL_acts 534 = .ok (.invokevirtual 46, 3) := by decide +kernel
theorem dL_acts_537 : decode cL_acts 537 = .ok (.istore 5, 2) := by decide +kernel
theorem dL_acts_539 : decode cL_acts 539 = .ok (.aload_n 0, 1) := by decide +kernel
theorem dL_acts_540 : decode cL_acts 540 = .ok (.getfield 10, 3) := by decide +kernel
theorem dL_acts_543 : decode cL_acts 543 = .ok (.iload 5, 2) := by decide +kernel
theorem dL_acts_545 : decode cL_acts 545 = .ok (.aload_n 0, 1) := by decide +kernel
theorem dL_acts_546 : decode cL_acts 546 = .ok (.bipush 100, 2) := by decide +kernel
theorem dL_acts_548 : decode cL_acts 548 = .ok (.invokevirtual 46, 3) := by decide +kernel
theorem dL_acts_551 : decode cL_acts 551 = .ok (.aload_n 0, 1) := by decide +kernel
theorem dL_acts_552 : decode cL_acts 552 = .ok (.iconst 3, 1) := by decide +kernel
theorem dL_acts_553 : decode cL_acts 553 = .ok (.invokevirtual 46, 3) := by decide +kernel
theorem dL_acts_556 : decode cL_acts 556 = .ok (.aload_n 0, 1) := by decide +kernel
theorem dL_acts_557 : decode cL_acts 557 = .ok (.iconst 4, 1) := by decide +kernel
theorem dL_acts_558 : decode cL_acts 558 = .ok (.invokevirtual 46, 3) := by decide +kernel
theorem dL_acts_561 : decode cL_acts 561 = .ok (.invokevirtual 110, 3) := by decide +kernel
theorem dL_acts_564 : decode cL_acts 564 = .ok (.istore 6, 2) := by decide +kernel
theorem dL_acts_566 : decode cL_acts 566 = .ok (.iload 6, 2) := by decide +kernel
theorem dL_acts_568 : decode cL_acts 568 = .ok (.iload_n 1, 1) := by decide +kernel
theorem dL_acts_569 : decode cL_acts 569 = .ok (.if_icmp .ne 85, 3) := by decide +kernel
theorem dL_acts_572 : decode cL_acts 572 = .ok (.aload_n 0, 1) := by decide +kernel
theorem dL_acts_573 : decode cL_acts 573 = .ok (.getfield 10, 3) := by decide +kernel
theorem dL_acts_576 : decode cL_acts 576 = .ok (.iload_n 1, 1) := by decide +kernel
theorem dL_acts_577 : decode cL_acts 577 = .ok (.invokevirtual 68, 3) := by decide +kernel
theorem dL_acts_580 : decode cL_acts 580 = .ok (.ifCond .ne 74, 3) := by decide +kernel
theorem dL_acts_583 : decode cL_acts 583 = .ok (.aload_n 0, 1) := by decide +kernel
theorem dL_acts_584 : decode cL_acts 584 = .ok (.getfield 10, 3) := by decide +kernel
theorem dL_acts_587 : decode cL_acts 587 = .ok (.iload_n 1, 1) := by decide +kernel
theorem dL_acts_588 : decode cL_acts 588 = .ok (.invokevirtual 114, 3) := by decide +kernel
theorem dL_acts_591 : decode cL_acts 591 = .ok (.aload_n 0, 1) := by decide +kernel
theorem dL_acts_592 : decode cL_acts 592 = .ok (.getfield 10, 3) := by decide +kernel
theorem dL_acts_595 : decode cL_acts 595 = .ok (.invokevirtual 117, 3) := by decide +kernel
theorem dL_acts_598 : decode cL_acts 598 = .ok (.if_icmp .ne 56, 3) := by decide +kernel
theorem dL_acts_601 : decode cL_acts 601 = .ok (.aload_n 0, 1) := by decide +kernel
theorem dL_acts_602 : decode cL_acts 602 = .ok (.getfield 10, 3) := by decide +kernel
theorem dL_acts_605 : decode cL_acts 605 = .ok (.iload_n 1, 1) := by decide +kernel
theorem dL_acts_606 : decode cL_acts 606 = .ok (.invokevirtual 120, 3) := by decide +kernel
theorem dL_acts_609 : decode cL_acts 609 = .ok (.iconst (-1), 1) := by decide +kernel
theorem dL_acts_610 : decode cL_acts 610 = .ok (.if_icmp .ne 44, 3) := by decide +kernel
theorem dL_acts_613 : decode cL_acts 613 = .ok (.aload_n 0, 1) := by decide +kernel
theorem dL_acts_614 : decode cL_acts 614 = .ok (.getfield 10, 3) := by decide +kernel
theorem dL_acts_617 : decode cL_acts 617 = .ok (.iload_n 1, 1) := by decide +kernel
theorem dL_acts_618 : decode cL_acts 618 = .ok (.invokevirtual 123, 3) := by decide +kernel
theorem dL_acts_621 : decode cL_acts 621 = .ok (.iconst (-1), 1) := by decide +kernel
theorem dL_acts_622 : decode cL_acts 622 = .ok (.if_icmp .ne 32, 3) := by decide +kernel
theorem dL_acts_625 : decode cL_acts 625 = .ok (.aload_n 0, 1) := by decide +kernel
theorem dL_acts_626 : decode cL_acts 626 = .ok (.getfield 10, 3) := by decide +kernel
theorem dL_acts_629 : decode cL_acts 629 = .ok (.iload_n 1, 1) := by decide +kernel
theorem dL_acts_630 : decode cL_acts 630 = .ok (.invokevirtual 100, 3) := by decide +kernel
theorem dL_acts_633 : decode cL_acts 633 = .ok (.iconst (-1), 1) := by decide +kernel
theorem dL_acts_634 : decode cL_acts 634 = .ok (.if_icmp .ne 20, 3) := by decide +kernel
theorem dL_acts_637 : decode cL_acts 637 = .ok (.aload_n 0, 1) := by decide +kernel
theorem dL_acts_638 : decode cL_acts 638 = .ok (.iload 4, 2) := by decide +kernel
theorem dL_acts_640 : decode cL_acts 640 = .ok (.iconst 0, 1) := by decide +kernel
theorem dL_acts_641 : decode cL_acts 641 = .ok (.iload_n 1, 1) := by decide +kernel
theorem dL_acts_642 : decode cL_acts 642 = .ok (.iload 5, 2) := by decide +kernel
theorem dL_acts_644 : decode cL_acts 644 = .ok (.invokevirtual 77, 3) := by decide +kernel
theorem dL_acts_647 : decode cL_acts 647 = .ok (.ifCond .eq 7, 3) := by decide +kernel
theorem dL_acts_650 : decode cL_acts 650 = .ok (.iconst 1, 1) := by decide +kernel
theorem dL_acts_651 : decode cL_acts 651 = .ok (.goto 4, 3) := by decide +kernel
theorem dL_acts_654 : decode cL_acts 654 = .ok (.iconst 0, 1) := by decide +kernel
theorem dL_acts_655 : decode cL_acts 655 = .ok (.ireturn, 1) := by decide +kernel
theorem dL_told_0 : decode cL_told 0 = .ok (.aload_n 0, 1) := by decide +kernel
theorem dL_told_1 : decode cL_told 1 = .ok (.getfield 10, 3) := by decide +kernel
theorem dL_told_4 : decode cL_told 4 = .ok (.invokevirtual 71, 3) := by decide +kernel
theorem dL_told_7 : decode cL_told 7 = .ok (.sipush 600, 3) := by decide +kernel
theorem dL_told_10 : decode cL_told 10 = .ok (.iload_n 1, 1) := by decide +kernel
theorem dL_told_11 : decode cL_told 11 = .ok (.iconst 1, 1) := by decide +kernel
theorem dL_told_12 : decode cL_told 12 = .ok (.iadd, 1) := by decide +kernel
theorem dL_told_13 : decode cL_told 13 = .ok (.invokestatic 126, 3) := by decide +kernel
theorem dL_told_16 : decode cL_told 16 = .ok (.if_icmp .ne 69, 3) := by decide +kernel
theorem dL_told_19 : decode cL_told 19 = .ok (.iload_n 1, 1) := by decide +kernel
theorem dL_told_20 : decode cL_told 20 = .ok (.sipush 600, 3) := by decide +kernel
theorem dL_told_23 : decode cL_told 23 = .ok (.if_icmp .eq 58, 3) := by decide +kernel
theorem dL_told_26 : decode cL_told 26 = .ok (.aload_n 0, 1) := by decide +kernel
theorem dL_told_27 : decode cL_told 27 = .ok (.getfield 10, 3) := by decide +kernel
theorem dL_told_30 : decode cL_told 30 = .ok (.iload_n 1, 1) := by decide +kernel
theorem dL_told_31 : decode cL_told 31 = .ok (.invokevirtual 129, 3) := by decide +kernel
theorem dL_told_34 : decode cL_told 34 = .ok (.aload_n 0, 1) := by decide +kernel
theorem dL_told_35 : decode cL_told 35 = .ok (.getfield 10, 3) := by decide +kernel
theorem dL_told_38 : decode cL_told 38 = .ok (.invokevirtual 117, 3) := by decide +kernel
theorem dL_told_41 : decode cL_told 41 = .ok (.if_icmp .ne 44, 3) := by decide +kernel
theorem dL_told_44 : decode cL_told 44 = .ok (.aload_n 0, 1) := by decide +kernel
theorem dL_told_45 : decode cL_told 45 = .ok (.getfield 10, 3) := by decide +kernel
theorem dL_told_48 : decode cL_told 48 = .ok (.iload_n 1, 1) := by decide +kernel
theorem dL_told_49 : decode cL_told 49 = .ok (.invokevirtual 132, 3) := by decide +kernel
theorem dL_told_52 : decode cL_told 52 = .ok (.iload_n 2, 1) := by decide +kernel
theorem dL_told_53 : decode cL_told 53 = .ok (.if_icmp .ne 32, 3) := by decide +kernel
theorem dL_told_56 : decode cL_told 56 = .ok (.aload_n 0, 1) := by decide +kernel
theorem dL_told_57 : decode cL_told 57 = .ok (.getfield 10, 3) := by decide +kernel
theorem dL_told_60 : decode cL_told 60 = .ok (.iload_n 1, 1) := by decide +kernel
theorem dL_told_61 : decode cL_told 61 = .ok (.invokevirtual 135, 3) := by decide +kernel
theorem dL_told_64 : decode cL_told 64 = .ok (.iload_n 3, 1) := by decide +kernel
theorem dL_told_65 : decode cL_told 65 = .ok (.if_icmp .ne 20, 3) := by decide +kernel
theorem dL_told_68 : decode cL_told 68 = .ok (.aload_n 0, 1) := by decide +kernel
theorem dL_told_69 : decode cL_told 69 = .ok (.getfield 10, 3) := by decide +kernel
theorem dL_told_72 : decode cL_told 72 = .ok (.iload_n 1, 1) := by decide +kernel
theorem dL_told_73 : decode cL_told 73 = .ok (.invokevirtual 138, 3) := by decide +kernel
theorem dL_told_76 : decode cL_told 76 = .ok (.iload 4, 2) := by decide +kernel
theorem dL_told_78 : decode cL_told 78 = .ok (.if_icmp .ne 7, 3) := by decide +kernel
theorem dL_told_81 : decode cL_told 81 = .ok (.iconst 1, 1) := by decide +kernel
theorem dL_told_82 : decode cL_told 82 = .ok (.goto 4, 3) := by decide +kernel
theorem dL_told_85 : decode cL_told 85 = .ok (.iconst 0, 1) := by decide +kernel
theorem dL_told_86 : decode cL_told 86 = .ok (.ireturn, 1) := by decide +kernel
theorem dL_solves_0 : decode cL_solves 0 = .ok (.aload_n 0, 1) := by decide +kernel
theorem dL_solves_1 : decode cL_solves 1 = .ok (.getfield 10, 3) := by decide +kernel
theorem dL_solves_4 : decode cL_solves 4 = .ok (.iload_n 1, 1) := by decide +kernel
theorem dL_solves_5 : decode cL_solves 5 = .ok (.invokevirtual 106, 3) := by decide +kernel
theorem dL_solves_8 : decode cL_solves 8 = .ok (.invokestatic 141, 3) := by decide +kernel
theorem dL_solves_11 : decode cL_solves 11 = .ok (.istore_n 3, 1) := by decide +kernel
theorem dL_solves_12 : decode cL_solves 12 = .ok (.aload_n 0, 1) := by decide +kernel
theorem dL_solves_13 : decode cL_solves 13 = .ok (.getfield 10, 3) := by decide +kernel
theorem dL_solves_16 : decode cL_solves 16 = .ok (.iload_n 1, 1) := by decide +kernel
theorem dL_solves_17 : decode cL_solves 17 = .ok (.invokevirtual 147, 3) := by decide +kernel
theorem dL_solves_20 : decode cL_solves 20 = .ok (.istore 4, 2) := by decide +kernel
theorem dL_solves_22 : decode cL_solves 22 = .ok (.aload_n 0, 1) := by decide +kernel
theorem dL_solves_23 : decode cL_solves 23 = .ok (.getfield 10, 3) := by decide +kernel
theorem dL_solves_26 : decode cL_solves 26 = .ok (.iload_n 1, 1) := by decide +kernel
theorem dL_solves_27 : decode cL_solves 27 = .ok (.invokevirtual 84, 3) := by decide +kernel
theorem dL_solves_30 : decode cL_solves 30 = .ok (.istore 5, 2) := by decide +kernel
theorem dL_solves_32 : decode cL_solves 32 = .ok (.aload_n 0, 1) := by decide +kernel
theorem dL_solves_33 : decode cL_solves 33 = .ok (.getfield 10, 3) := by decide +kernel
theorem dL_solves_36 : decode cL_solves 36 = .ok (.iload_n 1, 1) := by decide +kernel
theorem dL_solves_37 : decode cL_solves 37 = .ok (.invokevirtual 150, 3) := by decide +kernel
theorem dL_solves_40 : decode cL_solves 40 = .ok (.istore 6, 2) := by decide +kernel
theorem dL_solves_42 : decode cL_solves 42 = .ok (.iload_n 2, 1) := by decide +kernel
theorem dL_solves_43 : decode cL_solves 43 = .ok (.iconst 2, 1) := by decide +kernel
theorem dL_solves_44 : decode cL_solves 44 = .ok (.if_icmp .le 16, 3) := by decide +kernel
theorem dL_solves_47 : decode cL_solves 47 = .ok (.iload 6, 2) := by decide +kernel
theorem dL_solves_49 : decode cL_solves 49 = .ok (.bipush (-5), 2) := by decide +kernel
theorem dL_solves_51 : decode cL_solves 51 = .ok (.if_icmp .ne 7, 3) := by decide +kernel
theorem dL_solves_54 : decode cL_solves 54 = .ok (.iconst 1, 1) := by decide +kernel
theorem dL_solves_55 : decode cL_solves 55 = .ok (.goto 4, 3) := by decide +kernel
theorem dL_solves_58 : decode cL_solves 58 = .ok (.iconst 0, 1) := by decide +kernel
theorem dL_solves_59 : decode cL_solves 59 = .ok (.ireturn, 1) := by decide +kernel
theorem dL_solves_60 : decode cL_solves 60 = .ok (.iload 6, 2) := by decide +kernel
theorem dL_solves_62 : decode cL_solves 62 = .ok (.iload_n 3, 1) := by decide +kernel
theorem dL_solves_63 : decode cL_solves 63 = .ok (.iconst 1, 1) := by decide +kernel
theorem dL_solves_64 : decode cL_solves 64 = .ok (.iadd, 1) := by decide +kernel
theorem dL_solves_65 : decode cL_solves 65 = .ok (.if_icmp .ne 51, 3) := by decide +kernel
theorem dL_solves_68 : decode cL_solves 68 = .ok (.aload_n 0, 1) := by decide +kernel
theorem dL_solves_69 : decode cL_solves 69 = .ok (.getfield 10, 3) := by decide +kernel
theorem dL_solves_72 : decode cL_solves 72 = .ok (.iload_n 1, 1) := by decide +kernel
theorem dL_solves_73 : decode cL_solves 73 = .ok (.invokevirtual 68, 3) := by decide +kernel
theorem dL_solves_76 : decode cL_solves 76 = .ok (.iconst 3, 1) := by decide +kernel
theorem dL_solves_77 : decode cL_solves 77 = .ok (.if_icmp .ne 39, 3) := by decide +kernel
theorem dL_solves_80 : decode cL_solves 80 = .ok (.aload_n 0, 1) := by decide +kernel
theorem dL_solves_81 : decode cL_solves 81 = .ok (.getfield 10, 3) := by decide +kernel
theorem dL_solves_84 : decode cL_solves 84 = .ok (.iload_n 1, 1) := by decide +kernel
theorem dL_solves_85 : decode cL_solves 85 = .ok (.invokevirtual 123, 3) := by decide +kernel
theorem dL_solves_88 : decode cL_solves 88 = .ok (.aload_n 0, 1) := by decide +kernel
theorem dL_solves_89 : decode cL_solves 89 = .ok (.getfield 10, 3) := by decide +kernel
theorem dL_solves_92 : decode cL_solves 92 = .ok (.invokevirtual 117, 3) := by decide +kernel
theorem dL_solves_95 : decode cL_solves 95 = .ok (.if_icmp .ne 21, 3) := by decide +kernel
theorem dL_solves_98 : decode cL_solves 98 = .ok (.aload_n 0, 1) := by decide +kernel
theorem dL_solves_99 : decode cL_solves 99 = .ok (.getfield 10, 3) := by decide +kernel
theorem dL_solves_102 : decode cL_solves 102 = .ok (.iload_n 1, 1) := by decide +kernel
theorem dL_solves_103 : decode cL_solves 103 = .ok (.invokevirtual 153, 3) := by decide +kernel
theorem dL_solves_106 : decode cL_solves 106 = .ok (.aload_n 0, 1) := by decide +kernel
theorem dL_solves_107 : decode cL_solves 107 = .ok (.getfield 10, 3) := by decide +kernel
theorem dL_solves_110 : decode cL_solves 110 = .ok (.invokevirtual 117, 3) := by decide +kernel
theorem dL_solves_113 : decode cL_solves 113 = .ok (.if_icmp .eq 5, 3) := by decide +kernel
theorem dL_solves_116 : decode cL_solves 116 = .ok (.iconst 0, 1) := by decide +kernel
theorem dL_solves_117 : decode cL_solves 117 = .ok (.ireturn, 1) := by decide +kernel
theorem dL_solves_118 : decode cL_solves 118 = .ok (.iconst 0, 1) := by decide +kernel
theorem dL_solves_119 : decode cL_solves 119 = .ok (.istore 7, 2) := by decide +kernel
theorem dL_solves_121 : decode cL_solves 121 = .ok (.iload 7, 2) := by decide +kernel
theorem dL_solves_123 : decode cL_solves 123 = .ok (.aload_n 0, 1) := by decide +kernel
theorem dL_solves_124 : decode cL_solves 124 = .ok (.getfield 10, 3) := by decide +kernel
theorem dL_solves_127 : decode cL_solves 127 = .ok (.invokevirtual 65, 3) := by decide +kernel
theorem dL_solves_130 : decode cL_solves 130 = .ok (.if_icmp .ge 70, 3) := by decide +kernel
theorem dL_solves_133 : decode cL_solves 133 = .ok (.aload_n 0, 1) := by decide +kernel
theorem dL_solves_134 : decode cL_solves 134 = .ok (.getfield 10, 3) := by decide +kernel
theorem dL_solves_137 : decode cL_solves 137 = .ok (.iload 7, 2) := by decide +kernel
theorem dL_solves_139 : decode cL_solves 139 = .ok (.invokevirtual 100, 3) := by decide +kernel
theorem dL_solves_142 : decode cL_solves 142 = .ok (.iload_n 1, 1) := by decide +kernel
theorem dL_solves_143 : decode cL_solves 143 = .ok (.if_icmp .ne 51, 3) := by decide +kernel
theorem dL_solves_146 : decode cL_solves 146 = .ok (.aload_n 0, 1) := by decide +kernel
theorem dL_solves_147 : decode cL_solves 147 = .ok (.getfield 10, 3) := by decide +kernel
theorem dL_solves_150 : decode cL_solves 150 = .ok (.iload 7, 2) := by decide +kernel
theorem dL_solves_152 : decode cL_solves 152 = .ok (.invokevirtual 68, 3) := by decide +kernel
theorem dL_solves_155 : decode cL_solves 155 = .ok (.iconst 3, 1) := by decide +kernel
theorem dL_solves_156 : decode cL_solves 156 = .ok (.if_icmp .ne 36, 3) := by decide +kernel
theorem dL_solves_159 : decode cL_solves 159 = .ok (.aload_n 0, 1) := by decide +kernel
theorem dL_solves_160 : decode cL_solves 160 = .ok (.getfield 10, 3) := by decide +kernel
theorem dL_solves_163 : decode cL_solves 163 = .ok (.iload 7, 2) := by decide +kernel
theorem dL_solves_165 : decode cL_solves 165 = .ok (.invokevirtual 123, 3) := by decide +kernel
theorem dL_solves_168 : decode cL_solves 168 = .ok (.aload_n 0, 1) := by decide +kernel
theorem dL_solves_169 : decode cL_solves 169 = .ok (.getfield 10, 3) := by decide +kernel
theorem dL_solves_172 : decode cL_solves 172 = .ok (.invokevirtual 117, 3) := by decide +kernel
theorem dL_solves_175 : decode cL_solves 175 = .ok (.if_icmp .ne 17, 3) := by decide +kernel
theorem dL_solves_178 : decode cL_solves 178 = .ok (.aload_n 0, 1) := by decide +kernel
theorem dL_solves_179 : decode cL_solves 179 = .ok (.getfield 10, 3) := by decide +kernel
theorem dL_solves_182 : decode cL_solves 182 = .ok (.iload 7, 2) := by decide +kernel
theorem dL_solves_184 : decode cL_solves 184 = .ok (.invokevirtual 156, 3) := by decide +kernel
theorem dL_solves_187 : decode cL_solves 187 = .ok (.bipush (-5), 2) := by decide +kernel
theorem dL_solves_189 : decode cL_solves 189 = .ok (.if_icmp .eq 5, 3) := by decide +kernel
theorem dL_solves_192 : decode cL_solves 192 = .ok (.iconst 0, 1) := by decide +kernel
theorem dL_solves_193 : decode cL_solves 193 = .ok (.ireturn, 1) := by decide +kernel
theorem dL_solves_194 : decode cL_solves 194 = .ok (.iinc 7 1, 3) := by decide +kernel
theorem dL_solves_197 : decode cL_solves 197 = .ok (.goto (-76), 3) := by decide +kernel
theorem dL_solves_200 : decode cL_solves 200 = .ok (.aload_n 0, 1) := by decide +kernel
theorem dL_solves_201 : decode cL_solves 201 = .ok (.getfield 10, 3) := by decide +kernel
theorem dL_solves_204 : decode cL_solves 204 = .ok (.iload_n 1, 1) := by decide +kernel
theorem dL_solves_205 : decode cL_solves 205 = .ok (.invokevirtual 74, 3) := by decide +kernel
theorem dL_solves_208 : decode cL_solves 208 = .ok (.bipush (-5), 2) := by decide +kernel
theorem dL_solves_210 : decode cL_solves 210 = .ok (.if_icmp .ne 43, 3) := by decide +kernel
theorem dL_solves_213 : decode cL_solves 213 = .ok (.aload_n 0, 1) := by decide +kernel
theorem dL_solves_214 : decode cL_solves 214 = .ok (.getfield 10, 3) := by decide +kernel
theorem dL_solves_217 : decode cL_solves 217 = .ok (.iload_n 1, 1) := by decide +kernel
theorem dL_solves_218 : decode cL_solves 218 = .ok (.iconst 0, 1) := by decide +kernel
theorem dL_solves_219 : decode cL_solves 219 = .ok (.invokevirtual 159, 3) := by decide +kernel
theorem dL_solves_222 : decode cL_solves 222 = .ok (.bipush (-5), 2) := by decide +kernel
theorem dL_solves_224 : decode cL_solves 224 = .ok (.if_icmp .ne 29, 3) := by decide +kernel
theorem dL_solves_227 : decode cL_solves 227 = .ok (.aload_n 0, 1) := by decide +kernel
theorem dL_solves_228 : decode cL_solves 228 = .ok (.getfield 10, 3) := by decide +kernel
theorem dL_solves_231 : decode cL_solves 231 = .ok (.iload_n 1, 1) := by decide +kernel
theorem dL_solves_232 : decode cL_solves 232 = .ok (.invokevirtual 87, 3) := by decide +kernel
theorem dL_solves_235 : decode cL_solves 235 = .ok (.bipush (-5), 2) := by decide +kernel
theorem dL_solves_237 : decode cL_solves 237 = .ok (.if_icmp .ne 16, 3) := by decide +kernel
theorem dL_solves_240 : decode cL_solves 240 = .ok (.aload_n 0, 1) := by decide +kernel
theorem dL_solves_241 : decode cL_solves 241 = .ok (.getfield 10, 3) := by decide +kernel
theorem dL_solves_244 : decode cL_solves 244 = .ok (.iload_n 1, 1) := by decide +kernel
theorem dL_solves_245 : decode cL_solves 245 = .ok (.invokevirtual 103, 3) := by decide +kernel
theorem dL_solves_248 : decode cL_solves 248 = .ok (.bipush (-5), 2) := by decide +kernel
theorem dL_solves_250 : decode cL_solves 250 = .ok (.if_icmp .eq 5, 3) := by decide +kernel
theorem dL_solves_253 : decode cL_solves 253 = .ok (.iconst 0, 1) := by decide +kernel
theorem dL_solves_254 : decode cL_solves 254 = .ok (.ireturn, 1) := by decide +kernel
theorem dL_solves_255 : decode cL_solves 255 = .ok (.aload_n 0, 1) := by decide +kernel
theorem dL_solves_256 : decode cL_solves 256 = .ok (.iconst 2, 1) := by decide +kernel
theorem dL_solves_257 : decode cL_solves 257 = .ok (.invokevirtual 46, 3) := by decide +kernel
theorem dL_solves_260 : decode cL_solves 260 = .ok (.ifCond .ne 5, 3) := by decide +kernel
theorem dL_solves_263 : decode cL_solves 263 = .ok (.iconst 1, 1) := by decide +kernel
theorem dL_solves_264 : decode cL_solves 264 = .ok (.ireturn, 1) := by decide +kernel
theorem dL_solves_265 : decode cL_solves 265 = .ok (.aload_n 0, 1) := by decide +kernel
theorem dL_solves_266 : decode cL_solves 266 = .ok (.getfield 10, 3) := by decide +kernel
theorem dL_solves_269 : decode cL_solves 269 = .ok (.iload_n 1, 1) := by decide +kernel
theorem dL_solves_270 : decode cL_solves 270 = .ok (.invokevirtual 156, 3) := by decide +kernel
theorem dL_solves_273 : decode cL_solves 273 = .ok (.iload_n 3, 1) := by decide +kernel
theorem dL_solves_274 : decode cL_solves 274 = .ok (.iconst 1, 1) := by decide +kernel
theorem dL_solves_275 : decode cL_solves 275 = .ok (.iadd, 1) := by decide +kernel
theorem dL_solves_276 : decode cL_solves 276 = .ok (.if_icmp .ne 63, 3) := by decide +kernel
theorem dL_solves_279 : decode cL_solves 279 = .ok (.aload_n 0, 1) := by decide +kernel
theorem dL_solves_280 : decode cL_solves 280 = .ok (.getfield 10, 3) := by decide +kernel
theorem dL_solves_283 : decode cL_solves 283 = .ok (.iload_n 1, 1) := by decide +kernel
theorem dL_solves_284 : decode cL_solves 284 = .ok (.invokevirtual 68, 3) := by decide +kernel
theorem dL_solves_287 : decode cL_solves 287 = .ok (.ifCond .ne 52, 3) := by decide +kernel
theorem dL_solves_290 : decode cL_solves 290 = .ok (.aload_n 0, 1) := by decide +kernel
theorem dL_solves_291 : decode cL_solves 291 = .ok (.getfield 10, 3) := by decide +kernel
theorem dL_solves_294 : decode cL_solves 294 = .ok (.iload_n 1, 1) := by decide +kernel
theorem dL_solves_295 : decode cL_solves 295 = .ok (.invokevirtual 123, 3) := by decide +kernel
theorem dL_solves_298 : decode cL_solves 298 = .ok (.iconst (-1), 1) := by decide +kernel
theorem dL_solves_299 : decode cL_solves 299 = .ok (.if_icmp .ne 40, 3) := by decide +kernel
theorem dL_solves_302 : decode cL_solves 302 = .ok (.aload_n 0, 1) := by decide +kernel
theorem dL_solves_303 : decode cL_solves 303 = .ok (.getfield 10, 3) := by decide +kernel
theorem dL_solves_306 : decode cL_solves 306 = .ok (.iload_n 1, 1) := by decide +kernel
theorem dL_solves_307 : decode cL_solves 307 = .ok (.invokevirtual 147, 3) := by decide +kernel
theorem dL_solves_310 : decode cL_solves 310 = .ok (.iload 4, 2) := by decide +kernel
theorem dL_solves_312 : decode cL_solves 312 = .ok (.if_icmp .ne 27, 3) := by decide +kernel
theorem dL_solves_315 : decode cL_solves 315 = .ok (.aload_n 0, 1) := by decide +kernel
theorem dL_solves_316 : decode cL_solves 316 = .ok (.getfield 10, 3) := by decide +kernel
theorem dL_solves_319 : decode cL_solves 319 = .ok (.iload_n 1, 1) := by decide +kernel
theorem dL_solves_320 : decode cL_solves 320 = .ok (.invokevirtual 84, 3) := by decide +kernel
theorem dL_solves_323 : decode cL_solves 323 = .ok (.iload 5, 2) := by decide +kernel
theorem dL_solves_325 : decode cL_solves 325 = .ok (.if_icmp .ne 14, 3) := by decide +kernel
theorem dL_solves_328 : decode cL_solves 328 = .ok (.aload_n 0, 1) := by decide +kernel
theorem dL_solves_329 : decode cL_solves 329 = .ok (.getfield 10, 3) := by decide +kernel
theorem dL_solves_332 : decode cL_solves 332 = .ok (.iload_n 1, 1) := by decide +kernel
theorem dL_solves_333 : decode cL_solves 333 = .ok (.invokevirtual 90, 3) := by decide +kernel
theorem dL_solves_336 : decode cL_solves 336 = .ok (.ifCond .eq 5, 3) := by decide +kernel
theorem dL_solves_339 : decode cL_solves 339 = .ok (.iconst 0, 1) := by decide +kernel
theorem dL_solves_340 : decode cL_solves 340 = .ok (.ireturn, 1) := by decide +kernel
theorem dL_solves_341 : decode cL_solves 341 = .ok (.iconst 0, 1) := by decide +kernel
theorem dL_solves_342 : decode cL_solves 342 = .ok (.istore 7, 2) := by decide +kernel
theorem dL_solves_344 : decode cL_solves 344 = .ok (.iload 7, 2) := by decide +kernel
theorem dL_solves_346 : decode cL_solves 346 = .ok (.aload_n 0, 1) := by decide +kernel
theorem dL_solves_347 : decode cL_solves 347 = .ok (.getfield 10, 3) := by decide +kernel
theorem dL_solves_350 : decode cL_solves 350 = .ok (.invokevirtual 65, 3) := by decide +kernel
theorem dL_solves_353 : decode cL_solves 353 = .ok (.if_icmp .ge 50, 3) := by decide +kernel
theorem dL_solves_356 : decode cL_solves 356 = .ok (.aload_n 0, 1) := by decide +kernel
theorem dL_solves_357 : decode cL_solves 357 = .ok (.getfield 10, 3) := by decide +kernel
theorem dL_solves_360 : decode cL_solves 360 = .ok (.iload 7, 2) := by decide +kernel
theorem dL_solves_362 : decode cL_solves 362 = .ok (.invokevirtual 100, 3) := by decide +kernel
theorem dL_solves_365 : decode cL_solves 365 = .ok (.iload_n 1, 1) := by decide +kernel
theorem dL_solves_366 : decode cL_solves 366 = .ok (.if_icmp .ne 31, 3) := by decide +kernel
theorem dL_solves_369 : decode cL_solves 369 = .ok (.aload_n 0, 1) := by decide +kernel
theorem dL_solves_370 : decode cL_solves 370 = .ok (.getfield 10, 3) := by decide +kernel
theorem dL_solves_373 : decode cL_solves 373 = .ok (.iload 7, 2) := by decide +kernel
theorem dL_solves_375 : decode cL_solves 375 = .ok (.invokevirtual 68, 3) := by decide +kernel
theorem dL_solves_378 : decode cL_solves 378 = .ok (.iconst 4, 1) := by decide +kernel
theorem dL_solves_379 : decode cL_solves 379 = .ok (.if_icmp .ne 16, 3) := by decide +kernel
theorem dL_solves_382 : decode cL_solves 382 = .ok (.aload_n 0, 1) := by decide +kernel
theorem dL_solves_383 : decode cL_solves 383 = .ok (.getfield 10, 3) := by decide +kernel
theorem dL_solves_386 : decode cL_solves 386 = .ok (.iload 7, 2) := by decide +kernel
theorem dL_solves_388 : decode cL_solves 388 = .ok (.invokevirtual 123, 3) := by decide +kernel
theorem dL_solves_391 : decode cL_solves 391 = .ok (.iconst (-1), 1) := by decide +kernel
theorem dL_solves_392 : decode cL_solves 392 = .ok (.if_icmp .eq 5, 3) := by decide +kernel
theorem dL_solves_395 : decode cL_solves 395 = .ok (.iconst 0, 1) := by decide +kernel
theorem dL_solves_396 : decode cL_solves 396 = .ok (.ireturn, 1) := by decide +kernel
theorem dL_solves_397 : decode cL_solves 397 = .ok (.iinc 7 1, 3) := by decide +kernel
theorem dL_solves_400 : decode cL_solves 400 = .ok (.goto (-56), 3) := by decide +kernel
theorem dL_solves_403 : decode cL_solves 403 = .ok (.iconst 1, 1) := by decide +kernel
theorem dL_solves_404 : decode cL_solves 404 = .ok (.ireturn, 1) := by decide +kernel
theorem dL_joins_0 : decode cL_joins 0 = .ok (.iload_n 1, 1) := by decide +kernel
theorem dL_joins_1 : decode cL_joins 1 = .ok (.iload_n 2, 1) := by decide +kernel
theorem dL_joins_2 : decode cL_joins 2 = .ok (.if_icmp .eq 31, 3) := by decide +kernel
theorem dL_joins_5 : decode cL_joins 5 = .ok (.aload_n 0, 1) := by decide +kernel
theorem dL_joins_6 : decode cL_joins 6 = .ok (.getfield 10, 3) := by decide +kernel
theorem dL_joins_9 : decode cL_joins 9 = .ok (.iload_n 1, 1) := by decide +kernel
theorem dL_joins_10 : decode cL_joins 10 = .ok (.invokevirtual 68, 3) := by decide +kernel
theorem dL_joins_13 : decode cL_joins 13 = .ok (.iconst 3, 1) := by decide +kernel
theorem dL_joins_14 : decode cL_joins 14 = .ok (.if_icmp .ge 19, 3) := by decide +kernel
theorem dL_joins_17 : decode cL_joins 17 = .ok (.aload_n 0, 1) := by decide +kernel
theorem dL_joins_18 : decode cL_joins 18 = .ok (.getfield 10, 3) := by decide +kernel
theorem dL_joins_21 : decode cL_joins 21 = .ok (.iload_n 2, 1) := by decide +kernel
theorem dL_joins_22 : decode cL_joins 22 = .ok (.invokevirtual 68, 3) := by decide +kernel
theorem dL_joins_25 : decode cL_joins 25 = .ok (.iconst 3, 1) := by decide +kernel
theorem dL_joins_26 : decode cL_joins 26 = .ok (.if_icmp .ge 7, 3) := by decide +kernel
theorem dL_joins_29 : decode cL_joins 29 = .ok (.iconst 1, 1) := by decide +kernel
theorem dL_joins_30 : decode cL_joins 30 = .ok (.goto 4, 3) := by decide +kernel
theorem dL_joins_33 : decode cL_joins 33 = .ok (.iconst 0, 1) := by decide +kernel
theorem dL_joins_34 : decode cL_joins 34 = .ok (.istore_n 3, 1) := by decide +kernel
theorem dL_joins_35 : decode cL_joins 35 = .ok (.aload_n 0, 1) := by decide +kernel
theorem dL_joins_36 : decode cL_joins 36 = .ok (.getfield 10, 3) := by decide +kernel
theorem dL_joins_39 : decode cL_joins 39 = .ok (.iload_n 1, 1) := by decide +kernel
theorem dL_joins_40 : decode cL_joins 40 = .ok (.invokevirtual 106, 3) := by decide +kernel
theorem dL_joins_43 : decode cL_joins 43 = .ok (.aload_n 0, 1) := by decide +kernel
theorem dL_joins_44 : decode cL_joins 44 = .ok (.getfield 10, 3) := by decide +kernel
theorem dL_joins_47 : decode cL_joins 47 = .ok (.iload_n 2, 1) := by decide +kernel
theorem dL_joins_48 : decode cL_joins 48 = .ok (.invokevirtual 106, 3) := by decide +kernel
theorem dL_joins_51 : decode cL_joins 51 = .ok (.lor, 1) := by decide +kernel
theorem dL_joins_52 : decode cL_joins 52 = .ok (.lconst 1, 1) := by decide +kernel
theorem dL_joins_53 : decode cL_joins 53 = .ok (.iload_n 1, 1) := by decide +kernel
theorem dL_joins_54 : decode cL_joins 54 = .ok (.lshl, 1) := by decide +kernel
theorem dL_joins_55 : decode cL_joins 55 = .ok (.lor, 1) := by decide +kernel
theorem dL_joins_56 : decode cL_joins 56 = .ok (.lstore 4, 2) := by decide +kernel
theorem dL_joins_58 : decode cL_joins 58 = .ok (.aload_n 0, 1) := by decide +kernel
theorem dL_joins_59 : decode cL_joins 59 = .ok (.getfield 10, 3) := by decide +kernel
theorem dL_joins_62 : decode cL_joins 62 = .ok (.invokevirtual 71, 3) := by decide +kernel
theorem dL_joins_65 : decode cL_joins 65 = .ok (.istore 6, 2) := by decide +kernel
theorem dL_joins_67 : decode cL_joins 67 = .ok (.aload_n 0, 1) := by decide +kernel
theorem dL_joins_68 : decode cL_joins 68 = .ok (.getfield 10, 3) := by decide +kernel
theorem dL_joins_71 : decode cL_joins 71 = .ok (.iload_n 1, 1) := by decide +kernel
theorem dL_joins_72 : decode cL_joins 72 = .ok (.iload_n 2, 1) := by decide +kernel
theorem dL_joins_73 : decode cL_joins 73 = .ok (.invokevirtual 162, 3) := by decide +kernel
theorem dL_joins_76 : decode cL_joins 76 = .ok (.istore 7, 2) := by decide +kernel
theorem dL_joins_78 : decode cL_joins 78 = .ok (.iload_n 3, 1) := by decide +kernel
theorem dL_joins_79 : decode cL_joins 79 = .ok (.ifCond .ne 16, 3) := by decide +kernel
theorem dL_joins_82 : decode cL_joins 82 = .ok (.iload 7, 2) := by decide +kernel
theorem dL_joins_84 : decode cL_joins 84 = .ok (.bipush (-5), 2) := by decide +kernel
theorem dL_joins_86 : decode cL_joins 86 = .ok (.if_icmp .ne 7, 3) := by decide +kernel
theorem dL_joins_89 : decode cL_joins 89 = .ok (.iconst 1, 1) := by decide +kernel
theorem dL_joins_90 : decode cL_joins 90 = .ok (.goto 4, 3) := by decide +kernel
theorem dL_joins_93 : decode cL_joins 93 = .ok (.iconst 0, 1) := by decide +kernel
theorem dL_joins_94 : decode cL_joins 94 = .ok (.ireturn, 1) := by decide +kernel
theorem dL_joins_95 : decode cL_joins 95 = .ok (.iload 7, 2) := by decide +kernel
theorem dL_joins_97 : decode cL_joins 97 = .ok (.lload 4, 2) := by decide +kernel
theorem dL_joins_99 : decode cL_joins 99 = .ok (.invokestatic 141, 3) := by decide +kernel
theorem dL_joins_102 : decode cL_joins 102 = .ok (.if_icmp .ne 71, 3) := by decide +kernel
theorem dL_joins_105 : decode cL_joins 105 = .ok (.aload_n 0, 1) := by decide +kernel
theorem dL_joins_106 : decode cL_joins 106 = .ok (.getfield 10, 3) := by decide +kernel
theorem dL_joins_109 : decode cL_joins 109 = .ok (.iload_n 2, 1) := by decide +kernel
theorem dL_joins_110 : decode cL_joins 110 = .ok (.invokevirtual 106, 3) := by decide +kernel
theorem dL_joins_113 : decode cL_joins 113 = .ok (.lload 4, 2) := by decide +kernel
theorem dL_joins_115 : decode cL_joins 115 = .ok (.lcmp, 1) := by decide +kernel
theorem dL_joins_116 : decode cL_joins 116 = .ok (.ifCond .ne 57, 3) := by decide +kernel
theorem dL_joins_119 : decode cL_joins 119 = .ok (.aload_n 0, 1) := by decide +kernel
theorem dL_joins_120 : decode cL_joins 120 = .ok (.getfield 10, 3) := by decide +kernel
theorem dL_joins_123 : decode cL_joins 123 = .ok (.iload_n 1, 1) := by decide +kernel
theorem dL_joins_124 : decode cL_joins 124 = .ok (.invokevirtual 106, 3) := by decide +kernel
theorem dL_joins_127 : decode cL_joins 127 = .ok (.lconst 0, 1) := by decide +kernel
theorem dL_joins_128 : decode cL_joins 128 = .ok (.lcmp, 1) := by decide +kernel
theorem dL_joins_129 : decode cL_joins 129 = .ok (.ifCond .ne 44, 3) := by decide +kernel
theorem dL_joins_132 : decode cL_joins 132 = .ok (.aload_n 0, 1) := by decide +kernel
theorem dL_joins_133 : decode cL_joins 133 = .ok (.getfield 10, 3) := by decide +kernel
theorem dL_joins_136 : decode cL_joins 136 = .ok (.iload_n 1, 1) := by decide +kernel
theorem dL_joins_137 : decode cL_joins 137 = .ok (.invokevirtual 68, 3) := by decide +kernel
theorem dL_joins_140 : decode cL_joins 140 = .ok (.iconst 4, 1) := by decide +kernel
theorem dL_joins_141 : decode cL_joins 141 = .ok (.if_icmp .ne 32, 3) := by decide +kernel
theorem dL_joins_144 : decode cL_joins 144 = .ok (.aload_n 0, 1) := by decide +kernel
theorem dL_joins_145 : decode cL_joins 145 = .ok (.getfield 10, 3) := by decide +kernel
theorem dL_joins_148 : decode cL_joins 148 = .ok (.iload_n 1, 1) := by decide +kernel
theorem dL_joins_149 : decode cL_joins 149 = .ok (.invokevirtual 100, 3) := by decide +kernel
theorem dL_joins_152 : decode cL_joins 152 = .ok (.iload_n 2, 1) := by decide +kernel
theorem dL_joins_153 : decode cL_joins 153 = .ok (.if_icmp .ne 20, 3) := by decide +kernel
theorem dL_joins_156 : decode cL_joins 156 = .ok (.aload_n 0, 1) := by decide +kernel
theorem dL_joins_157 : decode cL_joins 157 = .ok (.iload 6, 2) := by decide +kernel
theorem dL_joins_159 : decode cL_joins 159 = .ok (.bipush 6, 2) := by decide +kernel
theorem dL_joins_161 : decode cL_joins 161 = .ok (.iload_n 1, 1) := by decide +kernel
theorem dL_joins_162 : decode cL_joins 162 = .ok (.iload_n 2, 1) := by decide +kernel
theorem dL_joins_163 : decode cL_joins 163 = .ok (.invokevirtual 77, 3) := by decide +kernel
theorem dL_joins_166 : decode cL_joins 166 = .ok (.ifCond .eq 7, 3) := by decide +kernel
theorem dL_joins_169 : decode cL_joins 169 = .ok (.iconst 1, 1) := by decide +kernel
theorem dL_joins_170 : decode cL_joins 170 = .ok (.goto 4, 3) := by decide +kernel
theorem dL_joins_173 : decode cL_joins 173 = .ok (.iconst 0, 1) := by decide +kernel
theorem dL_joins_174 : decode cL_joins 174 = .ok (.ireturn, 1) := by decide +kernel
theorem dL_passes_0 : decode cL_passes 0 = .ok (.aload_n 0, 1) := by decide +kernel
theorem dL_passes_1 : decode cL_passes 1 = .ok (.getfield 10, 3) := by decide +kernel
theorem dL_passes_4 : decode cL_passes 4 = .ok (.invokevirtual 65, 3) := by decide +kernel
theorem dL_passes_7 : decode cL_passes 7 = .ok (.istore_n 1, 1) := by decide +kernel
theorem dL_passes_8 : decode cL_passes 8 = .ok (.iconst 1, 1) := by decide +kernel
theorem dL_passes_9 : decode cL_passes 9 = .ok (.aload_n 0, 1) := by decide +kernel
theorem dL_passes_10 : decode cL_passes 10 = .ok (.aload_n 0, 1) := by decide +kernel
theorem dL_passes_11 : decode cL_passes 11 = .ok (.iconst 3, 1) := by decide +kernel
theorem dL_passes_12 : decode cL_passes 12 = .ok (.invokevirtual 46, 3) := by decide +kernel
theorem dL_passes_15 : decode cL_passes 15 = .ok (.ifCond .ne 9, 3) := by decide +kernel
theorem dL_passes_18 : decode cL_passes 18 = .ok (.sipush 500, 3) := by decide +kernel
theorem dL_passes_21 : decode cL_passes 21 = .ok (.goto 5, 3) := by decide +kernel
theorem dL_passes_24 : decode cL_passes 24 = .ok (.bipush 40, 2) := by decide +kernel
theorem dL_passes_26 : decode cL_passes 26 = .ok (.invokevirtual 46, 3) := by decide +kernel
theorem dL_passes_29 : decode cL_passes 29 = .ok (.iadd, 1) := by decide +kernel
theorem dL_passes_30 : decode cL_passes 30 = .ok (.istore_n 2, 1) := by decide +kernel
theorem dL_passes_31 : decode cL_passes 31 = .ok (.aload_n 0, 1) := by decide +kernel
theorem dL_passes_32 : decode cL_passes 32 = .ok (.getfield 10, 3) := by decide +kernel
theorem dL_passes_35 : decode cL_passes 35 = .ok (.invokevirtual 117, 3) := by decide +kernel
theorem dL_passes_38 : decode cL_passes 38 = .ok (.istore_n 3, 1) := by decide +kernel
theorem dL_passes_39 : decode cL_passes 39 = .ok (.iconst 0, 1) := by decide +kernel
theorem dL_passes_40 : decode cL_passes 40 = .ok (.istore 4, 2) := by decide +kernel
theorem dL_passes_42 : decode cL_passes 42 = .ok (.iconst 0, 1) := by decide +kernel
theorem dL_passes_43 : decode cL_passes 43 = .ok (.istore 5, 2) := by decide +kernel
theorem dL_passes_45 : decode cL_passes 45 = .ok (.iload_n 3, 1) := by decide +kernel
theorem dL_passes_46 : decode cL_passes 46 = .ok (.iload_n 2, 1) := by decide +kernel
theorem dL_passes_47 : decode cL_passes 47 = .ok (.iadd, 1) := by decide +kernel
theorem dL_passes_48 : decode cL_passes 48 = .ok (.sipush 10080, 3) := by decide +kernel
theorem dL_passes_51 : decode cL_passes 51 = .ok (.if_icmp .le 5, 3) := by decide +kernel
theorem dL_passes_54 : decode cL_passes 54 = .ok (.iconst 1, 1) := by decide +kernel
theorem dL_passes_55 : decode cL_passes 55 = .ok (.ireturn, 1) := by decide +kernel
theorem dL_passes_56 : decode cL_passes 56 = .ok (.iload_n 1, 1) := by decide +kernel
theorem dL_passes_57 : decode cL_passes 57 = .ok (.newarray .int, 2) := by decide +kernel
theorem dL_passes_59 : decode cL_passes 59 = .ok (.astore 6, 2) := by decide +kernel
theorem dL_passes_61 : decode cL_passes 61 = .ok (.iload_n 1, 1) := by decide +kernel
theorem dL_passes_62 : decode cL_passes 62 = .ok (.newarray .int, 2) := by decide +kernel
theorem dL_passes_64 : decode cL_passes 64 = .ok (.astore 7, 2) := by decide +kernel
theorem dL_passes_66 : decode cL_passes 66 = .ok (.iload_n 1, 1) := by decide +kernel
theorem dL_passes_67 : decode cL_passes 67 = .ok (.newarray .int, 2) := by decide +kernel
theorem dL_passes_69 : decode cL_passes 69 = .ok (.astore 8, 2) := by decide +kernel
theorem dL_passes_71 : decode cL_passes 71 = .ok (.lconst 0, 1) := by decide +kernel
theorem dL_passes_72 : decode cL_passes 72 = .ok (.lstore 9, 2) := by decide +kernel
theorem dL_passes_74 : decode cL_passes 74 = .ok (.aload_n 0, 1) := by decide +kernel
theorem dL_passes_75 : decode cL_passes 75 = .ok (.bipush 10, 2) := by decide +kernel
theorem dL_passes_77 : decode cL_passes 77 = .ok (.invokevirtual 46, 3) := by decide +kernel
theorem dL_passes_80 : decode cL_passes 80 = .ok (.istore 11, 2) := by decide +kernel
theorem dL_passes_82 : decode cL_passes 82 = .ok (.iconst 0, 1) := by decide +kernel
theorem dL_passes_83 : decode cL_passes 83 = .ok (.istore 12, 2) := by decide +kernel
theorem dL_passes_85 : decode cL_passes 85 = .ok (.iload 12, 2) := by decide +kernel
theorem dL_passes_87 : decode cL_passes 87 = .ok (.iload_n 1, 1) := by decide +kernel
theorem dL_passes_88 : decode cL_passes 88 = .ok (.if_icmp .ge 115, 3) := by decide +kernel
theorem dL_passes_91 : decode cL_passes 91 = .ok (.aload 6, 2) := by decide +kernel
theorem dL_passes_93 : decode cL_passes 93 = .ok (.iload 12, 2) := by decide +kernel
theorem dL_passes_95 : decode cL_passes 95 = .ok (.iload 12, 2) := by decide +kernel
theorem dL_passes_97 : decode cL_passes 97 = .ok (.bipush 10, 2) := by decide +kernel
theorem dL_passes_99 : decode cL_passes 99 = .ok (.irem, 1) := by decide +kernel
theorem dL_passes_100 : decode cL_passes 100 = .ok (.iload 11, 2) := by decide +kernel
theorem dL_passes_102 : decode cL_passes 102 = .ok (.if_icmp .ne 15, 3) := by decide +kernel
theorem dL_passes_105 : decode cL_passes 105 = .ok (.aload_n 0, 1) := by decide +kernel
theorem dL_passes_106 : decode cL_passes 106 = .ok (.getfield 10, 3) := by decide +kernel
theorem dL_passes_109 : decode cL_passes 109 = .ok (.iload 12, 2) := by decide +kernel
theorem dL_passes_111 : decode cL_passes 111 = .ok (.invokevirtual 153, 3) := by decide +kernel
theorem dL_passes_114 : decode cL_passes 114 = .ok (.goto 5, 3) := by decide +kernel
theorem dL_passes_117 : decode cL_passes 117 = .ok (.bipush (-9), 2) := by decide +kernel
theorem dL_passes_119 : decode cL_passes 119 = .ok (.iastore, 1) := by decide +kernel
theorem dL_passes_120 : decode cL_passes 120 = .ok (.aload 7, 2) := by decide +kernel
theorem dL_passes_122 : decode cL_passes 122 = .ok (.iload 12, 2) := by decide +kernel
theorem dL_passes_124 : decode cL_passes 124 = .ok (.aload_n 0, 1) := by decide +kernel
theorem dL_passes_125 : decode cL_passes 125 = .ok (.getfield 10, 3) := by decide +kernel
theorem dL_passes_128 : decode cL_passes 128 = .ok (.iload 12, 2) := by decide +kernel
theorem dL_passes_130 : decode cL_passes 130 = .ok (.invokevirtual 165, 3) := by decide +kernel
theorem dL_passes_133 : decode cL_passes 133 = .ok (.iastore, 1) := by decide +kernel
theorem dL_passes_134 : decode cL_passes 134 = .ok (.aload 8, 2) := by decide +kernel
theorem dL_passes_136 : decode cL_passes 136 = .ok (.iload 12, 2) := by decide +kernel
theorem dL_passes_138 : decode cL_passes 138 = .ok (.aload_n 0, 1) := by decide +kernel
theorem dL_passes_139 : decode cL_passes 139 = .ok (.getfield 10, 3) := by decide +kernel
theorem dL_passes_142 : decode cL_passes 142 = .ok (.iload 12, 2) := by decide +kernel
theorem dL_passes_144 : decode cL_passes 144 = .ok (.invokevirtual 147, 3) := by decide +kernel
theorem dL_passes_147 : decode cL_passes 147 = .ok (.iastore, 1) := by decide +kernel
theorem dL_passes_148 : decode cL_passes 148 = .ok (.iload 5, 2) := by decide +kernel
theorem dL_passes_150 : decode cL_passes 150 = .ok (.aload_n 0, 1) := by decide +kernel
theorem dL_passes_151 : decode cL_passes 151 = .ok (.getfield 10, 3) := by decide +kernel
theorem dL_passes_154 : decode cL_passes 154 = .ok (.iload 12, 2) := by decide +kernel
theorem dL_passes_156 : decode cL_passes 156 = .ok (.invokevirtual 68, 3) := by decide +kernel
theorem dL_passes_159 : decode cL_passes 159 = .ok (.iconst 3, 1) := by decide +kernel
theorem dL_passes_160 : decode cL_passes 160 = .ok (.if_icmp .ne 7, 3) := by decide +kernel
theorem dL_passes_163 : decode cL_passes 163 = .ok (.iconst 1, 1) := by decide +kernel
theorem dL_passes_164 : decode cL_passes 164 = .ok (.goto 4, 3) := by decide +kernel
theorem dL_passes_167 : decode cL_passes 167 = .ok (.iconst 0, 1) := by decide +kernel
theorem dL_passes_168 : decode cL_passes 168 = .ok (.iadd, 1) := by decide +kernel
theorem dL_passes_169 : decode cL_passes 169 = .ok (.istore 5, 2) := by decide +kernel
theorem dL_passes_171 : decode cL_passes 171 = .ok (.lload 9, 2) := by decide +kernel
theorem dL_passes_173 : decode cL_passes 173 = .ok (.aload_n 0, 1) := by decide +kernel
theorem dL_passes_174 : decode cL_passes 174 = .ok (.getfield 10, 3) := by decide +kernel
theorem dL_passes_177 : decode cL_passes 177 = .ok (.iload 12, 2) := by decide +kernel
theorem dL_passes_179 : decode cL_passes 179 = .ok (.invokevirtual 68, 3) := by decide +kernel
theorem dL_passes_182 : decode cL_passes 182 = .ok (.iconst 3, 1) := by decide +kernel
theorem dL_passes_183 : decode cL_passes 183 = .ok (.if_icmp .ne 10, 3) := by decide +kernel
theorem dL_passes_186 : decode cL_passes 186 = .ok (.lconst 1, 1) := by decide +kernel
theorem dL_passes_187 : decode cL_passes 187 = .ok (.iload 12, 2) := by decide +kernel
theorem dL_passes_189 : decode cL_passes 189 = .ok (.lshl, 1) := by decide +kernel
theorem dL_passes_190 : decode cL_passes 190 = .ok (.goto 4, 3) := by decide +kernel
theorem dL_passes_193 : decode cL_passes 193 = .ok (.lconst 0, 1) := by decide +kernel
theorem dL_passes_194 : decode cL_passes 194 = .ok (.lor, 1) := by decide +kernel
theorem dL_passes_195 : decode cL_passes 195 = .ok (.lstore 9, 2) := by decide +kernel
theorem dL_passes_197 : decode cL_passes 197 = .ok (.iinc 12 1, 3) := by decide +kernel
theorem dL_passes_200 : decode cL_passes 200 = .ok (.goto (-115), 3) := by decide +kernel
theorem dL_passes_203 : decode cL_passes 203 = .ok (.aload_n 0, 1) := by decide +kernel
theorem dL_passes_204 : decode cL_passes 204 = .ok (.getfield 10, 3) := by decide +kernel
theorem dL_passes_207 : decode cL_passes 207 = .ok (.invokevirtual 168, 3) := by decide +kernel
theorem dL_passes_210 : decode cL_passes 210 = .ok (.istore 12, 2) := by decide +kernel
theorem dL_passes_212 : decode cL_passes 212 = .ok (.aload_n 0, 1) := by decide +kernel
theorem dL_passes_213 : decode cL_passes 213 = .ok (.getfield 10, 3) := by decide +kernel
theorem dL_passes_216 : decode cL_passes 216 = .ok (.iconst (-1), 1) := by decide +kernel
theorem dL_passes_217 : decode cL_passes 217 = .ok (.invokevirtual 171, 3) := by decide +kernel
theorem dL_passes_220 : decode cL_passes 220 = .ok (.aload_n 0, 1) := by decide +kernel
theorem dL_passes_221 : decode cL_passes 221 = .ok (.getfield 10, 3) := by decide +kernel
