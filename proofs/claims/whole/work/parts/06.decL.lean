theorem dL_stop_0 : decode cL_stop 0 = .ok (.aload_n 2, 1) := by decide +kernel
theorem dL_stop_1 : decode cL_stop 1 = .ok (.iconst 0, 1) := by decide +kernel
theorem dL_stop_2 : decode cL_stop 2 = .ok (.aload_n 0, 1) := by decide +kernel
theorem dL_stop_3 : decode cL_stop 3 = .ok (.iload_n 1, 1) := by decide +kernel
theorem dL_stop_4 : decode cL_stop 4 = .ok (.invokevirtual 7, 3) := by decide +kernel
theorem dL_stop_7 : decode cL_stop 7 = .ok (.i2l, 1) := by decide +kernel
theorem dL_stop_8 : decode cL_stop 8 = .ok (.lastore, 1) := by decide +kernel
theorem dL_stop_9 : decode cL_stop 9 = .ok (.goto 9, 3) := by decide +kernel
theorem dL_stop_12 : decode cL_stop 12 = .ok (.astore_n 3, 1) := by decide +kernel
theorem dL_stop_13 : decode cL_stop 13 = .ok (.iconst 1, 1) := by decide +kernel
theorem dL_stop_14 : decode cL_stop 14 = .ok (.ireturn, 1) := by decide +kernel
theorem dL_stop_15 : decode cL_stop 15 = .ok (.astore_n 3, 1) := by decide +kernel
theorem dL_stop_16 : decode cL_stop 16 = .ok (.iconst 2, 1) := by decide +kernel
theorem dL_stop_17 : decode cL_stop 17 = .ok (.ireturn, 1) := by decide +kernel
theorem dL_stop_18 : decode cL_stop 18 = .ok (.iconst 0, 1) := by decide +kernel
theorem dL_stop_19 : decode cL_stop 19 = .ok (.ireturn, 1) := by decide +kernel
theorem dL_setChange_0 : decode cL_setChange 0 = .ok (.aload_n 3, 1) := by decide +kernel
theorem dL_setChange_1 : decode cL_setChange 1 = .ok (.iconst 0, 1) := by decide +kernel
theorem dL_setChange_2 : decode cL_setChange 2 = .ok (.aload_n 0, 1) := by decide +kernel
theorem dL_setChange_3 : decode cL_setChange 3 = .ok (.iload_n 1, 1) := by decide +kernel
theorem dL_setChange_4 : decode cL_setChange 4 = .ok (.iload_n 2, 1) := by decide +kernel
theorem dL_setChange_5 : decode cL_setChange 5 = .ok (.invokevirtual 17, 3) := by decide +kernel
theorem dL_setChange_8 : decode cL_setChange 8 = .ok (.i2l, 1) := by decide +kernel
theorem dL_setChange_9 : decode cL_setChange 9 = .ok (.lastore, 1) := by decide +kernel
theorem dL_setChange_10 : decode cL_setChange 10 = .ok (.goto 11, 3) := by decide +kernel
theorem dL_setChange_13 : decode cL_setChange 13 = .ok (.astore 4, 2) := by decide +kernel
theorem dL_setChange_15 : decode cL_setChange 15 = .ok (.iconst 1, 1) := by decide +kernel
theorem dL_setChange_16 : decode cL_setChange 16 = .ok (.ireturn, 1) := by decide +kernel
theorem dL_setChange_17 : decode cL_setChange 17 = .ok (.astore 4, 2) := by decide +kernel
theorem dL_setChange_19 : decode cL_setChange 19 = .ok (.iconst 2, 1) := by decide +kernel
theorem dL_setChange_20 : decode cL_setChange 20 = .ok (.ireturn, 1) := by decide +kernel
theorem dL_setChange_21 : decode cL_setChange 21 = .ok (.iconst 0, 1) := by decide +kernel
theorem dL_setChange_22 : decode cL_setChange 22 = .ok (.ireturn, 1) := by decide +kernel
theorem dL_walk_0 : decode cL_walk 0 = .ok (.aload 4, 2) := by decide +kernel
theorem dL_walk_2 : decode cL_walk 2 = .ok (.iconst 0, 1) := by decide +kernel
theorem dL_walk_3 : decode cL_walk 3 = .ok (.aload_n 0, 1) := by decide +kernel
theorem dL_walk_4 : decode cL_walk 4 = .ok (.iload_n 1, 1) := by decide +kernel
theorem dL_walk_5 : decode cL_walk 5 = .ok (.iload_n 2, 1) := by decide +kernel
theorem dL_walk_6 : decode cL_walk 6 = .ok (.iload_n 3, 1) := by decide +kernel
theorem dL_walk_7 : decode cL_walk 7 = .ok (.invokevirtual 23, 3) := by decide +kernel
theorem dL_walk_10 : decode cL_walk 10 = .ok (.i2l, 1) := by decide +kernel
theorem dL_walk_11 : decode cL_walk 11 = .ok (.lastore, 1) := by decide +kernel
theorem dL_walk_12 : decode cL_walk 12 = .ok (.goto 11, 3) := by decide +kernel
theorem dL_walk_15 : decode cL_walk 15 = .ok (.astore 5, 2) := by decide +kernel
theorem dL_walk_17 : decode cL_walk 17 = .ok (.iconst 1, 1) := by decide +kernel
theorem dL_walk_18 : decode cL_walk 18 = .ok (.ireturn, 1) := by decide +kernel
theorem dL_walk_19 : decode cL_walk 19 = .ok (.astore 5, 2) := by decide +kernel
theorem dL_walk_21 : decode cL_walk 21 = .ok (.iconst 2, 1) := by decide +kernel
theorem dL_walk_22 : decode cL_walk 22 = .ok (.ireturn, 1) := by decide +kernel
theorem dL_walk_23 : decode cL_walk 23 = .ok (.iconst 0, 1) := by decide +kernel
theorem dL_walk_24 : decode cL_walk 24 = .ok (.ireturn, 1) := by decide +kernel
theorem dL_walkTime_0 : decode cL_walkTime 0 = .ok (.aload_n 3, 1) := by decide +kernel
theorem dL_walkTime_1 : decode cL_walkTime 1 = .ok (.iconst 0, 1) := by decide +kernel
theorem dL_walkTime_2 : decode cL_walkTime 2 = .ok (.aload_n 0, 1) := by decide +kernel
theorem dL_walkTime_3 : decode cL_walkTime 3 = .ok (.iload_n 1, 1) := by decide +kernel
theorem dL_walkTime_4 : decode cL_walkTime 4 = .ok (.iload_n 2, 1) := by decide +kernel
theorem dL_walkTime_5 : decode cL_walkTime 5 = .ok (.invokevirtual 27, 3) := by decide +kernel
theorem dL_walkTime_8 : decode cL_walkTime 8 = .ok (.i2l, 1) := by decide +kernel
theorem dL_walkTime_9 : decode cL_walkTime 9 = .ok (.lastore, 1) := by decide +kernel
theorem dL_walkTime_10 : decode cL_walkTime 10 = .ok (.goto 11, 3) := by decide +kernel
theorem dL_walkTime_13 : decode cL_walkTime 13 = .ok (.astore 4, 2) := by decide +kernel
theorem dL_walkTime_15 : decode cL_walkTime 15 = .ok (.iconst 1, 1) := by decide +kernel
theorem dL_walkTime_16 : decode cL_walkTime 16 = .ok (.ireturn, 1) := by decide +kernel
theorem dL_walkTime_17 : decode cL_walkTime 17 = .ok (.astore 4, 2) := by decide +kernel
theorem dL_walkTime_19 : decode cL_walkTime 19 = .ok (.iconst 2, 1) := by decide +kernel
theorem dL_walkTime_20 : decode cL_walkTime 20 = .ok (.ireturn, 1) := by decide +kernel
theorem dL_walkTime_21 : decode cL_walkTime 21 = .ok (.iconst 0, 1) := by decide +kernel
theorem dL_walkTime_22 : decode cL_walkTime 22 = .ok (.ireturn, 1) := by decide +kernel
theorem dL_service_0 : decode cL_service 0 = .ok (.aload_n 1, 1) := by decide +kernel
theorem dL_service_1 : decode cL_service 1 = .ok (.iconst 0, 1) := by decide +kernel
theorem dL_service_2 : decode cL_service 2 = .ok (.aload_n 0, 1) := by decide +kernel
theorem dL_service_3 : decode cL_service 3 = .ok (.invokevirtual 32, 3) := by decide +kernel
theorem dL_service_6 : decode cL_service 6 = .ok (.i2l, 1) := by decide +kernel
theorem dL_service_7 : decode cL_service 7 = .ok (.lastore, 1) := by decide +kernel
theorem dL_service_8 : decode cL_service 8 = .ok (.goto 6, 3) := by decide +kernel
theorem dL_service_11 : decode cL_service 11 = .ok (.astore_n 2, 1) := by decide +kernel
theorem dL_service_12 : decode cL_service 12 = .ok (.iconst 1, 1) := by decide +kernel
theorem dL_service_13 : decode cL_service 13 = .ok (.ireturn, 1) := by decide +kernel
theorem dL_service_14 : decode cL_service 14 = .ok (.iconst 0, 1) := by decide +kernel
theorem dL_service_15 : decode cL_service 15 = .ok (.ireturn, 1) := by decide +kernel
theorem dL_week_0 : decode cL_week 0 = .ok (.aload 5, 2) := by decide +kernel
theorem dL_week_2 : decode cL_week 2 = .ok (.iconst 0, 1) := by decide +kernel
theorem dL_week_3 : decode cL_week 3 = .ok (.aload_n 0, 1) := by decide +kernel
theorem dL_week_4 : decode cL_week 4 = .ok (.iload_n 1, 1) := by decide +kernel
theorem dL_week_5 : decode cL_week 5 = .ok (.iload_n 2, 1) := by decide +kernel
theorem dL_week_6 : decode cL_week 6 = .ok (.iload_n 3, 1) := by decide +kernel
theorem dL_week_7 : decode cL_week 7 = .ok (.iload 4, 2) := by decide +kernel
theorem dL_week_9 : decode cL_week 9 = .ok (.invokevirtual 36, 3) := by decide +kernel
theorem dL_week_12 : decode cL_week 12 = .ok (.i2l, 1) := by decide +kernel
theorem dL_week_13 : decode cL_week 13 = .ok (.lastore, 1) := by decide +kernel
theorem dL_week_14 : decode cL_week 14 = .ok (.goto 11, 3) := by decide +kernel
theorem dL_week_17 : decode cL_week 17 = .ok (.astore 6, 2) := by decide +kernel
theorem dL_week_19 : decode cL_week 19 = .ok (.iconst 1, 1) := by decide +kernel
theorem dL_week_20 : decode cL_week 20 = .ok (.ireturn, 1) := by decide +kernel
theorem dL_week_21 : decode cL_week 21 = .ok (.astore 6, 2) := by decide +kernel
theorem dL_week_23 : decode cL_week 23 = .ok (.iconst 2, 1) := by decide +kernel
theorem dL_week_24 : decode cL_week 24 = .ok (.ireturn, 1) := by decide +kernel
theorem dL_week_25 : decode cL_week 25 = .ok (.iconst 0, 1) := by decide +kernel
theorem dL_week_26 : decode cL_week 26 = .ok (.ireturn, 1) := by decide +kernel
theorem dL_putDay_0 : decode cL_putDay 0 = .ok (.aload 4, 2) := by decide +kernel
theorem dL_putDay_2 : decode cL_putDay 2 = .ok (.iconst 0, 1) := by decide +kernel
theorem dL_putDay_3 : decode cL_putDay 3 = .ok (.aload_n 0, 1) := by decide +kernel
theorem dL_putDay_4 : decode cL_putDay 4 = .ok (.iload_n 1, 1) := by decide +kernel
theorem dL_putDay_5 : decode cL_putDay 5 = .ok (.iload_n 2, 1) := by decide +kernel
theorem dL_putDay_6 : decode cL_putDay 6 = .ok (.iload_n 3, 1) := by decide +kernel
theorem dL_putDay_7 : decode cL_putDay 7 = .ok (.invokevirtual 40, 3) := by decide +kernel
theorem dL_putDay_10 : decode cL_putDay 10 = .ok (.ifCond .eq 7, 3) := by decide +kernel
theorem dL_putDay_13 : decode cL_putDay 13 = .ok (.lconst 1, 1) := by decide +kernel
theorem dL_putDay_14 : decode cL_putDay 14 = .ok (.goto 4, 3) := by decide +kernel
theorem dL_putDay_17 : decode cL_putDay 17 = .ok (.lconst 0, 1) := by decide +kernel
theorem dL_putDay_18 : decode cL_putDay 18 = .ok (.lastore, 1) := by decide +kernel
theorem dL_putDay_19 : decode cL_putDay 19 = .ok (.goto 11, 3) := by decide +kernel
theorem dL_putDay_22 : decode cL_putDay 22 = .ok (.astore 5, 2) := by decide +kernel
theorem dL_putDay_24 : decode cL_putDay 24 = .ok (.iconst 1, 1) := by decide +kernel
theorem dL_putDay_25 : decode cL_putDay 25 = .ok (.ireturn, 1) := by decide +kernel
theorem dL_putDay_26 : decode cL_putDay 26 = .ok (.astore 5, 2) := by decide +kernel
theorem dL_putDay_28 : decode cL_putDay 28 = .ok (.iconst 2, 1) := by decide +kernel
theorem dL_putDay_29 : decode cL_putDay 29 = .ok (.ireturn, 1) := by decide +kernel
theorem dL_putDay_30 : decode cL_putDay 30 = .ok (.iconst 0, 1) := by decide +kernel
theorem dL_putDay_31 : decode cL_putDay 31 = .ok (.ireturn, 1) := by decide +kernel
theorem dL_runsOn_0 : decode cL_runsOn 0 = .ok (.aload_n 3, 1) := by decide +kernel
theorem dL_runsOn_1 : decode cL_runsOn 1 = .ok (.iconst 0, 1) := by decide +kernel
theorem dL_runsOn_2 : decode cL_runsOn 2 = .ok (.aload_n 0, 1) := by decide +kernel
theorem dL_runsOn_3 : decode cL_runsOn 3 = .ok (.iload_n 1, 1) := by decide +kernel
theorem dL_runsOn_4 : decode cL_runsOn 4 = .ok (.iload_n 2, 1) := by decide +kernel
theorem dL_runsOn_5 : decode cL_runsOn 5 = .ok (.invokevirtual 44, 3) := by decide +kernel
theorem dL_runsOn_8 : decode cL_runsOn 8 = .ok (.ifCond .eq 7, 3) := by decide +kernel
theorem dL_runsOn_11 : decode cL_runsOn 11 = .ok (.lconst 1, 1) := by decide +kernel
theorem dL_runsOn_12 : decode cL_runsOn 12 = .ok (.goto 4, 3) := by decide +kernel
theorem dL_runsOn_15 : decode cL_runsOn 15 = .ok (.lconst 0, 1) := by decide +kernel
theorem dL_runsOn_16 : decode cL_runsOn 16 = .ok (.lastore, 1) := by decide +kernel
theorem dL_runsOn_17 : decode cL_runsOn 17 = .ok (.goto 11, 3) := by decide +kernel
theorem dL_runsOn_20 : decode cL_runsOn 20 = .ok (.astore 4, 2) := by decide +kernel
theorem dL_runsOn_22 : decode cL_runsOn 22 = .ok (.iconst 1, 1) := by decide +kernel
theorem dL_runsOn_23 : decode cL_runsOn 23 = .ok (.ireturn, 1) := by decide +kernel
theorem dL_runsOn_24 : decode cL_runsOn 24 = .ok (.astore 4, 2) := by decide +kernel
theorem dL_runsOn_26 : decode cL_runsOn 26 = .ok (.iconst 2, 1) := by decide +kernel
theorem dL_runsOn_27 : decode cL_runsOn 27 = .ok (.ireturn, 1) := by decide +kernel
theorem dL_runsOn_28 : decode cL_runsOn 28 = .ok (.iconst 0, 1) := by decide +kernel
theorem dL_runsOn_29 : decode cL_runsOn 29 = .ok (.ireturn, 1) := by decide +kernel
theorem dL_nextDay_0 : decode cL_nextDay 0 = .ok (.aload_n 3, 1) := by decide +kernel
theorem dL_nextDay_1 : decode cL_nextDay 1 = .ok (.iconst 0, 1) := by decide +kernel
theorem dL_nextDay_2 : decode cL_nextDay 2 = .ok (.aload_n 0, 1) := by decide +kernel
theorem dL_nextDay_3 : decode cL_nextDay 3 = .ok (.iload_n 1, 1) := by decide +kernel
theorem dL_nextDay_4 : decode cL_nextDay 4 = .ok (.iload_n 2, 1) := by decide +kernel
theorem dL_nextDay_5 : decode cL_nextDay 5 = .ok (.invokevirtual 48, 3) := by decide +kernel
theorem dL_nextDay_8 : decode cL_nextDay 8 = .ok (.i2l, 1) := by decide +kernel
theorem dL_nextDay_9 : decode cL_nextDay 9 = .ok (.lastore, 1) := by decide +kernel
theorem dL_nextDay_10 : decode cL_nextDay 10 = .ok (.goto 15, 3) := by decide +kernel
theorem dL_nextDay_13 : decode cL_nextDay 13 = .ok (.astore 4, 2) := by decide +kernel
theorem dL_nextDay_15 : decode cL_nextDay 15 = .ok (.iconst 1, 1) := by decide +kernel
theorem dL_nextDay_16 : decode cL_nextDay 16 = .ok (.ireturn, 1) := by decide +kernel
theorem dL_nextDay_17 : decode cL_nextDay 17 = .ok (.astore 4, 2) := by decide +kernel
theorem dL_nextDay_19 : decode cL_nextDay 19 = .ok (.iconst 2, 1) := by decide +kernel
theorem dL_nextDay_20 : decode cL_nextDay 20 = .ok (.ireturn, 1) := by decide +kernel
theorem dL_nextDay_21 : decode cL_nextDay 21 = .ok (.astore 4, 2) := by decide +kernel
theorem dL_nextDay_23 : decode cL_nextDay 23 = .ok (.iconst 3, 1) := by decide +kernel
theorem dL_nextDay_24 : decode cL_nextDay 24 = .ok (.ireturn, 1) := by decide +kernel
theorem dL_nextDay_25 : decode cL_nextDay 25 = .ok (.iconst 0, 1) := by decide +kernel
theorem dL_nextDay_26 : decode cL_nextDay 26 = .ok (.ireturn, 1) := by decide +kernel
theorem dL_trip_0 : decode cL_trip 0 = .ok (.aload 4, 2) := by decide +kernel
theorem dL_trip_2 : decode cL_trip 2 = .ok (.iconst 0, 1) := by decide +kernel
theorem dL_trip_3 : decode cL_trip 3 = .ok (.aload_n 0, 1) := by decide +kernel
theorem dL_trip_4 : decode cL_trip 4 = .ok (.iload_n 1, 1) := by decide +kernel
theorem dL_trip_5 : decode cL_trip 5 = .ok (.iload_n 2, 1) := by decide +kernel
theorem dL_trip_6 : decode cL_trip 6 = .ok (.iload_n 3, 1) := by decide +kernel
theorem dL_trip_7 : decode cL_trip 7 = .ok (.invokevirtual 51, 3) := by decide +kernel
theorem dL_trip_10 : decode cL_trip 10 = .ok (.i2l, 1) := by decide +kernel
theorem dL_trip_11 : decode cL_trip 11 = .ok (.lastore, 1) := by decide +kernel
theorem dL_trip_12 : decode cL_trip 12 = .ok (.goto 15, 3) := by decide +kernel
theorem dL_trip_15 : decode cL_trip 15 = .ok (.astore 5, 2) := by decide +kernel
theorem dL_trip_17 : decode cL_trip 17 = .ok (.iconst 1, 1) := by decide +kernel
theorem dL_trip_18 : decode cL_trip 18 = .ok (.ireturn, 1) := by decide +kernel
theorem dL_trip_19 : decode cL_trip 19 = .ok (.astore 5, 2) := by decide +kernel
theorem dL_trip_21 : decode cL_trip 21 = .ok (.iconst 2, 1) := by decide +kernel
theorem dL_trip_22 : decode cL_trip 22 = .ok (.ireturn, 1) := by decide +kernel
theorem dL_trip_23 : decode cL_trip 23 = .ok (.astore 5, 2) := by decide +kernel
theorem dL_trip_25 : decode cL_trip 25 = .ok (.iconst 3, 1) := by decide +kernel
theorem dL_trip_26 : decode cL_trip 26 = .ok (.ireturn, 1) := by decide +kernel
theorem dL_trip_27 : decode cL_trip 27 = .ok (.iconst 0, 1) := by decide +kernel
theorem dL_trip_28 : decode cL_trip 28 = .ok (.ireturn, 1) := by decide +kernel
theorem dL_call_0 : decode cL_call 0 = .ok (.aload 5, 2) := by decide +kernel
theorem dL_call_2 : decode cL_call 2 = .ok (.iconst 0, 1) := by decide +kernel
theorem dL_call_3 : decode cL_call 3 = .ok (.aload_n 0, 1) := by decide +kernel
theorem dL_call_4 : decode cL_call 4 = .ok (.iload_n 1, 1) := by decide +kernel
theorem dL_call_5 : decode cL_call 5 = .ok (.iload_n 2, 1) := by decide +kernel
theorem dL_call_6 : decode cL_call 6 = .ok (.iload_n 3, 1) := by decide +kernel
theorem dL_call_7 : decode cL_call 7 = .ok (.iload 4, 2) := by decide +kernel
theorem dL_call_9 : decode cL_call 9 = .ok (.invokevirtual 54, 3) := by decide +kernel
theorem dL_call_12 : decode cL_call 12 = .ok (.i2l, 1) := by decide +kernel
theorem dL_call_13 : decode cL_call 13 = .ok (.lastore, 1) := by decide +kernel
theorem dL_call_14 : decode cL_call 14 = .ok (.goto 15, 3) := by decide +kernel
theorem dL_call_17 : decode cL_call 17 = .ok (.astore 6, 2) := by decide +kernel
theorem dL_call_19 : decode cL_call 19 = .ok (.iconst 1, 1) := by decide +kernel
theorem dL_call_20 : decode cL_call 20 = .ok (.ireturn, 1) := by decide +kernel
theorem dL_call_21 : decode cL_call 21 = .ok (.astore 6, 2) := by decide +kernel
theorem dL_call_23 : decode cL_call 23 = .ok (.iconst 2, 1) := by decide +kernel
theorem dL_call_24 : decode cL_call 24 = .ok (.ireturn, 1) := by decide +kernel
theorem dL_call_25 : decode cL_call 25 = .ok (.astore 6, 2) := by decide +kernel
theorem dL_call_27 : decode cL_call 27 = .ok (.iconst 3, 1) := by decide +kernel
theorem dL_call_28 : decode cL_call 28 = .ok (.ireturn, 1) := by decide +kernel
theorem dL_call_29 : decode cL_call 29 = .ok (.iconst 0, 1) := by decide +kernel
theorem dL_call_30 : decode cL_call 30 = .ok (.ireturn, 1) := by decide +kernel
theorem dL_calls_0 : decode cL_calls 0 = .ok (.aload_n 2, 1) := by decide +kernel
theorem dL_calls_1 : decode cL_calls 1 = .ok (.iconst 0, 1) := by decide +kernel
theorem dL_calls_2 : decode cL_calls 2 = .ok (.aload_n 0, 1) := by decide +kernel
theorem dL_calls_3 : decode cL_calls 3 = .ok (.iload_n 1, 1) := by decide +kernel
theorem dL_calls_4 : decode cL_calls 4 = .ok (.invokevirtual 57, 3) := by decide +kernel
theorem dL_calls_7 : decode cL_calls 7 = .ok (.i2l, 1) := by decide +kernel
theorem dL_calls_8 : decode cL_calls 8 = .ok (.lastore, 1) := by decide +kernel
theorem dL_calls_9 : decode cL_calls 9 = .ok (.goto 6, 3) := by decide +kernel
theorem dL_calls_12 : decode cL_calls 12 = .ok (.astore_n 3, 1) := by decide +kernel
theorem dL_calls_13 : decode cL_calls 13 = .ok (.iconst 1, 1) := by decide +kernel
theorem dL_calls_14 : decode cL_calls 14 = .ok (.ireturn, 1) := by decide +kernel
theorem dL_calls_15 : decode cL_calls 15 = .ok (.iconst 0, 1) := by decide +kernel
theorem dL_calls_16 : decode cL_calls 16 = .ok (.ireturn, 1) := by decide +kernel
theorem dL_stopAt_0 : decode cL_stopAt 0 = .ok (.aload_n 3, 1) := by decide +kernel
theorem dL_stopAt_1 : decode cL_stopAt 1 = .ok (.iconst 0, 1) := by decide +kernel
theorem dL_stopAt_2 : decode cL_stopAt 2 = .ok (.aload_n 0, 1) := by decide +kernel
theorem dL_stopAt_3 : decode cL_stopAt 3 = .ok (.iload_n 1, 1) := by decide +kernel
theorem dL_stopAt_4 : decode cL_stopAt 4 = .ok (.iload_n 2, 1) := by decide +kernel
theorem dL_stopAt_5 : decode cL_stopAt 5 = .ok (.invokevirtual 60, 3) := by decide +kernel
theorem dL_stopAt_8 : decode cL_stopAt 8 = .ok (.i2l, 1) := by decide +kernel
theorem dL_stopAt_9 : decode cL_stopAt 9 = .ok (.lastore, 1) := by decide +kernel
theorem dL_stopAt_10 : decode cL_stopAt 10 = .ok (.goto 7, 3) := by decide +kernel
theorem dL_stopAt_13 : decode cL_stopAt 13 = .ok (.astore 4, 2) := by decide +kernel
theorem dL_stopAt_15 : decode cL_stopAt 15 = .ok (.iconst 1, 1) := by decide +kernel
theorem dL_stopAt_16 : decode cL_stopAt 16 = .ok (.ireturn, 1) := by decide +kernel
theorem dL_stopAt_17 : decode cL_stopAt 17 = .ok (.iconst 0, 1) := by decide +kernel
theorem dL_stopAt_18 : decode cL_stopAt 18 = .ok (.ireturn, 1) := by decide +kernel
theorem dL_timeAt_0 : decode cL_timeAt 0 = .ok (.aload 4, 2) := by decide +kernel
theorem dL_timeAt_2 : decode cL_timeAt 2 = .ok (.iconst 0, 1) := by decide +kernel
theorem dL_timeAt_3 : decode cL_timeAt 3 = .ok (.aload_n 0, 1) := by decide +kernel
theorem dL_timeAt_4 : decode cL_timeAt 4 = .ok (.iload_n 1, 1) := by decide +kernel
theorem dL_timeAt_5 : decode cL_timeAt 5 = .ok (.iload_n 2, 1) := by decide +kernel
theorem dL_timeAt_6 : decode cL_timeAt 6 = .ok (.iload_n 3, 1) := by decide +kernel
theorem dL_timeAt_7 : decode cL_timeAt 7 = .ok (.invokevirtual 63, 3) := by decide +kernel
theorem dL_timeAt_10 : decode cL_timeAt 10 = .ok (.i2l, 1) := by decide +kernel
theorem dL_timeAt_11 : decode cL_timeAt 11 = .ok (.lastore, 1) := by decide +kernel
theorem dL_timeAt_12 : decode cL_timeAt 12 = .ok (.goto 7, 3) := by decide +kernel
theorem dL_timeAt_15 : decode cL_timeAt 15 = .ok (.astore 5, 2) := by decide +kernel
theorem dL_timeAt_17 : decode cL_timeAt 17 = .ok (.iconst 1, 1) := by decide +kernel
theorem dL_timeAt_18 : decode cL_timeAt 18 = .ok (.ireturn, 1) := by decide +kernel
theorem dL_timeAt_19 : decode cL_timeAt 19 = .ok (.iconst 0, 1) := by decide +kernel
theorem dL_timeAt_20 : decode cL_timeAt 20 = .ok (.ireturn, 1) := by decide +kernel
theorem dL_shift_0 : decode cL_shift 0 = .ok (.aload_n 3, 1) := by decide +kernel
theorem dL_shift_1 : decode cL_shift 1 = .ok (.iconst 0, 1) := by decide +kernel
theorem dL_shift_2 : decode cL_shift 2 = .ok (.aload_n 0, 1) := by decide +kernel
theorem dL_shift_3 : decode cL_shift 3 = .ok (.iload_n 1, 1) := by decide +kernel
theorem dL_shift_4 : decode cL_shift 4 = .ok (.iload_n 2, 1) := by decide +kernel
theorem dL_shift_5 : decode cL_shift 5 = .ok (.invokevirtual 67, 3) := by decide +kernel
theorem dL_shift_8 : decode cL_shift 8 = .ok (.i2l, 1) := by decide +kernel
theorem dL_shift_9 : decode cL_shift 9 = .ok (.lastore, 1) := by decide +kernel
theorem dL_shift_10 : decode cL_shift 10 = .ok (.goto 11, 3) := by decide +kernel
theorem dL_shift_13 : decode cL_shift 13 = .ok (.astore 4, 2) := by decide +kernel
theorem dL_shift_15 : decode cL_shift 15 = .ok (.iconst 1, 1) := by decide +kernel
theorem dL_shift_16 : decode cL_shift 16 = .ok (.ireturn, 1) := by decide +kernel
theorem dL_shift_17 : decode cL_shift 17 = .ok (.astore 4, 2) := by decide +kernel
theorem dL_shift_19 : decode cL_shift 19 = .ok (.iconst 2, 1) := by decide +kernel
theorem dL_shift_20 : decode cL_shift 20 = .ok (.ireturn, 1) := by decide +kernel
theorem dL_shift_21 : decode cL_shift 21 = .ok (.iconst 0, 1) := by decide +kernel
theorem dL_shift_22 : decode cL_shift 22 = .ok (.ireturn, 1) := by decide +kernel
theorem dL_type_0 : decode cL_type 0 = .ok (.aload_n 2, 1) := by decide +kernel
theorem dL_type_1 : decode cL_type 1 = .ok (.iconst 0, 1) := by decide +kernel
theorem dL_type_2 : decode cL_type 2 = .ok (.aload_n 0, 1) := by decide +kernel
theorem dL_type_3 : decode cL_type 3 = .ok (.iload_n 1, 1) := by decide +kernel
theorem dL_type_4 : decode cL_type 4 = .ok (.invokevirtual 70, 3) := by decide +kernel
theorem dL_type_7 : decode cL_type 7 = .ok (.i2l, 1) := by decide +kernel
theorem dL_type_8 : decode cL_type 8 = .ok (.lastore, 1) := by decide +kernel
theorem dL_type_9 : decode cL_type 9 = .ok (.goto 6, 3) := by decide +kernel
theorem dL_type_12 : decode cL_type 12 = .ok (.astore_n 3, 1) := by decide +kernel
theorem dL_type_13 : decode cL_type 13 = .ok (.iconst 1, 1) := by decide +kernel
theorem dL_type_14 : decode cL_type 14 = .ok (.ireturn, 1) := by decide +kernel
theorem dL_type_15 : decode cL_type 15 = .ok (.iconst 0, 1) := by decide +kernel
theorem dL_type_16 : decode cL_type 16 = .ok (.ireturn, 1) := by decide +kernel
theorem dL_typeNumber_0 : decode cL_typeNumber 0 = .ok (.aload_n 2, 1) := by decide +kernel
theorem dL_typeNumber_1 : decode cL_typeNumber 1 = .ok (.iconst 0, 1) := by decide +kernel
theorem dL_typeNumber_2 : decode cL_typeNumber 2 = .ok (.aload_n 0, 1) := by decide +kernel
theorem dL_typeNumber_3 : decode cL_typeNumber 3 = .ok (.iload_n 1, 1) := by decide +kernel
theorem dL_typeNumber_4 : decode cL_typeNumber 4 = .ok (.invokevirtual 74, 3) := by decide +kernel
theorem dL_typeNumber_7 : decode cL_typeNumber 7 = .ok (.i2l, 1) := by decide +kernel
theorem dL_typeNumber_8 : decode cL_typeNumber 8 = .ok (.lastore, 1) := by decide +kernel
theorem dL_typeNumber_9 : decode cL_typeNumber 9 = .ok (.goto 9, 3) := by decide +kernel
theorem dL_typeNumber_12 : decode cL_typeNumber 12 = .ok (.astore_n 3, 1) := by decide +kernel
theorem dL_typeNumber_13 : decode cL_typeNumber 13 = .ok (.iconst 1, 1) := by decide +kernel
theorem dL_typeNumber_14 : decode cL_typeNumber 14 = .ok (.ireturn, 1) := by decide +kernel
theorem dL_typeNumber_15 : decode cL_typeNumber 15 = .ok (.astore_n 3, 1) := by decide +kernel
theorem dL_typeNumber_16 : decode cL_typeNumber 16 = .ok (.iconst 2, 1) := by decide +kernel
theorem dL_typeNumber_17 : decode cL_typeNumber 17 = .ok (.ireturn, 1) := by decide +kernel
theorem dL_typeNumber_18 : decode cL_typeNumber 18 = .ok (.iconst 0, 1) := by decide +kernel
theorem dL_typeNumber_19 : decode cL_typeNumber 19 = .ok (.ireturn, 1) := by decide +kernel
theorem dL_readRow_0 : decode cL_readRow 0 = .ok (.aload_n 1, 1) := by decide +kernel
theorem dL_readRow_1 : decode cL_readRow 1 = .ok (.iconst 0, 1) := by decide +kernel
theorem dL_readRow_2 : decode cL_readRow 2 = .ok (.aload_n 0, 1) := by decide +kernel
theorem dL_readRow_3 : decode cL_readRow 3 = .ok (.invokevirtual 77, 3) := by decide +kernel
theorem dL_readRow_6 : decode cL_readRow 6 = .ok (.i2l, 1) := by decide +kernel
theorem dL_readRow_7 : decode cL_readRow 7 = .ok (.lastore, 1) := by decide +kernel
theorem dL_readRow_8 : decode cL_readRow 8 = .ok (.goto 12, 3) := by decide +kernel
theorem dL_readRow_11 : decode cL_readRow 11 = .ok (.astore_n 2, 1) := by decide +kernel
theorem dL_readRow_12 : decode cL_readRow 12 = .ok (.iconst 1, 1) := by decide +kernel
theorem dL_readRow_13 : decode cL_readRow 13 = .ok (.ireturn, 1) := by decide +kernel
theorem dL_readRow_14 : decode cL_readRow 14 = .ok (.astore_n 2, 1) := by decide +kernel
theorem dL_readRow_15 : decode cL_readRow 15 = .ok (.iconst 2, 1) := by decide +kernel
theorem dL_readRow_16 : decode cL_readRow 16 = .ok (.ireturn, 1) := by decide +kernel
theorem dL_readRow_17 : decode cL_readRow 17 = .ok (.astore_n 2, 1) := by decide +kernel
theorem dL_readRow_18 : decode cL_readRow 18 = .ok (.iconst 3, 1) := by decide +kernel
theorem dL_readRow_19 : decode cL_readRow 19 = .ok (.ireturn, 1) := by decide +kernel
theorem dL_readRow_20 : decode cL_readRow 20 = .ok (.iconst 0, 1) := by decide +kernel
theorem dL_readRow_21 : decode cL_readRow 21 = .ok (.ireturn, 1) := by decide +kernel
theorem dL_faultAt_0 : decode cL_faultAt 0 = .ok (.aload_n 1, 1) := by decide +kernel
theorem dL_faultAt_1 : decode cL_faultAt 1 = .ok (.iconst 0, 1) := by decide +kernel
theorem dL_faultAt_2 : decode cL_faultAt 2 = .ok (.aload_n 0, 1) := by decide +kernel
theorem dL_faultAt_3 : decode cL_faultAt 3 = .ok (.invokevirtual 82, 3) := by decide +kernel
theorem dL_faultAt_6 : decode cL_faultAt 6 = .ok (.i2l, 1) := by decide +kernel
theorem dL_faultAt_7 : decode cL_faultAt 7 = .ok (.lastore, 1) := by decide +kernel
theorem dL_faultAt_8 : decode cL_faultAt 8 = .ok (.goto 6, 3) := by decide +kernel
theorem dL_faultAt_11 : decode cL_faultAt 11 = .ok (.astore_n 2, 1) := by decide +kernel
theorem dL_faultAt_12 : decode cL_faultAt 12 = .ok (.iconst 1, 1) := by decide +kernel
theorem dL_faultAt_13 : decode cL_faultAt 13 = .ok (.ireturn, 1) := by decide +kernel
theorem dL_faultAt_14 : decode cL_faultAt 14 = .ok (.iconst 0, 1) := by decide +kernel
theorem dL_faultAt_15 : decode cL_faultAt 15 = .ok (.ireturn, 1) := by decide +kernel
theorem dL_late_0 : decode cL_late 0 = .ok (.aload 5, 2) := by decide +kernel
theorem dL_late_2 : decode cL_late 2 = .ok (.iconst 0, 1) := by decide +kernel
theorem dL_late_3 : decode cL_late 3 = .ok (.aload_n 0, 1) := by decide +kernel
theorem dL_late_4 : decode cL_late 4 = .ok (.iload_n 1, 1) := by decide +kernel
theorem dL_late_5 : decode cL_late 5 = .ok (.iload_n 2, 1) := by decide +kernel
theorem dL_late_6 : decode cL_late 6 = .ok (.iload_n 3, 1) := by decide +kernel
theorem dL_late_7 : decode cL_late 7 = .ok (.iload 4, 2) := by decide +kernel
theorem dL_late_9 : decode cL_late 9 = .ok (.invokevirtual 85, 3) := by decide +kernel
theorem dL_late_12 : decode cL_late 12 = .ok (.i2l, 1) := by decide +kernel
theorem dL_late_13 : decode cL_late 13 = .ok (.lastore, 1) := by decide +kernel
theorem dL_late_14 : decode cL_late 14 = .ok (.goto 15, 3) := by decide +kernel
theorem dL_late_17 : decode cL_late 17 = .ok (.astore 6, 2) := by decide +kernel
theorem dL_late_19 : decode cL_late 19 = .ok (.iconst 1, 1) := by decide +kernel
theorem dL_late_20 : decode cL_late 20 = .ok (.ireturn, 1) := by decide +kernel
theorem dL_late_21 : decode cL_late 21 = .ok (.astore 6, 2) := by decide +kernel
theorem dL_late_23 : decode cL_late 23 = .ok (.iconst 2, 1) := by decide +kernel
theorem dL_late_24 : decode cL_late 24 = .ok (.ireturn, 1) := by decide +kernel
theorem dL_late_25 : decode cL_late 25 = .ok (.astore 6, 2) := by decide +kernel
theorem dL_late_27 : decode cL_late 27 = .ok (.iconst 3, 1) := by decide +kernel
theorem dL_late_28 : decode cL_late 28 = .ok (.ireturn, 1) := by decide +kernel
theorem dL_late_29 : decode cL_late 29 = .ok (.iconst 0, 1) := by decide +kernel
theorem dL_late_30 : decode cL_late 30 = .ok (.ireturn, 1) := by decide +kernel
theorem dL_lateness_0 : decode cL_lateness 0 = .ok (.aload 4, 2) := by decide +kernel
theorem dL_lateness_2 : decode cL_lateness 2 = .ok (.iconst 0, 1) := by decide +kernel
theorem dL_lateness_3 : decode cL_lateness 3 = .ok (.aload_n 0, 1) := by decide +kernel
theorem dL_lateness_4 : decode cL_lateness 4 = .ok (.iload_n 1, 1) := by decide +kernel
theorem dL_lateness_5 : decode cL_lateness 5 = .ok (.iload_n 2, 1) := by decide +kernel
theorem dL_lateness_6 : decode cL_lateness 6 = .ok (.iload_n 3, 1) := by decide +kernel
theorem dL_lateness_7 : decode cL_lateness 7 = .ok (.invokevirtual 88, 3) := by decide +kernel
theorem dL_lateness_10 : decode cL_lateness 10 = .ok (.i2l, 1) := by decide +kernel
theorem dL_lateness_11 : decode cL_lateness 11 = .ok (.lastore, 1) := by decide +kernel
theorem dL_lateness_12 : decode cL_lateness 12 = .ok (.goto 11, 3) := by decide +kernel
theorem dL_lateness_15 : decode cL_lateness 15 = .ok (.astore 5, 2) := by decide +kernel
theorem dL_lateness_17 : decode cL_lateness 17 = .ok (.iconst 1, 1) := by decide +kernel
theorem dL_lateness_18 : decode cL_lateness 18 = .ok (.ireturn, 1) := by decide +kernel
theorem dL_lateness_19 : decode cL_lateness 19 = .ok (.astore 5, 2) := by decide +kernel
theorem dL_lateness_21 : decode cL_lateness 21 = .ok (.iconst 2, 1) := by decide +kernel
theorem dL_lateness_22 : decode cL_lateness 22 = .ok (.ireturn, 1) := by decide +kernel
theorem dL_lateness_23 : decode cL_lateness 23 = .ok (.iconst 0, 1) := by decide +kernel
theorem dL_lateness_24 : decode cL_lateness 24 = .ok (.ireturn, 1) := by decide +kernel
theorem dL_earliest_0 : decode cL_earliest 0 = .ok (.aload 5, 2) := by decide +kernel
theorem dL_earliest_2 : decode cL_earliest 2 = .ok (.iconst 0, 1) := by decide +kernel
theorem dL_earliest_3 : decode cL_earliest 3 = .ok (.aload_n 0, 1) := by decide +kernel
theorem dL_earliest_4 : decode cL_earliest 4 = .ok (.iload_n 1, 1) := by decide +kernel
theorem dL_earliest_5 : decode cL_earliest 5 = .ok (.iload_n 2, 1) := by decide +kernel
theorem dL_earliest_6 : decode cL_earliest 6 = .ok (.iload_n 3, 1) := by decide +kernel
theorem dL_earliest_7 : decode cL_earliest 7 = .ok (.iload 4, 2) := by decide +kernel
theorem dL_earliest_9 : decode cL_earliest 9 = .ok (.invokevirtual 91, 3) := by decide +kernel
theorem dL_earliest_12 : decode cL_earliest 12 = .ok (.i2l, 1) := by decide +kernel
theorem dL_earliest_13 : decode cL_earliest 13 = .ok (.lastore, 1) := by decide +kernel
theorem dL_earliest_14 : decode cL_earliest 14 = .ok (.goto 15, 3) := by decide +kernel
theorem dL_earliest_17 : decode cL_earliest 17 = .ok (.astore 6, 2) := by decide +kernel
theorem dL_earliest_19 : decode cL_earliest 19 = .ok (.iconst 1, 1) := by decide +kernel
theorem dL_earliest_20 : decode cL_earliest 20 = .ok (.ireturn, 1) := by decide +kernel
theorem dL_earliest_21 : decode cL_earliest 21 = .ok (.astore 6, 2) := by decide +kernel
theorem dL_earliest_23 : decode cL_earliest 23 = .ok (.iconst 2, 1) := by decide +kernel
theorem dL_earliest_24 : decode cL_earliest 24 = .ok (.ireturn, 1) := by decide +kernel
theorem dL_earliest_25 : decode cL_earliest 25 = .ok (.astore 6, 2) := by decide +kernel
theorem dL_earliest_27 : decode cL_earliest 27 = .ok (.iconst 3, 1) := by decide +kernel
theorem dL_earliest_28 : decode cL_earliest 28 = .ok (.ireturn, 1) := by decide +kernel
theorem dL_earliest_29 : decode cL_earliest 29 = .ok (.iconst 0, 1) := by decide +kernel
theorem dL_earliest_30 : decode cL_earliest 30 = .ok (.ireturn, 1) := by decide +kernel
theorem dL_earliestByQueue_0 : decode cL_earliestByQueue 0 = .ok (.aload 5, 2) := by decide +kernel
theorem dL_earliestByQueue_2 : decode cL_earliestByQueue 2 = .ok (.iconst 0, 1) := by decide +kernel
theorem dL_earliestByQueue_3 : decode cL_earliestByQueue 3 = .ok (.aload_n 0, 1) := by decide +kernel
theorem dL_earliestByQueue_4 : decode cL_earliestByQueue 4 = .ok (.iload_n 1, 1) := by decide +kernel
theorem dL_earliestByQueue_5 : decode cL_earliestByQueue 5 = .ok (.iload_n 2, 1) := by decide +kernel
theorem dL_earliestByQueue_6 : decode cL_earliestByQueue 6 = .ok (.iload_n 3, 1) := by decide +kernel
theorem dL_earliestByQueue_7 : decode cL_earliestByQueue 7 = .ok (.iload 4, 2) := by decide +kernel
theorem dL_earliestByQueue_9 : decode cL_earliestByQueue 9 = .ok (.invokevirtual 94, 3) := by decide +kernel
theorem dL_earliestByQueue_12 : decode cL_earliestByQueue 12 = .ok (.i2l, 1) := by decide +kernel
theorem dL_earliestByQueue_13 : decode cL_earliestByQueue 13 = .ok (.lastore, 1) := by decide +kernel
theorem dL_earliestByQueue_14 : decode cL_earliestByQueue 14 = .ok (.goto 15, 3) := by decide +kernel
theorem dL_earliestByQueue_17 : decode cL_earliestByQueue 17 = .ok (.astore 6, 2) := by decide +kernel
theorem dL_earliestByQueue_19 : decode cL_earliestByQueue 19 = .ok (.iconst 1, 1) := by decide +kernel
theorem dL_earliestByQueue_20 : decode cL_earliestByQueue 20 = .ok (.ireturn, 1) := by decide +kernel
theorem dL_earliestByQueue_21 : decode cL_earliestByQueue 21 = .ok (.astore 6, 2) := by decide +kernel
theorem dL_earliestByQueue_23 : decode cL_earliestByQueue 23 = .ok (.iconst 2, 1) := by decide +kernel
theorem dL_earliestByQueue_24 : decode cL_earliestByQueue 24 = .ok (.ireturn, 1) := by decide +kernel
theorem dL_earliestByQueue_25 : decode cL_earliestByQueue 25 = .ok (.astore 6, 2) := by decide +kernel
theorem dL_earliestByQueue_27 : decode cL_earliestByQueue 27 = .ok (.iconst 3, 1) := by decide +kernel
theorem dL_earliestByQueue_28 : decode cL_earliestByQueue 28 = .ok (.ireturn, 1) := by decide +kernel
theorem dL_earliestByQueue_29 : decode cL_earliestByQueue 29 = .ok (.iconst 0, 1) := by decide +kernel
theorem dL_earliestByQueue_30 : decode cL_earliestByQueue 30 = .ok (.ireturn, 1) := by decide +kernel
theorem dL_earliestByRounds_0 : decode cL_earliestByRounds 0 = .ok (.aload 5, 2) := by decide +kernel
theorem dL_earliestByRounds_2 : decode cL_earliestByRounds 2 = .ok (.iconst 0, 1) := by decide +kernel
theorem dL_earliestByRounds_3 : decode cL_earliestByRounds 3 = .ok (.aload_n 0, 1) := by decide +kernel
theorem dL_earliestByRounds_4 : decode cL_earliestByRounds 4 = .ok (.iload_n 1, 1) := by decide +kernel
theorem dL_earliestByRounds_5 : decode cL_earliestByRounds 5 = .ok (.iload_n 2, 1) := by decide +kernel
theorem dL_earliestByRounds_6 : decode cL_earliestByRounds 6 = .ok (.iload_n 3, 1) := by decide +kernel
theorem dL_earliestByRounds_7 : decode cL_earliestByRounds 7 = .ok (.iload 4, 2) := by decide +kernel
theorem dL_earliestByRounds_9 : decode cL_earliestByRounds 9 = .ok (.invokevirtual 97, 3) := by decide +kernel
theorem dL_earliestByRounds_12 : decode cL_earliestByRounds 12 = .ok (.i2l, 1) := by decide +kernel
theorem dL_earliestByRounds_13 : decode cL_earliestByRounds 13 = .ok (.lastore, 1) := by decide +kernel
theorem dL_earliestByRounds_14 : decode cL_earliestByRounds 14 = .ok (.goto 15, 3) := by decide +kernel
theorem dL_earliestByRounds_17 : decode cL_earliestByRounds 17 = .ok (.astore 6, 2) := by decide +kernel
theorem dL_earliestByRounds_19 : decode cL_earliestByRounds 19 = .ok (.iconst 1, 1) := by decide +kernel
theorem dL_earliestByRounds_20 : decode cL_earliestByRounds 20 = .ok (.ireturn, 1) := by decide +kernel
theorem dL_earliestByRounds_21 : decode cL_earliestByRounds 21 = .ok (.astore 6, 2) := by decide +kernel
theorem dL_earliestByRounds_23 : decode cL_earliestByRounds 23 = .ok (.iconst 2, 1) := by decide +kernel
theorem dL_earliestByRounds_24 : decode cL_earliestByRounds 24 = .ok (.ireturn, 1) := by decide +kernel
theorem dL_earliestByRounds_25 : decode cL_earliestByRounds 25 = .ok (.astore 6, 2) := by decide +kernel
theorem dL_earliestByRounds_27 : decode cL_earliestByRounds 27 = .ok (.iconst 3, 1) := by decide +kernel
theorem dL_earliestByRounds_28 : decode cL_earliestByRounds 28 = .ok (.ireturn, 1) := by decide +kernel
theorem dL_earliestByRounds_29 : decode cL_earliestByRounds 29 = .ok (.iconst 0, 1) := by decide +kernel
theorem dL_earliestByRounds_30 : decode cL_earliestByRounds 30 = .ok (.ireturn, 1) := by decide +kernel
theorem dL_wall_0 : decode cL_wall 0 = .ok (.aload 5, 2) := by decide +kernel
theorem dL_wall_2 : decode cL_wall 2 = .ok (.iconst 0, 1) := by decide +kernel
theorem dL_wall_3 : decode cL_wall 3 = .ok (.aload_n 0, 1) := by decide +kernel
theorem dL_wall_4 : decode cL_wall 4 = .ok (.iload_n 1, 1) := by decide +kernel
theorem dL_wall_5 : decode cL_wall 5 = .ok (.iload_n 2, 1) := by decide +kernel
theorem dL_wall_6 : decode cL_wall 6 = .ok (.iload_n 3, 1) := by decide +kernel
theorem dL_wall_7 : decode cL_wall 7 = .ok (.iload 4, 2) := by decide +kernel
theorem dL_wall_9 : decode cL_wall 9 = .ok (.invokevirtual 100, 3) := by decide +kernel
theorem dL_wall_12 : decode cL_wall 12 = .ok (.i2l, 1) := by decide +kernel
theorem dL_wall_13 : decode cL_wall 13 = .ok (.lastore, 1) := by decide +kernel
theorem dL_wall_14 : decode cL_wall 14 = .ok (.goto 11, 3) := by decide +kernel
theorem dL_wall_17 : decode cL_wall 17 = .ok (.astore 6, 2) := by decide +kernel
theorem dL_wall_19 : decode cL_wall 19 = .ok (.iconst 1, 1) := by decide +kernel
theorem dL_wall_20 : decode cL_wall 20 = .ok (.ireturn, 1) := by decide +kernel
theorem dL_wall_21 : decode cL_wall 21 = .ok (.astore 6, 2) := by decide +kernel
theorem dL_wall_23 : decode cL_wall 23 = .ok (.iconst 2, 1) := by decide +kernel
theorem dL_wall_24 : decode cL_wall 24 = .ok (.ireturn, 1) := by decide +kernel
theorem dL_wall_25 : decode cL_wall 25 = .ok (.iconst 0, 1) := by decide +kernel
theorem dL_wall_26 : decode cL_wall 26 = .ok (.ireturn, 1) := by decide +kernel
theorem dL_last_0 : decode cL_last 0 = .ok (.aload 5, 2) := by decide +kernel
theorem dL_last_2 : decode cL_last 2 = .ok (.iconst 0, 1) := by decide +kernel
theorem dL_last_3 : decode cL_last 3 = .ok (.aload_n 0, 1) := by decide +kernel
theorem dL_last_4 : decode cL_last 4 = .ok (.iload_n 1, 1) := by decide +kernel
theorem dL_last_5 : decode cL_last 5 = .ok (.iload_n 2, 1) := by decide +kernel
theorem dL_last_6 : decode cL_last 6 = .ok (.iload_n 3, 1) := by decide +kernel
theorem dL_last_7 : decode cL_last 7 = .ok (.iload 4, 2) := by decide +kernel
theorem dL_last_9 : decode cL_last 9 = .ok (.invokevirtual 103, 3) := by decide +kernel
theorem dL_last_12 : decode cL_last 12 = .ok (.i2l, 1) := by decide +kernel
theorem dL_last_13 : decode cL_last 13 = .ok (.lastore, 1) := by decide +kernel
theorem dL_last_14 : decode cL_last 14 = .ok (.goto 15, 3) := by decide +kernel
theorem dL_last_17 : decode cL_last 17 = .ok (.astore 6, 2) := by decide +kernel
theorem dL_last_19 : decode cL_last 19 = .ok (.iconst 1, 1) := by decide +kernel
theorem dL_last_20 : decode cL_last 20 = .ok (.ireturn, 1) := by decide +kernel
theorem dL_last_21 : decode cL_last 21 = .ok (.astore 6, 2) := by decide +kernel
theorem dL_last_23 : decode cL_last 23 = .ok (.iconst 2, 1) := by decide +kernel
theorem dL_last_24 : decode cL_last 24 = .ok (.ireturn, 1) := by decide +kernel
theorem dL_last_25 : decode cL_last 25 = .ok (.astore 6, 2) := by decide +kernel
theorem dL_last_27 : decode cL_last 27 = .ok (.iconst 3, 1) := by decide +kernel
theorem dL_last_28 : decode cL_last 28 = .ok (.ireturn, 1) := by decide +kernel
theorem dL_last_29 : decode cL_last 29 = .ok (.iconst 0, 1) := by decide +kernel
theorem dL_last_30 : decode cL_last 30 = .ok (.ireturn, 1) := by decide +kernel
theorem dL_chain_0 : decode cL_chain 0 = .ok (.aload 5, 2) := by decide +kernel
theorem dL_chain_2 : decode cL_chain 2 = .ok (.iconst 0, 1) := by decide +kernel
theorem dL_chain_3 : decode cL_chain 3 = .ok (.aload_n 0, 1) := by decide +kernel
theorem dL_chain_4 : decode cL_chain 4 = .ok (.iload_n 1, 1) := by decide +kernel
theorem dL_chain_5 : decode cL_chain 5 = .ok (.iload_n 2, 1) := by decide +kernel
theorem dL_chain_6 : decode cL_chain 6 = .ok (.iload_n 3, 1) := by decide +kernel
theorem dL_chain_7 : decode cL_chain 7 = .ok (.iload 4, 2) := by decide +kernel
theorem dL_chain_9 : decode cL_chain 9 = .ok (.invokevirtual 106, 3) := by decide +kernel
theorem dL_chain_12 : decode cL_chain 12 = .ok (.i2l, 1) := by decide +kernel
theorem dL_chain_13 : decode cL_chain 13 = .ok (.lastore, 1) := by decide +kernel
theorem dL_chain_14 : decode cL_chain 14 = .ok (.goto 15, 3) := by decide +kernel
theorem dL_chain_17 : decode cL_chain 17 = .ok (.astore 6, 2) := by decide +kernel
theorem dL_chain_19 : decode cL_chain 19 = .ok (.iconst 1, 1) := by decide +kernel
theorem dL_chain_20 : decode cL_chain 20 = .ok (.ireturn, 1) := by decide +kernel
theorem dL_chain_21 : decode cL_chain 21 = .ok (.astore 6, 2) := by decide +kernel
theorem dL_chain_23 : decode cL_chain 23 = .ok (.iconst 2, 1) := by decide +kernel
theorem dL_chain_24 : decode cL_chain 24 = .ok (.ireturn, 1) := by decide +kernel
theorem dL_chain_25 : decode cL_chain 25 = .ok (.astore 6, 2) := by decide +kernel
theorem dL_chain_27 : decode cL_chain 27 = .ok (.iconst 3, 1) := by decide +kernel
theorem dL_chain_28 : decode cL_chain 28 = .ok (.ireturn, 1) := by decide +kernel
theorem dL_chain_29 : decode cL_chain 29 = .ok (.iconst 0, 1) := by decide +kernel
theorem dL_chain_30 : decode cL_chain 30 = .ok (.ireturn, 1) := by decide +kernel
theorem dL_ride_0 : decode cL_ride 0 = .ok (.aload_n 3, 1) := by decide +kernel
theorem dL_ride_1 : decode cL_ride 1 = .ok (.iconst 0, 1) := by decide +kernel
theorem dL_ride_2 : decode cL_ride 2 = .ok (.aload_n 0, 1) := by decide +kernel
theorem dL_ride_3 : decode cL_ride 3 = .ok (.iload_n 1, 1) := by decide +kernel
theorem dL_ride_4 : decode cL_ride 4 = .ok (.iload_n 2, 1) := by decide +kernel
theorem dL_ride_5 : decode cL_ride 5 = .ok (.invokevirtual 109, 3) := by decide +kernel
theorem dL_ride_8 : decode cL_ride 8 = .ok (.i2l, 1) := by decide +kernel
theorem dL_ride_9 : decode cL_ride 9 = .ok (.lastore, 1) := by decide +kernel
theorem dL_ride_10 : decode cL_ride 10 = .ok (.goto 11, 3) := by decide +kernel
theorem dL_ride_13 : decode cL_ride 13 = .ok (.astore 4, 2) := by decide +kernel
theorem dL_ride_15 : decode cL_ride 15 = .ok (.iconst 1, 1) := by decide +kernel
theorem dL_ride_16 : decode cL_ride 16 = .ok (.ireturn, 1) := by decide +kernel
theorem dL_ride_17 : decode cL_ride 17 = .ok (.astore 4, 2) := by decide +kernel
theorem dL_ride_19 : decode cL_ride 19 = .ok (.iconst 2, 1) := by decide +kernel
theorem dL_ride_20 : decode cL_ride 20 = .ok (.ireturn, 1) := by decide +kernel
theorem dL_ride_21 : decode cL_ride 21 = .ok (.iconst 0, 1) := by decide +kernel
theorem dL_ride_22 : decode cL_ride 22 = .ok (.ireturn, 1) := by decide +kernel
theorem dL_onBoard_0 : decode cL_onBoard 0 = .ok (.aload 5, 2) := by decide +kernel
theorem dL_onBoard_2 : decode cL_onBoard 2 = .ok (.iconst 0, 1) := by decide +kernel
theorem dL_onBoard_3 : decode cL_onBoard 3 = .ok (.aload_n 0, 1) := by decide +kernel
theorem dL_onBoard_4 : decode cL_onBoard 4 = .ok (.iload_n 1, 1) := by decide +kernel
theorem dL_onBoard_5 : decode cL_onBoard 5 = .ok (.iload_n 2, 1) := by decide +kernel
theorem dL_onBoard_6 : decode cL_onBoard 6 = .ok (.iload_n 3, 1) := by decide +kernel
theorem dL_onBoard_7 : decode cL_onBoard 7 = .ok (.iload 4, 2) := by decide +kernel
theorem dL_onBoard_9 : decode cL_onBoard 9 = .ok (.invokevirtual 113, 3) := by decide +kernel
theorem dL_onBoard_12 : decode cL_onBoard 12 = .ok (.i2l, 1) := by decide +kernel
theorem dL_onBoard_13 : decode cL_onBoard 13 = .ok (.lastore, 1) := by decide +kernel
theorem dL_onBoard_14 : decode cL_onBoard 14 = .ok (.goto 19, 3) := by decide +kernel
theorem dL_onBoard_17 : decode cL_onBoard 17 = .ok (.astore 6, 2) := by decide +kernel
theorem dL_onBoard_19 : decode cL_onBoard 19 = .ok (.iconst 1, 1) := by decide +kernel
theorem dL_onBoard_20 : decode cL_onBoard 20 = .ok (.ireturn, 1) := by decide +kernel
theorem dL_onBoard_21 : decode cL_onBoard 21 = .ok (.astore 6, 2) := by decide +kernel
theorem dL_onBoard_23 : decode cL_onBoard 23 = .ok (.iconst 2, 1) := by decide +kernel
theorem dL_onBoard_24 : decode cL_onBoard 24 = .ok (.ireturn, 1) := by decide +kernel
theorem dL_onBoard_25 : decode cL_onBoard 25 = .ok (.astore 6, 2) := by decide +kernel
theorem dL_onBoard_27 : decode cL_onBoard 27 = .ok (.iconst 3, 1) := by decide +kernel
theorem dL_onBoard_28 : decode cL_onBoard 28 = .ok (.ireturn, 1) := by decide +kernel
theorem dL_onBoard_29 : decode cL_onBoard 29 = .ok (.astore 6, 2) := by decide +kernel
theorem dL_onBoard_31 : decode cL_onBoard 31 = .ok (.iconst 4, 1) := by decide +kernel
theorem dL_onBoard_32 : decode cL_onBoard 32 = .ok (.ireturn, 1) := by decide +kernel
theorem dL_onBoard_33 : decode cL_onBoard 33 = .ok (.iconst 0, 1) := by decide +kernel
theorem dL_onBoard_34 : decode cL_onBoard 34 = .ok (.ireturn, 1) := by decide +kernel
theorem dL_pairs_0 : decode cL_pairs 0 = .ok (.aload 4, 2) := by decide +kernel
theorem dL_pairs_2 : decode cL_pairs 2 = .ok (.iconst 0, 1) := by decide +kernel
theorem dL_pairs_3 : decode cL_pairs 3 = .ok (.aload_n 0, 1) := by decide +kernel
theorem dL_pairs_4 : decode cL_pairs 4 = .ok (.iload_n 1, 1) := by decide +kernel
theorem dL_pairs_5 : decode cL_pairs 5 = .ok (.iload_n 2, 1) := by decide +kernel
theorem dL_pairs_6 : decode cL_pairs 6 = .ok (.iload_n 3, 1) := by decide +kernel
theorem dL_pairs_7 : decode cL_pairs 7 = .ok (.invokevirtual 116, 3) := by decide +kernel
theorem dL_pairs_10 : decode cL_pairs 10 = .ok (.i2l, 1) := by decide +kernel
theorem dL_pairs_11 : decode cL_pairs 11 = .ok (.lastore, 1) := by decide +kernel
theorem dL_pairs_12 : decode cL_pairs 12 = .ok (.goto 11, 3) := by decide +kernel
theorem dL_pairs_15 : decode cL_pairs 15 = .ok (.astore 5, 2) := by decide +kernel
theorem dL_pairs_17 : decode cL_pairs 17 = .ok (.iconst 1, 1) := by decide +kernel
theorem dL_pairs_18 : decode cL_pairs 18 = .ok (.ireturn, 1) := by decide +kernel
theorem dL_pairs_19 : decode cL_pairs 19 = .ok (.astore 5, 2) := by decide +kernel
theorem dL_pairs_21 : decode cL_pairs 21 = .ok (.iconst 2, 1) := by decide +kernel
theorem dL_pairs_22 : decode cL_pairs 22 = .ok (.ireturn, 1) := by decide +kernel
theorem dL_pairs_23 : decode cL_pairs 23 = .ok (.iconst 0, 1) := by decide +kernel
theorem dL_pairs_24 : decode cL_pairs 24 = .ok (.ireturn, 1) := by decide +kernel
theorem dL_pair_0 : decode cL_pair 0 = .ok (.aload 6, 2) := by decide +kernel
theorem dL_pair_2 : decode cL_pair 2 = .ok (.iconst 0, 1) := by decide +kernel
theorem dL_pair_3 : decode cL_pair 3 = .ok (.aload_n 0, 1) := by decide +kernel
theorem dL_pair_4 : decode cL_pair 4 = .ok (.iload_n 1, 1) := by decide +kernel
theorem dL_pair_5 : decode cL_pair 5 = .ok (.iload_n 2, 1) := by decide +kernel
theorem dL_pair_6 : decode cL_pair 6 = .ok (.iload_n 3, 1) := by decide +kernel
theorem dL_pair_7 : decode cL_pair 7 = .ok (.iload 4, 2) := by decide +kernel
theorem dL_pair_9 : decode cL_pair 9 = .ok (.iload 5, 2) := by decide +kernel
theorem dL_pair_11 : decode cL_pair 11 = .ok (.invokevirtual 119, 3) := by decide +kernel
theorem dL_pair_14 : decode cL_pair 14 = .ok (.i2l, 1) := by decide +kernel
theorem dL_pair_15 : decode cL_pair 15 = .ok (.lastore, 1) := by decide +kernel
theorem dL_pair_16 : decode cL_pair 16 = .ok (.goto 15, 3) := by decide +kernel
theorem dL_pair_19 : decode cL_pair 19 = .ok (.astore 7, 2) := by decide +kernel
theorem dL_pair_21 : decode cL_pair 21 = .ok (.iconst 1, 1) := by decide +kernel
theorem dL_pair_22 : decode cL_pair 22 = .ok (.ireturn, 1) := by decide +kernel
theorem dL_pair_23 : decode cL_pair 23 = .ok (.astore 7, 2) := by decide +kernel
theorem dL_pair_25 : decode cL_pair 25 = .ok (.iconst 2, 1) := by decide +kernel
theorem dL_pair_26 : decode cL_pair 26 = .ok (.ireturn, 1) := by decide +kernel
theorem dL_pair_27 : decode cL_pair 27 = .ok (.astore 7, 2) := by decide +kernel
theorem dL_pair_29 : decode cL_pair 29 = .ok (.iconst 3, 1) := by decide +kernel
theorem dL_pair_30 : decode cL_pair 30 = .ok (.ireturn, 1) := by decide +kernel
theorem dL_pair_31 : decode cL_pair 31 = .ok (.iconst 0, 1) := by decide +kernel
theorem dL_pair_32 : decode cL_pair 32 = .ok (.ireturn, 1) := by decide +kernel
theorem dL_byPairs_0 : decode cL_byPairs 0 = .ok (.aload 5, 2) := by decide +kernel
theorem dL_byPairs_2 : decode cL_byPairs 2 = .ok (.iconst 0, 1) := by decide +kernel
theorem dL_byPairs_3 : decode cL_byPairs 3 = .ok (.aload_n 0, 1) := by decide +kernel
theorem dL_byPairs_4 : decode cL_byPairs 4 = .ok (.iload_n 1, 1) := by decide +kernel
theorem dL_byPairs_5 : decode cL_byPairs 5 = .ok (.iload_n 2, 1) := by decide +kernel
theorem dL_byPairs_6 : decode cL_byPairs 6 = .ok (.iload_n 3, 1) := by decide +kernel
theorem dL_byPairs_7 : decode cL_byPairs 7 = .ok (.iload 4, 2) := by decide +kernel
theorem dL_byPairs_9 : decode cL_byPairs 9 = .ok (.invokevirtual 123, 3) := by decide +kernel
theorem dL_byPairs_12 : decode cL_byPairs 12 = .ok (.i2l, 1) := by decide +kernel
theorem dL_byPairs_13 : decode cL_byPairs 13 = .ok (.lastore, 1) := by decide +kernel
theorem dL_byPairs_14 : decode cL_byPairs 14 = .ok (.goto 15, 3) := by decide +kernel
theorem dL_byPairs_17 : decode cL_byPairs 17 = .ok (.astore 6, 2) := by decide +kernel
theorem dL_byPairs_19 : decode cL_byPairs 19 = .ok (.iconst 1, 1) := by decide +kernel
theorem dL_byPairs_20 : decode cL_byPairs 20 = .ok (.ireturn, 1) := by decide +kernel
theorem dL_byPairs_21 : decode cL_byPairs 21 = .ok (.astore 6, 2) := by decide +kernel
theorem dL_byPairs_23 : decode cL_byPairs 23 = .ok (.iconst 2, 1) := by decide +kernel
theorem dL_byPairs_24 : decode cL_byPairs 24 = .ok (.ireturn, 1) := by decide +kernel
theorem dL_byPairs_25 : decode cL_byPairs 25 = .ok (.astore 6, 2) := by decide +kernel
theorem dL_byPairs_27 : decode cL_byPairs 27 = .ok (.iconst 3, 1) := by decide +kernel
theorem dL_byPairs_28 : decode cL_byPairs 28 = .ok (.ireturn, 1) := by decide +kernel
theorem dL_byPairs_29 : decode cL_byPairs 29 = .ok (.iconst 0, 1) := by decide +kernel
theorem dL_byPairs_30 : decode cL_byPairs 30 = .ok (.ireturn, 1) := by decide +kernel
theorem dL_choices_0 : decode cL_choices 0 = .ok (.aload 5, 2) := by decide +kernel
theorem dL_choices_2 : decode cL_choices 2 = .ok (.iconst 0, 1) := by decide +kernel
theorem dL_choices_3 : decode cL_choices 3 = .ok (.aload_n 0, 1) := by decide +kernel
theorem dL_choices_4 : decode cL_choices 4 = .ok (.iload_n 1, 1) := by decide +kernel
theorem dL_choices_5 : decode cL_choices 5 = .ok (.iload_n 2, 1) := by decide +kernel
theorem dL_choices_6 : decode cL_choices 6 = .ok (.iload_n 3, 1) := by decide +kernel
theorem dL_choices_7 : decode cL_choices 7 = .ok (.iload 4, 2) := by decide +kernel
theorem dL_choices_9 : decode cL_choices 9 = .ok (.invokevirtual 126, 3) := by decide +kernel
theorem dL_choices_12 : decode cL_choices 12 = .ok (.i2l, 1) := by decide +kernel
theorem dL_choices_13 : decode cL_choices 13 = .ok (.lastore, 1) := by decide +kernel
theorem dL_choices_14 : decode cL_choices 14 = .ok (.goto 11, 3) := by decide +kernel
theorem dL_choices_17 : decode cL_choices 17 = .ok (.astore 6, 2) := by decide +kernel
theorem dL_choices_19 : decode cL_choices 19 = .ok (.iconst 1, 1) := by decide +kernel
theorem dL_choices_20 : decode cL_choices 20 = .ok (.ireturn, 1) := by decide +kernel
theorem dL_choices_21 : decode cL_choices 21 = .ok (.astore 6, 2) := by decide +kernel
theorem dL_choices_23 : decode cL_choices 23 = .ok (.iconst 2, 1) := by decide +kernel
theorem dL_choices_24 : decode cL_choices 24 = .ok (.ireturn, 1) := by decide +kernel
theorem dL_choices_25 : decode cL_choices 25 = .ok (.iconst 0, 1) := by decide +kernel
theorem dL_choices_26 : decode cL_choices 26 = .ok (.ireturn, 1) := by decide +kernel
theorem dL_choice_0 : decode cL_choice 0 = .ok (.aload 6, 2) := by decide +kernel
theorem dL_choice_2 : decode cL_choice 2 = .ok (.iconst 0, 1) := by decide +kernel
theorem dL_choice_3 : decode cL_choice 3 = .ok (.aload_n 0, 1) := by decide +kernel
theorem dL_choice_4 : decode cL_choice 4 = .ok (.iload_n 1, 1) := by decide +kernel
theorem dL_choice_5 : decode cL_choice 5 = .ok (.iload_n 2, 1) := by decide +kernel
theorem dL_choice_6 : decode cL_choice 6 = .ok (.iload_n 3, 1) := by decide +kernel
theorem dL_choice_7 : decode cL_choice 7 = .ok (.iload 4, 2) := by decide +kernel
theorem dL_choice_9 : decode cL_choice 9 = .ok (.iload 5, 2) := by decide +kernel
theorem dL_choice_11 : decode cL_choice 11 = .ok (.invokevirtual 129, 3) := by decide +kernel
theorem dL_choice_14 : decode cL_choice 14 = .ok (.i2l, 1) := by decide +kernel
theorem dL_choice_15 : decode cL_choice 15 = .ok (.lastore, 1) := by decide +kernel
theorem dL_choice_16 : decode cL_choice 16 = .ok (.goto 15, 3) := by decide +kernel
theorem dL_choice_19 : decode cL_choice 19 = .ok (.astore 7, 2) := by decide +kernel
theorem dL_choice_21 : decode cL_choice 21 = .ok (.iconst 1, 1) := by decide +kernel
theorem dL_choice_22 : decode cL_choice 22 = .ok (.ireturn, 1) := by decide +kernel
theorem dL_choice_23 : decode cL_choice 23 = .ok (.astore 7, 2) := by decide +kernel
theorem dL_choice_25 : decode cL_choice 25 = .ok (.iconst 2, 1) := by decide +kernel
theorem dL_choice_26 : decode cL_choice 26 = .ok (.ireturn, 1) := by decide +kernel
theorem dL_choice_27 : decode cL_choice 27 = .ok (.astore 7, 2) := by decide +kernel
theorem dL_choice_29 : decode cL_choice 29 = .ok (.iconst 3, 1) := by decide +kernel
theorem dL_choice_30 : decode cL_choice 30 = .ok (.ireturn, 1) := by decide +kernel
theorem dL_choice_31 : decode cL_choice 31 = .ok (.iconst 0, 1) := by decide +kernel
theorem dL_choice_32 : decode cL_choice 32 = .ok (.ireturn, 1) := by decide +kernel
theorem dL_holds_0 : decode cL_holds 0 = .ok (.aload 6, 2) := by decide +kernel
theorem dL_holds_2 : decode cL_holds 2 = .ok (.iconst 0, 1) := by decide +kernel
theorem dL_holds_3 : decode cL_holds 3 = .ok (.aload_n 0, 1) := by decide +kernel
theorem dL_holds_4 : decode cL_holds 4 = .ok (.iload_n 1, 1) := by decide +kernel
theorem dL_holds_5 : decode cL_holds 5 = .ok (.iload_n 2, 1) := by decide +kernel
theorem dL_holds_6 : decode cL_holds 6 = .ok (.iload_n 3, 1) := by decide +kernel
theorem dL_holds_7 : decode cL_holds 7 = .ok (.iload 4, 2) := by decide +kernel
theorem dL_holds_9 : decode cL_holds 9 = .ok (.iload 5, 2) := by decide +kernel
theorem dL_holds_11 : decode cL_holds 11 = .ok (.invokevirtual 133, 3) := by decide +kernel
theorem dL_holds_14 : decode cL_holds 14 = .ok (.ifCond .eq 7, 3) := by decide +kernel
theorem dL_holds_17 : decode cL_holds 17 = .ok (.lconst 1, 1) := by decide +kernel
theorem dL_holds_18 : decode cL_holds 18 = .ok (.goto 4, 3) := by decide +kernel
theorem dL_holds_21 : decode cL_holds 21 = .ok (.lconst 0, 1) := by decide +kernel
theorem dL_holds_22 : decode cL_holds 22 = .ok (.lastore, 1) := by decide +kernel
theorem dL_holds_23 : decode cL_holds 23 = .ok (.goto 19, 3) := by decide +kernel
theorem dL_holds_26 : decode cL_holds 26 = .ok (.astore 7, 2) := by decide +kernel
theorem dL_holds_28 : decode cL_holds 28 = .ok (.iconst 1, 1) := by decide +kernel
theorem dL_holds_29 : decode cL_holds 29 = .ok (.ireturn, 1) := by decide +kernel
theorem dL_holds_30 : decode cL_holds 30 = .ok (.astore 7, 2) := by decide +kernel
theorem dL_holds_32 : decode cL_holds 32 = .ok (.iconst 2, 1) := by decide +kernel
theorem dL_holds_33 : decode cL_holds 33 = .ok (.ireturn, 1) := by decide +kernel
theorem dL_holds_34 : decode cL_holds 34 = .ok (.astore 7, 2) := by decide +kernel
theorem dL_holds_36 : decode cL_holds 36 = .ok (.iconst 3, 1) := by decide +kernel
theorem dL_holds_37 : decode cL_holds 37 = .ok (.ireturn, 1) := by decide +kernel
theorem dL_holds_38 : decode cL_holds 38 = .ok (.astore 7, 2) := by decide +kernel
theorem dL_holds_40 : decode cL_holds 40 = .ok (.iconst 4, 1) := by decide +kernel
theorem dL_holds_41 : decode cL_holds 41 = .ok (.ireturn, 1) := by decide +kernel
theorem dL_holds_42 : decode cL_holds 42 = .ok (.iconst 0, 1) := by decide +kernel
theorem dL_holds_43 : decode cL_holds 43 = .ok (.ireturn, 1) := by decide +kernel
theorem dL_wish_0 : decode cL_wish 0 = .ok (.aload 6, 2) := by decide +kernel
theorem dL_wish_2 : decode cL_wish 2 = .ok (.iconst 0, 1) := by decide +kernel
theorem dL_wish_3 : decode cL_wish 3 = .ok (.aload_n 0, 1) := by decide +kernel
theorem dL_wish_4 : decode cL_wish 4 = .ok (.iload_n 1, 1) := by decide +kernel
theorem dL_wish_5 : decode cL_wish 5 = .ok (.iload_n 2, 1) := by decide +kernel
theorem dL_wish_6 : decode cL_wish 6 = .ok (.iload_n 3, 1) := by decide +kernel
theorem dL_wish_7 : decode cL_wish 7 = .ok (.iload 4, 2) := by decide +kernel
theorem dL_wish_9 : decode cL_wish 9 = .ok (.iload 5, 2) := by decide +kernel
theorem dL_wish_11 : decode cL_wish 11 = .ok (.invokevirtual 137, 3) := by decide +kernel
theorem dL_wish_14 : decode cL_wish 14 = .ok (.i2l, 1) := by decide +kernel
theorem dL_wish_15 : decode cL_wish 15 = .ok (.lastore, 1) := by decide +kernel
theorem dL_wish_16 : decode cL_wish 16 = .ok (.goto 19, 3) := by decide +kernel
theorem dL_wish_19 : decode cL_wish 19 = .ok (.astore 7, 2) := by decide +kernel
theorem dL_wish_21 : decode cL_wish 21 = .ok (.iconst 1, 1) := by decide +kernel
theorem dL_wish_22 : decode cL_wish 22 = .ok (.ireturn, 1) := by decide +kernel
theorem dL_wish_23 : decode cL_wish 23 = .ok (.astore 7, 2) := by decide +kernel
theorem dL_wish_25 : decode cL_wish 25 = .ok (.iconst 2, 1) := by decide +kernel
theorem dL_wish_26 : decode cL_wish 26 = .ok (.ireturn, 1) := by decide +kernel
theorem dL_wish_27 : decode cL_wish 27 = .ok (.astore 7, 2) := by decide +kernel
theorem dL_wish_29 : decode cL_wish 29 = .ok (.iconst 3, 1) := by decide +kernel
theorem dL_wish_30 : decode cL_wish 30 = .ok (.ireturn, 1) := by decide +kernel
theorem dL_wish_31 : decode cL_wish 31 = .ok (.astore 7, 2) := by decide +kernel
theorem dL_wish_33 : decode cL_wish 33 = .ok (.iconst 4, 1) := by decide +kernel
theorem dL_wish_34 : decode cL_wish 34 = .ok (.ireturn, 1) := by decide +kernel
theorem dL_wish_35 : decode cL_wish 35 = .ok (.iconst 0, 1) := by decide +kernel
theorem dL_wish_36 : decode cL_wish 36 = .ok (.ireturn, 1) := by decide +kernel
theorem dL_waitCost_0 : decode cL_waitCost 0 = .ok (.aload_n 3, 1) := by decide +kernel
theorem dL_waitCost_1 : decode cL_waitCost 1 = .ok (.iconst 0, 1) := by decide +kernel
theorem dL_waitCost_2 : decode cL_waitCost 2 = .ok (.aload_n 0, 1) := by decide +kernel
theorem dL_waitCost_3 : decode cL_waitCost 3 = .ok (.iload_n 1, 1) := by decide +kernel
theorem dL_waitCost_4 : decode cL_waitCost 4 = .ok (.iload_n 2, 1) := by decide +kernel
theorem dL_waitCost_5 : decode cL_waitCost 5 = .ok (.invokevirtual 140, 3) := by decide +kernel
theorem dL_waitCost_8 : decode cL_waitCost 8 = .ok (.i2l, 1) := by decide +kernel
theorem dL_waitCost_9 : decode cL_waitCost 9 = .ok (.lastore, 1) := by decide +kernel
theorem dL_waitCost_10 : decode cL_waitCost 10 = .ok (.goto 11, 3) := by decide +kernel
theorem dL_waitCost_13 : decode cL_waitCost 13 = .ok (.astore 4, 2) := by decide +kernel
theorem dL_waitCost_15 : decode cL_waitCost 15 = .ok (.iconst 1, 1) := by decide +kernel
theorem dL_waitCost_16 : decode cL_waitCost 16 = .ok (.ireturn, 1) := by decide +kernel
theorem dL_waitCost_17 : decode cL_waitCost 17 = .ok (.astore 4, 2) := by decide +kernel
theorem dL_waitCost_19 : decode cL_waitCost 19 = .ok (.iconst 2, 1) := by decide +kernel
theorem dL_waitCost_20 : decode cL_waitCost 20 = .ok (.ireturn, 1) := by decide +kernel
theorem dL_waitCost_21 : decode cL_waitCost 21 = .ok (.iconst 0, 1) := by decide +kernel
theorem dL_waitCost_22 : decode cL_waitCost 22 = .ok (.ireturn, 1) := by decide +kernel
theorem dL_bestWaits_0 : decode cL_bestWaits 0 = .ok (.aload_n 2, 1) := by decide +kernel
theorem dL_bestWaits_1 : decode cL_bestWaits 1 = .ok (.iconst 0, 1) := by decide +kernel
theorem dL_bestWaits_2 : decode cL_bestWaits 2 = .ok (.aload_n 0, 1) := by decide +kernel
theorem dL_bestWaits_3 : decode cL_bestWaits 3 = .ok (.iload_n 1, 1) := by decide +kernel
theorem dL_bestWaits_4 : decode cL_bestWaits 4 = .ok (.invokevirtual 143, 3) := by decide +kernel
theorem dL_bestWaits_7 : decode cL_bestWaits 7 = .ok (.i2l, 1) := by decide +kernel
theorem dL_bestWaits_8 : decode cL_bestWaits 8 = .ok (.lastore, 1) := by decide +kernel
theorem dL_bestWaits_9 : decode cL_bestWaits 9 = .ok (.goto 6, 3) := by decide +kernel
theorem dL_bestWaits_12 : decode cL_bestWaits 12 = .ok (.astore_n 3, 1) := by decide +kernel
theorem dL_bestWaits_13 : decode cL_bestWaits 13 = .ok (.iconst 1, 1) := by decide +kernel
theorem dL_bestWaits_14 : decode cL_bestWaits 14 = .ok (.ireturn, 1) := by decide +kernel
theorem dL_bestWaits_15 : decode cL_bestWaits 15 = .ok (.iconst 0, 1) := by decide +kernel
theorem dL_bestWaits_16 : decode cL_bestWaits 16 = .ok (.ireturn, 1) := by decide +kernel
theorem dL_lost_0 : decode cL_lost 0 = .ok (.aload_n 3, 1) := by decide +kernel
theorem dL_lost_1 : decode cL_lost 1 = .ok (.iconst 0, 1) := by decide +kernel
theorem dL_lost_2 : decode cL_lost 2 = .ok (.aload_n 0, 1) := by decide +kernel
theorem dL_lost_3 : decode cL_lost 3 = .ok (.iload_n 1, 1) := by decide +kernel
theorem dL_lost_4 : decode cL_lost 4 = .ok (.iload_n 2, 1) := by decide +kernel
theorem dL_lost_5 : decode cL_lost 5 = .ok (.invokevirtual 146, 3) := by decide +kernel
theorem dL_lost_8 : decode cL_lost 8 = .ok (.i2l, 1) := by decide +kernel
theorem dL_lost_9 : decode cL_lost 9 = .ok (.lastore, 1) := by decide +kernel
theorem dL_lost_10 : decode cL_lost 10 = .ok (.goto 11, 3) := by decide +kernel
theorem dL_lost_13 : decode cL_lost 13 = .ok (.astore 4, 2) := by decide +kernel
theorem dL_lost_15 : decode cL_lost 15 = .ok (.iconst 1, 1) := by decide +kernel
theorem dL_lost_16 : decode cL_lost 16 = .ok (.ireturn, 1) := by decide +kernel
theorem dL_lost_17 : decode cL_lost 17 = .ok (.astore 4, 2) := by decide +kernel
theorem dL_lost_19 : decode cL_lost 19 = .ok (.iconst 2, 1) := by decide +kernel
theorem dL_lost_20 : decode cL_lost 20 = .ok (.ireturn, 1) := by decide +kernel
theorem dL_lost_21 : decode cL_lost 21 = .ok (.iconst 0, 1) := by decide +kernel
theorem dL_lost_22 : decode cL_lost 22 = .ok (.ireturn, 1) := by decide +kernel
theorem dL_bridges_0 : decode cL_bridges 0 = .ok (.aload_n 2, 1) := by decide +kernel
theorem dL_bridges_1 : decode cL_bridges 1 = .ok (.iconst 0, 1) := by decide +kernel
theorem dL_bridges_2 : decode cL_bridges 2 = .ok (.aload_n 0, 1) := by decide +kernel
theorem dL_bridges_3 : decode cL_bridges 3 = .ok (.iload_n 1, 1) := by decide +kernel
theorem dL_bridges_4 : decode cL_bridges 4 = .ok (.invokevirtual 149, 3) := by decide +kernel
theorem dL_bridges_7 : decode cL_bridges 7 = .ok (.i2l, 1) := by decide +kernel
theorem dL_bridges_8 : decode cL_bridges 8 = .ok (.lastore, 1) := by decide +kernel
theorem dL_bridges_9 : decode cL_bridges 9 = .ok (.goto 6, 3) := by decide +kernel
theorem dL_bridges_12 : decode cL_bridges 12 = .ok (.astore_n 3, 1) := by decide +kernel
theorem dL_bridges_13 : decode cL_bridges 13 = .ok (.iconst 1, 1) := by decide +kernel
theorem dL_bridges_14 : decode cL_bridges 14 = .ok (.ireturn, 1) := by decide +kernel
theorem dL_bridges_15 : decode cL_bridges 15 = .ok (.iconst 0, 1) := by decide +kernel
theorem dL_bridges_16 : decode cL_bridges 16 = .ok (.ireturn, 1) := by decide +kernel
theorem dL_vehicles_0 : decode cL_vehicles 0 = .ok (.aload_n 2, 1) := by decide +kernel
theorem dL_vehicles_1 : decode cL_vehicles 1 = .ok (.iconst 0, 1) := by decide +kernel
theorem dL_vehicles_2 : decode cL_vehicles 2 = .ok (.aload_n 0, 1) := by decide +kernel
theorem dL_vehicles_3 : decode cL_vehicles 3 = .ok (.iload_n 1, 1) := by decide +kernel
theorem dL_vehicles_4 : decode cL_vehicles 4 = .ok (.invokevirtual 152, 3) := by decide +kernel
theorem dL_vehicles_7 : decode cL_vehicles 7 = .ok (.i2l, 1) := by decide +kernel
theorem dL_vehicles_8 : decode cL_vehicles 8 = .ok (.lastore, 1) := by decide +kernel
theorem dL_vehicles_9 : decode cL_vehicles 9 = .ok (.goto 6, 3) := by decide +kernel
theorem dL_vehicles_12 : decode cL_vehicles 12 = .ok (.astore_n 3, 1) := by decide +kernel
theorem dL_vehicles_13 : decode cL_vehicles 13 = .ok (.iconst 1, 1) := by decide +kernel
theorem dL_vehicles_14 : decode cL_vehicles 14 = .ok (.ireturn, 1) := by decide +kernel
theorem dL_vehicles_15 : decode cL_vehicles 15 = .ok (.iconst 0, 1) := by decide +kernel
theorem dL_vehicles_16 : decode cL_vehicles 16 = .ok (.ireturn, 1) := by decide +kernel
theorem dL_vehiclesByMatching_0 : decode cL_vehiclesByMatching 0 = .ok (.aload_n 2, 1) := by decide +kernel
theorem dL_vehiclesByMatching_1 : decode cL_vehiclesByMatching 1 = .ok (.iconst 0, 1) := by decide +kernel
theorem dL_vehiclesByMatching_2 : decode cL_vehiclesByMatching 2 = .ok (.aload_n 0, 1) := by decide +kernel
theorem dL_vehiclesByMatching_3 : decode cL_vehiclesByMatching 3 = .ok (.iload_n 1, 1) := by decide +kernel
theorem dL_vehiclesByMatching_4 : decode cL_vehiclesByMatching 4 = .ok (.invokevirtual 155, 3) := by decide +kernel
theorem dL_vehiclesByMatching_7 : decode cL_vehiclesByMatching 7 = .ok (.i2l, 1) := by decide +kernel
theorem dL_vehiclesByMatching_8 : decode cL_vehiclesByMatching 8 = .ok (.lastore, 1) := by decide +kernel
theorem dL_vehiclesByMatching_9 : decode cL_vehiclesByMatching 9 = .ok (.goto 6, 3) := by decide +kernel
theorem dL_vehiclesByMatching_12 : decode cL_vehiclesByMatching 12 = .ok (.astore_n 3, 1) := by decide +kernel
theorem dL_vehiclesByMatching_13 : decode cL_vehiclesByMatching 13 = .ok (.iconst 1, 1) := by decide +kernel
theorem dL_vehiclesByMatching_14 : decode cL_vehiclesByMatching 14 = .ok (.ireturn, 1) := by decide +kernel
theorem dL_vehiclesByMatching_15 : decode cL_vehiclesByMatching 15 = .ok (.iconst 0, 1) := by decide +kernel
theorem dL_vehiclesByMatching_16 : decode cL_vehiclesByMatching 16 = .ok (.ireturn, 1) := by decide +kernel
theorem dL_gains_0 : decode cL_gains 0 = .ok (.aload 5, 2) := by decide +kernel
theorem dL_gains_2 : decode cL_gains 2 = .ok (.iconst 0, 1) := by decide +kernel
theorem dL_gains_3 : decode cL_gains 3 = .ok (.aload_n 0, 1) := by decide +kernel
theorem dL_gains_4 : decode cL_gains 4 = .ok (.iload_n 1, 1) := by decide +kernel
theorem dL_gains_5 : decode cL_gains 5 = .ok (.iload_n 2, 1) := by decide +kernel
theorem dL_gains_6 : decode cL_gains 6 = .ok (.iload_n 3, 1) := by decide +kernel
theorem dL_gains_7 : decode cL_gains 7 = .ok (.iload 4, 2) := by decide +kernel
theorem dL_gains_9 : decode cL_gains 9 = .ok (.invokevirtual 158, 3) := by decide +kernel
theorem dL_gains_12 : decode cL_gains 12 = .ok (.i2l, 1) := by decide +kernel
theorem dL_gains_13 : decode cL_gains 13 = .ok (.lastore, 1) := by decide +kernel
theorem dL_gains_14 : decode cL_gains 14 = .ok (.goto 11, 3) := by decide +kernel
theorem dL_gains_17 : decode cL_gains 17 = .ok (.astore 6, 2) := by decide +kernel
theorem dL_gains_19 : decode cL_gains 19 = .ok (.iconst 1, 1) := by decide +kernel
theorem dL_gains_20 : decode cL_gains 20 = .ok (.ireturn, 1) := by decide +kernel
theorem dL_gains_21 : decode cL_gains 21 = .ok (.astore 6, 2) := by decide +kernel
theorem dL_gains_23 : decode cL_gains 23 = .ok (.iconst 2, 1) := by decide +kernel
theorem dL_gains_24 : decode cL_gains 24 = .ok (.ireturn, 1) := by decide +kernel
theorem dL_gains_25 : decode cL_gains 25 = .ok (.iconst 0, 1) := by decide +kernel
theorem dL_gains_26 : decode cL_gains 26 = .ok (.ireturn, 1) := by decide +kernel
theorem dL_loses_0 : decode cL_loses 0 = .ok (.aload 5, 2) := by decide +kernel
theorem dL_loses_2 : decode cL_loses 2 = .ok (.iconst 0, 1) := by decide +kernel
theorem dL_loses_3 : decode cL_loses 3 = .ok (.aload_n 0, 1) := by decide +kernel
theorem dL_loses_4 : decode cL_loses 4 = .ok (.iload_n 1, 1) := by decide +kernel
theorem dL_loses_5 : decode cL_loses 5 = .ok (.iload_n 2, 1) := by decide +kernel
theorem dL_loses_6 : decode cL_loses 6 = .ok (.iload_n 3, 1) := by decide +kernel
theorem dL_loses_7 : decode cL_loses 7 = .ok (.iload 4, 2) := by decide +kernel
theorem dL_loses_9 : decode cL_loses 9 = .ok (.invokevirtual 161, 3) := by decide +kernel
theorem dL_loses_12 : decode cL_loses 12 = .ok (.i2l, 1) := by decide +kernel
theorem dL_loses_13 : decode cL_loses 13 = .ok (.lastore, 1) := by decide +kernel
theorem dL_loses_14 : decode cL_loses 14 = .ok (.goto 11, 3) := by decide +kernel
theorem dL_loses_17 : decode cL_loses 17 = .ok (.astore 6, 2) := by decide +kernel
theorem dL_loses_19 : decode cL_loses 19 = .ok (.iconst 1, 1) := by decide +kernel
theorem dL_loses_20 : decode cL_loses 20 = .ok (.ireturn, 1) := by decide +kernel
theorem dL_loses_21 : decode cL_loses 21 = .ok (.astore 6, 2) := by decide +kernel
theorem dL_loses_23 : decode cL_loses 23 = .ok (.iconst 2, 1) := by decide +kernel
theorem dL_loses_24 : decode cL_loses 24 = .ok (.ireturn, 1) := by decide +kernel
theorem dL_loses_25 : decode cL_loses 25 = .ok (.iconst 0, 1) := by decide +kernel
theorem dL_loses_26 : decode cL_loses 26 = .ok (.ireturn, 1) := by decide +kernel
theorem dL_reachShare_0 : decode cL_reachShare 0 = .ok (.aload_n 2, 1) := by decide +kernel
theorem dL_reachShare_1 : decode cL_reachShare 1 = .ok (.iconst 0, 1) := by decide +kernel
theorem dL_reachShare_2 : decode cL_reachShare 2 = .ok (.aload_n 0, 1) := by decide +kernel
theorem dL_reachShare_3 : decode cL_reachShare 3 = .ok (.iload_n 1, 1) := by decide +kernel
theorem dL_reachShare_4 : decode cL_reachShare 4 = .ok (.invokevirtual 164, 3) := by decide +kernel
theorem dL_reachShare_7 : decode cL_reachShare 7 = .ok (.f2d, 1) := by decide +kernel
theorem dL_reachShare_8 : decode cL_reachShare 8 = .ok (.dastore, 1) := by decide +kernel
theorem dL_reachShare_9 : decode cL_reachShare 9 = .ok (.goto 9, 3) := by decide +kernel
theorem dL_reachShare_12 : decode cL_reachShare 12 = .ok (.astore_n 3, 1) := by decide +kernel
theorem dL_reachShare_13 : decode cL_reachShare 13 = .ok (.iconst 1, 1) := by decide +kernel
theorem dL_reachShare_14 : decode cL_reachShare 14 = .ok (.ireturn, 1) := by decide +kernel
theorem dL_reachShare_15 : decode cL_reachShare 15 = .ok (.astore_n 3, 1) := by decide +kernel
theorem dL_reachShare_16 : decode cL_reachShare 16 = .ok (.iconst 2, 1) := by decide +kernel
theorem dL_reachShare_17 : decode cL_reachShare 17 = .ok (.ireturn, 1) := by decide +kernel
theorem dL_reachShare_18 : decode cL_reachShare 18 = .ok (.iconst 0, 1) := by decide +kernel
theorem dL_reachShare_19 : decode cL_reachShare 19 = .ok (.ireturn, 1) := by decide +kernel
theorem dL_meanBetween_0 : decode cL_meanBetween 0 = .ok (.aload_n 1, 1) := by decide +kernel
theorem dL_meanBetween_1 : decode cL_meanBetween 1 = .ok (.iconst 0, 1) := by decide +kernel
theorem dL_meanBetween_2 : decode cL_meanBetween 2 = .ok (.aload_n 0, 1) := by decide +kernel
theorem dL_meanBetween_3 : decode cL_meanBetween 3 = .ok (.invokevirtual 170, 3) := by decide +kernel
theorem dL_meanBetween_6 : decode cL_meanBetween 6 = .ok (.dastore, 1) := by decide +kernel
theorem dL_meanBetween_7 : decode cL_meanBetween 7 = .ok (.goto 6, 3) := by decide +kernel
theorem dL_meanBetween_10 : decode cL_meanBetween 10 = .ok (.astore_n 2, 1) := by decide +kernel
theorem dL_meanBetween_11 : decode cL_meanBetween 11 = .ok (.iconst 1, 1) := by decide +kernel
theorem dL_meanBetween_12 : decode cL_meanBetween 12 = .ok (.ireturn, 1) := by decide +kernel
theorem dL_meanBetween_13 : decode cL_meanBetween 13 = .ok (.iconst 0, 1) := by decide +kernel
theorem dL_meanBetween_14 : decode cL_meanBetween 14 = .ok (.ireturn, 1) := by decide +kernel
theorem dL_isSound_0 : decode cL_isSound 0 = .ok (.aload_n 2, 1) := by decide +kernel
theorem dL_isSound_1 : decode cL_isSound 1 = .ok (.iconst 0, 1) := by decide +kernel
theorem dL_isSound_2 : decode cL_isSound 2 = .ok (.aload_n 0, 1) := by decide +kernel
theorem dL_isSound_3 : decode cL_isSound 3 = .ok (.iload_n 1, 1) := by decide +kernel
theorem dL_isSound_4 : decode cL_isSound 4 = .ok (.invokevirtual 174, 3) := by decide +kernel
theorem dL_isSound_7 : decode cL_isSound 7 = .ok (.ifCond .eq 7, 3) := by decide +kernel
theorem dL_isSound_10 : decode cL_isSound 10 = .ok (.lconst 1, 1) := by decide +kernel
theorem dL_isSound_11 : decode cL_isSound 11 = .ok (.goto 4, 3) := by decide +kernel
theorem dL_isSound_14 : decode cL_isSound 14 = .ok (.lconst 0, 1) := by decide +kernel
theorem dL_isSound_15 : decode cL_isSound 15 = .ok (.lastore, 1) := by decide +kernel
theorem dL_isSound_16 : decode cL_isSound 16 = .ok (.goto 6, 3) := by decide +kernel
theorem dL_isSound_19 : decode cL_isSound 19 = .ok (.astore_n 3, 1) := by decide +kernel
theorem dL_isSound_20 : decode cL_isSound 20 = .ok (.iconst 1, 1) := by decide +kernel
theorem dL_isSound_21 : decode cL_isSound 21 = .ok (.ireturn, 1) := by decide +kernel
theorem dL_isSound_22 : decode cL_isSound 22 = .ok (.iconst 0, 1) := by decide +kernel
theorem dL_isSound_23 : decode cL_isSound 23 = .ok (.ireturn, 1) := by decide +kernel
theorem dL_law_0 : decode cL_law 0 = .ok (.new 8, 3) := by decide +kernel
theorem dL_law_3 : decode cL_law 3 = .ok (.dup, 1) := by decide +kernel
theorem dL_law_4 : decode cL_law 4 = .ok (.invokespecial 178, 3) := by decide +kernel
theorem dL_law_7 : decode cL_law 7 = .ok (.astore_n 1, 1) := by decide +kernel
theorem dL_law_8 : decode cL_law 8 = .ok (.new 179, 3) := by decide +kernel
theorem dL_law_11 : decode cL_law 11 = .ok (.dup, 1) := by decide +kernel
theorem dL_law_12 : decode cL_law 12 = .ok (.invokespecial 181, 3) := by decide +kernel
theorem dL_law_15 : decode cL_law 15 = .ok (.astore_n 2, 1) := by decide +kernel
theorem dL_law_16 : decode cL_law 16 = .ok (.iconst 1, 1) := by decide +kernel
theorem dL_law_17 : decode cL_law 17 = .ok (.newarray .long, 2) := by decide +kernel
theorem dL_law_19 : decode cL_law 19 = .ok (.astore_n 3, 1) := by decide +kernel
theorem dL_law_20 : decode cL_law 20 = .ok (.iconst 1, 1) := by decide +kernel
theorem dL_law_21 : decode cL_law 21 = .ok (.newarray .double, 2) := by decide +kernel
theorem dL_law_23 : decode cL_law 23 = .ok (.astore 4, 2) := by decide +kernel
theorem dL_law_25 : decode cL_law 25 = .ok (.iconst 0, 1) := by decide +kernel
theorem dL_law_26 : decode cL_law 26 = .ok (.istore 5, 2) := by decide +kernel
theorem dL_law_28 : decode cL_law 28 = .ok (.iload 5, 2) := by decide +kernel
theorem dL_law_30 : decode cL_law 30 = .ok (.aload_n 0, 1) := by decide +kernel
theorem dL_law_31 : decode cL_law 31 = .ok (.arraylength, 1) := by decide +kernel
theorem dL_law_32 : decode cL_law 32 = .ok (.bipush 6, 2) := by decide +kernel
theorem dL_law_34 : decode cL_law 34 = .ok (.isub, 1) := by decide +kernel
theorem dL_law_35 : decode cL_law 35 = .ok (.if_icmp .gt 3960, 3) := by decide +kernel
theorem dL_law_38 : decode cL_law 38 = .ok (.aload_n 0, 1) := by decide +kernel
theorem dL_law_39 : decode cL_law 39 = .ok (.iload 5, 2) := by decide +kernel
theorem dL_law_41 : decode cL_law 41 = .ok (.iaload, 1) := by decide +kernel
theorem dL_law_42 : decode cL_law 42 = .ok (.bipush 63, 2) := by decide +kernel
theorem dL_law_44 : decode cL_law 44 = .ok (.iand, 1) := by decide +kernel
theorem dL_law_45 : decode cL_law 45 = .ok (.tableswitch 3944 0 51 #[223, 279, 347, 427, 495, 539, 631, 734, 809, 877, 957, 1049, 1062, 1118, 1186, 1282, 1350, 1408, 1464, 1477, 1521, 1565, 1657, 1737, 1750, 1842, 1934, 2026, 2118, 2210, 2302, 2372, 2464, 2544, 2664, 2756, 2848, 2952, 3063, 3167, 3180, 3248, 3304, 3372, 3428, 3484, 3540, 3632, 3724, 3802, 3867, 3881], 223) := by decide +kernel
theorem dL_law_268 : decode cL_law 268 = .ok (.aload_n 1, 1) := by decide +kernel
theorem dL_law_269 : decode cL_law 269 = .ok (.aload_n 0, 1) := by decide +kernel
theorem dL_law_270 : decode cL_law 270 = .ok (.iload 5, 2) := by decide +kernel
theorem dL_law_272 : decode cL_law 272 = .ok (.iconst 1, 1) := by decide +kernel
theorem dL_law_273 : decode cL_law 273 = .ok (.iadd, 1) := by decide +kernel
theorem dL_law_274 : decode cL_law 274 = .ok (.iaload, 1) := by decide +kernel
theorem dL_law_275 : decode cL_law 275 = .ok (.aload_n 3, 1) := by decide +kernel
theorem dL_law_276 : decode cL_law 276 = .ok (.invokestatic 182, 3) := by decide +kernel
theorem dL_law_279 : decode cL_law 279 = .ok (.istore 6, 2) := by decide +kernel
theorem dL_law_281 : decode cL_law 281 = .ok (.aload_n 2, 1) := by decide +kernel
theorem dL_law_282 : decode cL_law 282 = .ok (.aload_n 0, 1) := by decide +kernel
theorem dL_law_283 : decode cL_law 283 = .ok (.iload 5, 2) := by decide +kernel
theorem dL_law_285 : decode cL_law 285 = .ok (.iconst 1, 1) := by decide +kernel
theorem dL_law_286 : decode cL_law 286 = .ok (.iadd, 1) := by decide +kernel
theorem dL_law_287 : decode cL_law 287 = .ok (.iaload, 1) := by decide +kernel
theorem dL_law_288 : decode cL_law 288 = .ok (.invokevirtual 187, 3) := by decide +kernel
theorem dL_law_291 : decode cL_law 291 = .ok (.istore 7, 2) := by decide +kernel
theorem dL_law_293 : decode cL_law 293 = .ok (.aload_n 2, 1) := by decide +kernel
theorem dL_law_294 : decode cL_law 294 = .ok (.invokevirtual 188, 3) := by decide +kernel
theorem dL_law_297 : decode cL_law 297 = .ok (.iload 6, 2) := by decide +kernel
theorem dL_law_299 : decode cL_law 299 = .ok (.if_icmp .eq 5, 3) := by decide +kernel
theorem dL_law_302 : decode cL_law 302 = .ok (.iconst 0, 1) := by decide +kernel
theorem dL_law_303 : decode cL_law 303 = .ok (.ireturn, 1) := by decide +kernel
theorem dL_law_304 : decode cL_law 304 = .ok (.iload 6, 2) := by decide +kernel
theorem dL_law_306 : decode cL_law 306 = .ok (.ifCond .ne 15, 3) := by decide +kernel
theorem dL_law_309 : decode cL_law 309 = .ok (.aload_n 3, 1) := by decide +kernel
theorem dL_law_310 : decode cL_law 310 = .ok (.iconst 0, 1) := by decide +kernel
theorem dL_law_311 : decode cL_law 311 = .ok (.laload, 1) := by decide +kernel
theorem dL_law_312 : decode cL_law 312 = .ok (.iload 7, 2) := by decide +kernel
theorem dL_law_314 : decode cL_law 314 = .ok (.i2l, 1) := by decide +kernel
theorem dL_law_315 : decode cL_law 315 = .ok (.lcmp, 1) := by decide +kernel
theorem dL_law_316 : decode cL_law 316 = .ok (.ifCond .eq 5, 3) := by decide +kernel
theorem dL_law_319 : decode cL_law 319 = .ok (.iconst 0, 1) := by decide +kernel
theorem dL_law_320 : decode cL_law 320 = .ok (.ireturn, 1) := by decide +kernel
theorem dL_law_321 : decode cL_law 321 = .ok (.goto 3668, 3) := by decide +kernel
theorem dL_law_324 : decode cL_law 324 = .ok (.aload_n 1, 1) := by decide +kernel
theorem dL_law_325 : decode cL_law 325 = .ok (.aload_n 0, 1) := by decide +kernel
theorem dL_law_326 : decode cL_law 326 = .ok (.iload 5, 2) := by decide +kernel
theorem dL_law_328 : decode cL_law 328 = .ok (.iconst 1, 1) := by decide +kernel
theorem dL_law_329 : decode cL_law 329 = .ok (.iadd, 1) := by decide +kernel
theorem dL_law_330 : decode cL_law 330 = .ok (.iaload, 1) := by decide +kernel
theorem dL_law_331 : decode cL_law 331 = .ok (.aload_n 0, 1) := by decide +kernel
theorem dL_law_332 : decode cL_law 332 = .ok (.iload 5, 2) := by decide +kernel
theorem dL_law_334 : decode cL_law 334 = .ok (.iconst 2, 1) := by decide +kernel
theorem dL_law_335 : decode cL_law 335 = .ok (.iadd, 1) := by decide +kernel
theorem dL_law_336 : decode cL_law 336 = .ok (.iaload, 1) := by decide +kernel
theorem dL_law_337 : decode cL_law 337 = .ok (.aload_n 3, 1) := by decide +kernel
theorem dL_law_338 : decode cL_law 338 = .ok (.invokestatic 191, 3) := by decide +kernel
theorem dL_law_341 : decode cL_law 341 = .ok (.istore 6, 2) := by decide +kernel
theorem dL_law_343 : decode cL_law 343 = .ok (.aload_n 2, 1) := by decide +kernel
theorem dL_law_344 : decode cL_law 344 = .ok (.aload_n 0, 1) := by decide +kernel
theorem dL_law_345 : decode cL_law 345 = .ok (.iload 5, 2) := by decide +kernel
theorem dL_law_347 : decode cL_law 347 = .ok (.iconst 1, 1) := by decide +kernel
theorem dL_law_348 : decode cL_law 348 = .ok (.iadd, 1) := by decide +kernel
theorem dL_law_349 : decode cL_law 349 = .ok (.iaload, 1) := by decide +kernel
theorem dL_law_350 : decode cL_law 350 = .ok (.aload_n 0, 1) := by decide +kernel
theorem dL_law_351 : decode cL_law 351 = .ok (.iload 5, 2) := by decide +kernel
theorem dL_law_353 : decode cL_law 353 = .ok (.iconst 2, 1) := by decide +kernel
theorem dL_law_354 : decode cL_law 354 = .ok (.iadd, 1) := by decide +kernel
theorem dL_law_355 : decode cL_law 355 = .ok (.iaload, 1) := by decide +kernel
theorem dL_law_356 : decode cL_law 356 = .ok (.invokevirtual 194, 3) := by decide +kernel
theorem dL_law_359 : decode cL_law 359 = .ok (.istore 7, 2) := by decide +kernel
theorem dL_law_361 : decode cL_law 361 = .ok (.aload_n 2, 1) := by decide +kernel
theorem dL_law_362 : decode cL_law 362 = .ok (.invokevirtual 188, 3) := by decide +kernel
theorem dL_law_365 : decode cL_law 365 = .ok (.iload 6, 2) := by decide +kernel
theorem dL_law_367 : decode cL_law 367 = .ok (.if_icmp .eq 5, 3) := by decide +kernel
theorem dL_law_370 : decode cL_law 370 = .ok (.iconst 0, 1) := by decide +kernel
theorem dL_law_371 : decode cL_law 371 = .ok (.ireturn, 1) := by decide +kernel
theorem dL_law_372 : decode cL_law 372 = .ok (.iload 6, 2) := by decide +kernel
theorem dL_law_374 : decode cL_law 374 = .ok (.ifCond .ne 15, 3) := by decide +kernel
theorem dL_law_377 : decode cL_law 377 = .ok (.aload_n 3, 1) := by decide +kernel
theorem dL_law_378 : decode cL_law 378 = .ok (.iconst 0, 1) := by decide +kernel
theorem dL_law_379 : decode cL_law 379 = .ok (.laload, 1) := by decide +kernel
theorem dL_law_380 : decode cL_law 380 = .ok (.iload 7, 2) := by decide +kernel
theorem dL_law_382 : decode cL_law 382 = .ok (.i2l, 1) := by decide +kernel
theorem dL_law_383 : decode cL_law 383 = .ok (.lcmp, 1) := by decide +kernel
theorem dL_law_384 : decode cL_law 384 = .ok (.ifCond .eq 5, 3) := by decide +kernel
theorem dL_law_387 : decode cL_law 387 = .ok (.iconst 0, 1) := by decide +kernel
theorem dL_law_388 : decode cL_law 388 = .ok (.ireturn, 1) := by decide +kernel
theorem dL_law_389 : decode cL_law 389 = .ok (.goto 3600, 3) := by decide +kernel
theorem dL_law_392 : decode cL_law 392 = .ok (.aload_n 1, 1) := by decide +kernel
theorem dL_law_393 : decode cL_law 393 = .ok (.aload_n 0, 1) := by decide +kernel
theorem dL_law_394 : decode cL_law 394 = .ok (.iload 5, 2) := by decide +kernel
theorem dL_law_396 : decode cL_law 396 = .ok (.iconst 1, 1) := by decide +kernel
theorem dL_law_397 : decode cL_law 397 = .ok (.iadd, 1) := by decide +kernel
theorem dL_law_398 : decode cL_law 398 = .ok (.iaload, 1) := by decide +kernel
theorem dL_law_399 : decode cL_law 399 = .ok (.aload_n 0, 1) := by decide +kernel
theorem dL_law_400 : decode cL_law 400 = .ok (.iload 5, 2) := by decide +kernel
theorem dL_law_402 : decode cL_law 402 = .ok (.iconst 2, 1) := by decide +kernel
theorem dL_law_403 : decode cL_law 403 = .ok (.iadd, 1) := by decide +kernel
theorem dL_law_404 : decode cL_law 404 = .ok (.iaload, 1) := by decide +kernel
theorem dL_law_405 : decode cL_law 405 = .ok (.aload_n 0, 1) := by decide +kernel
theorem dL_law_406 : decode cL_law 406 = .ok (.iload 5, 2) := by decide +kernel
theorem dL_law_408 : decode cL_law 408 = .ok (.iconst 3, 1) := by decide +kernel
theorem dL_law_409 : decode cL_law 409 = .ok (.iadd, 1) := by decide +kernel
theorem dL_law_410 : decode cL_law 410 = .ok (.iaload, 1) := by decide +kernel
theorem dL_law_411 : decode cL_law 411 = .ok (.aload_n 3, 1) := by decide +kernel
theorem dL_law_412 : decode cL_law 412 = .ok (.invokestatic 195, 3) := by decide +kernel
theorem dL_law_415 : decode cL_law 415 = .ok (.istore 6, 2) := by decide +kernel
theorem dL_law_417 : decode cL_law 417 = .ok (.aload_n 2, 1) := by decide +kernel
theorem dL_law_418 : decode cL_law 418 = .ok (.aload_n 0, 1) := by decide +kernel
theorem dL_law_419 : decode cL_law 419 = .ok (.iload 5, 2) := by decide +kernel
theorem dL_law_421 : decode cL_law 421 = .ok (.iconst 1, 1) := by decide +kernel
theorem dL_law_422 : decode cL_law 422 = .ok (.iadd, 1) := by decide +kernel
theorem dL_law_423 : decode cL_law 423 = .ok (.iaload, 1) := by decide +kernel
theorem dL_law_424 : decode cL_law 424 = .ok (.aload_n 0, 1) := by decide +kernel
theorem dL_law_425 : decode cL_law 425 = .ok (.iload 5, 2) := by decide +kernel
theorem dL_law_427 : decode cL_law 427 = .ok (.iconst 2, 1) := by decide +kernel
theorem dL_law_428 : decode cL_law 428 = .ok (.iadd, 1) := by decide +kernel
theorem dL_law_429 : decode cL_law 429 = .ok (.iaload, 1) := by decide +kernel
theorem dL_law_430 : decode cL_law 430 = .ok (.aload_n 0, 1) := by decide +kernel
theorem dL_law_431 : decode cL_law 431 = .ok (.iload 5, 2) := by decide +kernel
theorem dL_law_433 : decode cL_law 433 = .ok (.iconst 3, 1) := by decide +kernel
theorem dL_law_434 : decode cL_law 434 = .ok (.iadd, 1) := by decide +kernel
theorem dL_law_435 : decode cL_law 435 = .ok (.iaload, 1) := by decide +kernel
theorem dL_law_436 : decode cL_law 436 = .ok (.invokevirtual 198, 3) := by decide +kernel
theorem dL_law_439 : decode cL_law 439 = .ok (.istore 7, 2) := by decide +kernel
theorem dL_law_441 : decode cL_law 441 = .ok (.aload_n 2, 1) := by decide +kernel
theorem dL_law_442 : decode cL_law 442 = .ok (.invokevirtual 188, 3) := by decide +kernel
theorem dL_law_445 : decode cL_law 445 = .ok (.iload 6, 2) := by decide +kernel
theorem dL_law_447 : decode cL_law 447 = .ok (.if_icmp .eq 5, 3) := by decide +kernel
theorem dL_law_450 : decode cL_law 450 = .ok (.iconst 0, 1) := by decide +kernel
theorem dL_law_451 : decode cL_law 451 = .ok (.ireturn, 1) := by decide +kernel
theorem dL_law_452 : decode cL_law 452 = .ok (.iload 6, 2) := by decide +kernel
theorem dL_law_454 : decode cL_law 454 = .ok (.ifCond .ne 15, 3) := by decide +kernel
theorem dL_law_457 : decode cL_law 457 = .ok (.aload_n 3, 1) := by decide +kernel
theorem dL_law_458 : decode cL_law 458 = .ok (.iconst 0, 1) := by decide +kernel
theorem dL_law_459 : decode cL_law 459 = .ok (.laload, 1) := by decide +kernel
theorem dL_law_460 : decode cL_law 460 = .ok (.iload 7, 2) := by decide +kernel
theorem dL_law_462 : decode cL_law 462 = .ok (.i2l, 1) := by decide +kernel
theorem dL_law_463 : decode cL_law 463 = .ok (.lcmp, 1) := by decide +kernel
theorem dL_law_464 : decode cL_law 464 = .ok (.ifCond .eq 5, 3) := by decide +kernel
theorem dL_law_467 : decode cL_law 467 = .ok (.iconst 0, 1) := by decide +kernel
theorem dL_law_468 : decode cL_law 468 = .ok (.ireturn, 1) := by decide +kernel
theorem dL_law_469 : decode cL_law 469 = .ok (.goto 3520, 3) := by decide +kernel
theorem dL_law_472 : decode cL_law 472 = .ok (.aload_n 1, 1) := by decide +kernel
theorem dL_law_473 : decode cL_law 473 = .ok (.aload_n 0, 1) := by decide +kernel
theorem dL_law_474 : decode cL_law 474 = .ok (.iload 5, 2) := by decide +kernel
theorem dL_law_476 : decode cL_law 476 = .ok (.iconst 1, 1) := by decide +kernel
theorem dL_law_477 : decode cL_law 477 = .ok (.iadd, 1) := by decide +kernel
theorem dL_law_478 : decode cL_law 478 = .ok (.iaload, 1) := by decide +kernel
theorem dL_law_479 : decode cL_law 479 = .ok (.aload_n 0, 1) := by decide +kernel
theorem dL_law_480 : decode cL_law 480 = .ok (.iload 5, 2) := by decide +kernel
theorem dL_law_482 : decode cL_law 482 = .ok (.iconst 2, 1) := by decide +kernel
theorem dL_law_483 : decode cL_law 483 = .ok (.iadd, 1) := by decide +kernel
theorem dL_law_484 : decode cL_law 484 = .ok (.iaload, 1) := by decide +kernel
theorem dL_law_485 : decode cL_law 485 = .ok (.aload_n 3, 1) := by decide +kernel
theorem dL_law_486 : decode cL_law 486 = .ok (.invokestatic 199, 3) := by decide +kernel
theorem dL_law_489 : decode cL_law 489 = .ok (.istore 6, 2) := by decide +kernel
theorem dL_law_491 : decode cL_law 491 = .ok (.aload_n 2, 1) := by decide +kernel
theorem dL_law_492 : decode cL_law 492 = .ok (.aload_n 0, 1) := by decide +kernel
theorem dL_law_493 : decode cL_law 493 = .ok (.iload 5, 2) := by decide +kernel
theorem dL_law_495 : decode cL_law 495 = .ok (.iconst 1, 1) := by decide +kernel
theorem dL_law_496 : decode cL_law 496 = .ok (.iadd, 1) := by decide +kernel
theorem dL_law_497 : decode cL_law 497 = .ok (.iaload, 1) := by decide +kernel
theorem dL_law_498 : decode cL_law 498 = .ok (.aload_n 0, 1) := by decide +kernel
theorem dL_law_499 : decode cL_law 499 = .ok (.iload 5, 2) := by decide +kernel
theorem dL_law_501 : decode cL_law 501 = .ok (.iconst 2, 1) := by decide +kernel
theorem dL_law_502 : decode cL_law 502 = .ok (.iadd, 1) := by decide +kernel
theorem dL_law_503 : decode cL_law 503 = .ok (.iaload, 1) := by decide +kernel
theorem dL_law_504 : decode cL_law 504 = .ok (.invokevirtual 201, 3) := by decide +kernel
theorem dL_law_507 : decode cL_law 507 = .ok (.istore 7, 2) := by decide +kernel
theorem dL_law_509 : decode cL_law 509 = .ok (.aload_n 2, 1) := by decide +kernel
theorem dL_law_510 : decode cL_law 510 = .ok (.invokevirtual 188, 3) := by decide +kernel
theorem dL_law_513 : decode cL_law 513 = .ok (.iload 6, 2) := by decide +kernel
theorem dL_law_515 : decode cL_law 515 = .ok (.if_icmp .eq 5, 3) := by decide +kernel
theorem dL_law_518 : decode cL_law 518 = .ok (.iconst 0, 1) := by decide +kernel
theorem dL_law_519 : decode cL_law 519 = .ok (.ireturn, 1) := by decide +kernel
theorem dL_law_520 : decode cL_law 520 = .ok (.iload 6, 2) := by decide +kernel
theorem dL_law_522 : decode cL_law 522 = .ok (.ifCond .ne 15, 3) := by decide +kernel
theorem dL_law_525 : decode cL_law 525 = .ok (.aload_n 3, 1) := by decide +kernel
theorem dL_law_526 : decode cL_law 526 = .ok (.iconst 0, 1) := by decide +kernel
theorem dL_law_527 : decode cL_law 527 = .ok (.laload, 1) := by decide +kernel
theorem dL_law_528 : decode cL_law 528 = .ok (.iload 7, 2) := by decide +kernel
theorem dL_law_530 : decode cL_law 530 = .ok (.i2l, 1) := by decide +kernel
theorem dL_law_531 : decode cL_law 531 = .ok (.lcmp, 1) := by decide +kernel
theorem dL_law_532 : decode cL_law 532 = .ok (.ifCond .eq 5, 3) := by decide +kernel
theorem dL_law_535 : decode cL_law 535 = .ok (.iconst 0, 1) := by decide +kernel
theorem dL_law_536 : decode cL_law 536 = .ok (.ireturn, 1) := by decide +kernel
theorem dL_law_537 : decode cL_law 537 = .ok (.goto 3452, 3) := by decide +kernel
theorem dL_law_540 : decode cL_law 540 = .ok (.aload_n 1, 1) := by decide +kernel
theorem dL_law_541 : decode cL_law 541 = .ok (.aload_n 3, 1) := by decide +kernel
theorem dL_law_542 : decode cL_law 542 = .ok (.invokestatic 202, 3) := by decide +kernel
theorem dL_law_545 : decode cL_law 545 = .ok (.istore 6, 2) := by decide +kernel
theorem dL_law_547 : decode cL_law 547 = .ok (.aload_n 2, 1) := by decide +kernel
theorem dL_law_548 : decode cL_law 548 = .ok (.invokevirtual 205, 3) := by decide +kernel
theorem dL_law_551 : decode cL_law 551 = .ok (.istore 7, 2) := by decide +kernel
theorem dL_law_553 : decode cL_law 553 = .ok (.aload_n 2, 1) := by decide +kernel
theorem dL_law_554 : decode cL_law 554 = .ok (.invokevirtual 188, 3) := by decide +kernel
theorem dL_law_557 : decode cL_law 557 = .ok (.iload 6, 2) := by decide +kernel
theorem dL_law_559 : decode cL_law 559 = .ok (.if_icmp .eq 5, 3) := by decide +kernel
theorem dL_law_562 : decode cL_law 562 = .ok (.iconst 0, 1) := by decide +kernel
theorem dL_law_563 : decode cL_law 563 = .ok (.ireturn, 1) := by decide +kernel
theorem dL_law_564 : decode cL_law 564 = .ok (.iload 6, 2) := by decide +kernel
theorem dL_law_566 : decode cL_law 566 = .ok (.ifCond .ne 15, 3) := by decide +kernel
theorem dL_law_569 : decode cL_law 569 = .ok (.aload_n 3, 1) := by decide +kernel
theorem dL_law_570 : decode cL_law 570 = .ok (.iconst 0, 1) := by decide +kernel
theorem dL_law_571 : decode cL_law 571 = .ok (.laload, 1) := by decide +kernel
theorem dL_law_572 : decode cL_law 572 = .ok (.iload 7, 2) := by decide +kernel
theorem dL_law_574 : decode cL_law 574 = .ok (.i2l, 1) := by decide +kernel
theorem dL_law_575 : decode cL_law 575 = .ok (.lcmp, 1) := by decide +kernel
theorem dL_law_576 : decode cL_law 576 = .ok (.ifCond .eq 5, 3) := by decide +kernel
theorem dL_law_579 : decode cL_law 579 = .ok (.iconst 0, 1) := by decide +kernel
theorem dL_law_580 : decode cL_law 580 = .ok (.ireturn, 1) := by decide +kernel
theorem dL_law_581 : decode cL_law 581 = .ok (.goto 3408, 3) := by decide +kernel
theorem dL_law_584 : decode cL_law 584 = .ok (.aload_n 1, 1) := by decide +kernel
theorem dL_law_585 : decode cL_law 585 = .ok (.aload_n 0, 1) := by decide +kernel
theorem dL_law_586 : decode cL_law 586 = .ok (.iload 5, 2) := by decide +kernel
theorem dL_law_588 : decode cL_law 588 = .ok (.iconst 1, 1) := by decide +kernel
theorem dL_law_589 : decode cL_law 589 = .ok (.iadd, 1) := by decide +kernel
theorem dL_law_590 : decode cL_law 590 = .ok (.iaload, 1) := by decide +kernel
theorem dL_law_591 : decode cL_law 591 = .ok (.aload_n 0, 1) := by decide +kernel
theorem dL_law_592 : decode cL_law 592 = .ok (.iload 5, 2) := by decide +kernel
theorem dL_law_594 : decode cL_law 594 = .ok (.iconst 2, 1) := by decide +kernel
theorem dL_law_595 : decode cL_law 595 = .ok (.iadd, 1) := by decide +kernel
theorem dL_law_596 : decode cL_law 596 = .ok (.iaload, 1) := by decide +kernel
theorem dL_law_597 : decode cL_law 597 = .ok (.aload_n 0, 1) := by decide +kernel
theorem dL_law_598 : decode cL_law 598 = .ok (.iload 5, 2) := by decide +kernel
theorem dL_law_600 : decode cL_law 600 = .ok (.iconst 3, 1) := by decide +kernel
theorem dL_law_601 : decode cL_law 601 = .ok (.iadd, 1) := by decide +kernel
theorem dL_law_602 : decode cL_law 602 = .ok (.iaload, 1) := by decide +kernel
theorem dL_law_603 : decode cL_law 603 = .ok (.aload_n 0, 1) := by decide +kernel
theorem dL_law_604 : decode cL_law 604 = .ok (.iload 5, 2) := by decide +kernel
theorem dL_law_606 : decode cL_law 606 = .ok (.iconst 4, 1) := by decide +kernel
theorem dL_law_607 : decode cL_law 607 = .ok (.iadd, 1) := by decide +kernel
theorem dL_law_608 : decode cL_law 608 = .ok (.iaload, 1) := by decide +kernel
theorem dL_law_609 : decode cL_law 609 = .ok (.aload_n 3, 1) := by decide +kernel
theorem dL_law_610 : decode cL_law 610 = .ok (.invokestatic 206, 3) := by decide +kernel
theorem dL_law_613 : decode cL_law 613 = .ok (.istore 6, 2) := by decide +kernel
theorem dL_law_615 : decode cL_law 615 = .ok (.aload_n 2, 1) := by decide +kernel
theorem dL_law_616 : decode cL_law 616 = .ok (.aload_n 0, 1) := by decide +kernel
theorem dL_law_617 : decode cL_law 617 = .ok (.iload 5, 2) := by decide +kernel
theorem dL_law_619 : decode cL_law 619 = .ok (.iconst 1, 1) := by decide +kernel
theorem dL_law_620 : decode cL_law 620 = .ok (.iadd, 1) := by decide +kernel
theorem dL_law_621 : decode cL_law 621 = .ok (.iaload, 1) := by decide +kernel
theorem dL_law_622 : decode cL_law 622 = .ok (.aload_n 0, 1) := by decide +kernel
theorem dL_law_623 : decode cL_law 623 = .ok (.iload 5, 2) := by decide +kernel
theorem dL_law_625 : decode cL_law 625 = .ok (.iconst 2, 1) := by decide +kernel
theorem dL_law_626 : decode cL_law 626 = .ok (.iadd, 1) := by decide +kernel
theorem dL_law_627 : decode cL_law 627 = .ok (.iaload, 1) := by decide +kernel
theorem dL_law_628 : decode cL_law 628 = .ok (.aload_n 0, 1) := by decide +kernel
theorem dL_law_629 : decode cL_law 629 = .ok (.iload 5, 2) := by decide +kernel
theorem dL_law_631 : decode cL_law 631 = .ok (.iconst 3, 1) := by decide +kernel
theorem dL_law_632 : decode cL_law 632 = .ok (.iadd, 1) := by decide +kernel
theorem dL_law_633 : decode cL_law 633 = .ok (.iaload, 1) := by decide +kernel
theorem dL_law_634 : decode cL_law 634 = .ok (.aload_n 0, 1) := by decide +kernel
theorem dL_law_635 : decode cL_law 635 = .ok (.iload 5, 2) := by decide +kernel
theorem dL_law_637 : decode cL_law 637 = .ok (.iconst 4, 1) := by decide +kernel
theorem dL_law_638 : decode cL_law 638 = .ok (.iadd, 1) := by decide +kernel
theorem dL_law_639 : decode cL_law 639 = .ok (.iaload, 1) := by decide +kernel
theorem dL_law_640 : decode cL_law 640 = .ok (.invokevirtual 209, 3) := by decide +kernel
theorem dL_law_643 : decode cL_law 643 = .ok (.istore 7, 2) := by decide +kernel
theorem dL_law_645 : decode cL_law 645 = .ok (.aload_n 2, 1) := by decide +kernel
theorem dL_law_646 : decode cL_law 646 = .ok (.invokevirtual 188, 3) := by decide +kernel
theorem dL_law_649 : decode cL_law 649 = .ok (.iload 6, 2) := by decide +kernel
theorem dL_law_651 : decode cL_law 651 = .ok (.if_icmp .eq 5, 3) := by decide +kernel
theorem dL_law_654 : decode cL_law 654 = .ok (.iconst 0, 1) := by decide +kernel
theorem dL_law_655 : decode cL_law 655 = .ok (.ireturn, 1) := by decide +kernel
theorem dL_law_656 : decode cL_law 656 = .ok (.iload 6, 2) := by decide +kernel
theorem dL_law_658 : decode cL_law 658 = .ok (.ifCond .ne 15, 3) := by decide +kernel
theorem dL_law_661 : decode cL_law 661 = .ok (.aload_n 3, 1) := by decide +kernel
theorem dL_law_662 : decode cL_law 662 = .ok (.iconst 0, 1) := by decide +kernel
theorem dL_law_663 : decode cL_law 663 = .ok (.laload, 1) := by decide +kernel
theorem dL_law_664 : decode cL_law 664 = .ok (.iload 7, 2) := by decide +kernel
theorem dL_law_666 : decode cL_law 666 = .ok (.i2l, 1) := by decide +kernel
theorem dL_law_667 : decode cL_law 667 = .ok (.lcmp, 1) := by decide +kernel
theorem dL_law_668 : decode cL_law 668 = .ok (.ifCond .eq 5, 3) := by decide +kernel
theorem dL_law_671 : decode cL_law 671 = .ok (.iconst 0, 1) := by decide +kernel
theorem dL_law_672 : decode cL_law 672 = .ok (.ireturn, 1) := by decide +kernel
theorem dL_law_673 : decode cL_law 673 = .ok (.goto 3316, 3) := by decide +kernel
theorem dL_law_676 : decode cL_law 676 = .ok (.aload_n 1, 1) := by decide +kernel
theorem dL_law_677 : decode cL_law 677 = .ok (.aload_n 0, 1) := by decide +kernel
theorem dL_law_678 : decode cL_law 678 = .ok (.iload 5, 2) := by decide +kernel
theorem dL_law_680 : decode cL_law 680 = .ok (.iconst 1, 1) := by decide +kernel
theorem dL_law_681 : decode cL_law 681 = .ok (.iadd, 1) := by decide +kernel
theorem dL_law_682 : decode cL_law 682 = .ok (.iaload, 1) := by decide +kernel
theorem dL_law_683 : decode cL_law 683 = .ok (.aload_n 0, 1) := by decide +kernel
theorem dL_law_684 : decode cL_law 684 = .ok (.iload 5, 2) := by decide +kernel
theorem dL_law_686 : decode cL_law 686 = .ok (.iconst 2, 1) := by decide +kernel
theorem dL_law_687 : decode cL_law 687 = .ok (.iadd, 1) := by decide +kernel
theorem dL_law_688 : decode cL_law 688 = .ok (.iaload, 1) := by decide +kernel
theorem dL_law_689 : decode cL_law 689 = .ok (.aload_n 0, 1) := by decide +kernel
theorem dL_law_690 : decode cL_law 690 = .ok (.iload 5, 2) := by decide +kernel
theorem dL_law_692 : decode cL_law 692 = .ok (.iconst 3, 1) := by decide +kernel
theorem dL_law_693 : decode cL_law 693 = .ok (.iadd, 1) := by decide +kernel
theorem dL_law_694 : decode cL_law 694 = .ok (.iaload, 1) := by decide +kernel
theorem dL_law_695 : decode cL_law 695 = .ok (.ifCond .eq 7, 3) := by decide +kernel
theorem dL_law_698 : decode cL_law 698 = .ok (.iconst 1, 1) := by decide +kernel
theorem dL_law_699 : decode cL_law 699 = .ok (.goto 4, 3) := by decide +kernel
theorem dL_law_702 : decode cL_law 702 = .ok (.iconst 0, 1) := by decide +kernel
theorem dL_law_703 : decode cL_law 703 = .ok (.aload_n 3, 1) := by decide +kernel
theorem dL_law_704 : decode cL_law 704 = .ok (.invokestatic 210, 3) := by decide +kernel
theorem dL_law_707 : decode cL_law 707 = .ok (.istore 6, 2) := by decide +kernel
theorem dL_law_709 : decode cL_law 709 = .ok (.aload_n 2, 1) := by decide +kernel
theorem dL_law_710 : decode cL_law 710 = .ok (.aload_n 0, 1) := by decide +kernel
theorem dL_law_711 : decode cL_law 711 = .ok (.iload 5, 2) := by decide +kernel
theorem dL_law_713 : decode cL_law 713 = .ok (.iconst 1, 1) := by decide +kernel
theorem dL_law_714 : decode cL_law 714 = .ok (.iadd, 1) := by decide +kernel
theorem dL_law_715 : decode cL_law 715 = .ok (.iaload, 1) := by decide +kernel
theorem dL_law_716 : decode cL_law 716 = .ok (.aload_n 0, 1) := by decide +kernel
theorem dL_law_717 : decode cL_law 717 = .ok (.iload 5, 2) := by decide +kernel
theorem dL_law_719 : decode cL_law 719 = .ok (.iconst 2, 1) := by decide +kernel
theorem dL_law_720 : decode cL_law 720 = .ok (.iadd, 1) := by decide +kernel
theorem dL_law_721 : decode cL_law 721 = .ok (.iaload, 1) := by decide +kernel
theorem dL_law_722 : decode cL_law 722 = .ok (.aload_n 0, 1) := by decide +kernel
theorem dL_law_723 : decode cL_law 723 = .ok (.iload 5, 2) := by decide +kernel
theorem dL_law_725 : decode cL_law 725 = .ok (.iconst 3, 1) := by decide +kernel
theorem dL_law_726 : decode cL_law 726 = .ok (.iadd, 1) := by decide +kernel
theorem dL_law_727 : decode cL_law 727 = .ok (.iaload, 1) := by decide +kernel
theorem dL_law_728 : decode cL_law 728 = .ok (.ifCond .eq 7, 3) := by decide +kernel
theorem dL_law_731 : decode cL_law 731 = .ok (.iconst 1, 1) := by decide +kernel
theorem dL_law_732 : decode cL_law 732 = .ok (.goto 4, 3) := by decide +kernel
theorem dL_law_735 : decode cL_law 735 = .ok (.iconst 0, 1) := by decide +kernel
theorem dL_law_736 : decode cL_law 736 = .ok (.invokevirtual 213, 3) := by decide +kernel
theorem dL_law_739 : decode cL_law 739 = .ok (.istore 7, 2) := by decide +kernel
theorem dL_law_741 : decode cL_law 741 = .ok (.aload_n 2, 1) := by decide +kernel
theorem dL_law_742 : decode cL_law 742 = .ok (.invokevirtual 188, 3) := by decide +kernel
theorem dL_law_745 : decode cL_law 745 = .ok (.iload 6, 2) := by decide +kernel
theorem dL_law_747 : decode cL_law 747 = .ok (.if_icmp .eq 5, 3) := by decide +kernel
theorem dL_law_750 : decode cL_law 750 = .ok (.iconst 0, 1) := by decide +kernel
theorem dL_law_751 : decode cL_law 751 = .ok (.ireturn, 1) := by decide +kernel
theorem dL_law_752 : decode cL_law 752 = .ok (.iload 6, 2) := by decide +kernel
theorem dL_law_754 : decode cL_law 754 = .ok (.ifCond .ne 22, 3) := by decide +kernel
theorem dL_law_757 : decode cL_law 757 = .ok (.aload_n 3, 1) := by decide +kernel
theorem dL_law_758 : decode cL_law 758 = .ok (.iconst 0, 1) := by decide +kernel
theorem dL_law_759 : decode cL_law 759 = .ok (.laload, 1) := by decide +kernel
theorem dL_law_760 : decode cL_law 760 = .ok (.iload 7, 2) := by decide +kernel
theorem dL_law_762 : decode cL_law 762 = .ok (.ifCond .eq 7, 3) := by decide +kernel
theorem dL_law_765 : decode cL_law 765 = .ok (.lconst 1, 1) := by decide +kernel
theorem dL_law_766 : decode cL_law 766 = .ok (.goto 4, 3) := by decide +kernel
theorem dL_law_769 : decode cL_law 769 = .ok (.lconst 0, 1) := by decide +kernel
theorem dL_law_770 : decode cL_law 770 = .ok (.lcmp, 1) := by decide +kernel
theorem dL_law_771 : decode cL_law 771 = .ok (.ifCond .eq 5, 3) := by decide +kernel
theorem dL_law_774 : decode cL_law 774 = .ok (.iconst 0, 1) := by decide +kernel
theorem dL_law_775 : decode cL_law 775 = .ok (.ireturn, 1) := by decide +kernel
theorem dL_law_776 : decode cL_law 776 = .ok (.goto 3213, 3) := by decide +kernel
theorem dL_law_779 : decode cL_law 779 = .ok (.aload_n 1, 1) := by decide +kernel
theorem dL_law_780 : decode cL_law 780 = .ok (.aload_n 0, 1) := by decide +kernel
theorem dL_law_781 : decode cL_law 781 = .ok (.iload 5, 2) := by decide +kernel
theorem dL_law_783 : decode cL_law 783 = .ok (.iconst 1, 1) := by decide +kernel
theorem dL_law_784 : decode cL_law 784 = .ok (.iadd, 1) := by decide +kernel
theorem dL_law_785 : decode cL_law 785 = .ok (.iaload, 1) := by decide +kernel
theorem dL_law_786 : decode cL_law 786 = .ok (.aload_n 0, 1) := by decide +kernel
theorem dL_law_787 : decode cL_law 787 = .ok (.iload 5, 2) := by decide +kernel
theorem dL_law_789 : decode cL_law 789 = .ok (.iconst 2, 1) := by decide +kernel
theorem dL_law_790 : decode cL_law 790 = .ok (.iadd, 1) := by decide +kernel
theorem dL_law_791 : decode cL_law 791 = .ok (.iaload, 1) := by decide +kernel
theorem dL_law_792 : decode cL_law 792 = .ok (.aload_n 3, 1) := by decide +kernel
theorem dL_law_793 : decode cL_law 793 = .ok (.invokestatic 214, 3) := by decide +kernel
theorem dL_law_796 : decode cL_law 796 = .ok (.istore 6, 2) := by decide +kernel
theorem dL_law_798 : decode cL_law 798 = .ok (.aload_n 2, 1) := by decide +kernel
theorem dL_law_799 : decode cL_law 799 = .ok (.aload_n 0, 1) := by decide +kernel
theorem dL_law_800 : decode cL_law 800 = .ok (.iload 5, 2) := by decide +kernel
theorem dL_law_802 : decode cL_law 802 = .ok (.iconst 1, 1) := by decide +kernel
theorem dL_law_803 : decode cL_law 803 = .ok (.iadd, 1) := by decide +kernel
theorem dL_law_804 : decode cL_law 804 = .ok (.iaload, 1) := by decide +kernel
theorem dL_law_805 : decode cL_law 805 = .ok (.aload_n 0, 1) := by decide +kernel
theorem dL_law_806 : decode cL_law 806 = .ok (.iload 5, 2) := by decide +kernel
theorem dL_law_808 : decode cL_law 808 = .ok (.iconst 2, 1) := by decide +kernel
theorem dL_law_809 : decode cL_law 809 = .ok (.iadd, 1) := by decide +kernel
theorem dL_law_810 : decode cL_law 810 = .ok (.iaload, 1) := by decide +kernel
theorem dL_law_811 : decode cL_law 811 = .ok (.invokevirtual 216, 3) := by decide +kernel
theorem dL_law_814 : decode cL_law 814 = .ok (.istore 7, 2) := by decide +kernel
theorem dL_law_816 : decode cL_law 816 = .ok (.aload_n 2, 1) := by decide +kernel
theorem dL_law_817 : decode cL_law 817 = .ok (.invokevirtual 188, 3) := by decide +kernel
theorem dL_law_820 : decode cL_law 820 = .ok (.iload 6, 2) := by decide +kernel
theorem dL_law_822 : decode cL_law 822 = .ok (.if_icmp .eq 5, 3) := by decide +kernel
theorem dL_law_825 : decode cL_law 825 = .ok (.iconst 0, 1) := by decide +kernel
theorem dL_law_826 : decode cL_law 826 = .ok (.ireturn, 1) := by decide +kernel
theorem dL_law_827 : decode cL_law 827 = .ok (.iload 6, 2) := by decide +kernel
theorem dL_law_829 : decode cL_law 829 = .ok (.ifCond .ne 22, 3) := by decide +kernel
theorem dL_law_832 : decode cL_law 832 = .ok (.aload_n 3, 1) := by decide +kernel
theorem dL_law_833 : decode cL_law 833 = .ok (.iconst 0, 1) := by decide +kernel
theorem dL_law_834 : decode cL_law 834 = .ok (.laload, 1) := by decide +kernel
theorem dL_law_835 : decode cL_law 835 = .ok (.iload 7, 2) := by decide +kernel
theorem dL_law_837 : decode cL_law 837 = .ok (.ifCond .eq 7, 3) := by decide +kernel
theorem dL_law_840 : decode cL_law 840 = .ok (.lconst 1, 1) := by decide +kernel
theorem dL_law_841 : decode cL_law 841 = .ok (.goto 4, 3) := by decide +kernel
theorem dL_law_844 : decode cL_law 844 = .ok (.lconst 0, 1) := by decide +kernel
theorem dL_law_845 : decode cL_law 845 = .ok (.lcmp, 1) := by decide +kernel
theorem dL_law_846 : decode cL_law 846 = .ok (.ifCond .eq 5, 3) := by decide +kernel
theorem dL_law_849 : decode cL_law 849 = .ok (.iconst 0, 1) := by decide +kernel
theorem dL_law_850 : decode cL_law 850 = .ok (.ireturn, 1) := by decide +kernel
theorem dL_law_851 : decode cL_law 851 = .ok (.goto 3138, 3) := by decide +kernel
theorem dL_law_854 : decode cL_law 854 = .ok (.aload_n 1, 1) := by decide +kernel
theorem dL_law_855 : decode cL_law 855 = .ok (.aload_n 0, 1) := by decide +kernel
theorem dL_law_856 : decode cL_law 856 = .ok (.iload 5, 2) := by decide +kernel
theorem dL_law_858 : decode cL_law 858 = .ok (.iconst 1, 1) := by decide +kernel
theorem dL_law_859 : decode cL_law 859 = .ok (.iadd, 1) := by decide +kernel
theorem dL_law_860 : decode cL_law 860 = .ok (.iaload, 1) := by decide +kernel
theorem dL_law_861 : decode cL_law 861 = .ok (.aload_n 0, 1) := by decide +kernel
theorem dL_law_862 : decode cL_law 862 = .ok (.iload 5, 2) := by decide +kernel
theorem dL_law_864 : decode cL_law 864 = .ok (.iconst 2, 1) := by decide +kernel
theorem dL_law_865 : decode cL_law 865 = .ok (.iadd, 1) := by decide +kernel
theorem dL_law_866 : decode cL_law 866 = .ok (.iaload, 1) := by decide +kernel
theorem dL_law_867 : decode cL_law 867 = .ok (.aload_n 3, 1) := by decide +kernel
theorem dL_law_868 : decode cL_law 868 = .ok (.invokestatic 217, 3) := by decide +kernel
theorem dL_law_871 : decode cL_law 871 = .ok (.istore 6, 2) := by decide +kernel
theorem dL_law_873 : decode cL_law 873 = .ok (.aload_n 2, 1) := by decide +kernel
theorem dL_law_874 : decode cL_law 874 = .ok (.aload_n 0, 1) := by decide +kernel
theorem dL_law_875 : decode cL_law 875 = .ok (.iload 5, 2) := by decide +kernel
theorem dL_law_877 : decode cL_law 877 = .ok (.iconst 1, 1) := by decide +kernel
theorem dL_law_878 : decode cL_law 878 = .ok (.iadd, 1) := by decide +kernel
theorem dL_law_879 : decode cL_law 879 = .ok (.iaload, 1) := by decide +kernel
theorem dL_law_880 : decode cL_law 880 = .ok (.aload_n 0, 1) := by decide +kernel
theorem dL_law_881 : decode cL_law 881 = .ok (.iload 5, 2) := by decide +kernel
theorem dL_law_883 : decode cL_law 883 = .ok (.iconst 2, 1) := by decide +kernel
theorem dL_law_884 : decode cL_law 884 = .ok (.iadd, 1) := by decide +kernel
theorem dL_law_885 : decode cL_law 885 = .ok (.iaload, 1) := by decide +kernel
theorem dL_law_886 : decode cL_law 886 = .ok (.invokevirtual 219, 3) := by decide +kernel
theorem dL_law_889 : decode cL_law 889 = .ok (.istore 7, 2) := by decide +kernel
theorem dL_law_891 : decode cL_law 891 = .ok (.aload_n 2, 1) := by decide +kernel
theorem dL_law_892 : decode cL_law 892 = .ok (.invokevirtual 188, 3) := by decide +kernel
theorem dL_law_895 : decode cL_law 895 = .ok (.iload 6, 2) := by decide +kernel
theorem dL_law_897 : decode cL_law 897 = .ok (.if_icmp .eq 5, 3) := by decide +kernel
theorem dL_law_900 : decode cL_law 900 = .ok (.iconst 0, 1) := by decide +kernel
theorem dL_law_901 : decode cL_law 901 = .ok (.ireturn, 1) := by decide +kernel
theorem dL_law_902 : decode cL_law 902 = .ok (.iload 6, 2) := by decide +kernel
theorem dL_law_904 : decode cL_law 904 = .ok (.ifCond .ne 15, 3) := by decide +kernel
theorem dL_law_907 : decode cL_law 907 = .ok (.aload_n 3, 1) := by decide +kernel
theorem dL_law_908 : decode cL_law 908 = .ok (.iconst 0, 1) := by decide +kernel
theorem dL_law_909 : decode cL_law 909 = .ok (.laload, 1) := by decide +kernel
theorem dL_law_910 : decode cL_law 910 = .ok (.iload 7, 2) := by decide +kernel
theorem dL_law_912 : decode cL_law 912 = .ok (.i2l, 1) := by decide +kernel
theorem dL_law_913 : decode cL_law 913 = .ok (.lcmp, 1) := by decide +kernel
theorem dL_law_914 : decode cL_law 914 = .ok (.ifCond .eq 5, 3) := by decide +kernel
theorem dL_law_917 : decode cL_law 917 = .ok (.iconst 0, 1) := by decide +kernel
theorem dL_law_918 : decode cL_law 918 = .ok (.ireturn, 1) := by decide +kernel
theorem dL_law_919 : decode cL_law 919 = .ok (.goto 3070, 3) := by decide +kernel
theorem dL_law_922 : decode cL_law 922 = .ok (.aload_n 1, 1) := by decide +kernel
theorem dL_law_923 : decode cL_law 923 = .ok (.aload_n 0, 1) := by decide +kernel
theorem dL_law_924 : decode cL_law 924 = .ok (.iload 5, 2) := by decide +kernel
theorem dL_law_926 : decode cL_law 926 = .ok (.iconst 1, 1) := by decide +kernel
theorem dL_law_927 : decode cL_law 927 = .ok (.iadd, 1) := by decide +kernel
theorem dL_law_928 : decode cL_law 928 = .ok (.iaload, 1) := by decide +kernel
theorem dL_law_929 : decode cL_law 929 = .ok (.aload_n 0, 1) := by decide +kernel
theorem dL_law_930 : decode cL_law 930 = .ok (.iload 5, 2) := by decide +kernel
theorem dL_law_932 : decode cL_law 932 = .ok (.iconst 2, 1) := by decide +kernel
theorem dL_law_933 : decode cL_law 933 = .ok (.iadd, 1) := by decide +kernel
theorem dL_law_934 : decode cL_law 934 = .ok (.iaload, 1) := by decide +kernel
theorem dL_law_935 : decode cL_law 935 = .ok (.aload_n 0, 1) := by decide +kernel
theorem dL_law_936 : decode cL_law 936 = .ok (.iload 5, 2) := by decide +kernel
theorem dL_law_938 : decode cL_law 938 = .ok (.iconst 3, 1) := by decide +kernel
theorem dL_law_939 : decode cL_law 939 = .ok (.iadd, 1) := by decide +kernel
theorem dL_law_940 : decode cL_law 940 = .ok (.iaload, 1) := by decide +kernel
theorem dL_law_941 : decode cL_law 941 = .ok (.aload_n 3, 1) := by decide +kernel
theorem dL_law_942 : decode cL_law 942 = .ok (.invokestatic 220, 3) := by decide +kernel
theorem dL_law_945 : decode cL_law 945 = .ok (.istore 6, 2) := by decide +kernel
theorem dL_law_947 : decode cL_law 947 = .ok (.aload_n 2, 1) := by decide +kernel
theorem dL_law_948 : decode cL_law 948 = .ok (.aload_n 0, 1) := by decide +kernel
theorem dL_law_949 : decode cL_law 949 = .ok (.iload 5, 2) := by decide +kernel
theorem dL_law_951 : decode cL_law 951 = .ok (.iconst 1, 1) := by decide +kernel
theorem dL_law_952 : decode cL_law 952 = .ok (.iadd, 1) := by decide +kernel
theorem dL_law_953 : decode cL_law 953 = .ok (.iaload, 1) := by decide +kernel
theorem dL_law_954 : decode cL_law 954 = .ok (.aload_n 0, 1) := by decide +kernel
theorem dL_law_955 : decode cL_law 955 = .ok (.iload 5, 2) := by decide +kernel
theorem dL_law_957 : decode cL_law 957 = .ok (.iconst 2, 1) := by decide +kernel
theorem dL_law_958 : decode cL_law 958 = .ok (.iadd, 1) := by decide +kernel
theorem dL_law_959 : decode cL_law 959 = .ok (.iaload, 1) := by decide +kernel
theorem dL_law_960 : decode cL_law 960 = .ok (.aload_n 0, 1) := by decide +kernel
theorem dL_law_961 : decode cL_law 961 = .ok (.iload 5, 2) := by decide +kernel
theorem dL_law_963 : decode cL_law 963 = .ok (.iconst 3, 1) := by decide +kernel
theorem dL_law_964 : decode cL_law 964 = .ok (.iadd, 1) := by decide +kernel
theorem dL_law_965 : decode cL_law 965 = .ok (.iaload, 1) := by decide +kernel
theorem dL_law_966 : decode cL_law 966 = .ok (.invokevirtual 222, 3) := by decide +kernel
theorem dL_law_969 : decode cL_law 969 = .ok (.istore 7, 2) := by decide +kernel
theorem dL_law_971 : decode cL_law 971 = .ok (.aload_n 2, 1) := by decide +kernel
theorem dL_law_972 : decode cL_law 972 = .ok (.invokevirtual 188, 3) := by decide +kernel
theorem dL_law_975 : decode cL_law 975 = .ok (.iload 6, 2) := by decide +kernel
theorem dL_law_977 : decode cL_law 977 = .ok (.if_icmp .eq 5, 3) := by decide +kernel
theorem dL_law_980 : decode cL_law 980 = .ok (.iconst 0, 1) := by decide +kernel
theorem dL_law_981 : decode cL_law 981 = .ok (.ireturn, 1) := by decide +kernel
theorem dL_law_982 : decode cL_law 982 = .ok (.iload 6, 2) := by decide +kernel
theorem dL_law_984 : decode cL_law 984 = .ok (.ifCond .ne 15, 3) := by decide +kernel
theorem dL_law_987 : decode cL_law 987 = .ok (.aload_n 3, 1) := by decide +kernel
theorem dL_law_988 : decode cL_law 988 = .ok (.iconst 0, 1) := by decide +kernel
theorem dL_law_989 : decode cL_law 989 = .ok (.laload, 1) := by decide +kernel
theorem dL_law_990 : decode cL_law 990 = .ok (.iload 7, 2) := by decide +kernel
theorem dL_law_992 : decode cL_law 992 = .ok (.i2l, 1) := by decide +kernel
theorem dL_law_993 : decode cL_law 993 = .ok (.lcmp, 1) := by decide +kernel
theorem dL_law_994 : decode cL_law 994 = .ok (.ifCond .eq 5, 3) := by decide +kernel
theorem dL_law_997 : decode cL_law 997 = .ok (.iconst 0, 1) := by decide +kernel
theorem dL_law_998 : decode cL_law 998 = .ok (.ireturn, 1) := by decide +kernel
theorem dL_law_999 : decode cL_law 999 = .ok (.goto 2990, 3) := by decide +kernel
theorem dL_law_1002 : decode cL_law 1002 = .ok (.aload_n 1, 1) := by decide +kernel
theorem dL_law_1003 : decode cL_law 1003 = .ok (.aload_n 0, 1) := by decide +kernel
theorem dL_law_1004 : decode cL_law 1004 = .ok (.iload 5, 2) := by decide +kernel
theorem dL_law_1006 : decode cL_law 1006 = .ok (.iconst 1, 1) := by decide +kernel
theorem dL_law_1007 : decode cL_law 1007 = .ok (.iadd, 1) := by decide +kernel
theorem dL_law_1008 : decode cL_law 1008 = .ok (.iaload, 1) := by decide +kernel
theorem dL_law_1009 : decode cL_law 1009 = .ok (.aload_n 0, 1) := by decide +kernel
theorem dL_law_1010 : decode cL_law 1010 = .ok (.iload 5, 2) := by decide +kernel
theorem dL_law_1012 : decode cL_law 1012 = .ok (.iconst 2, 1) := by decide +kernel
theorem dL_law_1013 : decode cL_law 1013 = .ok (.iadd, 1) := by decide +kernel
theorem dL_law_1014 : decode cL_law 1014 = .ok (.iaload, 1) := by decide +kernel
theorem dL_law_1015 : decode cL_law 1015 = .ok (.aload_n 0, 1) := by decide +kernel
theorem dL_law_1016 : decode cL_law 1016 = .ok (.iload 5, 2) := by decide +kernel
theorem dL_law_1018 : decode cL_law 1018 = .ok (.iconst 3, 1) := by decide +kernel
theorem dL_law_1019 : decode cL_law 1019 = .ok (.iadd, 1) := by decide +kernel
theorem dL_law_1020 : decode cL_law 1020 = .ok (.iaload, 1) := by decide +kernel
theorem dL_law_1021 : decode cL_law 1021 = .ok (.aload_n 0, 1) := by decide +kernel
theorem dL_law_1022 : decode cL_law 1022 = .ok (.iload 5, 2) := by decide +kernel
theorem dL_law_1024 : decode cL_law 1024 = .ok (.iconst 4, 1) := by decide +kernel
theorem dL_law_1025 : decode cL_law 1025 = .ok (.iadd, 1) := by decide +kernel
theorem dL_law_1026 : decode cL_law 1026 = .ok (.iaload, 1) := by decide +kernel
theorem dL_law_1027 : decode cL_law 1027 = .ok (.aload_n 3, 1) := by decide +kernel
theorem dL_law_1028 : decode cL_law 1028 = .ok (.invokestatic 223, 3) := by decide +kernel
theorem dL_law_1031 : decode cL_law 1031 = .ok (.istore 6, 2) := by decide +kernel
theorem dL_law_1033 : decode cL_law 1033 = .ok (.aload_n 2, 1) := by decide +kernel
theorem dL_law_1034 : decode cL_law 1034 = .ok (.aload_n 0, 1) := by decide +kernel
theorem dL_law_1035 : decode cL_law 1035 = .ok (.iload 5, 2) := by decide +kernel
theorem dL_law_1037 : decode cL_law 1037 = .ok (.iconst 1, 1) := by decide +kernel
theorem dL_law_1038 : decode cL_law 1038 = .ok (.iadd, 1) := by decide +kernel
theorem dL_law_1039 : decode cL_law 1039 = .ok (.iaload, 1) := by decide +kernel
theorem dL_law_1040 : decode cL_law 1040 = .ok (.aload_n 0, 1) := by decide +kernel
theorem dL_law_1041 : decode cL_law 1041 = .ok (.iload 5, 2) := by decide +kernel
theorem dL_law_1043 : decode cL_law 1043 = .ok (.iconst 2, 1) := by decide +kernel
theorem dL_law_1044 : decode cL_law 1044 = .ok (.iadd, 1) := by decide +kernel
theorem dL_law_1045 : decode cL_law 1045 = .ok (.iaload, 1) := by decide +kernel
theorem dL_law_1046 : decode cL_law 1046 = .ok (.aload_n 0, 1) := by decide +kernel
theorem dL_law_1047 : decode cL_law 1047 = .ok (.iload 5, 2) := by decide +kernel
theorem dL_law_1049 : decode cL_law 1049 = .ok (.iconst 3, 1) := by decide +kernel
theorem dL_law_1050 : decode cL_law 1050 = .ok (.iadd, 1) := by decide +kernel
theorem dL_law_1051 : decode cL_law 1051 = .ok (.iaload, 1) := by decide +kernel
theorem dL_law_1052 : decode cL_law 1052 = .ok (.aload_n 0, 1) := by decide +kernel
theorem dL_law_1053 : decode cL_law 1053 = .ok (.iload 5, 2) := by decide +kernel
theorem dL_law_1055 : decode cL_law 1055 = .ok (.iconst 4, 1) := by decide +kernel
theorem dL_law_1056 : decode cL_law 1056 = .ok (.iadd, 1) := by decide +kernel
theorem dL_law_1057 : decode cL_law 1057 = .ok (.iaload, 1) := by decide +kernel
theorem dL_law_1058 : decode cL_law 1058 = .ok (.invokevirtual 225, 3) := by decide +kernel
theorem dL_law_1061 : decode cL_law 1061 = .ok (.istore 7, 2) := by decide +kernel
theorem dL_law_1063 : decode cL_law 1063 = .ok (.aload_n 2, 1) := by decide +kernel
theorem dL_law_1064 : decode cL_law 1064 = .ok (.invokevirtual 188, 3) := by decide +kernel
theorem dL_law_1067 : decode cL_law 1067 = .ok (.iload 6, 2) := by decide +kernel
theorem dL_law_1069 : decode cL_law 1069 = .ok (.if_icmp .eq 5, 3) := by decide +kernel
theorem dL_law_1072 : decode cL_law 1072 = .ok (.iconst 0, 1) := by decide +kernel
theorem dL_law_1073 : decode cL_law 1073 = .ok (.ireturn, 1) := by decide +kernel
theorem dL_law_1074 : decode cL_law 1074 = .ok (.iload 6, 2) := by decide +kernel
theorem dL_law_1076 : decode cL_law 1076 = .ok (.ifCond .ne 15, 3) := by decide +kernel
theorem dL_law_1079 : decode cL_law 1079 = .ok (.aload_n 3, 1) := by decide +kernel
theorem dL_law_1080 : decode cL_law 1080 = .ok (.iconst 0, 1) := by decide +kernel
theorem dL_law_1081 : decode cL_law 1081 = .ok (.laload, 1) := by decide +kernel
theorem dL_law_1082 : decode cL_law 1082 = .ok (.iload 7, 2) := by decide +kernel
theorem dL_law_1084 : decode cL_law 1084 = .ok (.i2l, 1) := by decide +kernel
theorem dL_law_1085 : decode cL_law 1085 = .ok (.lcmp, 1) := by decide +kernel
theorem dL_law_1086 : decode cL_law 1086 = .ok (.ifCond .eq 5, 3) := by decide +kernel
theorem dL_law_1089 : decode cL_law 1089 = .ok (.iconst 0, 1) := by decide +kernel
theorem dL_law_1090 : decode cL_law 1090 = .ok (.ireturn, 1) := by decide +kernel
theorem dL_law_1091 : decode cL_law 1091 = .ok (.goto 2898, 3) := by decide +kernel
theorem dL_law_1094 : decode cL_law 1094 = .ok (.aload_n 1, 1) := by decide +kernel
theorem dL_law_1095 : decode cL_law 1095 = .ok (.invokevirtual 226, 3) := by decide +kernel
theorem dL_law_1098 : decode cL_law 1098 = .ok (.aload_n 2, 1) := by decide +kernel
theorem dL_law_1099 : decode cL_law 1099 = .ok (.invokevirtual 229, 3) := by decide +kernel
theorem dL_law_1102 : decode cL_law 1102 = .ok (.if_icmp .eq 2887, 3) := by decide +kernel
theorem dL_law_1105 : decode cL_law 1105 = .ok (.iconst 0, 1) := by decide +kernel
theorem dL_law_1106 : decode cL_law 1106 = .ok (.ireturn, 1) := by decide +kernel
theorem dL_law_1107 : decode cL_law 1107 = .ok (.aload_n 1, 1) := by decide +kernel
theorem dL_law_1108 : decode cL_law 1108 = .ok (.aload_n 0, 1) := by decide +kernel
theorem dL_law_1109 : decode cL_law 1109 = .ok (.iload 5, 2) := by decide +kernel
theorem dL_law_1111 : decode cL_law 1111 = .ok (.iconst 1, 1) := by decide +kernel
theorem dL_law_1112 : decode cL_law 1112 = .ok (.iadd, 1) := by decide +kernel
theorem dL_law_1113 : decode cL_law 1113 = .ok (.iaload, 1) := by decide +kernel
theorem dL_law_1114 : decode cL_law 1114 = .ok (.aload_n 3, 1) := by decide +kernel
theorem dL_law_1115 : decode cL_law 1115 = .ok (.invokestatic 230, 3) := by decide +kernel
theorem dL_law_1118 : decode cL_law 1118 = .ok (.istore 6, 2) := by decide +kernel
theorem dL_law_1120 : decode cL_law 1120 = .ok (.aload_n 2, 1) := by decide +kernel
theorem dL_law_1121 : decode cL_law 1121 = .ok (.aload_n 0, 1) := by decide +kernel
theorem dL_law_1122 : decode cL_law 1122 = .ok (.iload 5, 2) := by decide +kernel
theorem dL_law_1124 : decode cL_law 1124 = .ok (.iconst 1, 1) := by decide +kernel
theorem dL_law_1125 : decode cL_law 1125 = .ok (.iadd, 1) := by decide +kernel
theorem dL_law_1126 : decode cL_law 1126 = .ok (.iaload, 1) := by decide +kernel
theorem dL_law_1127 : decode cL_law 1127 = .ok (.invokevirtual 232, 3) := by decide +kernel
theorem dL_law_1130 : decode cL_law 1130 = .ok (.istore 7, 2) := by decide +kernel
theorem dL_law_1132 : decode cL_law 1132 = .ok (.aload_n 2, 1) := by decide +kernel
theorem dL_law_1133 : decode cL_law 1133 = .ok (.invokevirtual 188, 3) := by decide +kernel
theorem dL_law_1136 : decode cL_law 1136 = .ok (.iload 6, 2) := by decide +kernel
theorem dL_law_1138 : decode cL_law 1138 = .ok (.if_icmp .eq 5, 3) := by decide +kernel
theorem dL_law_1141 : decode cL_law 1141 = .ok (.iconst 0, 1) := by decide +kernel
theorem dL_law_1142 : decode cL_law 1142 = .ok (.ireturn, 1) := by decide +kernel
theorem dL_law_1143 : decode cL_law 1143 = .ok (.iload 6, 2) := by decide +kernel
theorem dL_law_1145 : decode cL_law 1145 = .ok (.ifCond .ne 15, 3) := by decide +kernel
theorem dL_law_1148 : decode cL_law 1148 = .ok (.aload_n 3, 1) := by decide +kernel
theorem dL_law_1149 : decode cL_law 1149 = .ok (.iconst 0, 1) := by decide +kernel
theorem dL_law_1150 : decode cL_law 1150 = .ok (.laload, 1) := by decide +kernel
theorem dL_law_1151 : decode cL_law 1151 = .ok (.iload 7, 2) := by decide +kernel
theorem dL_law_1153 : decode cL_law 1153 = .ok (.i2l, 1) := by decide +kernel
theorem dL_law_1154 : decode cL_law 1154 = .ok (.lcmp, 1) := by decide +kernel
theorem dL_law_1155 : decode cL_law 1155 = .ok (.ifCond .eq 5, 3) := by decide +kernel
theorem dL_law_1158 : decode cL_law 1158 = .ok (.iconst 0, 1) := by decide +kernel
theorem dL_law_1159 : decode cL_law 1159 = .ok (.ireturn, 1) := by decide +kernel
theorem dL_law_1160 : decode cL_law 1160 = .ok (.goto 2829, 3) := by decide +kernel
theorem dL_law_1163 : decode cL_law 1163 = .ok (.aload_n 1, 1) := by decide +kernel
theorem dL_law_1164 : decode cL_law 1164 = .ok (.aload_n 0, 1) := by decide +kernel
theorem dL_law_1165 : decode cL_law 1165 = .ok (.iload 5, 2) := by decide +kernel
theorem dL_law_1167 : decode cL_law 1167 = .ok (.iconst 1, 1) := by decide +kernel
theorem dL_law_1168 : decode cL_law 1168 = .ok (.iadd, 1) := by decide +kernel
theorem dL_law_1169 : decode cL_law 1169 = .ok (.iaload, 1) := by decide +kernel
theorem dL_law_1170 : decode cL_law 1170 = .ok (.aload_n 0, 1) := by decide +kernel
theorem dL_law_1171 : decode cL_law 1171 = .ok (.iload 5, 2) := by decide +kernel
theorem dL_law_1173 : decode cL_law 1173 = .ok (.iconst 2, 1) := by decide +kernel
theorem dL_law_1174 : decode cL_law 1174 = .ok (.iadd, 1) := by decide +kernel
theorem dL_law_1175 : decode cL_law 1175 = .ok (.iaload, 1) := by decide +kernel
theorem dL_law_1176 : decode cL_law 1176 = .ok (.aload_n 3, 1) := by decide +kernel
theorem dL_law_1177 : decode cL_law 1177 = .ok (.invokestatic 233, 3) := by decide +kernel
theorem dL_law_1180 : decode cL_law 1180 = .ok (.istore 6, 2) := by decide +kernel
theorem dL_law_1182 : decode cL_law 1182 = .ok (.aload_n 2, 1) := by decide +kernel
theorem dL_law_1183 : decode cL_law 1183 = .ok (.aload_n 0, 1) := by decide +kernel
theorem dL_law_1184 : decode cL_law 1184 = .ok (.iload 5, 2) := by decide +kernel
theorem dL_law_1186 : decode cL_law 1186 = .ok (.iconst 1, 1) := by decide +kernel
theorem dL_law_1187 : decode cL_law 1187 = .ok (.iadd, 1) := by decide +kernel
theorem dL_law_1188 : decode cL_law 1188 = .ok (.iaload, 1) := by decide +kernel
theorem dL_law_1189 : decode cL_law 1189 = .ok (.aload_n 0, 1) := by decide +kernel
theorem dL_law_1190 : decode cL_law 1190 = .ok (.iload 5, 2) := by decide +kernel
theorem dL_law_1192 : decode cL_law 1192 = .ok (.iconst 2, 1) := by decide +kernel
theorem dL_law_1193 : decode cL_law 1193 = .ok (.iadd, 1) := by decide +kernel
theorem dL_law_1194 : decode cL_law 1194 = .ok (.iaload, 1) := by decide +kernel
theorem dL_law_1195 : decode cL_law 1195 = .ok (.invokevirtual 235, 3) := by decide +kernel
theorem dL_law_1198 : decode cL_law 1198 = .ok (.istore 7, 2) := by decide +kernel
theorem dL_law_1200 : decode cL_law 1200 = .ok (.aload_n 2, 1) := by decide +kernel
theorem dL_law_1201 : decode cL_law 1201 = .ok (.invokevirtual 188, 3) := by decide +kernel
theorem dL_law_1204 : decode cL_law 1204 = .ok (.iload 6, 2) := by decide +kernel
theorem dL_law_1206 : decode cL_law 1206 = .ok (.if_icmp .eq 5, 3) := by decide +kernel
theorem dL_law_1209 : decode cL_law 1209 = .ok (.iconst 0, 1) := by decide +kernel
theorem dL_law_1210 : decode cL_law 1210 = .ok (.ireturn, 1) := by decide +kernel
theorem dL_law_1211 : decode cL_law 1211 = .ok (.iload 6, 2) := by decide +kernel
theorem dL_law_1213 : decode cL_law 1213 = .ok (.ifCond .ne 15, 3) := by decide +kernel
theorem dL_law_1216 : decode cL_law 1216 = .ok (.aload_n 3, 1) := by decide +kernel
theorem dL_law_1217 : decode cL_law 1217 = .ok (.iconst 0, 1) := by decide +kernel
theorem dL_law_1218 : decode cL_law 1218 = .ok (.laload, 1) := by decide +kernel
theorem dL_law_1219 : decode cL_law 1219 = .ok (.iload 7, 2) := by decide +kernel
theorem dL_law_1221 : decode cL_law 1221 = .ok (.i2l, 1) := by decide +kernel
theorem dL_law_1222 : decode cL_law 1222 = .ok (.lcmp, 1) := by decide +kernel
theorem dL_law_1223 : decode cL_law 1223 = .ok (.ifCond .eq 5, 3) := by decide +kernel
theorem dL_law_1226 : decode cL_law 1226 = .ok (.iconst 0, 1) := by decide +kernel
theorem dL_law_1227 : decode cL_law 1227 = .ok (.ireturn, 1) := by decide +kernel
theorem dL_law_1228 : decode cL_law 1228 = .ok (.goto 2761, 3) := by decide +kernel
theorem dL_law_1231 : decode cL_law 1231 = .ok (.aload_n 1, 1) := by decide +kernel
theorem dL_law_1232 : decode cL_law 1232 = .ok (.aload_n 0, 1) := by decide +kernel
theorem dL_law_1233 : decode cL_law 1233 = .ok (.iload 5, 2) := by decide +kernel
theorem dL_law_1235 : decode cL_law 1235 = .ok (.iconst 1, 1) := by decide +kernel
theorem dL_law_1236 : decode cL_law 1236 = .ok (.iadd, 1) := by decide +kernel
theorem dL_law_1237 : decode cL_law 1237 = .ok (.iaload, 1) := by decide +kernel
theorem dL_law_1238 : decode cL_law 1238 = .ok (.aload_n 0, 1) := by decide +kernel
theorem dL_law_1239 : decode cL_law 1239 = .ok (.iload 5, 2) := by decide +kernel
theorem dL_law_1241 : decode cL_law 1241 = .ok (.iconst 2, 1) := by decide +kernel
theorem dL_law_1242 : decode cL_law 1242 = .ok (.iadd, 1) := by decide +kernel
theorem dL_law_1243 : decode cL_law 1243 = .ok (.iaload, 1) := by decide +kernel
theorem dL_law_1244 : decode cL_law 1244 = .ok (.aload_n 0, 1) := by decide +kernel
theorem dL_law_1245 : decode cL_law 1245 = .ok (.iload 5, 2) := by decide +kernel
theorem dL_law_1247 : decode cL_law 1247 = .ok (.iconst 3, 1) := by decide +kernel
theorem dL_law_1248 : decode cL_law 1248 = .ok (.iadd, 1) := by decide +kernel
theorem dL_law_1249 : decode cL_law 1249 = .ok (.iaload, 1) := by decide +kernel
theorem dL_law_1250 : decode cL_law 1250 = .ok (.ifCond .eq 7, 3) := by decide +kernel
theorem dL_law_1253 : decode cL_law 1253 = .ok (.iconst 1, 1) := by decide +kernel
theorem dL_law_1254 : decode cL_law 1254 = .ok (.goto 4, 3) := by decide +kernel
theorem dL_law_1257 : decode cL_law 1257 = .ok (.iconst 0, 1) := by decide +kernel
theorem dL_law_1258 : decode cL_law 1258 = .ok (.aload_n 3, 1) := by decide +kernel
theorem dL_law_1259 : decode cL_law 1259 = .ok (.invokestatic 236, 3) := by decide +kernel
theorem dL_law_1262 : decode cL_law 1262 = .ok (.istore 6, 2) := by decide +kernel
theorem dL_law_1264 : decode cL_law 1264 = .ok (.aload_n 2, 1) := by decide +kernel
theorem dL_law_1265 : decode cL_law 1265 = .ok (.aload_n 0, 1) := by decide +kernel
theorem dL_law_1266 : decode cL_law 1266 = .ok (.iload 5, 2) := by decide +kernel
theorem dL_law_1268 : decode cL_law 1268 = .ok (.iconst 1, 1) := by decide +kernel
theorem dL_law_1269 : decode cL_law 1269 = .ok (.iadd, 1) := by decide +kernel
theorem dL_law_1270 : decode cL_law 1270 = .ok (.iaload, 1) := by decide +kernel
theorem dL_law_1271 : decode cL_law 1271 = .ok (.aload_n 0, 1) := by decide +kernel
theorem dL_law_1272 : decode cL_law 1272 = .ok (.iload 5, 2) := by decide +kernel
theorem dL_law_1274 : decode cL_law 1274 = .ok (.iconst 2, 1) := by decide +kernel
theorem dL_law_1275 : decode cL_law 1275 = .ok (.iadd, 1) := by decide +kernel
theorem dL_law_1276 : decode cL_law 1276 = .ok (.iaload, 1) := by decide +kernel
theorem dL_law_1277 : decode cL_law 1277 = .ok (.aload_n 0, 1) := by decide +kernel
theorem dL_law_1278 : decode cL_law 1278 = .ok (.iload 5, 2) := by decide +kernel
theorem dL_law_1280 : decode cL_law 1280 = .ok (.iconst 3, 1) := by decide +kernel
theorem dL_law_1281 : decode cL_law 1281 = .ok (.iadd, 1) := by decide +kernel
theorem dL_law_1282 : decode cL_law 1282 = .ok (.iaload, 1) := by decide +kernel
theorem dL_law_1283 : decode cL_law 1283 = .ok (.ifCond .eq 7, 3) := by decide +kernel
theorem dL_law_1286 : decode cL_law 1286 = .ok (.iconst 1, 1) := by decide +kernel
theorem dL_law_1287 : decode cL_law 1287 = .ok (.goto 4, 3) := by decide +kernel
theorem dL_law_1290 : decode cL_law 1290 = .ok (.iconst 0, 1) := by decide +kernel
theorem dL_law_1291 : decode cL_law 1291 = .ok (.invokevirtual 238, 3) := by decide +kernel
theorem dL_law_1294 : decode cL_law 1294 = .ok (.istore 7, 2) := by decide +kernel
theorem dL_law_1296 : decode cL_law 1296 = .ok (.aload_n 2, 1) := by decide +kernel
theorem dL_law_1297 : decode cL_law 1297 = .ok (.invokevirtual 188, 3) := by decide +kernel
theorem dL_law_1300 : decode cL_law 1300 = .ok (.iload 6, 2) := by decide +kernel
theorem dL_law_1302 : decode cL_law 1302 = .ok (.if_icmp .eq 5, 3) := by decide +kernel
theorem dL_law_1305 : decode cL_law 1305 = .ok (.iconst 0, 1) := by decide +kernel
theorem dL_law_1306 : decode cL_law 1306 = .ok (.ireturn, 1) := by decide +kernel
theorem dL_law_1307 : decode cL_law 1307 = .ok (.iload 6, 2) := by decide +kernel
theorem dL_law_1309 : decode cL_law 1309 = .ok (.ifCond .ne 15, 3) := by decide +kernel
theorem dL_law_1312 : decode cL_law 1312 = .ok (.aload_n 3, 1) := by decide +kernel
theorem dL_law_1313 : decode cL_law 1313 = .ok (.iconst 0, 1) := by decide +kernel
theorem dL_law_1314 : decode cL_law 1314 = .ok (.laload, 1) := by decide +kernel
theorem dL_law_1315 : decode cL_law 1315 = .ok (.iload 7, 2) := by decide +kernel
theorem dL_law_1317 : decode cL_law 1317 = .ok (.i2l, 1) := by decide +kernel
theorem dL_law_1318 : decode cL_law 1318 = .ok (.lcmp, 1) := by decide +kernel
theorem dL_law_1319 : decode cL_law 1319 = .ok (.ifCond .eq 5, 3) := by decide +kernel
theorem dL_law_1322 : decode cL_law 1322 = .ok (.iconst 0, 1) := by decide +kernel
theorem dL_law_1323 : decode cL_law 1323 = .ok (.ireturn, 1) := by decide +kernel
theorem dL_law_1324 : decode cL_law 1324 = .ok (.goto 2665, 3) := by decide +kernel
theorem dL_law_1327 : decode cL_law 1327 = .ok (.aload_n 1, 1) := by decide +kernel
theorem dL_law_1328 : decode cL_law 1328 = .ok (.aload_n 0, 1) := by decide +kernel
theorem dL_law_1329 : decode cL_law 1329 = .ok (.iload 5, 2) := by decide +kernel
theorem dL_law_1331 : decode cL_law 1331 = .ok (.iconst 1, 1) := by decide +kernel
theorem dL_law_1332 : decode cL_law 1332 = .ok (.iadd, 1) := by decide +kernel
theorem dL_law_1333 : decode cL_law 1333 = .ok (.iaload, 1) := by decide +kernel
theorem dL_law_1334 : decode cL_law 1334 = .ok (.aload_n 0, 1) := by decide +kernel
theorem dL_law_1335 : decode cL_law 1335 = .ok (.iload 5, 2) := by decide +kernel
theorem dL_law_1337 : decode cL_law 1337 = .ok (.iconst 2, 1) := by decide +kernel
theorem dL_law_1338 : decode cL_law 1338 = .ok (.iadd, 1) := by decide +kernel
theorem dL_law_1339 : decode cL_law 1339 = .ok (.iaload, 1) := by decide +kernel
theorem dL_law_1340 : decode cL_law 1340 = .ok (.aload_n 3, 1) := by decide +kernel
theorem dL_law_1341 : decode cL_law 1341 = .ok (.invokestatic 239, 3) := by decide +kernel
theorem dL_law_1344 : decode cL_law 1344 = .ok (.istore 6, 2) := by decide +kernel
theorem dL_law_1346 : decode cL_law 1346 = .ok (.aload_n 2, 1) := by decide +kernel
theorem dL_law_1347 : decode cL_law 1347 = .ok (.aload_n 0, 1) := by decide +kernel
theorem dL_law_1348 : decode cL_law 1348 = .ok (.iload 5, 2) := by decide +kernel
theorem dL_law_1350 : decode cL_law 1350 = .ok (.iconst 1, 1) := by decide +kernel
theorem dL_law_1351 : decode cL_law 1351 = .ok (.iadd, 1) := by decide +kernel
theorem dL_law_1352 : decode cL_law 1352 = .ok (.iaload, 1) := by decide +kernel
theorem dL_law_1353 : decode cL_law 1353 = .ok (.aload_n 0, 1) := by decide +kernel
theorem dL_law_1354 : decode cL_law 1354 = .ok (.iload 5, 2) := by decide +kernel
theorem dL_law_1356 : decode cL_law 1356 = .ok (.iconst 2, 1) := by decide +kernel
theorem dL_law_1357 : decode cL_law 1357 = .ok (.iadd, 1) := by decide +kernel
theorem dL_law_1358 : decode cL_law 1358 = .ok (.iaload, 1) := by decide +kernel
theorem dL_law_1359 : decode cL_law 1359 = .ok (.invokevirtual 241, 3) := by decide +kernel
theorem dL_law_1362 : decode cL_law 1362 = .ok (.istore 7, 2) := by decide +kernel
theorem dL_law_1364 : decode cL_law 1364 = .ok (.aload_n 2, 1) := by decide +kernel
theorem dL_law_1365 : decode cL_law 1365 = .ok (.invokevirtual 188, 3) := by decide +kernel
theorem dL_law_1368 : decode cL_law 1368 = .ok (.iload 6, 2) := by decide +kernel
theorem dL_law_1370 : decode cL_law 1370 = .ok (.if_icmp .eq 5, 3) := by decide +kernel
theorem dL_law_1373 : decode cL_law 1373 = .ok (.iconst 0, 1) := by decide +kernel
theorem dL_law_1374 : decode cL_law 1374 = .ok (.ireturn, 1) := by decide +kernel
theorem dL_law_1375 : decode cL_law 1375 = .ok (.iload 6, 2) := by decide +kernel
theorem dL_law_1377 : decode cL_law 1377 = .ok (.ifCond .ne 15, 3) := by decide +kernel
theorem dL_law_1380 : decode cL_law 1380 = .ok (.aload_n 3, 1) := by decide +kernel
theorem dL_law_1381 : decode cL_law 1381 = .ok (.iconst 0, 1) := by decide +kernel
theorem dL_law_1382 : decode cL_law 1382 = .ok (.laload, 1) := by decide +kernel
theorem dL_law_1383 : decode cL_law 1383 = .ok (.iload 7, 2) := by decide +kernel
theorem dL_law_1385 : decode cL_law 1385 = .ok (.i2l, 1) := by decide +kernel
theorem dL_law_1386 : decode cL_law 1386 = .ok (.lcmp, 1) := by decide +kernel
theorem dL_law_1387 : decode cL_law 1387 = .ok (.ifCond .eq 5, 3) := by decide +kernel
theorem dL_law_1390 : decode cL_law 1390 = .ok (.iconst 0, 1) := by decide +kernel
theorem dL_law_1391 : decode cL_law 1391 = .ok (.ireturn, 1) := by decide +kernel
theorem dL_law_1392 : decode cL_law 1392 = .ok (.goto 2597, 3) := by decide +kernel
theorem dL_law_1395 : decode cL_law 1395 = .ok (.aload_n 1, 1) := by decide +kernel
theorem dL_law_1396 : decode cL_law 1396 = .ok (.aload_n 0, 1) := by decide +kernel
theorem dL_law_1397 : decode cL_law 1397 = .ok (.iload 5, 2) := by decide +kernel
theorem dL_law_1399 : decode cL_law 1399 = .ok (.iconst 1, 1) := by decide +kernel
theorem dL_law_1400 : decode cL_law 1400 = .ok (.iadd, 1) := by decide +kernel
theorem dL_law_1401 : decode cL_law 1401 = .ok (.iaload, 1) := by decide +kernel
theorem dL_law_1402 : decode cL_law 1402 = .ok (.i2c, 1) := by decide +kernel
theorem dL_law_1403 : decode cL_law 1403 = .ok (.aload_n 3, 1) := by decide +kernel
theorem dL_law_1404 : decode cL_law 1404 = .ok (.invokestatic 242, 3) := by decide +kernel
theorem dL_law_1407 : decode cL_law 1407 = .ok (.istore 6, 2) := by decide +kernel
theorem dL_law_1409 : decode cL_law 1409 = .ok (.aload_n 2, 1) := by decide +kernel
theorem dL_law_1410 : decode cL_law 1410 = .ok (.aload_n 0, 1) := by decide +kernel
theorem dL_law_1411 : decode cL_law 1411 = .ok (.iload 5, 2) := by decide +kernel
theorem dL_law_1413 : decode cL_law 1413 = .ok (.iconst 1, 1) := by decide +kernel
theorem dL_law_1414 : decode cL_law 1414 = .ok (.iadd, 1) := by decide +kernel
theorem dL_law_1415 : decode cL_law 1415 = .ok (.iaload, 1) := by decide +kernel
theorem dL_law_1416 : decode cL_law 1416 = .ok (.i2c, 1) := by decide +kernel
theorem dL_law_1417 : decode cL_law 1417 = .ok (.invokevirtual 245, 3) := by decide +kernel
theorem dL_law_1420 : decode cL_law 1420 = .ok (.istore 7, 2) := by decide +kernel
theorem dL_law_1422 : decode cL_law 1422 = .ok (.aload_n 2, 1) := by decide +kernel
theorem dL_law_1423 : decode cL_law 1423 = .ok (.invokevirtual 188, 3) := by decide +kernel
theorem dL_law_1426 : decode cL_law 1426 = .ok (.iload 6, 2) := by decide +kernel
theorem dL_law_1428 : decode cL_law 1428 = .ok (.if_icmp .eq 5, 3) := by decide +kernel
theorem dL_law_1431 : decode cL_law 1431 = .ok (.iconst 0, 1) := by decide +kernel
theorem dL_law_1432 : decode cL_law 1432 = .ok (.ireturn, 1) := by decide +kernel
theorem dL_law_1433 : decode cL_law 1433 = .ok (.iload 6, 2) := by decide +kernel
theorem dL_law_1435 : decode cL_law 1435 = .ok (.ifCond .ne 15, 3) := by decide +kernel
theorem dL_law_1438 : decode cL_law 1438 = .ok (.aload_n 3, 1) := by decide +kernel
theorem dL_law_1439 : decode cL_law 1439 = .ok (.iconst 0, 1) := by decide +kernel
theorem dL_law_1440 : decode cL_law 1440 = .ok (.laload, 1) := by decide +kernel
theorem dL_law_1441 : decode cL_law 1441 = .ok (.iload 7, 2) := by decide +kernel
theorem dL_law_1443 : decode cL_law 1443 = .ok (.i2l, 1) := by decide +kernel
theorem dL_law_1444 : decode cL_law 1444 = .ok (.lcmp, 1) := by decide +kernel
theorem dL_law_1445 : decode cL_law 1445 = .ok (.ifCond .eq 5, 3) := by decide +kernel
theorem dL_law_1448 : decode cL_law 1448 = .ok (.iconst 0, 1) := by decide +kernel
theorem dL_law_1449 : decode cL_law 1449 = .ok (.ireturn, 1) := by decide +kernel
theorem dL_law_1450 : decode cL_law 1450 = .ok (.goto 2539, 3) := by decide +kernel
theorem dL_law_1453 : decode cL_law 1453 = .ok (.aload_n 1, 1) := by decide +kernel
theorem dL_law_1454 : decode cL_law 1454 = .ok (.aload_n 0, 1) := by decide +kernel
theorem dL_law_1455 : decode cL_law 1455 = .ok (.iload 5, 2) := by decide +kernel
theorem dL_law_1457 : decode cL_law 1457 = .ok (.iconst 1, 1) := by decide +kernel
theorem dL_law_1458 : decode cL_law 1458 = .ok (.iadd, 1) := by decide +kernel
theorem dL_law_1459 : decode cL_law 1459 = .ok (.iaload, 1) := by decide +kernel
theorem dL_law_1460 : decode cL_law 1460 = .ok (.aload_n 3, 1) := by decide +kernel
theorem dL_law_1461 : decode cL_law 1461 = .ok (.invokestatic 246, 3) := by decide +kernel
theorem dL_law_1464 : decode cL_law 1464 = .ok (.istore 6, 2) := by decide +kernel
theorem dL_law_1466 : decode cL_law 1466 = .ok (.aload_n 2, 1) := by decide +kernel
theorem dL_law_1467 : decode cL_law 1467 = .ok (.aload_n 0, 1) := by decide +kernel
theorem dL_law_1468 : decode cL_law 1468 = .ok (.iload 5, 2) := by decide +kernel
theorem dL_law_1470 : decode cL_law 1470 = .ok (.iconst 1, 1) := by decide +kernel
theorem dL_law_1471 : decode cL_law 1471 = .ok (.iadd, 1) := by decide +kernel
theorem dL_law_1472 : decode cL_law 1472 = .ok (.iaload, 1) := by decide +kernel
theorem dL_law_1473 : decode cL_law 1473 = .ok (.invokevirtual 248, 3) := by decide +kernel
theorem dL_law_1476 : decode cL_law 1476 = .ok (.istore 7, 2) := by decide +kernel
theorem dL_law_1478 : decode cL_law 1478 = .ok (.aload_n 2, 1) := by decide +kernel
theorem dL_law_1479 : decode cL_law 1479 = .ok (.invokevirtual 188, 3) := by decide +kernel
theorem dL_law_1482 : decode cL_law 1482 = .ok (.iload 6, 2) := by decide +kernel
theorem dL_law_1484 : decode cL_law 1484 = .ok (.if_icmp .eq 5, 3) := by decide +kernel
theorem dL_law_1487 : decode cL_law 1487 = .ok (.iconst 0, 1) := by decide +kernel
theorem dL_law_1488 : decode cL_law 1488 = .ok (.ireturn, 1) := by decide +kernel
theorem dL_law_1489 : decode cL_law 1489 = .ok (.iload 6, 2) := by decide +kernel
theorem dL_law_1491 : decode cL_law 1491 = .ok (.ifCond .ne 15, 3) := by decide +kernel
theorem dL_law_1494 : decode cL_law 1494 = .ok (.aload_n 3, 1) := by decide +kernel
theorem dL_law_1495 : decode cL_law 1495 = .ok (.iconst 0, 1) := by decide +kernel
theorem dL_law_1496 : decode cL_law 1496 = .ok (.laload, 1) := by decide +kernel
theorem dL_law_1497 : decode cL_law 1497 = .ok (.iload 7, 2) := by decide +kernel
theorem dL_law_1499 : decode cL_law 1499 = .ok (.i2l, 1) := by decide +kernel
theorem dL_law_1500 : decode cL_law 1500 = .ok (.lcmp, 1) := by decide +kernel
theorem dL_law_1501 : decode cL_law 1501 = .ok (.ifCond .eq 5, 3) := by decide +kernel
theorem dL_law_1504 : decode cL_law 1504 = .ok (.iconst 0, 1) := by decide +kernel
theorem dL_law_1505 : decode cL_law 1505 = .ok (.ireturn, 1) := by decide +kernel
theorem dL_law_1506 : decode cL_law 1506 = .ok (.goto 2483, 3) := by decide +kernel
theorem dL_law_1509 : decode cL_law 1509 = .ok (.aload_n 1, 1) := by decide +kernel
theorem dL_law_1510 : decode cL_law 1510 = .ok (.invokevirtual 249, 3) := by decide +kernel
theorem dL_law_1513 : decode cL_law 1513 = .ok (.aload_n 2, 1) := by decide +kernel
theorem dL_law_1514 : decode cL_law 1514 = .ok (.invokevirtual 252, 3) := by decide +kernel
theorem dL_law_1517 : decode cL_law 1517 = .ok (.if_icmp .eq 2472, 3) := by decide +kernel
theorem dL_law_1520 : decode cL_law 1520 = .ok (.iconst 0, 1) := by decide +kernel
theorem dL_law_1521 : decode cL_law 1521 = .ok (.ireturn, 1) := by decide +kernel
theorem dL_law_1522 : decode cL_law 1522 = .ok (.aload_n 1, 1) := by decide +kernel
theorem dL_law_1523 : decode cL_law 1523 = .ok (.aload_n 3, 1) := by decide +kernel
theorem dL_law_1524 : decode cL_law 1524 = .ok (.invokestatic 253, 3) := by decide +kernel
theorem dL_law_1527 : decode cL_law 1527 = .ok (.istore 6, 2) := by decide +kernel
theorem dL_law_1529 : decode cL_law 1529 = .ok (.aload_n 2, 1) := by decide +kernel
theorem dL_law_1530 : decode cL_law 1530 = .ok (.invokevirtual 255, 3) := by decide +kernel
theorem dL_law_1533 : decode cL_law 1533 = .ok (.istore 7, 2) := by decide +kernel
theorem dL_law_1535 : decode cL_law 1535 = .ok (.aload_n 2, 1) := by decide +kernel
theorem dL_law_1536 : decode cL_law 1536 = .ok (.invokevirtual 188, 3) := by decide +kernel
theorem dL_law_1539 : decode cL_law 1539 = .ok (.iload 6, 2) := by decide +kernel
theorem dL_law_1541 : decode cL_law 1541 = .ok (.if_icmp .eq 5, 3) := by decide +kernel
theorem dL_law_1544 : decode cL_law 1544 = .ok (.iconst 0, 1) := by decide +kernel
theorem dL_law_1545 : decode cL_law 1545 = .ok (.ireturn, 1) := by decide +kernel
theorem dL_law_1546 : decode cL_law 1546 = .ok (.iload 6, 2) := by decide +kernel
theorem dL_law_1548 : decode cL_law 1548 = .ok (.ifCond .ne 15, 3) := by decide +kernel
theorem dL_law_1551 : decode cL_law 1551 = .ok (.aload_n 3, 1) := by decide +kernel
theorem dL_law_1552 : decode cL_law 1552 = .ok (.iconst 0, 1) := by decide +kernel
theorem dL_law_1553 : decode cL_law 1553 = .ok (.laload, 1) := by decide +kernel
theorem dL_law_1554 : decode cL_law 1554 = .ok (.iload 7, 2) := by decide +kernel
theorem dL_law_1556 : decode cL_law 1556 = .ok (.i2l, 1) := by decide +kernel
theorem dL_law_1557 : decode cL_law 1557 = .ok (.lcmp, 1) := by decide +kernel
theorem dL_law_1558 : decode cL_law 1558 = .ok (.ifCond .eq 5, 3) := by decide +kernel
theorem dL_law_1561 : decode cL_law 1561 = .ok (.iconst 0, 1) := by decide +kernel
theorem dL_law_1562 : decode cL_law 1562 = .ok (.ireturn, 1) := by decide +kernel
theorem dL_law_1563 : decode cL_law 1563 = .ok (.goto 2426, 3) := by decide +kernel
theorem dL_law_1566 : decode cL_law 1566 = .ok (.aload_n 1, 1) := by decide +kernel
theorem dL_law_1567 : decode cL_law 1567 = .ok (.aload_n 3, 1) := by decide +kernel
theorem dL_law_1568 : decode cL_law 1568 = .ok (.invokestatic 256, 3) := by decide +kernel
theorem dL_law_1571 : decode cL_law 1571 = .ok (.istore 6, 2) := by decide +kernel
theorem dL_law_1573 : decode cL_law 1573 = .ok (.aload_n 2, 1) := by decide +kernel
theorem dL_law_1574 : decode cL_law 1574 = .ok (.invokevirtual 258, 3) := by decide +kernel
theorem dL_law_1577 : decode cL_law 1577 = .ok (.istore 7, 2) := by decide +kernel
theorem dL_law_1579 : decode cL_law 1579 = .ok (.aload_n 2, 1) := by decide +kernel
theorem dL_law_1580 : decode cL_law 1580 = .ok (.invokevirtual 188, 3) := by decide +kernel
theorem dL_law_1583 : decode cL_law 1583 = .ok (.iload 6, 2) := by decide +kernel
theorem dL_law_1585 : decode cL_law 1585 = .ok (.if_icmp .eq 5, 3) := by decide +kernel
theorem dL_law_1588 : decode cL_law 1588 = .ok (.iconst 0, 1) := by decide +kernel
theorem dL_law_1589 : decode cL_law 1589 = .ok (.ireturn, 1) := by decide +kernel
theorem dL_law_1590 : decode cL_law 1590 = .ok (.iload 6, 2) := by decide +kernel
theorem dL_law_1592 : decode cL_law 1592 = .ok (.ifCond .ne 15, 3) := by decide +kernel
theorem dL_law_1595 : decode cL_law 1595 = .ok (.aload_n 3, 1) := by decide +kernel
theorem dL_law_1596 : decode cL_law 1596 = .ok (.iconst 0, 1) := by decide +kernel
theorem dL_law_1597 : decode cL_law 1597 = .ok (.laload, 1) := by decide +kernel
theorem dL_law_1598 : decode cL_law 1598 = .ok (.iload 7, 2) := by decide +kernel
theorem dL_law_1600 : decode cL_law 1600 = .ok (.i2l, 1) := by decide +kernel
theorem dL_law_1601 : decode cL_law 1601 = .ok (.lcmp, 1) := by decide +kernel
theorem dL_law_1602 : decode cL_law 1602 = .ok (.ifCond .eq 5, 3) := by decide +kernel
theorem dL_law_1605 : decode cL_law 1605 = .ok (.iconst 0, 1) := by decide +kernel
theorem dL_law_1606 : decode cL_law 1606 = .ok (.ireturn, 1) := by decide +kernel
theorem dL_law_1607 : decode cL_law 1607 = .ok (.goto 2382, 3) := by decide +kernel
theorem dL_law_1610 : decode cL_law 1610 = .ok (.aload_n 1, 1) := by decide +kernel
theorem dL_law_1611 : decode cL_law 1611 = .ok (.aload_n 0, 1) := by decide +kernel
theorem dL_law_1612 : decode cL_law 1612 = .ok (.iload 5, 2) := by decide +kernel
theorem dL_law_1614 : decode cL_law 1614 = .ok (.iconst 1, 1) := by decide +kernel
theorem dL_law_1615 : decode cL_law 1615 = .ok (.iadd, 1) := by decide +kernel
theorem dL_law_1616 : decode cL_law 1616 = .ok (.iaload, 1) := by decide +kernel
theorem dL_law_1617 : decode cL_law 1617 = .ok (.aload_n 0, 1) := by decide +kernel
theorem dL_law_1618 : decode cL_law 1618 = .ok (.iload 5, 2) := by decide +kernel
theorem dL_law_1620 : decode cL_law 1620 = .ok (.iconst 2, 1) := by decide +kernel
theorem dL_law_1621 : decode cL_law 1621 = .ok (.iadd, 1) := by decide +kernel
theorem dL_law_1622 : decode cL_law 1622 = .ok (.iaload, 1) := by decide +kernel
theorem dL_law_1623 : decode cL_law 1623 = .ok (.aload_n 0, 1) := by decide +kernel
theorem dL_law_1624 : decode cL_law 1624 = .ok (.iload 5, 2) := by decide +kernel
theorem dL_law_1626 : decode cL_law 1626 = .ok (.iconst 3, 1) := by decide +kernel
theorem dL_law_1627 : decode cL_law 1627 = .ok (.iadd, 1) := by decide +kernel
theorem dL_law_1628 : decode cL_law 1628 = .ok (.iaload, 1) := by decide +kernel
theorem dL_law_1629 : decode cL_law 1629 = .ok (.aload_n 0, 1) := by decide +kernel
theorem dL_law_1630 : decode cL_law 1630 = .ok (.iload 5, 2) := by decide +kernel
theorem dL_law_1632 : decode cL_law 1632 = .ok (.iconst 4, 1) := by decide +kernel
theorem dL_law_1633 : decode cL_law 1633 = .ok (.iadd, 1) := by decide +kernel
theorem dL_law_1634 : decode cL_law 1634 = .ok (.iaload, 1) := by decide +kernel
theorem dL_law_1635 : decode cL_law 1635 = .ok (.aload_n 3, 1) := by decide +kernel
theorem dL_law_1636 : decode cL_law 1636 = .ok (.invokestatic 259, 3) := by decide +kernel
theorem dL_law_1639 : decode cL_law 1639 = .ok (.istore 6, 2) := by decide +kernel
theorem dL_law_1641 : decode cL_law 1641 = .ok (.aload_n 2, 1) := by decide +kernel
theorem dL_law_1642 : decode cL_law 1642 = .ok (.aload_n 0, 1) := by decide +kernel
theorem dL_law_1643 : decode cL_law 1643 = .ok (.iload 5, 2) := by decide +kernel
theorem dL_law_1645 : decode cL_law 1645 = .ok (.iconst 1, 1) := by decide +kernel
theorem dL_law_1646 : decode cL_law 1646 = .ok (.iadd, 1) := by decide +kernel
theorem dL_law_1647 : decode cL_law 1647 = .ok (.iaload, 1) := by decide +kernel
theorem dL_law_1648 : decode cL_law 1648 = .ok (.aload_n 0, 1) := by decide +kernel
theorem dL_law_1649 : decode cL_law 1649 = .ok (.iload 5, 2) := by decide +kernel
theorem dL_law_1651 : decode cL_law 1651 = .ok (.iconst 2, 1) := by decide +kernel
theorem dL_law_1652 : decode cL_law 1652 = .ok (.iadd, 1) := by decide +kernel
theorem dL_law_1653 : decode cL_law 1653 = .ok (.iaload, 1) := by decide +kernel
theorem dL_law_1654 : decode cL_law 1654 = .ok (.aload_n 0, 1) := by decide +kernel
theorem dL_law_1655 : decode cL_law 1655 = .ok (.iload 5, 2) := by decide +kernel
theorem dL_law_1657 : decode cL_law 1657 = .ok (.iconst 3, 1) := by decide +kernel
theorem dL_law_1658 : decode cL_law 1658 = .ok (.iadd, 1) := by decide +kernel
theorem dL_law_1659 : decode cL_law 1659 = .ok (.iaload, 1) := by decide +kernel
theorem dL_law_1660 : decode cL_law 1660 = .ok (.aload_n 0, 1) := by decide +kernel
theorem dL_law_1661 : decode cL_law 1661 = .ok (.iload 5, 2) := by decide +kernel
theorem dL_law_1663 : decode cL_law 1663 = .ok (.iconst 4, 1) := by decide +kernel
theorem dL_law_1664 : decode cL_law 1664 = .ok (.iadd, 1) := by decide +kernel
theorem dL_law_1665 : decode cL_law 1665 = .ok (.iaload, 1) := by decide +kernel
theorem dL_law_1666 : decode cL_law 1666 = .ok (.invokevirtual 261, 3) := by decide +kernel
theorem dL_law_1669 : decode cL_law 1669 = .ok (.istore 7, 2) := by decide +kernel
theorem dL_law_1671 : decode cL_law 1671 = .ok (.aload_n 2, 1) := by decide +kernel
theorem dL_law_1672 : decode cL_law 1672 = .ok (.invokevirtual 188, 3) := by decide +kernel
theorem dL_law_1675 : decode cL_law 1675 = .ok (.iload 6, 2) := by decide +kernel
theorem dL_law_1677 : decode cL_law 1677 = .ok (.if_icmp .eq 5, 3) := by decide +kernel
theorem dL_law_1680 : decode cL_law 1680 = .ok (.iconst 0, 1) := by decide +kernel
theorem dL_law_1681 : decode cL_law 1681 = .ok (.ireturn, 1) := by decide +kernel
theorem dL_law_1682 : decode cL_law 1682 = .ok (.iload 6, 2) := by decide +kernel
theorem dL_law_1684 : decode cL_law 1684 = .ok (.ifCond .ne 15, 3) := by decide +kernel
theorem dL_law_1687 : decode cL_law 1687 = .ok (.aload_n 3, 1) := by decide +kernel
theorem dL_law_1688 : decode cL_law 1688 = .ok (.iconst 0, 1) := by decide +kernel
theorem dL_law_1689 : decode cL_law 1689 = .ok (.laload, 1) := by decide +kernel
theorem dL_law_1690 : decode cL_law 1690 = .ok (.iload 7, 2) := by decide +kernel
theorem dL_law_1692 : decode cL_law 1692 = .ok (.i2l, 1) := by decide +kernel
theorem dL_law_1693 : decode cL_law 1693 = .ok (.lcmp, 1) := by decide +kernel
theorem dL_law_1694 : decode cL_law 1694 = .ok (.ifCond .eq 5, 3) := by decide +kernel
theorem dL_law_1697 : decode cL_law 1697 = .ok (.iconst 0, 1) := by decide +kernel
theorem dL_law_1698 : decode cL_law 1698 = .ok (.ireturn, 1) := by decide +kernel
theorem dL_law_1699 : decode cL_law 1699 = .ok (.goto 2290, 3) := by decide +kernel
theorem dL_law_1702 : decode cL_law 1702 = .ok (.aload_n 1, 1) := by decide +kernel
theorem dL_law_1703 : decode cL_law 1703 = .ok (.aload_n 0, 1) := by decide +kernel
theorem dL_law_1704 : decode cL_law 1704 = .ok (.iload 5, 2) := by decide +kernel
theorem dL_law_1706 : decode cL_law 1706 = .ok (.iconst 1, 1) := by decide +kernel
theorem dL_law_1707 : decode cL_law 1707 = .ok (.iadd, 1) := by decide +kernel
theorem dL_law_1708 : decode cL_law 1708 = .ok (.iaload, 1) := by decide +kernel
theorem dL_law_1709 : decode cL_law 1709 = .ok (.aload_n 0, 1) := by decide +kernel
theorem dL_law_1710 : decode cL_law 1710 = .ok (.iload 5, 2) := by decide +kernel
theorem dL_law_1712 : decode cL_law 1712 = .ok (.iconst 2, 1) := by decide +kernel
theorem dL_law_1713 : decode cL_law 1713 = .ok (.iadd, 1) := by decide +kernel
theorem dL_law_1714 : decode cL_law 1714 = .ok (.iaload, 1) := by decide +kernel
theorem dL_law_1715 : decode cL_law 1715 = .ok (.aload_n 0, 1) := by decide +kernel
theorem dL_law_1716 : decode cL_law 1716 = .ok (.iload 5, 2) := by decide +kernel
theorem dL_law_1718 : decode cL_law 1718 = .ok (.iconst 3, 1) := by decide +kernel
theorem dL_law_1719 : decode cL_law 1719 = .ok (.iadd, 1) := by decide +kernel
theorem dL_law_1720 : decode cL_law 1720 = .ok (.iaload, 1) := by decide +kernel
theorem dL_law_1721 : decode cL_law 1721 = .ok (.aload_n 3, 1) := by decide +kernel
theorem dL_law_1722 : decode cL_law 1722 = .ok (.invokestatic 262, 3) := by decide +kernel
theorem dL_law_1725 : decode cL_law 1725 = .ok (.istore 6, 2) := by decide +kernel
theorem dL_law_1727 : decode cL_law 1727 = .ok (.aload_n 2, 1) := by decide +kernel
theorem dL_law_1728 : decode cL_law 1728 = .ok (.aload_n 0, 1) := by decide +kernel
theorem dL_law_1729 : decode cL_law 1729 = .ok (.iload 5, 2) := by decide +kernel
theorem dL_law_1731 : decode cL_law 1731 = .ok (.iconst 1, 1) := by decide +kernel
theorem dL_law_1732 : decode cL_law 1732 = .ok (.iadd, 1) := by decide +kernel
theorem dL_law_1733 : decode cL_law 1733 = .ok (.iaload, 1) := by decide +kernel
theorem dL_law_1734 : decode cL_law 1734 = .ok (.aload_n 0, 1) := by decide +kernel
theorem dL_law_1735 : decode cL_law 1735 = .ok (.iload 5, 2) := by decide +kernel
theorem dL_law_1737 : decode cL_law 1737 = .ok (.iconst 2, 1) := by decide +kernel
theorem dL_law_1738 : decode cL_law 1738 = .ok (.iadd, 1) := by decide +kernel
theorem dL_law_1739 : decode cL_law 1739 = .ok (.iaload, 1) := by decide +kernel
theorem dL_law_1740 : decode cL_law 1740 = .ok (.aload_n 0, 1) := by decide +kernel
theorem dL_law_1741 : decode cL_law 1741 = .ok (.iload 5, 2) := by decide +kernel
theorem dL_law_1743 : decode cL_law 1743 = .ok (.iconst 3, 1) := by decide +kernel
theorem dL_law_1744 : decode cL_law 1744 = .ok (.iadd, 1) := by decide +kernel
theorem dL_law_1745 : decode cL_law 1745 = .ok (.iaload, 1) := by decide +kernel
theorem dL_law_1746 : decode cL_law 1746 = .ok (.invokevirtual 264, 3) := by decide +kernel
theorem dL_law_1749 : decode cL_law 1749 = .ok (.istore 7, 2) := by decide +kernel
theorem dL_law_1751 : decode cL_law 1751 = .ok (.aload_n 2, 1) := by decide +kernel
theorem dL_law_1752 : decode cL_law 1752 = .ok (.invokevirtual 188, 3) := by decide +kernel
theorem dL_law_1755 : decode cL_law 1755 = .ok (.iload 6, 2) := by decide +kernel
theorem dL_law_1757 : decode cL_law 1757 = .ok (.if_icmp .eq 5, 3) := by decide +kernel
theorem dL_law_1760 : decode cL_law 1760 = .ok (.iconst 0, 1) := by decide +kernel
theorem dL_law_1761 : decode cL_law 1761 = .ok (.ireturn, 1) := by decide +kernel
theorem dL_law_1762 : decode cL_law 1762 = .ok (.iload 6, 2) := by decide +kernel
theorem dL_law_1764 : decode cL_law 1764 = .ok (.ifCond .ne 15, 3) := by decide +kernel
theorem dL_law_1767 : decode cL_law 1767 = .ok (.aload_n 3, 1) := by decide +kernel
theorem dL_law_1768 : decode cL_law 1768 = .ok (.iconst 0, 1) := by decide +kernel
theorem dL_law_1769 : decode cL_law 1769 = .ok (.laload, 1) := by decide +kernel
theorem dL_law_1770 : decode cL_law 1770 = .ok (.iload 7, 2) := by decide +kernel
theorem dL_law_1772 : decode cL_law 1772 = .ok (.i2l, 1) := by decide +kernel
theorem dL_law_1773 : decode cL_law 1773 = .ok (.lcmp, 1) := by decide +kernel
theorem dL_law_1774 : decode cL_law 1774 = .ok (.ifCond .eq 5, 3) := by decide +kernel
theorem dL_law_1777 : decode cL_law 1777 = .ok (.iconst 0, 1) := by decide +kernel
theorem dL_law_1778 : decode cL_law 1778 = .ok (.ireturn, 1) := by decide +kernel
theorem dL_law_1779 : decode cL_law 1779 = .ok (.goto 2210, 3) := by decide +kernel
theorem dL_law_1782 : decode cL_law 1782 = .ok (.aload_n 1, 1) := by decide +kernel
theorem dL_law_1783 : decode cL_law 1783 = .ok (.invokevirtual 265, 3) := by decide +kernel
theorem dL_law_1786 : decode cL_law 1786 = .ok (.aload_n 2, 1) := by decide +kernel
theorem dL_law_1787 : decode cL_law 1787 = .ok (.invokevirtual 268, 3) := by decide +kernel
theorem dL_law_1790 : decode cL_law 1790 = .ok (.if_icmp .eq 2199, 3) := by decide +kernel
theorem dL_law_1793 : decode cL_law 1793 = .ok (.iconst 0, 1) := by decide +kernel
theorem dL_law_1794 : decode cL_law 1794 = .ok (.ireturn, 1) := by decide +kernel
theorem dL_law_1795 : decode cL_law 1795 = .ok (.aload_n 1, 1) := by decide +kernel
theorem dL_law_1796 : decode cL_law 1796 = .ok (.aload_n 0, 1) := by decide +kernel
theorem dL_law_1797 : decode cL_law 1797 = .ok (.iload 5, 2) := by decide +kernel
theorem dL_law_1799 : decode cL_law 1799 = .ok (.iconst 1, 1) := by decide +kernel
theorem dL_law_1800 : decode cL_law 1800 = .ok (.iadd, 1) := by decide +kernel
theorem dL_law_1801 : decode cL_law 1801 = .ok (.iaload, 1) := by decide +kernel
theorem dL_law_1802 : decode cL_law 1802 = .ok (.aload_n 0, 1) := by decide +kernel
theorem dL_law_1803 : decode cL_law 1803 = .ok (.iload 5, 2) := by decide +kernel
theorem dL_law_1805 : decode cL_law 1805 = .ok (.iconst 2, 1) := by decide +kernel
theorem dL_law_1806 : decode cL_law 1806 = .ok (.iadd, 1) := by decide +kernel
theorem dL_law_1807 : decode cL_law 1807 = .ok (.iaload, 1) := by decide +kernel
theorem dL_law_1808 : decode cL_law 1808 = .ok (.aload_n 0, 1) := by decide +kernel
theorem dL_law_1809 : decode cL_law 1809 = .ok (.iload 5, 2) := by decide +kernel
theorem dL_law_1811 : decode cL_law 1811 = .ok (.iconst 3, 1) := by decide +kernel
theorem dL_law_1812 : decode cL_law 1812 = .ok (.iadd, 1) := by decide +kernel
theorem dL_law_1813 : decode cL_law 1813 = .ok (.iaload, 1) := by decide +kernel
theorem dL_law_1814 : decode cL_law 1814 = .ok (.aload_n 0, 1) := by decide +kernel
theorem dL_law_1815 : decode cL_law 1815 = .ok (.iload 5, 2) := by decide +kernel
theorem dL_law_1817 : decode cL_law 1817 = .ok (.iconst 4, 1) := by decide +kernel
theorem dL_law_1818 : decode cL_law 1818 = .ok (.iadd, 1) := by decide +kernel
theorem dL_law_1819 : decode cL_law 1819 = .ok (.iaload, 1) := by decide +kernel
theorem dL_law_1820 : decode cL_law 1820 = .ok (.aload_n 3, 1) := by decide +kernel
theorem dL_law_1821 : decode cL_law 1821 = .ok (.invokestatic 269, 3) := by decide +kernel
theorem dL_law_1824 : decode cL_law 1824 = .ok (.istore 6, 2) := by decide +kernel
theorem dL_law_1826 : decode cL_law 1826 = .ok (.aload_n 2, 1) := by decide +kernel
theorem dL_law_1827 : decode cL_law 1827 = .ok (.aload_n 0, 1) := by decide +kernel
theorem dL_law_1828 : decode cL_law 1828 = .ok (.iload 5, 2) := by decide +kernel
theorem dL_law_1830 : decode cL_law 1830 = .ok (.iconst 1, 1) := by decide +kernel
theorem dL_law_1831 : decode cL_law 1831 = .ok (.iadd, 1) := by decide +kernel
theorem dL_law_1832 : decode cL_law 1832 = .ok (.iaload, 1) := by decide +kernel
theorem dL_law_1833 : decode cL_law 1833 = .ok (.aload_n 0, 1) := by decide +kernel
theorem dL_law_1834 : decode cL_law 1834 = .ok (.iload 5, 2) := by decide +kernel
theorem dL_law_1836 : decode cL_law 1836 = .ok (.iconst 2, 1) := by decide +kernel
theorem dL_law_1837 : decode cL_law 1837 = .ok (.iadd, 1) := by decide +kernel
theorem dL_law_1838 : decode cL_law 1838 = .ok (.iaload, 1) := by decide +kernel
theorem dL_law_1839 : decode cL_law 1839 = .ok (.aload_n 0, 1) := by decide +kernel
theorem dL_law_1840 : decode cL_law 1840 = .ok (.iload 5, 2) := by decide +kernel
theorem dL_law_1842 : decode cL_law 1842 = .ok (.iconst 3, 1) := by decide +kernel
theorem dL_law_1843 : decode cL_law 1843 = .ok (.iadd, 1) := by decide +kernel
theorem dL_law_1844 : decode cL_law 1844 = .ok (.iaload, 1) := by decide +kernel
theorem dL_law_1845 : decode cL_law 1845 = .ok (.aload_n 0, 1) := by decide +kernel
theorem dL_law_1846 : decode cL_law 1846 = .ok (.iload 5, 2) := by decide +kernel
theorem dL_law_1848 : decode cL_law 1848 = .ok (.iconst 4, 1) := by decide +kernel
theorem dL_law_1849 : decode cL_law 1849 = .ok (.iadd, 1) := by decide +kernel
theorem dL_law_1850 : decode cL_law 1850 = .ok (.iaload, 1) := by decide +kernel
theorem dL_law_1851 : decode cL_law 1851 = .ok (.invokevirtual 271, 3) := by decide +kernel
theorem dL_law_1854 : decode cL_law 1854 = .ok (.istore 7, 2) := by decide +kernel
theorem dL_law_1856 : decode cL_law 1856 = .ok (.aload_n 2, 1) := by decide +kernel
theorem dL_law_1857 : decode cL_law 1857 = .ok (.invokevirtual 188, 3) := by decide +kernel
theorem dL_law_1860 : decode cL_law 1860 = .ok (.iload 6, 2) := by decide +kernel
theorem dL_law_1862 : decode cL_law 1862 = .ok (.if_icmp .eq 5, 3) := by decide +kernel
theorem dL_law_1865 : decode cL_law 1865 = .ok (.iconst 0, 1) := by decide +kernel
theorem dL_law_1866 : decode cL_law 1866 = .ok (.ireturn, 1) := by decide +kernel
theorem dL_law_1867 : decode cL_law 1867 = .ok (.iload 6, 2) := by decide +kernel
theorem dL_law_1869 : decode cL_law 1869 = .ok (.ifCond .ne 15, 3) := by decide +kernel
theorem dL_law_1872 : decode cL_law 1872 = .ok (.aload_n 3, 1) := by decide +kernel
theorem dL_law_1873 : decode cL_law 1873 = .ok (.iconst 0, 1) := by decide +kernel
theorem dL_law_1874 : decode cL_law 1874 = .ok (.laload, 1) := by decide +kernel
theorem dL_law_1875 : decode cL_law 1875 = .ok (.iload 7, 2) := by decide +kernel
theorem dL_law_1877 : decode cL_law 1877 = .ok (.i2l, 1) := by decide +kernel
theorem dL_law_1878 : decode cL_law 1878 = .ok (.lcmp, 1) := by decide +kernel
theorem dL_law_1879 : decode cL_law 1879 = .ok (.ifCond .eq 5, 3) := by decide +kernel
theorem dL_law_1882 : decode cL_law 1882 = .ok (.iconst 0, 1) := by decide +kernel
theorem dL_law_1883 : decode cL_law 1883 = .ok (.ireturn, 1) := by decide +kernel
theorem dL_law_1884 : decode cL_law 1884 = .ok (.goto 2105, 3) := by decide +kernel
theorem dL_law_1887 : decode cL_law 1887 = .ok (.aload_n 1, 1) := by decide +kernel
theorem dL_law_1888 : decode cL_law 1888 = .ok (.aload_n 0, 1) := by decide +kernel
theorem dL_law_1889 : decode cL_law 1889 = .ok (.iload 5, 2) := by decide +kernel
theorem dL_law_1891 : decode cL_law 1891 = .ok (.iconst 1, 1) := by decide +kernel
theorem dL_law_1892 : decode cL_law 1892 = .ok (.iadd, 1) := by decide +kernel
theorem dL_law_1893 : decode cL_law 1893 = .ok (.iaload, 1) := by decide +kernel
theorem dL_law_1894 : decode cL_law 1894 = .ok (.aload_n 0, 1) := by decide +kernel
theorem dL_law_1895 : decode cL_law 1895 = .ok (.iload 5, 2) := by decide +kernel
theorem dL_law_1897 : decode cL_law 1897 = .ok (.iconst 2, 1) := by decide +kernel
theorem dL_law_1898 : decode cL_law 1898 = .ok (.iadd, 1) := by decide +kernel
theorem dL_law_1899 : decode cL_law 1899 = .ok (.iaload, 1) := by decide +kernel
theorem dL_law_1900 : decode cL_law 1900 = .ok (.aload_n 0, 1) := by decide +kernel
theorem dL_law_1901 : decode cL_law 1901 = .ok (.iload 5, 2) := by decide +kernel
theorem dL_law_1903 : decode cL_law 1903 = .ok (.iconst 3, 1) := by decide +kernel
theorem dL_law_1904 : decode cL_law 1904 = .ok (.iadd, 1) := by decide +kernel
theorem dL_law_1905 : decode cL_law 1905 = .ok (.iaload, 1) := by decide +kernel
theorem dL_law_1906 : decode cL_law 1906 = .ok (.aload_n 0, 1) := by decide +kernel
theorem dL_law_1907 : decode cL_law 1907 = .ok (.iload 5, 2) := by decide +kernel
theorem dL_law_1909 : decode cL_law 1909 = .ok (.iconst 4, 1) := by decide +kernel
theorem dL_law_1910 : decode cL_law 1910 = .ok (.iadd, 1) := by decide +kernel
theorem dL_law_1911 : decode cL_law 1911 = .ok (.iaload, 1) := by decide +kernel
theorem dL_law_1912 : decode cL_law 1912 = .ok (.aload_n 3, 1) := by decide +kernel
theorem dL_law_1913 : decode cL_law 1913 = .ok (.invokestatic 272, 3) := by decide +kernel
theorem dL_law_1916 : decode cL_law 1916 = .ok (.istore 6, 2) := by decide +kernel
theorem dL_law_1918 : decode cL_law 1918 = .ok (.aload_n 2, 1) := by decide +kernel
theorem dL_law_1919 : decode cL_law 1919 = .ok (.aload_n 0, 1) := by decide +kernel
theorem dL_law_1920 : decode cL_law 1920 = .ok (.iload 5, 2) := by decide +kernel
theorem dL_law_1922 : decode cL_law 1922 = .ok (.iconst 1, 1) := by decide +kernel
theorem dL_law_1923 : decode cL_law 1923 = .ok (.iadd, 1) := by decide +kernel
theorem dL_law_1924 : decode cL_law 1924 = .ok (.iaload, 1) := by decide +kernel
theorem dL_law_1925 : decode cL_law 1925 = .ok (.aload_n 0, 1) := by decide +kernel
theorem dL_law_1926 : decode cL_law 1926 = .ok (.iload 5, 2) := by decide +kernel
theorem dL_law_1928 : decode cL_law 1928 = .ok (.iconst 2, 1) := by decide +kernel
theorem dL_law_1929 : decode cL_law 1929 = .ok (.iadd, 1) := by decide +kernel
theorem dL_law_1930 : decode cL_law 1930 = .ok (.iaload, 1) := by decide +kernel
theorem dL_law_1931 : decode cL_law 1931 = .ok (.aload_n 0, 1) := by decide +kernel
theorem dL_law_1932 : decode cL_law 1932 = .ok (.iload 5, 2) := by decide +kernel
theorem dL_law_1934 : decode cL_law 1934 = .ok (.iconst 3, 1) := by decide +kernel
theorem dL_law_1935 : decode cL_law 1935 = .ok (.iadd, 1) := by decide +kernel
theorem dL_law_1936 : decode cL_law 1936 = .ok (.iaload, 1) := by decide +kernel
theorem dL_law_1937 : decode cL_law 1937 = .ok (.aload_n 0, 1) := by decide +kernel
theorem dL_law_1938 : decode cL_law 1938 = .ok (.iload 5, 2) := by decide +kernel
theorem dL_law_1940 : decode cL_law 1940 = .ok (.iconst 4, 1) := by decide +kernel
theorem dL_law_1941 : decode cL_law 1941 = .ok (.iadd, 1) := by decide +kernel
theorem dL_law_1942 : decode cL_law 1942 = .ok (.iaload, 1) := by decide +kernel
theorem dL_law_1943 : decode cL_law 1943 = .ok (.invokevirtual 274, 3) := by decide +kernel
theorem dL_law_1946 : decode cL_law 1946 = .ok (.istore 7, 2) := by decide +kernel
theorem dL_law_1948 : decode cL_law 1948 = .ok (.aload_n 2, 1) := by decide +kernel
theorem dL_law_1949 : decode cL_law 1949 = .ok (.invokevirtual 188, 3) := by decide +kernel
theorem dL_law_1952 : decode cL_law 1952 = .ok (.iload 6, 2) := by decide +kernel
theorem dL_law_1954 : decode cL_law 1954 = .ok (.if_icmp .eq 5, 3) := by decide +kernel
theorem dL_law_1957 : decode cL_law 1957 = .ok (.iconst 0, 1) := by decide +kernel
theorem dL_law_1958 : decode cL_law 1958 = .ok (.ireturn, 1) := by decide +kernel
theorem dL_law_1959 : decode cL_law 1959 = .ok (.iload 6, 2) := by decide +kernel
theorem dL_law_1961 : decode cL_law 1961 = .ok (.ifCond .ne 15, 3) := by decide +kernel
theorem dL_law_1964 : decode cL_law 1964 = .ok (.aload_n 3, 1) := by decide +kernel
theorem dL_law_1965 : decode cL_law 1965 = .ok (.iconst 0, 1) := by decide +kernel
theorem dL_law_1966 : decode cL_law 1966 = .ok (.laload, 1) := by decide +kernel
theorem dL_law_1967 : decode cL_law 1967 = .ok (.iload 7, 2) := by decide +kernel
theorem dL_law_1969 : decode cL_law 1969 = .ok (.i2l, 1) := by decide +kernel
theorem dL_law_1970 : decode cL_law 1970 = .ok (.lcmp, 1) := by decide +kernel
theorem dL_law_1971 : decode cL_law 1971 = .ok (.ifCond .eq 5, 3) := by decide +kernel
theorem dL_law_1974 : decode cL_law 1974 = .ok (.iconst 0, 1) := by decide +kernel
theorem dL_law_1975 : decode cL_law 1975 = .ok (.ireturn, 1) := by decide +kernel
theorem dL_law_1976 : decode cL_law 1976 = .ok (.goto 2013, 3) := by decide +kernel
theorem dL_law_1979 : decode cL_law 1979 = .ok (.aload_n 1, 1) := by decide +kernel
theorem dL_law_1980 : decode cL_law 1980 = .ok (.aload_n 0, 1) := by decide +kernel
theorem dL_law_1981 : decode cL_law 1981 = .ok (.iload 5, 2) := by decide +kernel
theorem dL_law_1983 : decode cL_law 1983 = .ok (.iconst 1, 1) := by decide +kernel
theorem dL_law_1984 : decode cL_law 1984 = .ok (.iadd, 1) := by decide +kernel
theorem dL_law_1985 : decode cL_law 1985 = .ok (.iaload, 1) := by decide +kernel
theorem dL_law_1986 : decode cL_law 1986 = .ok (.aload_n 0, 1) := by decide +kernel
theorem dL_law_1987 : decode cL_law 1987 = .ok (.iload 5, 2) := by decide +kernel
theorem dL_law_1989 : decode cL_law 1989 = .ok (.iconst 2, 1) := by decide +kernel
theorem dL_law_1990 : decode cL_law 1990 = .ok (.iadd, 1) := by decide +kernel
theorem dL_law_1991 : decode cL_law 1991 = .ok (.iaload, 1) := by decide +kernel
theorem dL_law_1992 : decode cL_law 1992 = .ok (.aload_n 0, 1) := by decide +kernel
theorem dL_law_1993 : decode cL_law 1993 = .ok (.iload 5, 2) := by decide +kernel
theorem dL_law_1995 : decode cL_law 1995 = .ok (.iconst 3, 1) := by decide +kernel
theorem dL_law_1996 : decode cL_law 1996 = .ok (.iadd, 1) := by decide +kernel
theorem dL_law_1997 : decode cL_law 1997 = .ok (.iaload, 1) := by decide +kernel
theorem dL_law_1998 : decode cL_law 1998 = .ok (.aload_n 0, 1) := by decide +kernel
theorem dL_law_1999 : decode cL_law 1999 = .ok (.iload 5, 2) := by decide +kernel
theorem dL_law_2001 : decode cL_law 2001 = .ok (.iconst 4, 1) := by decide +kernel
theorem dL_law_2002 : decode cL_law 2002 = .ok (.iadd, 1) := by decide +kernel
theorem dL_law_2003 : decode cL_law 2003 = .ok (.iaload, 1) := by decide +kernel
theorem dL_law_2004 : decode cL_law 2004 = .ok (.aload_n 3, 1) := by decide +kernel
theorem dL_law_2005 : decode cL_law 2005 = .ok (.invokestatic 275, 3) := by decide +kernel
theorem dL_law_2008 : decode cL_law 2008 = .ok (.istore 6, 2) := by decide +kernel
theorem dL_law_2010 : decode cL_law 2010 = .ok (.aload_n 2, 1) := by decide +kernel
theorem dL_law_2011 : decode cL_law 2011 = .ok (.aload_n 0, 1) := by decide +kernel
theorem dL_law_2012 : decode cL_law 2012 = .ok (.iload 5, 2) := by decide +kernel
theorem dL_law_2014 : decode cL_law 2014 = .ok (.iconst 1, 1) := by decide +kernel
theorem dL_law_2015 : decode cL_law 2015 = .ok (.iadd, 1) := by decide +kernel
theorem dL_law_2016 : decode cL_law 2016 = .ok (.iaload, 1) := by decide +kernel
theorem dL_law_2017 : decode cL_law 2017 = .ok (.aload_n 0, 1) := by decide +kernel
theorem dL_law_2018 : decode cL_law 2018 = .ok (.iload 5, 2) := by decide +kernel
theorem dL_law_2020 : decode cL_law 2020 = .ok (.iconst 2, 1) := by decide +kernel
theorem dL_law_2021 : decode cL_law 2021 = .ok (.iadd, 1) := by decide +kernel
theorem dL_law_2022 : decode cL_law 2022 = .ok (.iaload, 1) := by decide +kernel
theorem dL_law_2023 : decode cL_law 2023 = .ok (.aload_n 0, 1) := by decide +kernel
theorem dL_law_2024 : decode cL_law 2024 = .ok (.iload 5, 2) := by decide +kernel
theorem dL_law_2026 : decode cL_law 2026 = .ok (.iconst 3, 1) := by decide +kernel
theorem dL_law_2027 : decode cL_law 2027 = .ok (.iadd, 1) := by decide +kernel
theorem dL_law_2028 : decode cL_law 2028 = .ok (.iaload, 1) := by decide +kernel
theorem dL_law_2029 : decode cL_law 2029 = .ok (.aload_n 0, 1) := by decide +kernel
theorem dL_law_2030 : decode cL_law 2030 = .ok (.iload 5, 2) := by decide +kernel
theorem dL_law_2032 : decode cL_law 2032 = .ok (.iconst 4, 1) := by decide +kernel
theorem dL_law_2033 : decode cL_law 2033 = .ok (.iadd, 1) := by decide +kernel
theorem dL_law_2034 : decode cL_law 2034 = .ok (.iaload, 1) := by decide +kernel
theorem dL_law_2035 : decode cL_law 2035 = .ok (.invokevirtual 277, 3) := by decide +kernel
theorem dL_law_2038 : decode cL_law 2038 = .ok (.istore 7, 2) := by decide +kernel
theorem dL_law_2040 : decode cL_law 2040 = .ok (.aload_n 2, 1) := by decide +kernel
theorem dL_law_2041 : decode cL_law 2041 = .ok (.invokevirtual 188, 3) := by decide +kernel
theorem dL_law_2044 : decode cL_law 2044 = .ok (.iload 6, 2) := by decide +kernel
theorem dL_law_2046 : decode cL_law 2046 = .ok (.if_icmp .eq 5, 3) := by decide +kernel
theorem dL_law_2049 : decode cL_law 2049 = .ok (.iconst 0, 1) := by decide +kernel
theorem dL_law_2050 : decode cL_law 2050 = .ok (.ireturn, 1) := by decide +kernel
theorem dL_law_2051 : decode cL_law 2051 = .ok (.iload 6, 2) := by decide +kernel
theorem dL_law_2053 : decode cL_law 2053 = .ok (.ifCond .ne 15, 3) := by decide +kernel
theorem dL_law_2056 : decode cL_law 2056 = .ok (.aload_n 3, 1) := by decide +kernel
theorem dL_law_2057 : decode cL_law 2057 = .ok (.iconst 0, 1) := by decide +kernel
theorem dL_law_2058 : decode cL_law 2058 = .ok (.laload, 1) := by decide +kernel
theorem dL_law_2059 : decode cL_law 2059 = .ok (.iload 7, 2) := by decide +kernel
theorem dL_law_2061 : decode cL_law 2061 = .ok (.i2l, 1) := by decide +kernel
theorem dL_law_2062 : decode cL_law 2062 = .ok (.lcmp, 1) := by decide +kernel
theorem dL_law_2063 : decode cL_law 2063 = .ok (.ifCond .eq 5, 3) := by decide +kernel
theorem dL_law_2066 : decode cL_law 2066 = .ok (.iconst 0, 1) := by decide +kernel
theorem dL_law_2067 : decode cL_law 2067 = .ok (.ireturn, 1) := by decide +kernel
theorem dL_law_2068 : decode cL_law 2068 = .ok (.goto 1921, 3) := by decide +kernel
theorem dL_law_2071 : decode cL_law 2071 = .ok (.aload_n 1, 1) := by decide +kernel
theorem dL_law_2072 : decode cL_law 2072 = .ok (.aload_n 0, 1) := by decide +kernel
theorem dL_law_2073 : decode cL_law 2073 = .ok (.iload 5, 2) := by decide +kernel
theorem dL_law_2075 : decode cL_law 2075 = .ok (.iconst 1, 1) := by decide +kernel
theorem dL_law_2076 : decode cL_law 2076 = .ok (.iadd, 1) := by decide +kernel
theorem dL_law_2077 : decode cL_law 2077 = .ok (.iaload, 1) := by decide +kernel
theorem dL_law_2078 : decode cL_law 2078 = .ok (.aload_n 0, 1) := by decide +kernel
theorem dL_law_2079 : decode cL_law 2079 = .ok (.iload 5, 2) := by decide +kernel
theorem dL_law_2081 : decode cL_law 2081 = .ok (.iconst 2, 1) := by decide +kernel
theorem dL_law_2082 : decode cL_law 2082 = .ok (.iadd, 1) := by decide +kernel
theorem dL_law_2083 : decode cL_law 2083 = .ok (.iaload, 1) := by decide +kernel
theorem dL_law_2084 : decode cL_law 2084 = .ok (.aload_n 0, 1) := by decide +kernel
theorem dL_law_2085 : decode cL_law 2085 = .ok (.iload 5, 2) := by decide +kernel
theorem dL_law_2087 : decode cL_law 2087 = .ok (.iconst 3, 1) := by decide +kernel
theorem dL_law_2088 : decode cL_law 2088 = .ok (.iadd, 1) := by decide +kernel
theorem dL_law_2089 : decode cL_law 2089 = .ok (.iaload, 1) := by decide +kernel
theorem dL_law_2090 : decode cL_law 2090 = .ok (.aload_n 0, 1) := by decide +kernel
theorem dL_law_2091 : decode cL_law 2091 = .ok (.iload 5, 2) := by decide +kernel
theorem dL_law_2093 : decode cL_law 2093 = .ok (.iconst 4, 1) := by decide +kernel
theorem dL_law_2094 : decode cL_law 2094 = .ok (.iadd, 1) := by decide +kernel
theorem dL_law_2095 : decode cL_law 2095 = .ok (.iaload, 1) := by decide +kernel
theorem dL_law_2096 : decode cL_law 2096 = .ok (.aload_n 3, 1) := by decide +kernel
theorem dL_law_2097 : decode cL_law 2097 = .ok (.invokestatic 278, 3) := by decide +kernel
theorem dL_law_2100 : decode cL_law 2100 = .ok (.istore 6, 2) := by decide +kernel
theorem dL_law_2102 : decode cL_law 2102 = .ok (.aload_n 2, 1) := by decide +kernel
theorem dL_law_2103 : decode cL_law 2103 = .ok (.aload_n 0, 1) := by decide +kernel
theorem dL_law_2104 : decode cL_law 2104 = .ok (.iload 5, 2) := by decide +kernel
theorem dL_law_2106 : decode cL_law 2106 = .ok (.iconst 1, 1) := by decide +kernel
theorem dL_law_2107 : decode cL_law 2107 = .ok (.iadd, 1) := by decide +kernel
theorem dL_law_2108 : decode cL_law 2108 = .ok (.iaload, 1) := by decide +kernel
theorem dL_law_2109 : decode cL_law 2109 = .ok (.aload_n 0, 1) := by decide +kernel
theorem dL_law_2110 : decode cL_law 2110 = .ok (.iload 5, 2) := by decide +kernel
theorem dL_law_2112 : decode cL_law 2112 = .ok (.iconst 2, 1) := by decide +kernel
theorem dL_law_2113 : decode cL_law 2113 = .ok (.iadd, 1) := by decide +kernel
theorem dL_law_2114 : decode cL_law 2114 = .ok (.iaload, 1) := by decide +kernel
theorem dL_law_2115 : decode cL_law 2115 = .ok (.aload_n 0, 1) := by decide +kernel
theorem dL_law_2116 : decode cL_law 2116 = .ok (.iload 5, 2) := by decide +kernel
theorem dL_law_2118 : decode cL_law 2118 = .ok (.iconst 3, 1) := by decide +kernel
theorem dL_law_2119 : decode cL_law 2119 = .ok (.iadd, 1) := by decide +kernel
theorem dL_law_2120 : decode cL_law 2120 = .ok (.iaload, 1) := by decide +kernel
theorem dL_law_2121 : decode cL_law 2121 = .ok (.aload_n 0, 1) := by decide +kernel
theorem dL_law_2122 : decode cL_law 2122 = .ok (.iload 5, 2) := by decide +kernel
theorem dL_law_2124 : decode cL_law 2124 = .ok (.iconst 4, 1) := by decide +kernel
theorem dL_law_2125 : decode cL_law 2125 = .ok (.iadd, 1) := by decide +kernel
theorem dL_law_2126 : decode cL_law 2126 = .ok (.iaload, 1) := by decide +kernel
theorem dL_law_2127 : decode cL_law 2127 = .ok (.invokevirtual 280, 3) := by decide +kernel
theorem dL_law_2130 : decode cL_law 2130 = .ok (.istore 7, 2) := by decide +kernel
theorem dL_law_2132 : decode cL_law 2132 = .ok (.aload_n 2, 1) := by decide +kernel
theorem dL_law_2133 : decode cL_law 2133 = .ok (.invokevirtual 188, 3) := by decide +kernel
theorem dL_law_2136 : decode cL_law 2136 = .ok (.iload 6, 2) := by decide +kernel
theorem dL_law_2138 : decode cL_law 2138 = .ok (.if_icmp .eq 5, 3) := by decide +kernel
theorem dL_law_2141 : decode cL_law 2141 = .ok (.iconst 0, 1) := by decide +kernel
theorem dL_law_2142 : decode cL_law 2142 = .ok (.ireturn, 1) := by decide +kernel
theorem dL_law_2143 : decode cL_law 2143 = .ok (.iload 6, 2) := by decide +kernel
theorem dL_law_2145 : decode cL_law 2145 = .ok (.ifCond .ne 15, 3) := by decide +kernel
theorem dL_law_2148 : decode cL_law 2148 = .ok (.aload_n 3, 1) := by decide +kernel
theorem dL_law_2149 : decode cL_law 2149 = .ok (.iconst 0, 1) := by decide +kernel
theorem dL_law_2150 : decode cL_law 2150 = .ok (.laload, 1) := by decide +kernel
theorem dL_law_2151 : decode cL_law 2151 = .ok (.iload 7, 2) := by decide +kernel
theorem dL_law_2153 : decode cL_law 2153 = .ok (.i2l, 1) := by decide +kernel
theorem dL_law_2154 : decode cL_law 2154 = .ok (.lcmp, 1) := by decide +kernel
theorem dL_law_2155 : decode cL_law 2155 = .ok (.ifCond .eq 5, 3) := by decide +kernel
theorem dL_law_2158 : decode cL_law 2158 = .ok (.iconst 0, 1) := by decide +kernel
theorem dL_law_2159 : decode cL_law 2159 = .ok (.ireturn, 1) := by decide +kernel
theorem dL_law_2160 : decode cL_law 2160 = .ok (.goto 1829, 3) := by decide +kernel
theorem dL_law_2163 : decode cL_law 2163 = .ok (.aload_n 1, 1) := by decide +kernel
theorem dL_law_2164 : decode cL_law 2164 = .ok (.aload_n 0, 1) := by decide +kernel
theorem dL_law_2165 : decode cL_law 2165 = .ok (.iload 5, 2) := by decide +kernel
theorem dL_law_2167 : decode cL_law 2167 = .ok (.iconst 1, 1) := by decide +kernel
theorem dL_law_2168 : decode cL_law 2168 = .ok (.iadd, 1) := by decide +kernel
theorem dL_law_2169 : decode cL_law 2169 = .ok (.iaload, 1) := by decide +kernel
theorem dL_law_2170 : decode cL_law 2170 = .ok (.aload_n 0, 1) := by decide +kernel
theorem dL_law_2171 : decode cL_law 2171 = .ok (.iload 5, 2) := by decide +kernel
theorem dL_law_2173 : decode cL_law 2173 = .ok (.iconst 2, 1) := by decide +kernel
theorem dL_law_2174 : decode cL_law 2174 = .ok (.iadd, 1) := by decide +kernel
theorem dL_law_2175 : decode cL_law 2175 = .ok (.iaload, 1) := by decide +kernel
theorem dL_law_2176 : decode cL_law 2176 = .ok (.aload_n 0, 1) := by decide +kernel
theorem dL_law_2177 : decode cL_law 2177 = .ok (.iload 5, 2) := by decide +kernel
theorem dL_law_2179 : decode cL_law 2179 = .ok (.iconst 3, 1) := by decide +kernel
theorem dL_law_2180 : decode cL_law 2180 = .ok (.iadd, 1) := by decide +kernel
theorem dL_law_2181 : decode cL_law 2181 = .ok (.iaload, 1) := by decide +kernel
theorem dL_law_2182 : decode cL_law 2182 = .ok (.aload_n 0, 1) := by decide +kernel
theorem dL_law_2183 : decode cL_law 2183 = .ok (.iload 5, 2) := by decide +kernel
theorem dL_law_2185 : decode cL_law 2185 = .ok (.iconst 4, 1) := by decide +kernel
theorem dL_law_2186 : decode cL_law 2186 = .ok (.iadd, 1) := by decide +kernel
theorem dL_law_2187 : decode cL_law 2187 = .ok (.iaload, 1) := by decide +kernel
theorem dL_law_2188 : decode cL_law 2188 = .ok (.aload_n 3, 1) := by decide +kernel
theorem dL_law_2189 : decode cL_law 2189 = .ok (.invokestatic 281, 3) := by decide +kernel
theorem dL_law_2192 : decode cL_law 2192 = .ok (.istore 6, 2) := by decide +kernel
theorem dL_law_2194 : decode cL_law 2194 = .ok (.aload_n 2, 1) := by decide +kernel
theorem dL_law_2195 : decode cL_law 2195 = .ok (.aload_n 0, 1) := by decide +kernel
theorem dL_law_2196 : decode cL_law 2196 = .ok (.iload 5, 2) := by decide +kernel
theorem dL_law_2198 : decode cL_law 2198 = .ok (.iconst 1, 1) := by decide +kernel
theorem dL_law_2199 : decode cL_law 2199 = .ok (.iadd, 1) := by decide +kernel
theorem dL_law_2200 : decode cL_law 2200 = .ok (.iaload, 1) := by decide +kernel
theorem dL_law_2201 : decode cL_law 2201 = .ok (.aload_n 0, 1) := by decide +kernel
theorem dL_law_2202 : decode cL_law 2202 = .ok (.iload 5, 2) := by decide +kernel
theorem dL_law_2204 : decode cL_law 2204 = .ok (.iconst 2, 1) := by decide +kernel
theorem dL_law_2205 : decode cL_law 2205 = .ok (.iadd, 1) := by decide +kernel
theorem dL_law_2206 : decode cL_law 2206 = .ok (.iaload, 1) := by decide +kernel
theorem dL_law_2207 : decode cL_law 2207 = .ok (.aload_n 0, 1) := by decide +kernel
theorem dL_law_2208 : decode cL_law 2208 = .ok (.iload 5, 2) := by decide +kernel
theorem dL_law_2210 : decode cL_law 2210 = .ok (.iconst 3, 1) := by decide +kernel
theorem dL_law_2211 : decode cL_law 2211 = .ok (.iadd, 1) := by decide +kernel
theorem dL_law_2212 : decode cL_law 2212 = .ok (.iaload, 1) := by decide +kernel
theorem dL_law_2213 : decode cL_law 2213 = .ok (.aload_n 0, 1) := by decide +kernel
theorem dL_law_2214 : decode cL_law 2214 = .ok (.iload 5, 2) := by decide +kernel
theorem dL_law_2216 : decode cL_law 2216 = .ok (.iconst 4, 1) := by decide +kernel
theorem dL_law_2217 : decode cL_law 2217 = .ok (.iadd, 1) := by decide +kernel
theorem dL_law_2218 : decode cL_law 2218 = .ok (.iaload, 1) := by decide +kernel
theorem dL_law_2219 : decode cL_law 2219 = .ok (.invokevirtual 283, 3) := by decide +kernel
theorem dL_law_2222 : decode cL_law 2222 = .ok (.istore 7, 2) := by decide +kernel
theorem dL_law_2224 : decode cL_law 2224 = .ok (.aload_n 2, 1) := by decide +kernel
theorem dL_law_2225 : decode cL_law 2225 = .ok (.invokevirtual 188, 3) := by decide +kernel
theorem dL_law_2228 : decode cL_law 2228 = .ok (.iload 6, 2) := by decide +kernel
theorem dL_law_2230 : decode cL_law 2230 = .ok (.if_icmp .eq 5, 3) := by decide +kernel
theorem dL_law_2233 : decode cL_law 2233 = .ok (.iconst 0, 1) := by decide +kernel
theorem dL_law_2234 : decode cL_law 2234 = .ok (.ireturn, 1) := by decide +kernel
theorem dL_law_2235 : decode cL_law 2235 = .ok (.iload 6, 2) := by decide +kernel
theorem dL_law_2237 : decode cL_law 2237 = .ok (.ifCond .ne 15, 3) := by decide +kernel
theorem dL_law_2240 : decode cL_law 2240 = .ok (.aload_n 3, 1) := by decide +kernel
theorem dL_law_2241 : decode cL_law 2241 = .ok (.iconst 0, 1) := by decide +kernel
theorem dL_law_2242 : decode cL_law 2242 = .ok (.laload, 1) := by decide +kernel
theorem dL_law_2243 : decode cL_law 2243 = .ok (.iload 7, 2) := by decide +kernel
theorem dL_law_2245 : decode cL_law 2245 = .ok (.i2l, 1) := by decide +kernel
theorem dL_law_2246 : decode cL_law 2246 = .ok (.lcmp, 1) := by decide +kernel
theorem dL_law_2247 : decode cL_law 2247 = .ok (.ifCond .eq 5, 3) := by decide +kernel
theorem dL_law_2250 : decode cL_law 2250 = .ok (.iconst 0, 1) := by decide +kernel
theorem dL_law_2251 : decode cL_law 2251 = .ok (.ireturn, 1) := by decide +kernel
theorem dL_law_2252 : decode cL_law 2252 = .ok (.goto 1737, 3) := by decide +kernel
theorem dL_law_2255 : decode cL_law 2255 = .ok (.aload_n 1, 1) := by decide +kernel
theorem dL_law_2256 : decode cL_law 2256 = .ok (.aload_n 0, 1) := by decide +kernel
theorem dL_law_2257 : decode cL_law 2257 = .ok (.iload 5, 2) := by decide +kernel
theorem dL_law_2259 : decode cL_law 2259 = .ok (.iconst 1, 1) := by decide +kernel
theorem dL_law_2260 : decode cL_law 2260 = .ok (.iadd, 1) := by decide +kernel
theorem dL_law_2261 : decode cL_law 2261 = .ok (.iaload, 1) := by decide +kernel
theorem dL_law_2262 : decode cL_law 2262 = .ok (.aload_n 0, 1) := by decide +kernel
theorem dL_law_2263 : decode cL_law 2263 = .ok (.iload 5, 2) := by decide +kernel
theorem dL_law_2265 : decode cL_law 2265 = .ok (.iconst 2, 1) := by decide +kernel
theorem dL_law_2266 : decode cL_law 2266 = .ok (.iadd, 1) := by decide +kernel
theorem dL_law_2267 : decode cL_law 2267 = .ok (.iaload, 1) := by decide +kernel
theorem dL_law_2268 : decode cL_law 2268 = .ok (.aload_n 0, 1) := by decide +kernel
theorem dL_law_2269 : decode cL_law 2269 = .ok (.iload 5, 2) := by decide +kernel
theorem dL_law_2271 : decode cL_law 2271 = .ok (.iconst 3, 1) := by decide +kernel
theorem dL_law_2272 : decode cL_law 2272 = .ok (.iadd, 1) := by decide +kernel
theorem dL_law_2273 : decode cL_law 2273 = .ok (.iaload, 1) := by decide +kernel
theorem dL_law_2274 : decode cL_law 2274 = .ok (.aload_n 0, 1) := by decide +kernel
theorem dL_law_2275 : decode cL_law 2275 = .ok (.iload 5, 2) := by decide +kernel
theorem dL_law_2277 : decode cL_law 2277 = .ok (.iconst 4, 1) := by decide +kernel
theorem dL_law_2278 : decode cL_law 2278 = .ok (.iadd, 1) := by decide +kernel
theorem dL_law_2279 : decode cL_law 2279 = .ok (.iaload, 1) := by decide +kernel
theorem dL_law_2280 : decode cL_law 2280 = .ok (.aload_n 3, 1) := by decide +kernel
theorem dL_law_2281 : decode cL_law 2281 = .ok (.invokestatic 284, 3) := by decide +kernel
theorem dL_law_2284 : decode cL_law 2284 = .ok (.istore 6, 2) := by decide +kernel
theorem dL_law_2286 : decode cL_law 2286 = .ok (.aload_n 2, 1) := by decide +kernel
theorem dL_law_2287 : decode cL_law 2287 = .ok (.aload_n 0, 1) := by decide +kernel
theorem dL_law_2288 : decode cL_law 2288 = .ok (.iload 5, 2) := by decide +kernel
theorem dL_law_2290 : decode cL_law 2290 = .ok (.iconst 1, 1) := by decide +kernel
theorem dL_law_2291 : decode cL_law 2291 = .ok (.iadd, 1) := by decide +kernel
theorem dL_law_2292 : decode cL_law 2292 = .ok (.iaload, 1) := by decide +kernel
theorem dL_law_2293 : decode cL_law 2293 = .ok (.aload_n 0, 1) := by decide +kernel
theorem dL_law_2294 : decode cL_law 2294 = .ok (.iload 5, 2) := by decide +kernel
theorem dL_law_2296 : decode cL_law 2296 = .ok (.iconst 2, 1) := by decide +kernel
theorem dL_law_2297 : decode cL_law 2297 = .ok (.iadd, 1) := by decide +kernel
theorem dL_law_2298 : decode cL_law 2298 = .ok (.iaload, 1) := by decide +kernel
theorem dL_law_2299 : decode cL_law 2299 = .ok (.aload_n 0, 1) := by decide +kernel
theorem dL_law_2300 : decode cL_law 2300 = .ok (.iload 5, 2) := by decide +kernel
theorem dL_law_2302 : decode cL_law 2302 = .ok (.iconst 3, 1) := by decide +kernel
theorem dL_law_2303 : decode cL_law 2303 = .ok (.iadd, 1) := by decide +kernel
theorem dL_law_2304 : decode cL_law 2304 = .ok (.iaload, 1) := by decide +kernel
theorem dL_law_2305 : decode cL_law 2305 = .ok (.aload_n 0, 1) := by decide +kernel
theorem dL_law_2306 : decode cL_law 2306 = .ok (.iload 5, 2) := by decide +kernel
theorem dL_law_2308 : decode cL_law 2308 = .ok (.iconst 4, 1) := by decide +kernel
theorem dL_law_2309 : decode cL_law 2309 = .ok (.iadd, 1) := by decide +kernel
theorem dL_law_2310 : decode cL_law 2310 = .ok (.iaload, 1) := by decide +kernel
theorem dL_law_2311 : decode cL_law 2311 = .ok (.invokevirtual 286, 3) := by decide +kernel
theorem dL_law_2314 : decode cL_law 2314 = .ok (.istore 7, 2) := by decide +kernel
theorem dL_law_2316 : decode cL_law 2316 = .ok (.aload_n 2, 1) := by decide +kernel
theorem dL_law_2317 : decode cL_law 2317 = .ok (.invokevirtual 188, 3) := by decide +kernel
theorem dL_law_2320 : decode cL_law 2320 = .ok (.iload 6, 2) := by decide +kernel
theorem dL_law_2322 : decode cL_law 2322 = .ok (.if_icmp .eq 5, 3) := by decide +kernel
theorem dL_law_2325 : decode cL_law 2325 = .ok (.iconst 0, 1) := by decide +kernel
theorem dL_law_2326 : decode cL_law 2326 = .ok (.ireturn, 1) := by decide +kernel
theorem dL_law_2327 : decode cL_law 2327 = .ok (.iload 6, 2) := by decide +kernel
theorem dL_law_2329 : decode cL_law 2329 = .ok (.ifCond .ne 15, 3) := by decide +kernel
theorem dL_law_2332 : decode cL_law 2332 = .ok (.aload_n 3, 1) := by decide +kernel
theorem dL_law_2333 : decode cL_law 2333 = .ok (.iconst 0, 1) := by decide +kernel
theorem dL_law_2334 : decode cL_law 2334 = .ok (.laload, 1) := by decide +kernel
theorem dL_law_2335 : decode cL_law 2335 = .ok (.iload 7, 2) := by decide +kernel
theorem dL_law_2337 : decode cL_law 2337 = .ok (.i2l, 1) := by decide +kernel
theorem dL_law_2338 : decode cL_law 2338 = .ok (.lcmp, 1) := by decide +kernel
theorem dL_law_2339 : decode cL_law 2339 = .ok (.ifCond .eq 5, 3) := by decide +kernel
theorem dL_law_2342 : decode cL_law 2342 = .ok (.iconst 0, 1) := by decide +kernel
theorem dL_law_2343 : decode cL_law 2343 = .ok (.ireturn, 1) := by decide +kernel
theorem dL_law_2344 : decode cL_law 2344 = .ok (.goto 1645, 3) := by decide +kernel
theorem dL_law_2347 : decode cL_law 2347 = .ok (.aload_n 1, 1) := by decide +kernel
theorem dL_law_2348 : decode cL_law 2348 = .ok (.aload_n 0, 1) := by decide +kernel
theorem dL_law_2349 : decode cL_law 2349 = .ok (.iload 5, 2) := by decide +kernel
theorem dL_law_2351 : decode cL_law 2351 = .ok (.iconst 1, 1) := by decide +kernel
theorem dL_law_2352 : decode cL_law 2352 = .ok (.iadd, 1) := by decide +kernel
theorem dL_law_2353 : decode cL_law 2353 = .ok (.iaload, 1) := by decide +kernel
theorem dL_law_2354 : decode cL_law 2354 = .ok (.aload_n 0, 1) := by decide +kernel
theorem dL_law_2355 : decode cL_law 2355 = .ok (.iload 5, 2) := by decide +kernel
theorem dL_law_2357 : decode cL_law 2357 = .ok (.iconst 2, 1) := by decide +kernel
theorem dL_law_2358 : decode cL_law 2358 = .ok (.iadd, 1) := by decide +kernel
theorem dL_law_2359 : decode cL_law 2359 = .ok (.iaload, 1) := by decide +kernel
theorem dL_law_2360 : decode cL_law 2360 = .ok (.i2c, 1) := by decide +kernel
theorem dL_law_2361 : decode cL_law 2361 = .ok (.aload_n 3, 1) := by decide +kernel
theorem dL_law_2362 : decode cL_law 2362 = .ok (.invokestatic 287, 3) := by decide +kernel
theorem dL_law_2365 : decode cL_law 2365 = .ok (.istore 6, 2) := by decide +kernel
theorem dL_law_2367 : decode cL_law 2367 = .ok (.aload_n 2, 1) := by decide +kernel
theorem dL_law_2368 : decode cL_law 2368 = .ok (.aload_n 0, 1) := by decide +kernel
theorem dL_law_2369 : decode cL_law 2369 = .ok (.iload 5, 2) := by decide +kernel
theorem dL_law_2371 : decode cL_law 2371 = .ok (.iconst 1, 1) := by decide +kernel
theorem dL_law_2372 : decode cL_law 2372 = .ok (.iadd, 1) := by decide +kernel
theorem dL_law_2373 : decode cL_law 2373 = .ok (.iaload, 1) := by decide +kernel
theorem dL_law_2374 : decode cL_law 2374 = .ok (.aload_n 0, 1) := by decide +kernel
theorem dL_law_2375 : decode cL_law 2375 = .ok (.iload 5, 2) := by decide +kernel
theorem dL_law_2377 : decode cL_law 2377 = .ok (.iconst 2, 1) := by decide +kernel
theorem dL_law_2378 : decode cL_law 2378 = .ok (.iadd, 1) := by decide +kernel
theorem dL_law_2379 : decode cL_law 2379 = .ok (.iaload, 1) := by decide +kernel
theorem dL_law_2380 : decode cL_law 2380 = .ok (.i2c, 1) := by decide +kernel
theorem dL_law_2381 : decode cL_law 2381 = .ok (.invokevirtual 290, 3) := by decide +kernel
theorem dL_law_2384 : decode cL_law 2384 = .ok (.istore 7, 2) := by decide +kernel
theorem dL_law_2386 : decode cL_law 2386 = .ok (.aload_n 2, 1) := by decide +kernel
theorem dL_law_2387 : decode cL_law 2387 = .ok (.invokevirtual 188, 3) := by decide +kernel
theorem dL_law_2390 : decode cL_law 2390 = .ok (.iload 6, 2) := by decide +kernel
theorem dL_law_2392 : decode cL_law 2392 = .ok (.if_icmp .eq 5, 3) := by decide +kernel
theorem dL_law_2395 : decode cL_law 2395 = .ok (.iconst 0, 1) := by decide +kernel
theorem dL_law_2396 : decode cL_law 2396 = .ok (.ireturn, 1) := by decide +kernel
theorem dL_law_2397 : decode cL_law 2397 = .ok (.iload 6, 2) := by decide +kernel
theorem dL_law_2399 : decode cL_law 2399 = .ok (.ifCond .ne 15, 3) := by decide +kernel
theorem dL_law_2402 : decode cL_law 2402 = .ok (.aload_n 3, 1) := by decide +kernel
theorem dL_law_2403 : decode cL_law 2403 = .ok (.iconst 0, 1) := by decide +kernel
theorem dL_law_2404 : decode cL_law 2404 = .ok (.laload, 1) := by decide +kernel
theorem dL_law_2405 : decode cL_law 2405 = .ok (.iload 7, 2) := by decide +kernel
theorem dL_law_2407 : decode cL_law 2407 = .ok (.i2l, 1) := by decide +kernel
theorem dL_law_2408 : decode cL_law 2408 = .ok (.lcmp, 1) := by decide +kernel
theorem dL_law_2409 : decode cL_law 2409 = .ok (.ifCond .eq 5, 3) := by decide +kernel
theorem dL_law_2412 : decode cL_law 2412 = .ok (.iconst 0, 1) := by decide +kernel
theorem dL_law_2413 : decode cL_law 2413 = .ok (.ireturn, 1) := by decide +kernel
theorem dL_law_2414 : decode cL_law 2414 = .ok (.goto 1575, 3) := by decide +kernel
theorem dL_law_2417 : decode cL_law 2417 = .ok (.aload_n 1, 1) := by decide +kernel
theorem dL_law_2418 : decode cL_law 2418 = .ok (.aload_n 0, 1) := by decide +kernel
theorem dL_law_2419 : decode cL_law 2419 = .ok (.iload 5, 2) := by decide +kernel
theorem dL_law_2421 : decode cL_law 2421 = .ok (.iconst 1, 1) := by decide +kernel
theorem dL_law_2422 : decode cL_law 2422 = .ok (.iadd, 1) := by decide +kernel
theorem dL_law_2423 : decode cL_law 2423 = .ok (.iaload, 1) := by decide +kernel
theorem dL_law_2424 : decode cL_law 2424 = .ok (.aload_n 0, 1) := by decide +kernel
theorem dL_law_2425 : decode cL_law 2425 = .ok (.iload 5, 2) := by decide +kernel
theorem dL_law_2427 : decode cL_law 2427 = .ok (.iconst 2, 1) := by decide +kernel
theorem dL_law_2428 : decode cL_law 2428 = .ok (.iadd, 1) := by decide +kernel
theorem dL_law_2429 : decode cL_law 2429 = .ok (.iaload, 1) := by decide +kernel
theorem dL_law_2430 : decode cL_law 2430 = .ok (.aload_n 0, 1) := by decide +kernel
theorem dL_law_2431 : decode cL_law 2431 = .ok (.iload 5, 2) := by decide +kernel
theorem dL_law_2433 : decode cL_law 2433 = .ok (.iconst 3, 1) := by decide +kernel
theorem dL_law_2434 : decode cL_law 2434 = .ok (.iadd, 1) := by decide +kernel
theorem dL_law_2435 : decode cL_law 2435 = .ok (.iaload, 1) := by decide +kernel
theorem dL_law_2436 : decode cL_law 2436 = .ok (.aload_n 0, 1) := by decide +kernel
theorem dL_law_2437 : decode cL_law 2437 = .ok (.iload 5, 2) := by decide +kernel
theorem dL_law_2439 : decode cL_law 2439 = .ok (.iconst 4, 1) := by decide +kernel
theorem dL_law_2440 : decode cL_law 2440 = .ok (.iadd, 1) := by decide +kernel
theorem dL_law_2441 : decode cL_law 2441 = .ok (.iaload, 1) := by decide +kernel
theorem dL_law_2442 : decode cL_law 2442 = .ok (.aload_n 3, 1) := by decide +kernel
theorem dL_law_2443 : decode cL_law 2443 = .ok (.invokestatic 291, 3) := by decide +kernel
theorem dL_law_2446 : decode cL_law 2446 = .ok (.istore 6, 2) := by decide +kernel
theorem dL_law_2448 : decode cL_law 2448 = .ok (.aload_n 2, 1) := by decide +kernel
theorem dL_law_2449 : decode cL_law 2449 = .ok (.aload_n 0, 1) := by decide +kernel
theorem dL_law_2450 : decode cL_law 2450 = .ok (.iload 5, 2) := by decide +kernel
theorem dL_law_2452 : decode cL_law 2452 = .ok (.iconst 1, 1) := by decide +kernel
theorem dL_law_2453 : decode cL_law 2453 = .ok (.iadd, 1) := by decide +kernel
theorem dL_law_2454 : decode cL_law 2454 = .ok (.iaload, 1) := by decide +kernel
theorem dL_law_2455 : decode cL_law 2455 = .ok (.aload_n 0, 1) := by decide +kernel
theorem dL_law_2456 : decode cL_law 2456 = .ok (.iload 5, 2) := by decide +kernel
theorem dL_law_2458 : decode cL_law 2458 = .ok (.iconst 2, 1) := by decide +kernel
theorem dL_law_2459 : decode cL_law 2459 = .ok (.iadd, 1) := by decide +kernel
theorem dL_law_2460 : decode cL_law 2460 = .ok (.iaload, 1) := by decide +kernel
theorem dL_law_2461 : decode cL_law 2461 = .ok (.aload_n 0, 1) := by decide +kernel
theorem dL_law_2462 : decode cL_law 2462 = .ok (.iload 5, 2) := by decide +kernel
theorem dL_law_2464 : decode cL_law 2464 = .ok (.iconst 3, 1) := by decide +kernel
theorem dL_law_2465 : decode cL_law 2465 = .ok (.iadd, 1) := by decide +kernel
theorem dL_law_2466 : decode cL_law 2466 = .ok (.iaload, 1) := by decide +kernel
theorem dL_law_2467 : decode cL_law 2467 = .ok (.aload_n 0, 1) := by decide +kernel
theorem dL_law_2468 : decode cL_law 2468 = .ok (.iload 5, 2) := by decide +kernel
theorem dL_law_2470 : decode cL_law 2470 = .ok (.iconst 4, 1) := by decide +kernel
theorem dL_law_2471 : decode cL_law 2471 = .ok (.iadd, 1) := by decide +kernel
theorem dL_law_2472 : decode cL_law 2472 = .ok (.iaload, 1) := by decide +kernel
theorem dL_law_2473 : decode cL_law 2473 = .ok (.invokevirtual 293, 3) := by decide +kernel
theorem dL_law_2476 : decode cL_law 2476 = .ok (.istore 7, 2) := by decide +kernel
theorem dL_law_2478 : decode cL_law 2478 = .ok (.aload_n 2, 1) := by decide +kernel
theorem dL_law_2479 : decode cL_law 2479 = .ok (.invokevirtual 188, 3) := by decide +kernel
theorem dL_law_2482 : decode cL_law 2482 = .ok (.iload 6, 2) := by decide +kernel
theorem dL_law_2484 : decode cL_law 2484 = .ok (.if_icmp .eq 5, 3) := by decide +kernel
theorem dL_law_2487 : decode cL_law 2487 = .ok (.iconst 0, 1) := by decide +kernel
theorem dL_law_2488 : decode cL_law 2488 = .ok (.ireturn, 1) := by decide +kernel
theorem dL_law_2489 : decode cL_law 2489 = .ok (.iload 6, 2) := by decide +kernel
theorem dL_law_2491 : decode cL_law 2491 = .ok (.ifCond .ne 15, 3) := by decide +kernel
theorem dL_law_2494 : decode cL_law 2494 = .ok (.aload_n 3, 1) := by decide +kernel
theorem dL_law_2495 : decode cL_law 2495 = .ok (.iconst 0, 1) := by decide +kernel
theorem dL_law_2496 : decode cL_law 2496 = .ok (.laload, 1) := by decide +kernel
theorem dL_law_2497 : decode cL_law 2497 = .ok (.iload 7, 2) := by decide +kernel
theorem dL_law_2499 : decode cL_law 2499 = .ok (.i2l, 1) := by decide +kernel
theorem dL_law_2500 : decode cL_law 2500 = .ok (.lcmp, 1) := by decide +kernel
theorem dL_law_2501 : decode cL_law 2501 = .ok (.ifCond .eq 5, 3) := by decide +kernel
theorem dL_law_2504 : decode cL_law 2504 = .ok (.iconst 0, 1) := by decide +kernel
theorem dL_law_2505 : decode cL_law 2505 = .ok (.ireturn, 1) := by decide +kernel
theorem dL_law_2506 : decode cL_law 2506 = .ok (.goto 1483, 3) := by decide +kernel
theorem dL_law_2509 : decode cL_law 2509 = .ok (.aload_n 1, 1) := by decide +kernel
theorem dL_law_2510 : decode cL_law 2510 = .ok (.aload_n 0, 1) := by decide +kernel
theorem dL_law_2511 : decode cL_law 2511 = .ok (.iload 5, 2) := by decide +kernel
theorem dL_law_2513 : decode cL_law 2513 = .ok (.iconst 1, 1) := by decide +kernel
theorem dL_law_2514 : decode cL_law 2514 = .ok (.iadd, 1) := by decide +kernel
theorem dL_law_2515 : decode cL_law 2515 = .ok (.iaload, 1) := by decide +kernel
theorem dL_law_2516 : decode cL_law 2516 = .ok (.aload_n 0, 1) := by decide +kernel
theorem dL_law_2517 : decode cL_law 2517 = .ok (.iload 5, 2) := by decide +kernel
theorem dL_law_2519 : decode cL_law 2519 = .ok (.iconst 2, 1) := by decide +kernel
theorem dL_law_2520 : decode cL_law 2520 = .ok (.iadd, 1) := by decide +kernel
theorem dL_law_2521 : decode cL_law 2521 = .ok (.iaload, 1) := by decide +kernel
theorem dL_law_2522 : decode cL_law 2522 = .ok (.aload_n 0, 1) := by decide +kernel
theorem dL_law_2523 : decode cL_law 2523 = .ok (.iload 5, 2) := by decide +kernel
theorem dL_law_2525 : decode cL_law 2525 = .ok (.iconst 3, 1) := by decide +kernel
theorem dL_law_2526 : decode cL_law 2526 = .ok (.iadd, 1) := by decide +kernel
theorem dL_law_2527 : decode cL_law 2527 = .ok (.iaload, 1) := by decide +kernel
theorem dL_law_2528 : decode cL_law 2528 = .ok (.aload_n 3, 1) := by decide +kernel
theorem dL_law_2529 : decode cL_law 2529 = .ok (.invokestatic 294, 3) := by decide +kernel
theorem dL_law_2532 : decode cL_law 2532 = .ok (.istore 6, 2) := by decide +kernel
theorem dL_law_2534 : decode cL_law 2534 = .ok (.aload_n 2, 1) := by decide +kernel
theorem dL_law_2535 : decode cL_law 2535 = .ok (.aload_n 0, 1) := by decide +kernel
theorem dL_law_2536 : decode cL_law 2536 = .ok (.iload 5, 2) := by decide +kernel
theorem dL_law_2538 : decode cL_law 2538 = .ok (.iconst 1, 1) := by decide +kernel
theorem dL_law_2539 : decode cL_law 2539 = .ok (.iadd, 1) := by decide +kernel
theorem dL_law_2540 : decode cL_law 2540 = .ok (.iaload, 1) := by decide +kernel
theorem dL_law_2541 : decode cL_law 2541 = .ok (.aload_n 0, 1) := by decide +kernel
theorem dL_law_2542 : decode cL_law 2542 = .ok (.iload 5, 2) := by decide +kernel
theorem dL_law_2544 : decode cL_law 2544 = .ok (.iconst 2, 1) := by decide +kernel
theorem dL_law_2545 : decode cL_law 2545 = .ok (.iadd, 1) := by decide +kernel
theorem dL_law_2546 : decode cL_law 2546 = .ok (.iaload, 1) := by decide +kernel
theorem dL_law_2547 : decode cL_law 2547 = .ok (.aload_n 0, 1) := by decide +kernel
theorem dL_law_2548 : decode cL_law 2548 = .ok (.iload 5, 2) := by decide +kernel
theorem dL_law_2550 : decode cL_law 2550 = .ok (.iconst 3, 1) := by decide +kernel
theorem dL_law_2551 : decode cL_law 2551 = .ok (.iadd, 1) := by decide +kernel
theorem dL_law_2552 : decode cL_law 2552 = .ok (.iaload, 1) := by decide +kernel
theorem dL_law_2553 : decode cL_law 2553 = .ok (.invokevirtual 296, 3) := by decide +kernel
theorem dL_law_2556 : decode cL_law 2556 = .ok (.istore 7, 2) := by decide +kernel
theorem dL_law_2558 : decode cL_law 2558 = .ok (.aload_n 2, 1) := by decide +kernel
theorem dL_law_2559 : decode cL_law 2559 = .ok (.invokevirtual 188, 3) := by decide +kernel
theorem dL_law_2562 : decode cL_law 2562 = .ok (.iload 6, 2) := by decide +kernel
theorem dL_law_2564 : decode cL_law 2564 = .ok (.if_icmp .eq 5, 3) := by decide +kernel
theorem dL_law_2567 : decode cL_law 2567 = .ok (.iconst 0, 1) := by decide +kernel
theorem dL_law_2568 : decode cL_law 2568 = .ok (.ireturn, 1) := by decide +kernel
theorem dL_law_2569 : decode cL_law 2569 = .ok (.iload 6, 2) := by decide +kernel
theorem dL_law_2571 : decode cL_law 2571 = .ok (.ifCond .ne 15, 3) := by decide +kernel
theorem dL_law_2574 : decode cL_law 2574 = .ok (.aload_n 3, 1) := by decide +kernel
theorem dL_law_2575 : decode cL_law 2575 = .ok (.iconst 0, 1) := by decide +kernel
theorem dL_law_2576 : decode cL_law 2576 = .ok (.laload, 1) := by decide +kernel
theorem dL_law_2577 : decode cL_law 2577 = .ok (.iload 7, 2) := by decide +kernel
theorem dL_law_2579 : decode cL_law 2579 = .ok (.i2l, 1) := by decide +kernel
theorem dL_law_2580 : decode cL_law 2580 = .ok (.lcmp, 1) := by decide +kernel
theorem dL_law_2581 : decode cL_law 2581 = .ok (.ifCond .eq 5, 3) := by decide +kernel
theorem dL_law_2584 : decode cL_law 2584 = .ok (.iconst 0, 1) := by decide +kernel
theorem dL_law_2585 : decode cL_law 2585 = .ok (.ireturn, 1) := by decide +kernel
theorem dL_law_2586 : decode cL_law 2586 = .ok (.goto 1403, 3) := by decide +kernel
theorem dL_law_2589 : decode cL_law 2589 = .ok (.aload_n 1, 1) := by decide +kernel
theorem dL_law_2590 : decode cL_law 2590 = .ok (.aload_n 0, 1) := by decide +kernel
theorem dL_law_2591 : decode cL_law 2591 = .ok (.iload 5, 2) := by decide +kernel
theorem dL_law_2593 : decode cL_law 2593 = .ok (.iconst 1, 1) := by decide +kernel
theorem dL_law_2594 : decode cL_law 2594 = .ok (.iadd, 1) := by decide +kernel
theorem dL_law_2595 : decode cL_law 2595 = .ok (.iaload, 1) := by decide +kernel
theorem dL_law_2596 : decode cL_law 2596 = .ok (.aload_n 0, 1) := by decide +kernel
theorem dL_law_2597 : decode cL_law 2597 = .ok (.iload 5, 2) := by decide +kernel
theorem dL_law_2599 : decode cL_law 2599 = .ok (.iconst 2, 1) := by decide +kernel
theorem dL_law_2600 : decode cL_law 2600 = .ok (.iadd, 1) := by decide +kernel
theorem dL_law_2601 : decode cL_law 2601 = .ok (.iaload, 1) := by decide +kernel
theorem dL_law_2602 : decode cL_law 2602 = .ok (.aload_n 0, 1) := by decide +kernel
theorem dL_law_2603 : decode cL_law 2603 = .ok (.iload 5, 2) := by decide +kernel
theorem dL_law_2605 : decode cL_law 2605 = .ok (.iconst 3, 1) := by decide +kernel
theorem dL_law_2606 : decode cL_law 2606 = .ok (.iadd, 1) := by decide +kernel
theorem dL_law_2607 : decode cL_law 2607 = .ok (.iaload, 1) := by decide +kernel
theorem dL_law_2608 : decode cL_law 2608 = .ok (.aload_n 0, 1) := by decide +kernel
theorem dL_law_2609 : decode cL_law 2609 = .ok (.iload 5, 2) := by decide +kernel
theorem dL_law_2611 : decode cL_law 2611 = .ok (.iconst 4, 1) := by decide +kernel
theorem dL_law_2612 : decode cL_law 2612 = .ok (.iadd, 1) := by decide +kernel
theorem dL_law_2613 : decode cL_law 2613 = .ok (.iaload, 1) := by decide +kernel
theorem dL_law_2614 : decode cL_law 2614 = .ok (.aload_n 0, 1) := by decide +kernel
theorem dL_law_2615 : decode cL_law 2615 = .ok (.iload 5, 2) := by decide +kernel
theorem dL_law_2617 : decode cL_law 2617 = .ok (.iconst 5, 1) := by decide +kernel
theorem dL_law_2618 : decode cL_law 2618 = .ok (.iadd, 1) := by decide +kernel
theorem dL_law_2619 : decode cL_law 2619 = .ok (.iaload, 1) := by decide +kernel
theorem dL_law_2620 : decode cL_law 2620 = .ok (.ifCond .eq 7, 3) := by decide +kernel
theorem dL_law_2623 : decode cL_law 2623 = .ok (.iconst 1, 1) := by decide +kernel
theorem dL_law_2624 : decode cL_law 2624 = .ok (.goto 4, 3) := by decide +kernel
theorem dL_law_2627 : decode cL_law 2627 = .ok (.iconst 0, 1) := by decide +kernel
theorem dL_law_2628 : decode cL_law 2628 = .ok (.aload_n 3, 1) := by decide +kernel
theorem dL_law_2629 : decode cL_law 2629 = .ok (.invokestatic 297, 3) := by decide +kernel
theorem dL_law_2632 : decode cL_law 2632 = .ok (.istore 6, 2) := by decide +kernel
theorem dL_law_2634 : decode cL_law 2634 = .ok (.aload_n 2, 1) := by decide +kernel
theorem dL_law_2635 : decode cL_law 2635 = .ok (.aload_n 0, 1) := by decide +kernel
theorem dL_law_2636 : decode cL_law 2636 = .ok (.iload 5, 2) := by decide +kernel
theorem dL_law_2638 : decode cL_law 2638 = .ok (.iconst 1, 1) := by decide +kernel
theorem dL_law_2639 : decode cL_law 2639 = .ok (.iadd, 1) := by decide +kernel
theorem dL_law_2640 : decode cL_law 2640 = .ok (.iaload, 1) := by decide +kernel
theorem dL_law_2641 : decode cL_law 2641 = .ok (.aload_n 0, 1) := by decide +kernel
theorem dL_law_2642 : decode cL_law 2642 = .ok (.iload 5, 2) := by decide +kernel
theorem dL_law_2644 : decode cL_law 2644 = .ok (.iconst 2, 1) := by decide +kernel
theorem dL_law_2645 : decode cL_law 2645 = .ok (.iadd, 1) := by decide +kernel
theorem dL_law_2646 : decode cL_law 2646 = .ok (.iaload, 1) := by decide +kernel
theorem dL_law_2647 : decode cL_law 2647 = .ok (.aload_n 0, 1) := by decide +kernel
theorem dL_law_2648 : decode cL_law 2648 = .ok (.iload 5, 2) := by decide +kernel
theorem dL_law_2650 : decode cL_law 2650 = .ok (.iconst 3, 1) := by decide +kernel
theorem dL_law_2651 : decode cL_law 2651 = .ok (.iadd, 1) := by decide +kernel
theorem dL_law_2652 : decode cL_law 2652 = .ok (.iaload, 1) := by decide +kernel
theorem dL_law_2653 : decode cL_law 2653 = .ok (.aload_n 0, 1) := by decide +kernel
theorem dL_law_2654 : decode cL_law 2654 = .ok (.iload 5, 2) := by decide +kernel
theorem dL_law_2656 : decode cL_law 2656 = .ok (.iconst 4, 1) := by decide +kernel
theorem dL_law_2657 : decode cL_law 2657 = .ok (.iadd, 1) := by decide +kernel
theorem dL_law_2658 : decode cL_law 2658 = .ok (.iaload, 1) := by decide +kernel
theorem dL_law_2659 : decode cL_law 2659 = .ok (.aload_n 0, 1) := by decide +kernel
theorem dL_law_2660 : decode cL_law 2660 = .ok (.iload 5, 2) := by decide +kernel
theorem dL_law_2662 : decode cL_law 2662 = .ok (.iconst 5, 1) := by decide +kernel
theorem dL_law_2663 : decode cL_law 2663 = .ok (.iadd, 1) := by decide +kernel
theorem dL_law_2664 : decode cL_law 2664 = .ok (.iaload, 1) := by decide +kernel
theorem dL_law_2665 : decode cL_law 2665 = .ok (.ifCond .eq 7, 3) := by decide +kernel
theorem dL_law_2668 : decode cL_law 2668 = .ok (.iconst 1, 1) := by decide +kernel
theorem dL_law_2669 : decode cL_law 2669 = .ok (.goto 4, 3) := by decide +kernel
theorem dL_law_2672 : decode cL_law 2672 = .ok (.iconst 0, 1) := by decide +kernel
theorem dL_law_2673 : decode cL_law 2673 = .ok (.invokevirtual 300, 3) := by decide +kernel
theorem dL_law_2676 : decode cL_law 2676 = .ok (.istore 7, 2) := by decide +kernel
theorem dL_law_2678 : decode cL_law 2678 = .ok (.aload_n 2, 1) := by decide +kernel
theorem dL_law_2679 : decode cL_law 2679 = .ok (.invokevirtual 188, 3) := by decide +kernel
theorem dL_law_2682 : decode cL_law 2682 = .ok (.iload 6, 2) := by decide +kernel
theorem dL_law_2684 : decode cL_law 2684 = .ok (.if_icmp .eq 5, 3) := by decide +kernel
theorem dL_law_2687 : decode cL_law 2687 = .ok (.iconst 0, 1) := by decide +kernel
theorem dL_law_2688 : decode cL_law 2688 = .ok (.ireturn, 1) := by decide +kernel
theorem dL_law_2689 : decode cL_law 2689 = .ok (.iload 6, 2) := by decide +kernel
theorem dL_law_2691 : decode cL_law 2691 = .ok (.ifCond .ne 15, 3) := by decide +kernel
theorem dL_law_2694 : decode cL_law 2694 = .ok (.aload_n 3, 1) := by decide +kernel
theorem dL_law_2695 : decode cL_law 2695 = .ok (.iconst 0, 1) := by decide +kernel
theorem dL_law_2696 : decode cL_law 2696 = .ok (.laload, 1) := by decide +kernel
theorem dL_law_2697 : decode cL_law 2697 = .ok (.iload 7, 2) := by decide +kernel
theorem dL_law_2699 : decode cL_law 2699 = .ok (.i2l, 1) := by decide +kernel
theorem dL_law_2700 : decode cL_law 2700 = .ok (.lcmp, 1) := by decide +kernel
theorem dL_law_2701 : decode cL_law 2701 = .ok (.ifCond .eq 5, 3) := by decide +kernel
theorem dL_law_2704 : decode cL_law 2704 = .ok (.iconst 0, 1) := by decide +kernel
theorem dL_law_2705 : decode cL_law 2705 = .ok (.ireturn, 1) := by decide +kernel
theorem dL_law_2706 : decode cL_law 2706 = .ok (.goto 1283, 3) := by decide +kernel
theorem dL_law_2709 : decode cL_law 2709 = .ok (.aload_n 1, 1) := by decide +kernel
theorem dL_law_2710 : decode cL_law 2710 = .ok (.aload_n 0, 1) := by decide +kernel
theorem dL_law_2711 : decode cL_law 2711 = .ok (.iload 5, 2) := by decide +kernel
theorem dL_law_2713 : decode cL_law 2713 = .ok (.iconst 1, 1) := by decide +kernel
theorem dL_law_2714 : decode cL_law 2714 = .ok (.iadd, 1) := by decide +kernel
theorem dL_law_2715 : decode cL_law 2715 = .ok (.iaload, 1) := by decide +kernel
theorem dL_law_2716 : decode cL_law 2716 = .ok (.aload_n 0, 1) := by decide +kernel
theorem dL_law_2717 : decode cL_law 2717 = .ok (.iload 5, 2) := by decide +kernel
theorem dL_law_2719 : decode cL_law 2719 = .ok (.iconst 2, 1) := by decide +kernel
theorem dL_law_2720 : decode cL_law 2720 = .ok (.iadd, 1) := by decide +kernel
theorem dL_law_2721 : decode cL_law 2721 = .ok (.iaload, 1) := by decide +kernel
theorem dL_law_2722 : decode cL_law 2722 = .ok (.aload_n 0, 1) := by decide +kernel
theorem dL_law_2723 : decode cL_law 2723 = .ok (.iload 5, 2) := by decide +kernel
theorem dL_law_2725 : decode cL_law 2725 = .ok (.iconst 3, 1) := by decide +kernel
theorem dL_law_2726 : decode cL_law 2726 = .ok (.iadd, 1) := by decide +kernel
theorem dL_law_2727 : decode cL_law 2727 = .ok (.iaload, 1) := by decide +kernel
theorem dL_law_2728 : decode cL_law 2728 = .ok (.aload_n 0, 1) := by decide +kernel
theorem dL_law_2729 : decode cL_law 2729 = .ok (.iload 5, 2) := by decide +kernel
theorem dL_law_2731 : decode cL_law 2731 = .ok (.iconst 4, 1) := by decide +kernel
theorem dL_law_2732 : decode cL_law 2732 = .ok (.iadd, 1) := by decide +kernel
theorem dL_law_2733 : decode cL_law 2733 = .ok (.iaload, 1) := by decide +kernel
theorem dL_law_2734 : decode cL_law 2734 = .ok (.aload_n 3, 1) := by decide +kernel
theorem dL_law_2735 : decode cL_law 2735 = .ok (.invokestatic 301, 3) := by decide +kernel
theorem dL_law_2738 : decode cL_law 2738 = .ok (.istore 6, 2) := by decide +kernel
theorem dL_law_2740 : decode cL_law 2740 = .ok (.aload_n 2, 1) := by decide +kernel
theorem dL_law_2741 : decode cL_law 2741 = .ok (.aload_n 0, 1) := by decide +kernel
theorem dL_law_2742 : decode cL_law 2742 = .ok (.iload 5, 2) := by decide +kernel
theorem dL_law_2744 : decode cL_law 2744 = .ok (.iconst 1, 1) := by decide +kernel
theorem dL_law_2745 : decode cL_law 2745 = .ok (.iadd, 1) := by decide +kernel
theorem dL_law_2746 : decode cL_law 2746 = .ok (.iaload, 1) := by decide +kernel
theorem dL_law_2747 : decode cL_law 2747 = .ok (.aload_n 0, 1) := by decide +kernel
theorem dL_law_2748 : decode cL_law 2748 = .ok (.iload 5, 2) := by decide +kernel
theorem dL_law_2750 : decode cL_law 2750 = .ok (.iconst 2, 1) := by decide +kernel
theorem dL_law_2751 : decode cL_law 2751 = .ok (.iadd, 1) := by decide +kernel
theorem dL_law_2752 : decode cL_law 2752 = .ok (.iaload, 1) := by decide +kernel
theorem dL_law_2753 : decode cL_law 2753 = .ok (.aload_n 0, 1) := by decide +kernel
theorem dL_law_2754 : decode cL_law 2754 = .ok (.iload 5, 2) := by decide +kernel
theorem dL_law_2756 : decode cL_law 2756 = .ok (.iconst 3, 1) := by decide +kernel
theorem dL_law_2757 : decode cL_law 2757 = .ok (.iadd, 1) := by decide +kernel
theorem dL_law_2758 : decode cL_law 2758 = .ok (.iaload, 1) := by decide +kernel
theorem dL_law_2759 : decode cL_law 2759 = .ok (.aload_n 0, 1) := by decide +kernel
theorem dL_law_2760 : decode cL_law 2760 = .ok (.iload 5, 2) := by decide +kernel
theorem dL_law_2762 : decode cL_law 2762 = .ok (.iconst 4, 1) := by decide +kernel
theorem dL_law_2763 : decode cL_law 2763 = .ok (.iadd, 1) := by decide +kernel
theorem dL_law_2764 : decode cL_law 2764 = .ok (.iaload, 1) := by decide +kernel
theorem dL_law_2765 : decode cL_law 2765 = .ok (.invokevirtual 303, 3) := by decide +kernel
theorem dL_law_2768 : decode cL_law 2768 = .ok (.istore 7, 2) := by decide +kernel
theorem dL_law_2770 : decode cL_law 2770 = .ok (.aload_n 2, 1) := by decide +kernel
theorem dL_law_2771 : decode cL_law 2771 = .ok (.invokevirtual 188, 3) := by decide +kernel
theorem dL_law_2774 : decode cL_law 2774 = .ok (.iload 6, 2) := by decide +kernel
theorem dL_law_2776 : decode cL_law 2776 = .ok (.if_icmp .eq 5, 3) := by decide +kernel
theorem dL_law_2779 : decode cL_law 2779 = .ok (.iconst 0, 1) := by decide +kernel
theorem dL_law_2780 : decode cL_law 2780 = .ok (.ireturn, 1) := by decide +kernel
theorem dL_law_2781 : decode cL_law 2781 = .ok (.iload 6, 2) := by decide +kernel
theorem dL_law_2783 : decode cL_law 2783 = .ok (.ifCond .ne 15, 3) := by decide +kernel
theorem dL_law_2786 : decode cL_law 2786 = .ok (.aload_n 3, 1) := by decide +kernel
theorem dL_law_2787 : decode cL_law 2787 = .ok (.iconst 0, 1) := by decide +kernel
theorem dL_law_2788 : decode cL_law 2788 = .ok (.laload, 1) := by decide +kernel
theorem dL_law_2789 : decode cL_law 2789 = .ok (.iload 7, 2) := by decide +kernel
theorem dL_law_2791 : decode cL_law 2791 = .ok (.i2l, 1) := by decide +kernel
theorem dL_law_2792 : decode cL_law 2792 = .ok (.lcmp, 1) := by decide +kernel
theorem dL_law_2793 : decode cL_law 2793 = .ok (.ifCond .eq 5, 3) := by decide +kernel
theorem dL_law_2796 : decode cL_law 2796 = .ok (.iconst 0, 1) := by decide +kernel
theorem dL_law_2797 : decode cL_law 2797 = .ok (.ireturn, 1) := by decide +kernel
theorem dL_law_2798 : decode cL_law 2798 = .ok (.goto 1191, 3) := by decide +kernel
theorem dL_law_2801 : decode cL_law 2801 = .ok (.aload_n 1, 1) := by decide +kernel
theorem dL_law_2802 : decode cL_law 2802 = .ok (.aload_n 0, 1) := by decide +kernel
theorem dL_law_2803 : decode cL_law 2803 = .ok (.iload 5, 2) := by decide +kernel
theorem dL_law_2805 : decode cL_law 2805 = .ok (.iconst 1, 1) := by decide +kernel
theorem dL_law_2806 : decode cL_law 2806 = .ok (.iadd, 1) := by decide +kernel
theorem dL_law_2807 : decode cL_law 2807 = .ok (.iaload, 1) := by decide +kernel
theorem dL_law_2808 : decode cL_law 2808 = .ok (.aload_n 0, 1) := by decide +kernel
theorem dL_law_2809 : decode cL_law 2809 = .ok (.iload 5, 2) := by decide +kernel
theorem dL_law_2811 : decode cL_law 2811 = .ok (.iconst 2, 1) := by decide +kernel
theorem dL_law_2812 : decode cL_law 2812 = .ok (.iadd, 1) := by decide +kernel
theorem dL_law_2813 : decode cL_law 2813 = .ok (.iaload, 1) := by decide +kernel
theorem dL_law_2814 : decode cL_law 2814 = .ok (.aload_n 0, 1) := by decide +kernel
theorem dL_law_2815 : decode cL_law 2815 = .ok (.iload 5, 2) := by decide +kernel
theorem dL_law_2817 : decode cL_law 2817 = .ok (.iconst 3, 1) := by decide +kernel
theorem dL_law_2818 : decode cL_law 2818 = .ok (.iadd, 1) := by decide +kernel
theorem dL_law_2819 : decode cL_law 2819 = .ok (.iaload, 1) := by decide +kernel
theorem dL_law_2820 : decode cL_law 2820 = .ok (.aload_n 0, 1) := by decide +kernel
theorem dL_law_2821 : decode cL_law 2821 = .ok (.iload 5, 2) := by decide +kernel
theorem dL_law_2823 : decode cL_law 2823 = .ok (.iconst 4, 1) := by decide +kernel
theorem dL_law_2824 : decode cL_law 2824 = .ok (.iadd, 1) := by decide +kernel
theorem dL_law_2825 : decode cL_law 2825 = .ok (.iaload, 1) := by decide +kernel
theorem dL_law_2826 : decode cL_law 2826 = .ok (.aload_n 3, 1) := by decide +kernel
theorem dL_law_2827 : decode cL_law 2827 = .ok (.invokestatic 304, 3) := by decide +kernel
theorem dL_law_2830 : decode cL_law 2830 = .ok (.istore 6, 2) := by decide +kernel
theorem dL_law_2832 : decode cL_law 2832 = .ok (.aload_n 2, 1) := by decide +kernel
theorem dL_law_2833 : decode cL_law 2833 = .ok (.aload_n 0, 1) := by decide +kernel
theorem dL_law_2834 : decode cL_law 2834 = .ok (.iload 5, 2) := by decide +kernel
theorem dL_law_2836 : decode cL_law 2836 = .ok (.iconst 1, 1) := by decide +kernel
theorem dL_law_2837 : decode cL_law 2837 = .ok (.iadd, 1) := by decide +kernel
theorem dL_law_2838 : decode cL_law 2838 = .ok (.iaload, 1) := by decide +kernel
theorem dL_law_2839 : decode cL_law 2839 = .ok (.aload_n 0, 1) := by decide +kernel
theorem dL_law_2840 : decode cL_law 2840 = .ok (.iload 5, 2) := by decide +kernel
theorem dL_law_2842 : decode cL_law 2842 = .ok (.iconst 2, 1) := by decide +kernel
theorem dL_law_2843 : decode cL_law 2843 = .ok (.iadd, 1) := by decide +kernel
theorem dL_law_2844 : decode cL_law 2844 = .ok (.iaload, 1) := by decide +kernel
theorem dL_law_2845 : decode cL_law 2845 = .ok (.aload_n 0, 1) := by decide +kernel
theorem dL_law_2846 : decode cL_law 2846 = .ok (.iload 5, 2) := by decide +kernel
theorem dL_law_2848 : decode cL_law 2848 = .ok (.iconst 3, 1) := by decide +kernel
theorem dL_law_2849 : decode cL_law 2849 = .ok (.iadd, 1) := by decide +kernel
theorem dL_law_2850 : decode cL_law 2850 = .ok (.iaload, 1) := by decide +kernel
theorem dL_law_2851 : decode cL_law 2851 = .ok (.aload_n 0, 1) := by decide +kernel
theorem dL_law_2852 : decode cL_law 2852 = .ok (.iload 5, 2) := by decide +kernel
theorem dL_law_2854 : decode cL_law 2854 = .ok (.iconst 4, 1) := by decide +kernel
theorem dL_law_2855 : decode cL_law 2855 = .ok (.iadd, 1) := by decide +kernel
theorem dL_law_2856 : decode cL_law 2856 = .ok (.iaload, 1) := by decide +kernel
theorem dL_law_2857 : decode cL_law 2857 = .ok (.invokevirtual 306, 3) := by decide +kernel
theorem dL_law_2860 : decode cL_law 2860 = .ok (.istore 7, 2) := by decide +kernel
theorem dL_law_2862 : decode cL_law 2862 = .ok (.aload_n 2, 1) := by decide +kernel
theorem dL_law_2863 : decode cL_law 2863 = .ok (.invokevirtual 188, 3) := by decide +kernel
theorem dL_law_2866 : decode cL_law 2866 = .ok (.iload 6, 2) := by decide +kernel
theorem dL_law_2868 : decode cL_law 2868 = .ok (.if_icmp .eq 5, 3) := by decide +kernel
theorem dL_law_2871 : decode cL_law 2871 = .ok (.iconst 0, 1) := by decide +kernel
theorem dL_law_2872 : decode cL_law 2872 = .ok (.ireturn, 1) := by decide +kernel
theorem dL_law_2873 : decode cL_law 2873 = .ok (.iload 6, 2) := by decide +kernel
theorem dL_law_2875 : decode cL_law 2875 = .ok (.ifCond .ne 15, 3) := by decide +kernel
theorem dL_law_2878 : decode cL_law 2878 = .ok (.aload_n 3, 1) := by decide +kernel
theorem dL_law_2879 : decode cL_law 2879 = .ok (.iconst 0, 1) := by decide +kernel
theorem dL_law_2880 : decode cL_law 2880 = .ok (.laload, 1) := by decide +kernel
theorem dL_law_2881 : decode cL_law 2881 = .ok (.iload 7, 2) := by decide +kernel
theorem dL_law_2883 : decode cL_law 2883 = .ok (.i2l, 1) := by decide +kernel
theorem dL_law_2884 : decode cL_law 2884 = .ok (.lcmp, 1) := by decide +kernel
theorem dL_law_2885 : decode cL_law 2885 = .ok (.ifCond .eq 5, 3) := by decide +kernel
theorem dL_law_2888 : decode cL_law 2888 = .ok (.iconst 0, 1) := by decide +kernel
theorem dL_law_2889 : decode cL_law 2889 = .ok (.ireturn, 1) := by decide +kernel
theorem dL_law_2890 : decode cL_law 2890 = .ok (.goto 1099, 3) := by decide +kernel
theorem dL_law_2893 : decode cL_law 2893 = .ok (.aload_n 1, 1) := by decide +kernel
theorem dL_law_2894 : decode cL_law 2894 = .ok (.aload_n 0, 1) := by decide +kernel
theorem dL_law_2895 : decode cL_law 2895 = .ok (.iload 5, 2) := by decide +kernel
theorem dL_law_2897 : decode cL_law 2897 = .ok (.iconst 1, 1) := by decide +kernel
theorem dL_law_2898 : decode cL_law 2898 = .ok (.iadd, 1) := by decide +kernel
theorem dL_law_2899 : decode cL_law 2899 = .ok (.iaload, 1) := by decide +kernel
theorem dL_law_2900 : decode cL_law 2900 = .ok (.aload_n 0, 1) := by decide +kernel
theorem dL_law_2901 : decode cL_law 2901 = .ok (.iload 5, 2) := by decide +kernel
theorem dL_law_2903 : decode cL_law 2903 = .ok (.iconst 2, 1) := by decide +kernel
theorem dL_law_2904 : decode cL_law 2904 = .ok (.iadd, 1) := by decide +kernel
theorem dL_law_2905 : decode cL_law 2905 = .ok (.iaload, 1) := by decide +kernel
theorem dL_law_2906 : decode cL_law 2906 = .ok (.aload_n 0, 1) := by decide +kernel
theorem dL_law_2907 : decode cL_law 2907 = .ok (.iload 5, 2) := by decide +kernel
theorem dL_law_2909 : decode cL_law 2909 = .ok (.iconst 3, 1) := by decide +kernel
theorem dL_law_2910 : decode cL_law 2910 = .ok (.iadd, 1) := by decide +kernel
theorem dL_law_2911 : decode cL_law 2911 = .ok (.iaload, 1) := by decide +kernel
theorem dL_law_2912 : decode cL_law 2912 = .ok (.aload_n 0, 1) := by decide +kernel
theorem dL_law_2913 : decode cL_law 2913 = .ok (.iload 5, 2) := by decide +kernel
theorem dL_law_2915 : decode cL_law 2915 = .ok (.iconst 4, 1) := by decide +kernel
theorem dL_law_2916 : decode cL_law 2916 = .ok (.iadd, 1) := by decide +kernel
theorem dL_law_2917 : decode cL_law 2917 = .ok (.iaload, 1) := by decide +kernel
theorem dL_law_2918 : decode cL_law 2918 = .ok (.aload_n 0, 1) := by decide +kernel
theorem dL_law_2919 : decode cL_law 2919 = .ok (.iload 5, 2) := by decide +kernel
theorem dL_law_2921 : decode cL_law 2921 = .ok (.iconst 5, 1) := by decide +kernel
theorem dL_law_2922 : decode cL_law 2922 = .ok (.iadd, 1) := by decide +kernel
theorem dL_law_2923 : decode cL_law 2923 = .ok (.iaload, 1) := by decide +kernel
theorem dL_law_2924 : decode cL_law 2924 = .ok (.aload_n 3, 1) := by decide +kernel
theorem dL_law_2925 : decode cL_law 2925 = .ok (.invokestatic 307, 3) := by decide +kernel
theorem dL_law_2928 : decode cL_law 2928 = .ok (.istore 6, 2) := by decide +kernel
theorem dL_law_2930 : decode cL_law 2930 = .ok (.aload_n 2, 1) := by decide +kernel
theorem dL_law_2931 : decode cL_law 2931 = .ok (.aload_n 0, 1) := by decide +kernel
theorem dL_law_2932 : decode cL_law 2932 = .ok (.iload 5, 2) := by decide +kernel
theorem dL_law_2934 : decode cL_law 2934 = .ok (.iconst 1, 1) := by decide +kernel
theorem dL_law_2935 : decode cL_law 2935 = .ok (.iadd, 1) := by decide +kernel
theorem dL_law_2936 : decode cL_law 2936 = .ok (.iaload, 1) := by decide +kernel
theorem dL_law_2937 : decode cL_law 2937 = .ok (.aload_n 0, 1) := by decide +kernel
theorem dL_law_2938 : decode cL_law 2938 = .ok (.iload 5, 2) := by decide +kernel
theorem dL_law_2940 : decode cL_law 2940 = .ok (.iconst 2, 1) := by decide +kernel
theorem dL_law_2941 : decode cL_law 2941 = .ok (.iadd, 1) := by decide +kernel
theorem dL_law_2942 : decode cL_law 2942 = .ok (.iaload, 1) := by decide +kernel
theorem dL_law_2943 : decode cL_law 2943 = .ok (.aload_n 0, 1) := by decide +kernel
theorem dL_law_2944 : decode cL_law 2944 = .ok (.iload 5, 2) := by decide +kernel
theorem dL_law_2946 : decode cL_law 2946 = .ok (.iconst 3, 1) := by decide +kernel
theorem dL_law_2947 : decode cL_law 2947 = .ok (.iadd, 1) := by decide +kernel
theorem dL_law_2948 : decode cL_law 2948 = .ok (.iaload, 1) := by decide +kernel
theorem dL_law_2949 : decode cL_law 2949 = .ok (.aload_n 0, 1) := by decide +kernel
theorem dL_law_2950 : decode cL_law 2950 = .ok (.iload 5, 2) := by decide +kernel
theorem dL_law_2952 : decode cL_law 2952 = .ok (.iconst 4, 1) := by decide +kernel
theorem dL_law_2953 : decode cL_law 2953 = .ok (.iadd, 1) := by decide +kernel
theorem dL_law_2954 : decode cL_law 2954 = .ok (.iaload, 1) := by decide +kernel
theorem dL_law_2955 : decode cL_law 2955 = .ok (.aload_n 0, 1) := by decide +kernel
theorem dL_law_2956 : decode cL_law 2956 = .ok (.iload 5, 2) := by decide +kernel
theorem dL_law_2958 : decode cL_law 2958 = .ok (.iconst 5, 1) := by decide +kernel
theorem dL_law_2959 : decode cL_law 2959 = .ok (.iadd, 1) := by decide +kernel
theorem dL_law_2960 : decode cL_law 2960 = .ok (.iaload, 1) := by decide +kernel
theorem dL_law_2961 : decode cL_law 2961 = .ok (.invokevirtual 310, 3) := by decide +kernel
theorem dL_law_2964 : decode cL_law 2964 = .ok (.istore 7, 2) := by decide +kernel
theorem dL_law_2966 : decode cL_law 2966 = .ok (.aload_n 2, 1) := by decide +kernel
theorem dL_law_2967 : decode cL_law 2967 = .ok (.invokevirtual 188, 3) := by decide +kernel
theorem dL_law_2970 : decode cL_law 2970 = .ok (.iload 6, 2) := by decide +kernel
theorem dL_law_2972 : decode cL_law 2972 = .ok (.if_icmp .eq 5, 3) := by decide +kernel
theorem dL_law_2975 : decode cL_law 2975 = .ok (.iconst 0, 1) := by decide +kernel
theorem dL_law_2976 : decode cL_law 2976 = .ok (.ireturn, 1) := by decide +kernel
theorem dL_law_2977 : decode cL_law 2977 = .ok (.iload 6, 2) := by decide +kernel
theorem dL_law_2979 : decode cL_law 2979 = .ok (.ifCond .ne 15, 3) := by decide +kernel
theorem dL_law_2982 : decode cL_law 2982 = .ok (.aload_n 3, 1) := by decide +kernel
theorem dL_law_2983 : decode cL_law 2983 = .ok (.iconst 0, 1) := by decide +kernel
theorem dL_law_2984 : decode cL_law 2984 = .ok (.laload, 1) := by decide +kernel
theorem dL_law_2985 : decode cL_law 2985 = .ok (.iload 7, 2) := by decide +kernel
theorem dL_law_2987 : decode cL_law 2987 = .ok (.i2l, 1) := by decide +kernel
theorem dL_law_2988 : decode cL_law 2988 = .ok (.lcmp, 1) := by decide +kernel
theorem dL_law_2989 : decode cL_law 2989 = .ok (.ifCond .eq 5, 3) := by decide +kernel
theorem dL_law_2992 : decode cL_law 2992 = .ok (.iconst 0, 1) := by decide +kernel
theorem dL_law_2993 : decode cL_law 2993 = .ok (.ireturn, 1) := by decide +kernel
theorem dL_law_2994 : decode cL_law 2994 = .ok (.goto 995, 3) := by decide +kernel
theorem dL_law_2997 : decode cL_law 2997 = .ok (.aload_n 1, 1) := by decide +kernel
theorem dL_law_2998 : decode cL_law 2998 = .ok (.aload_n 0, 1) := by decide +kernel
theorem dL_law_2999 : decode cL_law 2999 = .ok (.iload 5, 2) := by decide +kernel
theorem dL_law_3001 : decode cL_law 3001 = .ok (.iconst 1, 1) := by decide +kernel
theorem dL_law_3002 : decode cL_law 3002 = .ok (.iadd, 1) := by decide +kernel
theorem dL_law_3003 : decode cL_law 3003 = .ok (.iaload, 1) := by decide +kernel
theorem dL_law_3004 : decode cL_law 3004 = .ok (.aload_n 0, 1) := by decide +kernel
theorem dL_law_3005 : decode cL_law 3005 = .ok (.iload 5, 2) := by decide +kernel
theorem dL_law_3007 : decode cL_law 3007 = .ok (.iconst 2, 1) := by decide +kernel
theorem dL_law_3008 : decode cL_law 3008 = .ok (.iadd, 1) := by decide +kernel
theorem dL_law_3009 : decode cL_law 3009 = .ok (.iaload, 1) := by decide +kernel
theorem dL_law_3010 : decode cL_law 3010 = .ok (.aload_n 0, 1) := by decide +kernel
theorem dL_law_3011 : decode cL_law 3011 = .ok (.iload 5, 2) := by decide +kernel
theorem dL_law_3013 : decode cL_law 3013 = .ok (.iconst 3, 1) := by decide +kernel
theorem dL_law_3014 : decode cL_law 3014 = .ok (.iadd, 1) := by decide +kernel
theorem dL_law_3015 : decode cL_law 3015 = .ok (.iaload, 1) := by decide +kernel
theorem dL_law_3016 : decode cL_law 3016 = .ok (.aload_n 0, 1) := by decide +kernel
theorem dL_law_3017 : decode cL_law 3017 = .ok (.iload 5, 2) := by decide +kernel
theorem dL_law_3019 : decode cL_law 3019 = .ok (.iconst 4, 1) := by decide +kernel
theorem dL_law_3020 : decode cL_law 3020 = .ok (.iadd, 1) := by decide +kernel
theorem dL_law_3021 : decode cL_law 3021 = .ok (.iaload, 1) := by decide +kernel
theorem dL_law_3022 : decode cL_law 3022 = .ok (.aload_n 0, 1) := by decide +kernel
theorem dL_law_3023 : decode cL_law 3023 = .ok (.iload 5, 2) := by decide +kernel
theorem dL_law_3025 : decode cL_law 3025 = .ok (.iconst 5, 1) := by decide +kernel
theorem dL_law_3026 : decode cL_law 3026 = .ok (.iadd, 1) := by decide +kernel
theorem dL_law_3027 : decode cL_law 3027 = .ok (.iaload, 1) := by decide +kernel
theorem dL_law_3028 : decode cL_law 3028 = .ok (.aload_n 3, 1) := by decide +kernel
theorem dL_law_3029 : decode cL_law 3029 = .ok (.invokestatic 311, 3) := by decide +kernel
theorem dL_law_3032 : decode cL_law 3032 = .ok (.istore 6, 2) := by decide +kernel
theorem dL_law_3034 : decode cL_law 3034 = .ok (.aload_n 2, 1) := by decide +kernel
theorem dL_law_3035 : decode cL_law 3035 = .ok (.aload_n 0, 1) := by decide +kernel
theorem dL_law_3036 : decode cL_law 3036 = .ok (.iload 5, 2) := by decide +kernel
theorem dL_law_3038 : decode cL_law 3038 = .ok (.iconst 1, 1) := by decide +kernel
theorem dL_law_3039 : decode cL_law 3039 = .ok (.iadd, 1) := by decide +kernel
theorem dL_law_3040 : decode cL_law 3040 = .ok (.iaload, 1) := by decide +kernel
theorem dL_law_3041 : decode cL_law 3041 = .ok (.aload_n 0, 1) := by decide +kernel
theorem dL_law_3042 : decode cL_law 3042 = .ok (.iload 5, 2) := by decide +kernel
theorem dL_law_3044 : decode cL_law 3044 = .ok (.iconst 2, 1) := by decide +kernel
theorem dL_law_3045 : decode cL_law 3045 = .ok (.iadd, 1) := by decide +kernel
theorem dL_law_3046 : decode cL_law 3046 = .ok (.iaload, 1) := by decide +kernel
theorem dL_law_3047 : decode cL_law 3047 = .ok (.aload_n 0, 1) := by decide +kernel
theorem dL_law_3048 : decode cL_law 3048 = .ok (.iload 5, 2) := by decide +kernel
theorem dL_law_3050 : decode cL_law 3050 = .ok (.iconst 3, 1) := by decide +kernel
theorem dL_law_3051 : decode cL_law 3051 = .ok (.iadd, 1) := by decide +kernel
theorem dL_law_3052 : decode cL_law 3052 = .ok (.iaload, 1) := by decide +kernel
theorem dL_law_3053 : decode cL_law 3053 = .ok (.aload_n 0, 1) := by decide +kernel
theorem dL_law_3054 : decode cL_law 3054 = .ok (.iload 5, 2) := by decide +kernel
theorem dL_law_3056 : decode cL_law 3056 = .ok (.iconst 4, 1) := by decide +kernel
theorem dL_law_3057 : decode cL_law 3057 = .ok (.iadd, 1) := by decide +kernel
theorem dL_law_3058 : decode cL_law 3058 = .ok (.iaload, 1) := by decide +kernel
theorem dL_law_3059 : decode cL_law 3059 = .ok (.aload_n 0, 1) := by decide +kernel
theorem dL_law_3060 : decode cL_law 3060 = .ok (.iload 5, 2) := by decide +kernel
theorem dL_law_3062 : decode cL_law 3062 = .ok (.iconst 5, 1) := by decide +kernel
theorem dL_law_3063 : decode cL_law 3063 = .ok (.iadd, 1) := by decide +kernel
theorem dL_law_3064 : decode cL_law 3064 = .ok (.iaload, 1) := by decide +kernel
theorem dL_law_3065 : decode cL_law 3065 = .ok (.invokevirtual 313, 3) := by decide +kernel
theorem dL_law_3068 : decode cL_law 3068 = .ok (.istore 7, 2) := by decide +kernel
theorem dL_law_3070 : decode cL_law 3070 = .ok (.aload_n 2, 1) := by decide +kernel
theorem dL_law_3071 : decode cL_law 3071 = .ok (.invokevirtual 188, 3) := by decide +kernel
theorem dL_law_3074 : decode cL_law 3074 = .ok (.iload 6, 2) := by decide +kernel
theorem dL_law_3076 : decode cL_law 3076 = .ok (.if_icmp .eq 5, 3) := by decide +kernel
theorem dL_law_3079 : decode cL_law 3079 = .ok (.iconst 0, 1) := by decide +kernel
theorem dL_law_3080 : decode cL_law 3080 = .ok (.ireturn, 1) := by decide +kernel
theorem dL_law_3081 : decode cL_law 3081 = .ok (.iload 6, 2) := by decide +kernel
theorem dL_law_3083 : decode cL_law 3083 = .ok (.ifCond .ne 22, 3) := by decide +kernel
theorem dL_law_3086 : decode cL_law 3086 = .ok (.aload_n 3, 1) := by decide +kernel
theorem dL_law_3087 : decode cL_law 3087 = .ok (.iconst 0, 1) := by decide +kernel
theorem dL_law_3088 : decode cL_law 3088 = .ok (.laload, 1) := by decide +kernel
theorem dL_law_3089 : decode cL_law 3089 = .ok (.iload 7, 2) := by decide +kernel
theorem dL_law_3091 : decode cL_law 3091 = .ok (.ifCond .eq 7, 3) := by decide +kernel
theorem dL_law_3094 : decode cL_law 3094 = .ok (.lconst 1, 1) := by decide +kernel
theorem dL_law_3095 : decode cL_law 3095 = .ok (.goto 4, 3) := by decide +kernel
theorem dL_law_3098 : decode cL_law 3098 = .ok (.lconst 0, 1) := by decide +kernel
theorem dL_law_3099 : decode cL_law 3099 = .ok (.lcmp, 1) := by decide +kernel
theorem dL_law_3100 : decode cL_law 3100 = .ok (.ifCond .eq 5, 3) := by decide +kernel
theorem dL_law_3103 : decode cL_law 3103 = .ok (.iconst 0, 1) := by decide +kernel
theorem dL_law_3104 : decode cL_law 3104 = .ok (.ireturn, 1) := by decide +kernel
theorem dL_law_3105 : decode cL_law 3105 = .ok (.goto 884, 3) := by decide +kernel
theorem dL_law_3108 : decode cL_law 3108 = .ok (.aload_n 1, 1) := by decide +kernel
theorem dL_law_3109 : decode cL_law 3109 = .ok (.aload_n 0, 1) := by decide +kernel
theorem dL_law_3110 : decode cL_law 3110 = .ok (.iload 5, 2) := by decide +kernel
theorem dL_law_3112 : decode cL_law 3112 = .ok (.iconst 1, 1) := by decide +kernel
theorem dL_law_3113 : decode cL_law 3113 = .ok (.iadd, 1) := by decide +kernel
theorem dL_law_3114 : decode cL_law 3114 = .ok (.iaload, 1) := by decide +kernel
theorem dL_law_3115 : decode cL_law 3115 = .ok (.aload_n 0, 1) := by decide +kernel
theorem dL_law_3116 : decode cL_law 3116 = .ok (.iload 5, 2) := by decide +kernel
theorem dL_law_3118 : decode cL_law 3118 = .ok (.iconst 2, 1) := by decide +kernel
theorem dL_law_3119 : decode cL_law 3119 = .ok (.iadd, 1) := by decide +kernel
theorem dL_law_3120 : decode cL_law 3120 = .ok (.iaload, 1) := by decide +kernel
theorem dL_law_3121 : decode cL_law 3121 = .ok (.aload_n 0, 1) := by decide +kernel
theorem dL_law_3122 : decode cL_law 3122 = .ok (.iload 5, 2) := by decide +kernel
theorem dL_law_3124 : decode cL_law 3124 = .ok (.iconst 3, 1) := by decide +kernel
theorem dL_law_3125 : decode cL_law 3125 = .ok (.iadd, 1) := by decide +kernel
theorem dL_law_3126 : decode cL_law 3126 = .ok (.iaload, 1) := by decide +kernel
theorem dL_law_3127 : decode cL_law 3127 = .ok (.aload_n 0, 1) := by decide +kernel
theorem dL_law_3128 : decode cL_law 3128 = .ok (.iload 5, 2) := by decide +kernel
theorem dL_law_3130 : decode cL_law 3130 = .ok (.iconst 4, 1) := by decide +kernel
theorem dL_law_3131 : decode cL_law 3131 = .ok (.iadd, 1) := by decide +kernel
theorem dL_law_3132 : decode cL_law 3132 = .ok (.iaload, 1) := by decide +kernel
theorem dL_law_3133 : decode cL_law 3133 = .ok (.aload_n 0, 1) := by decide +kernel
theorem dL_law_3134 : decode cL_law 3134 = .ok (.iload 5, 2) := by decide +kernel
theorem dL_law_3136 : decode cL_law 3136 = .ok (.iconst 5, 1) := by decide +kernel
theorem dL_law_3137 : decode cL_law 3137 = .ok (.iadd, 1) := by decide +kernel
theorem dL_law_3138 : decode cL_law 3138 = .ok (.iaload, 1) := by decide +kernel
theorem dL_law_3139 : decode cL_law 3139 = .ok (.aload_n 3, 1) := by decide +kernel
theorem dL_law_3140 : decode cL_law 3140 = .ok (.invokestatic 314, 3) := by decide +kernel
theorem dL_law_3143 : decode cL_law 3143 = .ok (.istore 6, 2) := by decide +kernel
theorem dL_law_3145 : decode cL_law 3145 = .ok (.aload_n 2, 1) := by decide +kernel
theorem dL_law_3146 : decode cL_law 3146 = .ok (.aload_n 0, 1) := by decide +kernel
theorem dL_law_3147 : decode cL_law 3147 = .ok (.iload 5, 2) := by decide +kernel
theorem dL_law_3149 : decode cL_law 3149 = .ok (.iconst 1, 1) := by decide +kernel
theorem dL_law_3150 : decode cL_law 3150 = .ok (.iadd, 1) := by decide +kernel
theorem dL_law_3151 : decode cL_law 3151 = .ok (.iaload, 1) := by decide +kernel
theorem dL_law_3152 : decode cL_law 3152 = .ok (.aload_n 0, 1) := by decide +kernel
theorem dL_law_3153 : decode cL_law 3153 = .ok (.iload 5, 2) := by decide +kernel
theorem dL_law_3155 : decode cL_law 3155 = .ok (.iconst 2, 1) := by decide +kernel
theorem dL_law_3156 : decode cL_law 3156 = .ok (.iadd, 1) := by decide +kernel
theorem dL_law_3157 : decode cL_law 3157 = .ok (.iaload, 1) := by decide +kernel
theorem dL_law_3158 : decode cL_law 3158 = .ok (.aload_n 0, 1) := by decide +kernel
theorem dL_law_3159 : decode cL_law 3159 = .ok (.iload 5, 2) := by decide +kernel
theorem dL_law_3161 : decode cL_law 3161 = .ok (.iconst 3, 1) := by decide +kernel
theorem dL_law_3162 : decode cL_law 3162 = .ok (.iadd, 1) := by decide +kernel
theorem dL_law_3163 : decode cL_law 3163 = .ok (.iaload, 1) := by decide +kernel
theorem dL_law_3164 : decode cL_law 3164 = .ok (.aload_n 0, 1) := by decide +kernel
theorem dL_law_3165 : decode cL_law 3165 = .ok (.iload 5, 2) := by decide +kernel
theorem dL_law_3167 : decode cL_law 3167 = .ok (.iconst 4, 1) := by decide +kernel
theorem dL_law_3168 : decode cL_law 3168 = .ok (.iadd, 1) := by decide +kernel
theorem dL_law_3169 : decode cL_law 3169 = .ok (.iaload, 1) := by decide +kernel
theorem dL_law_3170 : decode cL_law 3170 = .ok (.aload_n 0, 1) := by decide +kernel
theorem dL_law_3171 : decode cL_law 3171 = .ok (.iload 5, 2) := by decide +kernel
theorem dL_law_3173 : decode cL_law 3173 = .ok (.iconst 5, 1) := by decide +kernel
theorem dL_law_3174 : decode cL_law 3174 = .ok (.iadd, 1) := by decide +kernel
theorem dL_law_3175 : decode cL_law 3175 = .ok (.iaload, 1) := by decide +kernel
theorem dL_law_3176 : decode cL_law 3176 = .ok (.invokevirtual 316, 3) := by decide +kernel
theorem dL_law_3179 : decode cL_law 3179 = .ok (.istore 7, 2) := by decide +kernel
theorem dL_law_3181 : decode cL_law 3181 = .ok (.aload_n 2, 1) := by decide +kernel
theorem dL_law_3182 : decode cL_law 3182 = .ok (.invokevirtual 188, 3) := by decide +kernel
theorem dL_law_3185 : decode cL_law 3185 = .ok (.iload 6, 2) := by decide +kernel
theorem dL_law_3187 : decode cL_law 3187 = .ok (.if_icmp .eq 5, 3) := by decide +kernel
theorem dL_law_3190 : decode cL_law 3190 = .ok (.iconst 0, 1) := by decide +kernel
theorem dL_law_3191 : decode cL_law 3191 = .ok (.ireturn, 1) := by decide +kernel
theorem dL_law_3192 : decode cL_law 3192 = .ok (.iload 6, 2) := by decide +kernel
theorem dL_law_3194 : decode cL_law 3194 = .ok (.ifCond .ne 15, 3) := by decide +kernel
theorem dL_law_3197 : decode cL_law 3197 = .ok (.aload_n 3, 1) := by decide +kernel
theorem dL_law_3198 : decode cL_law 3198 = .ok (.iconst 0, 1) := by decide +kernel
theorem dL_law_3199 : decode cL_law 3199 = .ok (.laload, 1) := by decide +kernel
theorem dL_law_3200 : decode cL_law 3200 = .ok (.iload 7, 2) := by decide +kernel
theorem dL_law_3202 : decode cL_law 3202 = .ok (.i2l, 1) := by decide +kernel
theorem dL_law_3203 : decode cL_law 3203 = .ok (.lcmp, 1) := by decide +kernel
theorem dL_law_3204 : decode cL_law 3204 = .ok (.ifCond .eq 5, 3) := by decide +kernel
theorem dL_law_3207 : decode cL_law 3207 = .ok (.iconst 0, 1) := by decide +kernel
theorem dL_law_3208 : decode cL_law 3208 = .ok (.ireturn, 1) := by decide +kernel
theorem dL_law_3209 : decode cL_law 3209 = .ok (.goto 780, 3) := by decide +kernel
theorem dL_law_3212 : decode cL_law 3212 = .ok (.aload_n 1, 1) := by decide +kernel
theorem dL_law_3213 : decode cL_law 3213 = .ok (.invokevirtual 317, 3) := by decide +kernel
theorem dL_law_3216 : decode cL_law 3216 = .ok (.aload_n 2, 1) := by decide +kernel
theorem dL_law_3217 : decode cL_law 3217 = .ok (.invokevirtual 320, 3) := by decide +kernel
theorem dL_law_3220 : decode cL_law 3220 = .ok (.if_icmp .eq 769, 3) := by decide +kernel
theorem dL_law_3223 : decode cL_law 3223 = .ok (.iconst 0, 1) := by decide +kernel
theorem dL_law_3224 : decode cL_law 3224 = .ok (.ireturn, 1) := by decide +kernel
theorem dL_law_3225 : decode cL_law 3225 = .ok (.aload_n 1, 1) := by decide +kernel
theorem dL_law_3226 : decode cL_law 3226 = .ok (.aload_n 0, 1) := by decide +kernel
theorem dL_law_3227 : decode cL_law 3227 = .ok (.iload 5, 2) := by decide +kernel
theorem dL_law_3229 : decode cL_law 3229 = .ok (.iconst 1, 1) := by decide +kernel
theorem dL_law_3230 : decode cL_law 3230 = .ok (.iadd, 1) := by decide +kernel
theorem dL_law_3231 : decode cL_law 3231 = .ok (.iaload, 1) := by decide +kernel
theorem dL_law_3232 : decode cL_law 3232 = .ok (.aload_n 0, 1) := by decide +kernel
theorem dL_law_3233 : decode cL_law 3233 = .ok (.iload 5, 2) := by decide +kernel
theorem dL_law_3235 : decode cL_law 3235 = .ok (.iconst 2, 1) := by decide +kernel
theorem dL_law_3236 : decode cL_law 3236 = .ok (.iadd, 1) := by decide +kernel
theorem dL_law_3237 : decode cL_law 3237 = .ok (.iaload, 1) := by decide +kernel
theorem dL_law_3238 : decode cL_law 3238 = .ok (.aload_n 3, 1) := by decide +kernel
theorem dL_law_3239 : decode cL_law 3239 = .ok (.invokestatic 321, 3) := by decide +kernel
theorem dL_law_3242 : decode cL_law 3242 = .ok (.istore 6, 2) := by decide +kernel
theorem dL_law_3244 : decode cL_law 3244 = .ok (.aload_n 2, 1) := by decide +kernel
theorem dL_law_3245 : decode cL_law 3245 = .ok (.aload_n 0, 1) := by decide +kernel
theorem dL_law_3246 : decode cL_law 3246 = .ok (.iload 5, 2) := by decide +kernel
theorem dL_law_3248 : decode cL_law 3248 = .ok (.iconst 1, 1) := by decide +kernel
theorem dL_law_3249 : decode cL_law 3249 = .ok (.iadd, 1) := by decide +kernel
theorem dL_law_3250 : decode cL_law 3250 = .ok (.iaload, 1) := by decide +kernel
theorem dL_law_3251 : decode cL_law 3251 = .ok (.aload_n 0, 1) := by decide +kernel
theorem dL_law_3252 : decode cL_law 3252 = .ok (.iload 5, 2) := by decide +kernel
theorem dL_law_3254 : decode cL_law 3254 = .ok (.iconst 2, 1) := by decide +kernel
theorem dL_law_3255 : decode cL_law 3255 = .ok (.iadd, 1) := by decide +kernel
theorem dL_law_3256 : decode cL_law 3256 = .ok (.iaload, 1) := by decide +kernel
theorem dL_law_3257 : decode cL_law 3257 = .ok (.invokevirtual 323, 3) := by decide +kernel
theorem dL_law_3260 : decode cL_law 3260 = .ok (.istore 7, 2) := by decide +kernel
theorem dL_law_3262 : decode cL_law 3262 = .ok (.aload_n 2, 1) := by decide +kernel
theorem dL_law_3263 : decode cL_law 3263 = .ok (.invokevirtual 188, 3) := by decide +kernel
theorem dL_law_3266 : decode cL_law 3266 = .ok (.iload 6, 2) := by decide +kernel
theorem dL_law_3268 : decode cL_law 3268 = .ok (.if_icmp .eq 5, 3) := by decide +kernel
theorem dL_law_3271 : decode cL_law 3271 = .ok (.iconst 0, 1) := by decide +kernel
theorem dL_law_3272 : decode cL_law 3272 = .ok (.ireturn, 1) := by decide +kernel
theorem dL_law_3273 : decode cL_law 3273 = .ok (.iload 6, 2) := by decide +kernel
theorem dL_law_3275 : decode cL_law 3275 = .ok (.ifCond .ne 15, 3) := by decide +kernel
theorem dL_law_3278 : decode cL_law 3278 = .ok (.aload_n 3, 1) := by decide +kernel
theorem dL_law_3279 : decode cL_law 3279 = .ok (.iconst 0, 1) := by decide +kernel
theorem dL_law_3280 : decode cL_law 3280 = .ok (.laload, 1) := by decide +kernel
theorem dL_law_3281 : decode cL_law 3281 = .ok (.iload 7, 2) := by decide +kernel
theorem dL_law_3283 : decode cL_law 3283 = .ok (.i2l, 1) := by decide +kernel
theorem dL_law_3284 : decode cL_law 3284 = .ok (.lcmp, 1) := by decide +kernel
theorem dL_law_3285 : decode cL_law 3285 = .ok (.ifCond .eq 5, 3) := by decide +kernel
theorem dL_law_3288 : decode cL_law 3288 = .ok (.iconst 0, 1) := by decide +kernel
theorem dL_law_3289 : decode cL_law 3289 = .ok (.ireturn, 1) := by decide +kernel
theorem dL_law_3290 : decode cL_law 3290 = .ok (.goto 699, 3) := by decide +kernel
theorem dL_law_3293 : decode cL_law 3293 = .ok (.aload_n 1, 1) := by decide +kernel
theorem dL_law_3294 : decode cL_law 3294 = .ok (.aload_n 0, 1) := by decide +kernel
theorem dL_law_3295 : decode cL_law 3295 = .ok (.iload 5, 2) := by decide +kernel
theorem dL_law_3297 : decode cL_law 3297 = .ok (.iconst 1, 1) := by decide +kernel
theorem dL_law_3298 : decode cL_law 3298 = .ok (.iadd, 1) := by decide +kernel
theorem dL_law_3299 : decode cL_law 3299 = .ok (.iaload, 1) := by decide +kernel
theorem dL_law_3300 : decode cL_law 3300 = .ok (.aload_n 3, 1) := by decide +kernel
theorem dL_law_3301 : decode cL_law 3301 = .ok (.invokestatic 324, 3) := by decide +kernel
theorem dL_law_3304 : decode cL_law 3304 = .ok (.istore 6, 2) := by decide +kernel
theorem dL_law_3306 : decode cL_law 3306 = .ok (.aload_n 2, 1) := by decide +kernel
theorem dL_law_3307 : decode cL_law 3307 = .ok (.aload_n 0, 1) := by decide +kernel
theorem dL_law_3308 : decode cL_law 3308 = .ok (.iload 5, 2) := by decide +kernel
theorem dL_law_3310 : decode cL_law 3310 = .ok (.iconst 1, 1) := by decide +kernel
theorem dL_law_3311 : decode cL_law 3311 = .ok (.iadd, 1) := by decide +kernel
theorem dL_law_3312 : decode cL_law 3312 = .ok (.iaload, 1) := by decide +kernel
theorem dL_law_3313 : decode cL_law 3313 = .ok (.invokevirtual 326, 3) := by decide +kernel
theorem dL_law_3316 : decode cL_law 3316 = .ok (.istore 7, 2) := by decide +kernel
theorem dL_law_3318 : decode cL_law 3318 = .ok (.aload_n 2, 1) := by decide +kernel
theorem dL_law_3319 : decode cL_law 3319 = .ok (.invokevirtual 188, 3) := by decide +kernel
theorem dL_law_3322 : decode cL_law 3322 = .ok (.iload 6, 2) := by decide +kernel
theorem dL_law_3324 : decode cL_law 3324 = .ok (.if_icmp .eq 5, 3) := by decide +kernel
theorem dL_law_3327 : decode cL_law 3327 = .ok (.iconst 0, 1) := by decide +kernel
theorem dL_law_3328 : decode cL_law 3328 = .ok (.ireturn, 1) := by decide +kernel
theorem dL_law_3329 : decode cL_law 3329 = .ok (.iload 6, 2) := by decide +kernel
theorem dL_law_3331 : decode cL_law 3331 = .ok (.ifCond .ne 15, 3) := by decide +kernel
theorem dL_law_3334 : decode cL_law 3334 = .ok (.aload_n 3, 1) := by decide +kernel
theorem dL_law_3335 : decode cL_law 3335 = .ok (.iconst 0, 1) := by decide +kernel
theorem dL_law_3336 : decode cL_law 3336 = .ok (.laload, 1) := by decide +kernel
theorem dL_law_3337 : decode cL_law 3337 = .ok (.iload 7, 2) := by decide +kernel
theorem dL_law_3339 : decode cL_law 3339 = .ok (.i2l, 1) := by decide +kernel
theorem dL_law_3340 : decode cL_law 3340 = .ok (.lcmp, 1) := by decide +kernel
theorem dL_law_3341 : decode cL_law 3341 = .ok (.ifCond .eq 5, 3) := by decide +kernel
theorem dL_law_3344 : decode cL_law 3344 = .ok (.iconst 0, 1) := by decide +kernel
theorem dL_law_3345 : decode cL_law 3345 = .ok (.ireturn, 1) := by decide +kernel
theorem dL_law_3346 : decode cL_law 3346 = .ok (.goto 643, 3) := by decide +kernel
theorem dL_law_3349 : decode cL_law 3349 = .ok (.aload_n 1, 1) := by decide +kernel
theorem dL_law_3350 : decode cL_law 3350 = .ok (.aload_n 0, 1) := by decide +kernel
theorem dL_law_3351 : decode cL_law 3351 = .ok (.iload 5, 2) := by decide +kernel
theorem dL_law_3353 : decode cL_law 3353 = .ok (.iconst 1, 1) := by decide +kernel
theorem dL_law_3354 : decode cL_law 3354 = .ok (.iadd, 1) := by decide +kernel
theorem dL_law_3355 : decode cL_law 3355 = .ok (.iaload, 1) := by decide +kernel
theorem dL_law_3356 : decode cL_law 3356 = .ok (.aload_n 0, 1) := by decide +kernel
theorem dL_law_3357 : decode cL_law 3357 = .ok (.iload 5, 2) := by decide +kernel
theorem dL_law_3359 : decode cL_law 3359 = .ok (.iconst 2, 1) := by decide +kernel
theorem dL_law_3360 : decode cL_law 3360 = .ok (.iadd, 1) := by decide +kernel
theorem dL_law_3361 : decode cL_law 3361 = .ok (.iaload, 1) := by decide +kernel
theorem dL_law_3362 : decode cL_law 3362 = .ok (.aload_n 3, 1) := by decide +kernel
theorem dL_law_3363 : decode cL_law 3363 = .ok (.invokestatic 327, 3) := by decide +kernel
theorem dL_law_3366 : decode cL_law 3366 = .ok (.istore 6, 2) := by decide +kernel
theorem dL_law_3368 : decode cL_law 3368 = .ok (.aload_n 2, 1) := by decide +kernel
theorem dL_law_3369 : decode cL_law 3369 = .ok (.aload_n 0, 1) := by decide +kernel
theorem dL_law_3370 : decode cL_law 3370 = .ok (.iload 5, 2) := by decide +kernel
theorem dL_law_3372 : decode cL_law 3372 = .ok (.iconst 1, 1) := by decide +kernel
theorem dL_law_3373 : decode cL_law 3373 = .ok (.iadd, 1) := by decide +kernel
theorem dL_law_3374 : decode cL_law 3374 = .ok (.iaload, 1) := by decide +kernel
theorem dL_law_3375 : decode cL_law 3375 = .ok (.aload_n 0, 1) := by decide +kernel
theorem dL_law_3376 : decode cL_law 3376 = .ok (.iload 5, 2) := by decide +kernel
theorem dL_law_3378 : decode cL_law 3378 = .ok (.iconst 2, 1) := by decide +kernel
theorem dL_law_3379 : decode cL_law 3379 = .ok (.iadd, 1) := by decide +kernel
theorem dL_law_3380 : decode cL_law 3380 = .ok (.iaload, 1) := by decide +kernel
theorem dL_law_3381 : decode cL_law 3381 = .ok (.invokevirtual 329, 3) := by decide +kernel
theorem dL_law_3384 : decode cL_law 3384 = .ok (.istore 7, 2) := by decide +kernel
theorem dL_law_3386 : decode cL_law 3386 = .ok (.aload_n 2, 1) := by decide +kernel
theorem dL_law_3387 : decode cL_law 3387 = .ok (.invokevirtual 188, 3) := by decide +kernel
theorem dL_law_3390 : decode cL_law 3390 = .ok (.iload 6, 2) := by decide +kernel
theorem dL_law_3392 : decode cL_law 3392 = .ok (.if_icmp .eq 5, 3) := by decide +kernel
theorem dL_law_3395 : decode cL_law 3395 = .ok (.iconst 0, 1) := by decide +kernel
theorem dL_law_3396 : decode cL_law 3396 = .ok (.ireturn, 1) := by decide +kernel
theorem dL_law_3397 : decode cL_law 3397 = .ok (.iload 6, 2) := by decide +kernel
theorem dL_law_3399 : decode cL_law 3399 = .ok (.ifCond .ne 15, 3) := by decide +kernel
theorem dL_law_3402 : decode cL_law 3402 = .ok (.aload_n 3, 1) := by decide +kernel
theorem dL_law_3403 : decode cL_law 3403 = .ok (.iconst 0, 1) := by decide +kernel
theorem dL_law_3404 : decode cL_law 3404 = .ok (.laload, 1) := by decide +kernel
theorem dL_law_3405 : decode cL_law 3405 = .ok (.iload 7, 2) := by decide +kernel
theorem dL_law_3407 : decode cL_law 3407 = .ok (.i2l, 1) := by decide +kernel
theorem dL_law_3408 : decode cL_law 3408 = .ok (.lcmp, 1) := by decide +kernel
theorem dL_law_3409 : decode cL_law 3409 = .ok (.ifCond .eq 5, 3) := by decide +kernel
theorem dL_law_3412 : decode cL_law 3412 = .ok (.iconst 0, 1) := by decide +kernel
theorem dL_law_3413 : decode cL_law 3413 = .ok (.ireturn, 1) := by decide +kernel
theorem dL_law_3414 : decode cL_law 3414 = .ok (.goto 575, 3) := by decide +kernel
theorem dL_law_3417 : decode cL_law 3417 = .ok (.aload_n 1, 1) := by decide +kernel
theorem dL_law_3418 : decode cL_law 3418 = .ok (.aload_n 0, 1) := by decide +kernel
theorem dL_law_3419 : decode cL_law 3419 = .ok (.iload 5, 2) := by decide +kernel
theorem dL_law_3421 : decode cL_law 3421 = .ok (.iconst 1, 1) := by decide +kernel
theorem dL_law_3422 : decode cL_law 3422 = .ok (.iadd, 1) := by decide +kernel
theorem dL_law_3423 : decode cL_law 3423 = .ok (.iaload, 1) := by decide +kernel
theorem dL_law_3424 : decode cL_law 3424 = .ok (.aload_n 3, 1) := by decide +kernel
theorem dL_law_3425 : decode cL_law 3425 = .ok (.invokestatic 330, 3) := by decide +kernel
theorem dL_law_3428 : decode cL_law 3428 = .ok (.istore 6, 2) := by decide +kernel
theorem dL_law_3430 : decode cL_law 3430 = .ok (.aload_n 2, 1) := by decide +kernel
theorem dL_law_3431 : decode cL_law 3431 = .ok (.aload_n 0, 1) := by decide +kernel
theorem dL_law_3432 : decode cL_law 3432 = .ok (.iload 5, 2) := by decide +kernel
theorem dL_law_3434 : decode cL_law 3434 = .ok (.iconst 1, 1) := by decide +kernel
theorem dL_law_3435 : decode cL_law 3435 = .ok (.iadd, 1) := by decide +kernel
theorem dL_law_3436 : decode cL_law 3436 = .ok (.iaload, 1) := by decide +kernel
theorem dL_law_3437 : decode cL_law 3437 = .ok (.invokevirtual 332, 3) := by decide +kernel
theorem dL_law_3440 : decode cL_law 3440 = .ok (.istore 7, 2) := by decide +kernel
theorem dL_law_3442 : decode cL_law 3442 = .ok (.aload_n 2, 1) := by decide +kernel
theorem dL_law_3443 : decode cL_law 3443 = .ok (.invokevirtual 188, 3) := by decide +kernel
theorem dL_law_3446 : decode cL_law 3446 = .ok (.iload 6, 2) := by decide +kernel
theorem dL_law_3448 : decode cL_law 3448 = .ok (.if_icmp .eq 5, 3) := by decide +kernel
theorem dL_law_3451 : decode cL_law 3451 = .ok (.iconst 0, 1) := by decide +kernel
theorem dL_law_3452 : decode cL_law 3452 = .ok (.ireturn, 1) := by decide +kernel
theorem dL_law_3453 : decode cL_law 3453 = .ok (.iload 6, 2) := by decide +kernel
theorem dL_law_3455 : decode cL_law 3455 = .ok (.ifCond .ne 15, 3) := by decide +kernel
theorem dL_law_3458 : decode cL_law 3458 = .ok (.aload_n 3, 1) := by decide +kernel
theorem dL_law_3459 : decode cL_law 3459 = .ok (.iconst 0, 1) := by decide +kernel
theorem dL_law_3460 : decode cL_law 3460 = .ok (.laload, 1) := by decide +kernel
theorem dL_law_3461 : decode cL_law 3461 = .ok (.iload 7, 2) := by decide +kernel
theorem dL_law_3463 : decode cL_law 3463 = .ok (.i2l, 1) := by decide +kernel
theorem dL_law_3464 : decode cL_law 3464 = .ok (.lcmp, 1) := by decide +kernel
theorem dL_law_3465 : decode cL_law 3465 = .ok (.ifCond .eq 5, 3) := by decide +kernel
theorem dL_law_3468 : decode cL_law 3468 = .ok (.iconst 0, 1) := by decide +kernel
theorem dL_law_3469 : decode cL_law 3469 = .ok (.ireturn, 1) := by decide +kernel
theorem dL_law_3470 : decode cL_law 3470 = .ok (.goto 519, 3) := by decide +kernel
theorem dL_law_3473 : decode cL_law 3473 = .ok (.aload_n 1, 1) := by decide +kernel
theorem dL_law_3474 : decode cL_law 3474 = .ok (.aload_n 0, 1) := by decide +kernel
theorem dL_law_3475 : decode cL_law 3475 = .ok (.iload 5, 2) := by decide +kernel
theorem dL_law_3477 : decode cL_law 3477 = .ok (.iconst 1, 1) := by decide +kernel
theorem dL_law_3478 : decode cL_law 3478 = .ok (.iadd, 1) := by decide +kernel
theorem dL_law_3479 : decode cL_law 3479 = .ok (.iaload, 1) := by decide +kernel
theorem dL_law_3480 : decode cL_law 3480 = .ok (.aload_n 3, 1) := by decide +kernel
theorem dL_law_3481 : decode cL_law 3481 = .ok (.invokestatic 333, 3) := by decide +kernel
theorem dL_law_3484 : decode cL_law 3484 = .ok (.istore 6, 2) := by decide +kernel
theorem dL_law_3486 : decode cL_law 3486 = .ok (.aload_n 2, 1) := by decide +kernel
theorem dL_law_3487 : decode cL_law 3487 = .ok (.aload_n 0, 1) := by decide +kernel
theorem dL_law_3488 : decode cL_law 3488 = .ok (.iload 5, 2) := by decide +kernel
theorem dL_law_3490 : decode cL_law 3490 = .ok (.iconst 1, 1) := by decide +kernel
theorem dL_law_3491 : decode cL_law 3491 = .ok (.iadd, 1) := by decide +kernel
theorem dL_law_3492 : decode cL_law 3492 = .ok (.iaload, 1) := by decide +kernel
theorem dL_law_3493 : decode cL_law 3493 = .ok (.invokevirtual 335, 3) := by decide +kernel
theorem dL_law_3496 : decode cL_law 3496 = .ok (.istore 7, 2) := by decide +kernel
theorem dL_law_3498 : decode cL_law 3498 = .ok (.aload_n 2, 1) := by decide +kernel
theorem dL_law_3499 : decode cL_law 3499 = .ok (.invokevirtual 188, 3) := by decide +kernel
theorem dL_law_3502 : decode cL_law 3502 = .ok (.iload 6, 2) := by decide +kernel
theorem dL_law_3504 : decode cL_law 3504 = .ok (.if_icmp .eq 5, 3) := by decide +kernel
theorem dL_law_3507 : decode cL_law 3507 = .ok (.iconst 0, 1) := by decide +kernel
theorem dL_law_3508 : decode cL_law 3508 = .ok (.ireturn, 1) := by decide +kernel
theorem dL_law_3509 : decode cL_law 3509 = .ok (.iload 6, 2) := by decide +kernel
theorem dL_law_3511 : decode cL_law 3511 = .ok (.ifCond .ne 15, 3) := by decide +kernel
theorem dL_law_3514 : decode cL_law 3514 = .ok (.aload_n 3, 1) := by decide +kernel
theorem dL_law_3515 : decode cL_law 3515 = .ok (.iconst 0, 1) := by decide +kernel
theorem dL_law_3516 : decode cL_law 3516 = .ok (.laload, 1) := by decide +kernel
theorem dL_law_3517 : decode cL_law 3517 = .ok (.iload 7, 2) := by decide +kernel
theorem dL_law_3519 : decode cL_law 3519 = .ok (.i2l, 1) := by decide +kernel
theorem dL_law_3520 : decode cL_law 3520 = .ok (.lcmp, 1) := by decide +kernel
theorem dL_law_3521 : decode cL_law 3521 = .ok (.ifCond .eq 5, 3) := by decide +kernel
theorem dL_law_3524 : decode cL_law 3524 = .ok (.iconst 0, 1) := by decide +kernel
theorem dL_law_3525 : decode cL_law 3525 = .ok (.ireturn, 1) := by decide +kernel
theorem dL_law_3526 : decode cL_law 3526 = .ok (.goto 463, 3) := by decide +kernel
theorem dL_law_3529 : decode cL_law 3529 = .ok (.aload_n 1, 1) := by decide +kernel
theorem dL_law_3530 : decode cL_law 3530 = .ok (.aload_n 0, 1) := by decide +kernel
theorem dL_law_3531 : decode cL_law 3531 = .ok (.iload 5, 2) := by decide +kernel
theorem dL_law_3533 : decode cL_law 3533 = .ok (.iconst 1, 1) := by decide +kernel
theorem dL_law_3534 : decode cL_law 3534 = .ok (.iadd, 1) := by decide +kernel
theorem dL_law_3535 : decode cL_law 3535 = .ok (.iaload, 1) := by decide +kernel
theorem dL_law_3536 : decode cL_law 3536 = .ok (.aload_n 3, 1) := by decide +kernel
theorem dL_law_3537 : decode cL_law 3537 = .ok (.invokestatic 336, 3) := by decide +kernel
theorem dL_law_3540 : decode cL_law 3540 = .ok (.istore 6, 2) := by decide +kernel
theorem dL_law_3542 : decode cL_law 3542 = .ok (.aload_n 2, 1) := by decide +kernel
theorem dL_law_3543 : decode cL_law 3543 = .ok (.aload_n 0, 1) := by decide +kernel
theorem dL_law_3544 : decode cL_law 3544 = .ok (.iload 5, 2) := by decide +kernel
theorem dL_law_3546 : decode cL_law 3546 = .ok (.iconst 1, 1) := by decide +kernel
theorem dL_law_3547 : decode cL_law 3547 = .ok (.iadd, 1) := by decide +kernel
theorem dL_law_3548 : decode cL_law 3548 = .ok (.iaload, 1) := by decide +kernel
theorem dL_law_3549 : decode cL_law 3549 = .ok (.invokevirtual 338, 3) := by decide +kernel
theorem dL_law_3552 : decode cL_law 3552 = .ok (.istore 7, 2) := by decide +kernel
theorem dL_law_3554 : decode cL_law 3554 = .ok (.aload_n 2, 1) := by decide +kernel
theorem dL_law_3555 : decode cL_law 3555 = .ok (.invokevirtual 188, 3) := by decide +kernel
theorem dL_law_3558 : decode cL_law 3558 = .ok (.iload 6, 2) := by decide +kernel
theorem dL_law_3560 : decode cL_law 3560 = .ok (.if_icmp .eq 5, 3) := by decide +kernel
theorem dL_law_3563 : decode cL_law 3563 = .ok (.iconst 0, 1) := by decide +kernel
theorem dL_law_3564 : decode cL_law 3564 = .ok (.ireturn, 1) := by decide +kernel
theorem dL_law_3565 : decode cL_law 3565 = .ok (.iload 6, 2) := by decide +kernel
theorem dL_law_3567 : decode cL_law 3567 = .ok (.ifCond .ne 15, 3) := by decide +kernel
theorem dL_law_3570 : decode cL_law 3570 = .ok (.aload_n 3, 1) := by decide +kernel
theorem dL_law_3571 : decode cL_law 3571 = .ok (.iconst 0, 1) := by decide +kernel
theorem dL_law_3572 : decode cL_law 3572 = .ok (.laload, 1) := by decide +kernel
theorem dL_law_3573 : decode cL_law 3573 = .ok (.iload 7, 2) := by decide +kernel
theorem dL_law_3575 : decode cL_law 3575 = .ok (.i2l, 1) := by decide +kernel
theorem dL_law_3576 : decode cL_law 3576 = .ok (.lcmp, 1) := by decide +kernel
theorem dL_law_3577 : decode cL_law 3577 = .ok (.ifCond .eq 5, 3) := by decide +kernel
theorem dL_law_3580 : decode cL_law 3580 = .ok (.iconst 0, 1) := by decide +kernel
theorem dL_law_3581 : decode cL_law 3581 = .ok (.ireturn, 1) := by decide +kernel
theorem dL_law_3582 : decode cL_law 3582 = .ok (.goto 407, 3) := by decide +kernel
theorem dL_law_3585 : decode cL_law 3585 = .ok (.aload_n 1, 1) := by decide +kernel
theorem dL_law_3586 : decode cL_law 3586 = .ok (.aload_n 0, 1) := by decide +kernel
theorem dL_law_3587 : decode cL_law 3587 = .ok (.iload 5, 2) := by decide +kernel
theorem dL_law_3589 : decode cL_law 3589 = .ok (.iconst 1, 1) := by decide +kernel
theorem dL_law_3590 : decode cL_law 3590 = .ok (.iadd, 1) := by decide +kernel
theorem dL_law_3591 : decode cL_law 3591 = .ok (.iaload, 1) := by decide +kernel
theorem dL_law_3592 : decode cL_law 3592 = .ok (.aload_n 0, 1) := by decide +kernel
theorem dL_law_3593 : decode cL_law 3593 = .ok (.iload 5, 2) := by decide +kernel
theorem dL_law_3595 : decode cL_law 3595 = .ok (.iconst 2, 1) := by decide +kernel
theorem dL_law_3596 : decode cL_law 3596 = .ok (.iadd, 1) := by decide +kernel
theorem dL_law_3597 : decode cL_law 3597 = .ok (.iaload, 1) := by decide +kernel
theorem dL_law_3598 : decode cL_law 3598 = .ok (.aload_n 0, 1) := by decide +kernel
theorem dL_law_3599 : decode cL_law 3599 = .ok (.iload 5, 2) := by decide +kernel
theorem dL_law_3601 : decode cL_law 3601 = .ok (.iconst 3, 1) := by decide +kernel
theorem dL_law_3602 : decode cL_law 3602 = .ok (.iadd, 1) := by decide +kernel
theorem dL_law_3603 : decode cL_law 3603 = .ok (.iaload, 1) := by decide +kernel
theorem dL_law_3604 : decode cL_law 3604 = .ok (.aload_n 0, 1) := by decide +kernel
theorem dL_law_3605 : decode cL_law 3605 = .ok (.iload 5, 2) := by decide +kernel
theorem dL_law_3607 : decode cL_law 3607 = .ok (.iconst 4, 1) := by decide +kernel
theorem dL_law_3608 : decode cL_law 3608 = .ok (.iadd, 1) := by decide +kernel
theorem dL_law_3609 : decode cL_law 3609 = .ok (.iaload, 1) := by decide +kernel
theorem dL_law_3610 : decode cL_law 3610 = .ok (.aload_n 3, 1) := by decide +kernel
theorem dL_law_3611 : decode cL_law 3611 = .ok (.invokestatic 339, 3) := by decide +kernel
theorem dL_law_3614 : decode cL_law 3614 = .ok (.istore 6, 2) := by decide +kernel
theorem dL_law_3616 : decode cL_law 3616 = .ok (.aload_n 2, 1) := by decide +kernel
theorem dL_law_3617 : decode cL_law 3617 = .ok (.aload_n 0, 1) := by decide +kernel
theorem dL_law_3618 : decode cL_law 3618 = .ok (.iload 5, 2) := by decide +kernel
theorem dL_law_3620 : decode cL_law 3620 = .ok (.iconst 1, 1) := by decide +kernel
theorem dL_law_3621 : decode cL_law 3621 = .ok (.iadd, 1) := by decide +kernel
theorem dL_law_3622 : decode cL_law 3622 = .ok (.iaload, 1) := by decide +kernel
theorem dL_law_3623 : decode cL_law 3623 = .ok (.aload_n 0, 1) := by decide +kernel
theorem dL_law_3624 : decode cL_law 3624 = .ok (.iload 5, 2) := by decide +kernel
theorem dL_law_3626 : decode cL_law 3626 = .ok (.iconst 2, 1) := by decide +kernel
theorem dL_law_3627 : decode cL_law 3627 = .ok (.iadd, 1) := by decide +kernel
theorem dL_law_3628 : decode cL_law 3628 = .ok (.iaload, 1) := by decide +kernel
theorem dL_law_3629 : decode cL_law 3629 = .ok (.aload_n 0, 1) := by decide +kernel
theorem dL_law_3630 : decode cL_law 3630 = .ok (.iload 5, 2) := by decide +kernel
theorem dL_law_3632 : decode cL_law 3632 = .ok (.iconst 3, 1) := by decide +kernel
theorem dL_law_3633 : decode cL_law 3633 = .ok (.iadd, 1) := by decide +kernel
theorem dL_law_3634 : decode cL_law 3634 = .ok (.iaload, 1) := by decide +kernel
theorem dL_law_3635 : decode cL_law 3635 = .ok (.aload_n 0, 1) := by decide +kernel
theorem dL_law_3636 : decode cL_law 3636 = .ok (.iload 5, 2) := by decide +kernel
theorem dL_law_3638 : decode cL_law 3638 = .ok (.iconst 4, 1) := by decide +kernel
theorem dL_law_3639 : decode cL_law 3639 = .ok (.iadd, 1) := by decide +kernel
theorem dL_law_3640 : decode cL_law 3640 = .ok (.iaload, 1) := by decide +kernel
theorem dL_law_3641 : decode cL_law 3641 = .ok (.invokevirtual 341, 3) := by decide +kernel
theorem dL_law_3644 : decode cL_law 3644 = .ok (.istore 7, 2) := by decide +kernel
theorem dL_law_3646 : decode cL_law 3646 = .ok (.aload_n 2, 1) := by decide +kernel
theorem dL_law_3647 : decode cL_law 3647 = .ok (.invokevirtual 188, 3) := by decide +kernel
theorem dL_law_3650 : decode cL_law 3650 = .ok (.iload 6, 2) := by decide +kernel
theorem dL_law_3652 : decode cL_law 3652 = .ok (.if_icmp .eq 5, 3) := by decide +kernel
theorem dL_law_3655 : decode cL_law 3655 = .ok (.iconst 0, 1) := by decide +kernel
theorem dL_law_3656 : decode cL_law 3656 = .ok (.ireturn, 1) := by decide +kernel
theorem dL_law_3657 : decode cL_law 3657 = .ok (.iload 6, 2) := by decide +kernel
theorem dL_law_3659 : decode cL_law 3659 = .ok (.ifCond .ne 15, 3) := by decide +kernel
theorem dL_law_3662 : decode cL_law 3662 = .ok (.aload_n 3, 1) := by decide +kernel
theorem dL_law_3663 : decode cL_law 3663 = .ok (.iconst 0, 1) := by decide +kernel
theorem dL_law_3664 : decode cL_law 3664 = .ok (.laload, 1) := by decide +kernel
theorem dL_law_3665 : decode cL_law 3665 = .ok (.iload 7, 2) := by decide +kernel
theorem dL_law_3667 : decode cL_law 3667 = .ok (.i2l, 1) := by decide +kernel
theorem dL_law_3668 : decode cL_law 3668 = .ok (.lcmp, 1) := by decide +kernel
theorem dL_law_3669 : decode cL_law 3669 = .ok (.ifCond .eq 5, 3) := by decide +kernel
theorem dL_law_3672 : decode cL_law 3672 = .ok (.iconst 0, 1) := by decide +kernel
theorem dL_law_3673 : decode cL_law 3673 = .ok (.ireturn, 1) := by decide +kernel
theorem dL_law_3674 : decode cL_law 3674 = .ok (.goto 315, 3) := by decide +kernel
theorem dL_law_3677 : decode cL_law 3677 = .ok (.aload_n 1, 1) := by decide +kernel
theorem dL_law_3678 : decode cL_law 3678 = .ok (.aload_n 0, 1) := by decide +kernel
theorem dL_law_3679 : decode cL_law 3679 = .ok (.iload 5, 2) := by decide +kernel
theorem dL_law_3681 : decode cL_law 3681 = .ok (.iconst 1, 1) := by decide +kernel
theorem dL_law_3682 : decode cL_law 3682 = .ok (.iadd, 1) := by decide +kernel
theorem dL_law_3683 : decode cL_law 3683 = .ok (.iaload, 1) := by decide +kernel
theorem dL_law_3684 : decode cL_law 3684 = .ok (.aload_n 0, 1) := by decide +kernel
theorem dL_law_3685 : decode cL_law 3685 = .ok (.iload 5, 2) := by decide +kernel
theorem dL_law_3687 : decode cL_law 3687 = .ok (.iconst 2, 1) := by decide +kernel
theorem dL_law_3688 : decode cL_law 3688 = .ok (.iadd, 1) := by decide +kernel
theorem dL_law_3689 : decode cL_law 3689 = .ok (.iaload, 1) := by decide +kernel
theorem dL_law_3690 : decode cL_law 3690 = .ok (.aload_n 0, 1) := by decide +kernel
theorem dL_law_3691 : decode cL_law 3691 = .ok (.iload 5, 2) := by decide +kernel
theorem dL_law_3693 : decode cL_law 3693 = .ok (.iconst 3, 1) := by decide +kernel
theorem dL_law_3694 : decode cL_law 3694 = .ok (.iadd, 1) := by decide +kernel
theorem dL_law_3695 : decode cL_law 3695 = .ok (.iaload, 1) := by decide +kernel
theorem dL_law_3696 : decode cL_law 3696 = .ok (.aload_n 0, 1) := by decide +kernel
theorem dL_law_3697 : decode cL_law 3697 = .ok (.iload 5, 2) := by decide +kernel
theorem dL_law_3699 : decode cL_law 3699 = .ok (.iconst 4, 1) := by decide +kernel
theorem dL_law_3700 : decode cL_law 3700 = .ok (.iadd, 1) := by decide +kernel
theorem dL_law_3701 : decode cL_law 3701 = .ok (.iaload, 1) := by decide +kernel
theorem dL_law_3702 : decode cL_law 3702 = .ok (.aload_n 3, 1) := by decide +kernel
theorem dL_law_3703 : decode cL_law 3703 = .ok (.invokestatic 342, 3) := by decide +kernel
theorem dL_law_3706 : decode cL_law 3706 = .ok (.istore 6, 2) := by decide +kernel
theorem dL_law_3708 : decode cL_law 3708 = .ok (.aload_n 2, 1) := by decide +kernel
theorem dL_law_3709 : decode cL_law 3709 = .ok (.aload_n 0, 1) := by decide +kernel
theorem dL_law_3710 : decode cL_law 3710 = .ok (.iload 5, 2) := by decide +kernel
theorem dL_law_3712 : decode cL_law 3712 = .ok (.iconst 1, 1) := by decide +kernel
theorem dL_law_3713 : decode cL_law 3713 = .ok (.iadd, 1) := by decide +kernel
theorem dL_law_3714 : decode cL_law 3714 = .ok (.iaload, 1) := by decide +kernel
theorem dL_law_3715 : decode cL_law 3715 = .ok (.aload_n 0, 1) := by decide +kernel
theorem dL_law_3716 : decode cL_law 3716 = .ok (.iload 5, 2) := by decide +kernel
theorem dL_law_3718 : decode cL_law 3718 = .ok (.iconst 2, 1) := by decide +kernel
theorem dL_law_3719 : decode cL_law 3719 = .ok (.iadd, 1) := by decide +kernel
theorem dL_law_3720 : decode cL_law 3720 = .ok (.iaload, 1) := by decide +kernel
theorem dL_law_3721 : decode cL_law 3721 = .ok (.aload_n 0, 1) := by decide +kernel
theorem dL_law_3722 : decode cL_law 3722 = .ok (.iload 5, 2) := by decide +kernel
theorem dL_law_3724 : decode cL_law 3724 = .ok (.iconst 3, 1) := by decide +kernel
theorem dL_law_3725 : decode cL_law 3725 = .ok (.iadd, 1) := by decide +kernel
theorem dL_law_3726 : decode cL_law 3726 = .ok (.iaload, 1) := by decide +kernel
theorem dL_law_3727 : decode cL_law 3727 = .ok (.aload_n 0, 1) := by decide +kernel
theorem dL_law_3728 : decode cL_law 3728 = .ok (.iload 5, 2) := by decide +kernel
theorem dL_law_3730 : decode cL_law 3730 = .ok (.iconst 4, 1) := by decide +kernel
theorem dL_law_3731 : decode cL_law 3731 = .ok (.iadd, 1) := by decide +kernel
theorem dL_law_3732 : decode cL_law 3732 = .ok (.iaload, 1) := by decide +kernel
theorem dL_law_3733 : decode cL_law 3733 = .ok (.invokevirtual 344, 3) := by decide +kernel
theorem dL_law_3736 : decode cL_law 3736 = .ok (.istore 7, 2) := by decide +kernel
theorem dL_law_3738 : decode cL_law 3738 = .ok (.aload_n 2, 1) := by decide +kernel
theorem dL_law_3739 : decode cL_law 3739 = .ok (.invokevirtual 188, 3) := by decide +kernel
theorem dL_law_3742 : decode cL_law 3742 = .ok (.iload 6, 2) := by decide +kernel
theorem dL_law_3744 : decode cL_law 3744 = .ok (.if_icmp .eq 5, 3) := by decide +kernel
theorem dL_law_3747 : decode cL_law 3747 = .ok (.iconst 0, 1) := by decide +kernel
theorem dL_law_3748 : decode cL_law 3748 = .ok (.ireturn, 1) := by decide +kernel
theorem dL_law_3749 : decode cL_law 3749 = .ok (.iload 6, 2) := by decide +kernel
theorem dL_law_3751 : decode cL_law 3751 = .ok (.ifCond .ne 15, 3) := by decide +kernel
theorem dL_law_3754 : decode cL_law 3754 = .ok (.aload_n 3, 1) := by decide +kernel
theorem dL_law_3755 : decode cL_law 3755 = .ok (.iconst 0, 1) := by decide +kernel
theorem dL_law_3756 : decode cL_law 3756 = .ok (.laload, 1) := by decide +kernel
theorem dL_law_3757 : decode cL_law 3757 = .ok (.iload 7, 2) := by decide +kernel
theorem dL_law_3759 : decode cL_law 3759 = .ok (.i2l, 1) := by decide +kernel
theorem dL_law_3760 : decode cL_law 3760 = .ok (.lcmp, 1) := by decide +kernel
theorem dL_law_3761 : decode cL_law 3761 = .ok (.ifCond .eq 5, 3) := by decide +kernel
theorem dL_law_3764 : decode cL_law 3764 = .ok (.iconst 0, 1) := by decide +kernel
theorem dL_law_3765 : decode cL_law 3765 = .ok (.ireturn, 1) := by decide +kernel
theorem dL_law_3766 : decode cL_law 3766 = .ok (.goto 223, 3) := by decide +kernel
theorem dL_law_3769 : decode cL_law 3769 = .ok (.aload_n 1, 1) := by decide +kernel
theorem dL_law_3770 : decode cL_law 3770 = .ok (.aload_n 0, 1) := by decide +kernel
theorem dL_law_3771 : decode cL_law 3771 = .ok (.iload 5, 2) := by decide +kernel
theorem dL_law_3773 : decode cL_law 3773 = .ok (.iconst 1, 1) := by decide +kernel
theorem dL_law_3774 : decode cL_law 3774 = .ok (.iadd, 1) := by decide +kernel
theorem dL_law_3775 : decode cL_law 3775 = .ok (.iaload, 1) := by decide +kernel
theorem dL_law_3776 : decode cL_law 3776 = .ok (.aload 4, 2) := by decide +kernel
theorem dL_law_3778 : decode cL_law 3778 = .ok (.invokestatic 345, 3) := by decide +kernel
theorem dL_law_3781 : decode cL_law 3781 = .ok (.istore 6, 2) := by decide +kernel
theorem dL_law_3783 : decode cL_law 3783 = .ok (.aload_n 2, 1) := by decide +kernel
theorem dL_law_3784 : decode cL_law 3784 = .ok (.aload_n 0, 1) := by decide +kernel
theorem dL_law_3785 : decode cL_law 3785 = .ok (.iload 5, 2) := by decide +kernel
theorem dL_law_3787 : decode cL_law 3787 = .ok (.iconst 1, 1) := by decide +kernel
theorem dL_law_3788 : decode cL_law 3788 = .ok (.iadd, 1) := by decide +kernel
theorem dL_law_3789 : decode cL_law 3789 = .ok (.iaload, 1) := by decide +kernel
theorem dL_law_3790 : decode cL_law 3790 = .ok (.invokevirtual 348, 3) := by decide +kernel
theorem dL_law_3793 : decode cL_law 3793 = .ok (.fstore 7, 2) := by decide +kernel
theorem dL_law_3795 : decode cL_law 3795 = .ok (.aload_n 2, 1) := by decide +kernel
theorem dL_law_3796 : decode cL_law 3796 = .ok (.invokevirtual 188, 3) := by decide +kernel
theorem dL_law_3799 : decode cL_law 3799 = .ok (.iload 6, 2) := by decide +kernel
theorem dL_law_3801 : decode cL_law 3801 = .ok (.if_icmp .eq 5, 3) := by decide +kernel
theorem dL_law_3804 : decode cL_law 3804 = .ok (.iconst 0, 1) := by decide +kernel
theorem dL_law_3805 : decode cL_law 3805 = .ok (.ireturn, 1) := by decide +kernel
theorem dL_law_3806 : decode cL_law 3806 = .ok (.iload 6, 2) := by decide +kernel
theorem dL_law_3808 : decode cL_law 3808 = .ok (.ifCond .ne 36, 3) := by decide +kernel
theorem dL_law_3811 : decode cL_law 3811 = .ok (.aload 4, 2) := by decide +kernel
theorem dL_law_3813 : decode cL_law 3813 = .ok (.iconst 0, 1) := by decide +kernel
theorem dL_law_3814 : decode cL_law 3814 = .ok (.daload, 1) := by decide +kernel
theorem dL_law_3815 : decode cL_law 3815 = .ok (.fload 7, 2) := by decide +kernel
theorem dL_law_3817 : decode cL_law 3817 = .ok (.f2d, 1) := by decide +kernel
theorem dL_law_3818 : decode cL_law 3818 = .ok (.dcmp .l, 1) := by decide +kernel
theorem dL_law_3819 : decode cL_law 3819 = .ok (.ifCond .eq 25, 3) := by decide +kernel
theorem dL_law_3822 : decode cL_law 3822 = .ok (.aload 4, 2) := by decide +kernel
theorem dL_law_3824 : decode cL_law 3824 = .ok (.iconst 0, 1) := by decide +kernel
theorem dL_law_3825 : decode cL_law 3825 = .ok (.daload, 1) := by decide +kernel
theorem dL_law_3826 : decode cL_law 3826 = .ok (.aload 4, 2) := by decide +kernel
theorem dL_law_3828 : decode cL_law 3828 = .ok (.iconst 0, 1) := by decide +kernel
theorem dL_law_3829 : decode cL_law 3829 = .ok (.daload, 1) := by decide +kernel
theorem dL_law_3830 : decode cL_law 3830 = .ok (.dcmp .l, 1) := by decide +kernel
theorem dL_law_3831 : decode cL_law 3831 = .ok (.ifCond .eq 11, 3) := by decide +kernel
theorem dL_law_3834 : decode cL_law 3834 = .ok (.fload 7, 2) := by decide +kernel
theorem dL_law_3836 : decode cL_law 3836 = .ok (.fload 7, 2) := by decide +kernel
theorem dL_law_3838 : decode cL_law 3838 = .ok (.fcmp .l, 1) := by decide +kernel
theorem dL_law_3839 : decode cL_law 3839 = .ok (.ifCond .ne 5, 3) := by decide +kernel
theorem dL_law_3842 : decode cL_law 3842 = .ok (.iconst 0, 1) := by decide +kernel
theorem dL_law_3843 : decode cL_law 3843 = .ok (.ireturn, 1) := by decide +kernel
theorem dL_law_3844 : decode cL_law 3844 = .ok (.goto 145, 3) := by decide +kernel
theorem dL_law_3847 : decode cL_law 3847 = .ok (.aload_n 1, 1) := by decide +kernel
theorem dL_law_3848 : decode cL_law 3848 = .ok (.aload 4, 2) := by decide +kernel
theorem dL_law_3850 : decode cL_law 3850 = .ok (.invokestatic 349, 3) := by decide +kernel
theorem dL_law_3853 : decode cL_law 3853 = .ok (.istore 6, 2) := by decide +kernel
theorem dL_law_3855 : decode cL_law 3855 = .ok (.aload_n 2, 1) := by decide +kernel
theorem dL_law_3856 : decode cL_law 3856 = .ok (.invokevirtual 352, 3) := by decide +kernel
theorem dL_law_3859 : decode cL_law 3859 = .ok (.dstore 7, 2) := by decide +kernel
theorem dL_law_3861 : decode cL_law 3861 = .ok (.aload_n 2, 1) := by decide +kernel
theorem dL_law_3862 : decode cL_law 3862 = .ok (.invokevirtual 188, 3) := by decide +kernel
theorem dL_law_3865 : decode cL_law 3865 = .ok (.iload 6, 2) := by decide +kernel
theorem dL_law_3867 : decode cL_law 3867 = .ok (.if_icmp .eq 5, 3) := by decide +kernel
theorem dL_law_3870 : decode cL_law 3870 = .ok (.iconst 0, 1) := by decide +kernel
theorem dL_law_3871 : decode cL_law 3871 = .ok (.ireturn, 1) := by decide +kernel
theorem dL_law_3872 : decode cL_law 3872 = .ok (.iload 6, 2) := by decide +kernel
theorem dL_law_3874 : decode cL_law 3874 = .ok (.ifCond .ne 35, 3) := by decide +kernel
theorem dL_law_3877 : decode cL_law 3877 = .ok (.aload 4, 2) := by decide +kernel
theorem dL_law_3879 : decode cL_law 3879 = .ok (.iconst 0, 1) := by decide +kernel
theorem dL_law_3880 : decode cL_law 3880 = .ok (.daload, 1) := by decide +kernel
theorem dL_law_3881 : decode cL_law 3881 = .ok (.dload 7, 2) := by decide +kernel
theorem dL_law_3883 : decode cL_law 3883 = .ok (.dcmp .l, 1) := by decide +kernel
theorem dL_law_3884 : decode cL_law 3884 = .ok (.ifCond .eq 25, 3) := by decide +kernel
theorem dL_law_3887 : decode cL_law 3887 = .ok (.aload 4, 2) := by decide +kernel
theorem dL_law_3889 : decode cL_law 3889 = .ok (.iconst 0, 1) := by decide +kernel
theorem dL_law_3890 : decode cL_law 3890 = .ok (.daload, 1) := by decide +kernel
theorem dL_law_3891 : decode cL_law 3891 = .ok (.aload 4, 2) := by decide +kernel
theorem dL_law_3893 : decode cL_law 3893 = .ok (.iconst 0, 1) := by decide +kernel
theorem dL_law_3894 : decode cL_law 3894 = .ok (.daload, 1) := by decide +kernel
theorem dL_law_3895 : decode cL_law 3895 = .ok (.dcmp .l, 1) := by decide +kernel
theorem dL_law_3896 : decode cL_law 3896 = .ok (.ifCond .eq 11, 3) := by decide +kernel
theorem dL_law_3899 : decode cL_law 3899 = .ok (.dload 7, 2) := by decide +kernel
theorem dL_law_3901 : decode cL_law 3901 = .ok (.dload 7, 2) := by decide +kernel
theorem dL_law_3903 : decode cL_law 3903 = .ok (.dcmp .l, 1) := by decide +kernel
theorem dL_law_3904 : decode cL_law 3904 = .ok (.ifCond .ne 5, 3) := by decide +kernel
theorem dL_law_3907 : decode cL_law 3907 = .ok (.iconst 0, 1) := by decide +kernel
theorem dL_law_3908 : decode cL_law 3908 = .ok (.ireturn, 1) := by decide +kernel
theorem dL_law_3909 : decode cL_law 3909 = .ok (.goto 80, 3) := by decide +kernel
theorem dL_law_3912 : decode cL_law 3912 = .ok (.aload_n 1, 1) := by decide +kernel
theorem dL_law_3913 : decode cL_law 3913 = .ok (.invokevirtual 353, 3) := by decide +kernel
theorem dL_law_3916 : decode cL_law 3916 = .ok (.aload_n 2, 1) := by decide +kernel
theorem dL_law_3917 : decode cL_law 3917 = .ok (.invokevirtual 357, 3) := by decide +kernel
theorem dL_law_3920 : decode cL_law 3920 = .ok (.lcmp, 1) := by decide +kernel
theorem dL_law_3921 : decode cL_law 3921 = .ok (.ifCond .eq 68, 3) := by decide +kernel
theorem dL_law_3924 : decode cL_law 3924 = .ok (.iconst 0, 1) := by decide +kernel
theorem dL_law_3925 : decode cL_law 3925 = .ok (.ireturn, 1) := by decide +kernel
theorem dL_law_3926 : decode cL_law 3926 = .ok (.aload_n 1, 1) := by decide +kernel
theorem dL_law_3927 : decode cL_law 3927 = .ok (.aload_n 0, 1) := by decide +kernel
theorem dL_law_3928 : decode cL_law 3928 = .ok (.iload 5, 2) := by decide +kernel
theorem dL_law_3930 : decode cL_law 3930 = .ok (.iconst 1, 1) := by decide +kernel
theorem dL_law_3931 : decode cL_law 3931 = .ok (.iadd, 1) := by decide +kernel
theorem dL_law_3932 : decode cL_law 3932 = .ok (.iaload, 1) := by decide +kernel
theorem dL_law_3933 : decode cL_law 3933 = .ok (.aload_n 3, 1) := by decide +kernel
theorem dL_law_3934 : decode cL_law 3934 = .ok (.invokestatic 358, 3) := by decide +kernel
theorem dL_law_3937 : decode cL_law 3937 = .ok (.istore 6, 2) := by decide +kernel
theorem dL_law_3939 : decode cL_law 3939 = .ok (.aload_n 2, 1) := by decide +kernel
theorem dL_law_3940 : decode cL_law 3940 = .ok (.aload_n 0, 1) := by decide +kernel
theorem dL_law_3941 : decode cL_law 3941 = .ok (.iload 5, 2) := by decide +kernel
theorem dL_law_3943 : decode cL_law 3943 = .ok (.iconst 1, 1) := by decide +kernel
theorem dL_law_3944 : decode cL_law 3944 = .ok (.iadd, 1) := by decide +kernel
theorem dL_law_3945 : decode cL_law 3945 = .ok (.iaload, 1) := by decide +kernel
theorem dL_law_3946 : decode cL_law 3946 = .ok (.invokevirtual 360, 3) := by decide +kernel
theorem dL_law_3949 : decode cL_law 3949 = .ok (.istore 7, 2) := by decide +kernel
theorem dL_law_3951 : decode cL_law 3951 = .ok (.aload_n 2, 1) := by decide +kernel
theorem dL_law_3952 : decode cL_law 3952 = .ok (.invokevirtual 188, 3) := by decide +kernel
theorem dL_law_3955 : decode cL_law 3955 = .ok (.iload 6, 2) := by decide +kernel
theorem dL_law_3957 : decode cL_law 3957 = .ok (.if_icmp .eq 5, 3) := by decide +kernel
theorem dL_law_3960 : decode cL_law 3960 = .ok (.iconst 0, 1) := by decide +kernel
theorem dL_law_3961 : decode cL_law 3961 = .ok (.ireturn, 1) := by decide +kernel
theorem dL_law_3962 : decode cL_law 3962 = .ok (.iload 6, 2) := by decide +kernel
theorem dL_law_3964 : decode cL_law 3964 = .ok (.ifCond .ne 22, 3) := by decide +kernel
theorem dL_law_3967 : decode cL_law 3967 = .ok (.aload_n 3, 1) := by decide +kernel
theorem dL_law_3968 : decode cL_law 3968 = .ok (.iconst 0, 1) := by decide +kernel
theorem dL_law_3969 : decode cL_law 3969 = .ok (.laload, 1) := by decide +kernel
theorem dL_law_3970 : decode cL_law 3970 = .ok (.iload 7, 2) := by decide +kernel
theorem dL_law_3972 : decode cL_law 3972 = .ok (.ifCond .eq 7, 3) := by decide +kernel
theorem dL_law_3975 : decode cL_law 3975 = .ok (.lconst 1, 1) := by decide +kernel
theorem dL_law_3976 : decode cL_law 3976 = .ok (.goto 4, 3) := by decide +kernel
theorem dL_law_3979 : decode cL_law 3979 = .ok (.lconst 0, 1) := by decide +kernel
theorem dL_law_3980 : decode cL_law 3980 = .ok (.lcmp, 1) := by decide +kernel
theorem dL_law_3981 : decode cL_law 3981 = .ok (.ifCond .eq 5, 3) := by decide +kernel
theorem dL_law_3984 : decode cL_law 3984 = .ok (.iconst 0, 1) := by decide +kernel
theorem dL_law_3985 : decode cL_law 3985 = .ok (.ireturn, 1) := by decide +kernel
theorem dL_law_3986 : decode cL_law 3986 = .ok (.goto 3, 3) := by decide +kernel
theorem dL_law_3989 : decode cL_law 3989 = .ok (.iinc 5 6, 3) := by decide +kernel
theorem dL_law_3992 : decode cL_law 3992 = .ok (.goto (-3964), 3) := by decide +kernel
theorem dL_law_3995 : decode cL_law 3995 = .ok (.iconst 1, 1) := by decide +kernel
theorem dL_law_3996 : decode cL_law 3996 = .ok (.ireturn, 1) := by decide +kernel
