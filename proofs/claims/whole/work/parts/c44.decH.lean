theorem dL_stop_0 : decode cL_stop 0 = .ok (.aload_n 2, 1) := by decide +kernel
theorem dL_stop_1 : decode cL_stop 1 = .ok (.iconst 0, 1) := by decide +kernel
theorem dL_stop_2 : decode cL_stop 2 = .ok (.aload_n 0, 1) := by decide +kernel
theorem dL_stop_3 : decode cL_stop 3 = .ok (.iload_n 1, 1) := by decide +kernel
theorem dL_stop_4 : decode cL_stop 4 = .ok (.invokevirtual 7, 3) := by decide +kernel
theorem dL_stop_7 : decode cL_stop 7 = .ok (.i2l, 1) := by decide +kernel
theorem dL_stop_8 : decode cL_stop 8 = .ok (.lastore, 1) := by decide +kernel
theorem dL_stop_9 : decode cL_stop 9 = .ok (.goto 9, 3) := by decide +kernel
theorem dL_stop_12 : decode cL_stop 12 = .ok (.astore_n 3, 1) := by decide +kernel
theorem dL_stop_13 : decode cL_stop 13 = .ok (.iconst 1, 1) := by decide +kernel
theorem dL_stop_14 : decode cL_stop 14 = .ok (.ireturn, 1) := by decide +kernel
theorem dL_stop_15 : decode cL_stop 15 = .ok (.astore_n 3, 1) := by decide +kernel
theorem dL_stop_16 : decode cL_stop 16 = .ok (.iconst 2, 1) := by decide +kernel
theorem dL_stop_17 : decode cL_stop 17 = .ok (.ireturn, 1) := by decide +kernel
theorem dL_stop_18 : decode cL_stop 18 = .ok (.iconst 0, 1) := by decide +kernel
theorem dL_stop_19 : decode cL_stop 19 = .ok (.ireturn, 1) := by decide +kernel
theorem dL_setChange_0 : decode cL_setChange 0 = .ok (.aload_n 3, 1) := by decide +kernel
theorem dL_setChange_1 : decode cL_setChange 1 = .ok (.iconst 0, 1) := by decide +kernel
theorem dL_setChange_2 : decode cL_setChange 2 = .ok (.aload_n 0, 1) := by decide +kernel
theorem dL_setChange_3 : decode cL_setChange 3 = .ok (.iload_n 1, 1) := by decide +kernel
theorem dL_setChange_4 : decode cL_setChange 4 = .ok (.iload_n 2, 1) := by decide +kernel
theorem dL_setChange_5 : decode cL_setChange 5 = .ok (.invokevirtual 17, 3) := by decide +kernel
theorem dL_setChange_8 : decode cL_setChange 8 = .ok (.i2l, 1) := by decide +kernel
theorem dL_setChange_9 : decode cL_setChange 9 = .ok (.lastore, 1) := by decide +kernel
theorem dL_setChange_10 : decode cL_setChange 10 = .ok (.goto 11, 3) := by decide +kernel
theorem dL_setChange_13 : decode cL_setChange 13 = .ok (.astore 4, 2) := by decide +kernel
theorem dL_setChange_15 : decode cL_setChange 15 = .ok (.iconst 1, 1) := by decide +kernel
theorem dL_setChange_16 : decode cL_setChange 16 = .ok (.ireturn, 1) := by decide +kernel
theorem dL_setChange_17 : decode cL_setChange 17 = .ok (.astore 4, 2) := by decide +kernel
theorem dL_setChange_19 : decode cL_setChange 19 = .ok (.iconst 2, 1) := by decide +kernel
theorem dL_setChange_20 : decode cL_setChange 20 = .ok (.ireturn, 1) := by decide +kernel
theorem dL_setChange_21 : decode cL_setChange 21 = .ok (.iconst 0, 1) := by decide +kernel
theorem dL_setChange_22 : decode cL_setChange 22 = .ok (.ireturn, 1) := by decide +kernel
theorem dL_walk_0 : decode cL_walk 0 = .ok (.aload 4, 2) := by decide +kernel
theorem dL_walk_2 : decode cL_walk 2 = .ok (.iconst 0, 1) := by decide +kernel
theorem dL_walk_3 : decode cL_walk 3 = .ok (.aload_n 0, 1) := by decide +kernel
theorem dL_walk_4 : decode cL_walk 4 = .ok (.iload_n 1, 1) := by decide +kernel
theorem dL_walk_5 : decode cL_walk 5 = .ok (.iload_n 2, 1) := by decide +kernel
theorem dL_walk_6 : decode cL_walk 6 = .ok (.iload_n 3, 1) := by decide +kernel
theorem dL_walk_7 : decode cL_walk 7 = .ok (.invokevirtual 23, 3) := by decide +kernel
theorem dL_walk_10 : decode cL_walk 10 = .ok (.i2l, 1) := by decide +kernel
theorem dL_walk_11 : decode cL_walk 11 = .ok (.lastore, 1) := by decide +kernel
theorem dL_walk_12 : decode cL_walk 12 = .ok (.goto 11, 3) := by decide +kernel
theorem dL_walk_15 : decode cL_walk 15 = .ok (.astore 5, 2) := by decide +kernel
theorem dL_walk_17 : decode cL_walk 17 = .ok (.iconst 1, 1) := by decide +kernel
theorem dL_walk_18 : decode cL_walk 18 = .ok (.ireturn, 1) := by decide +kernel
theorem dL_walk_19 : decode cL_walk 19 = .ok (.astore 5, 2) := by decide +kernel
theorem dL_walk_21 : decode cL_walk 21 = .ok (.iconst 2, 1) := by decide +kernel
theorem dL_walk_22 : decode cL_walk 22 = .ok (.ireturn, 1) := by decide +kernel
theorem dL_walk_23 : decode cL_walk 23 = .ok (.iconst 0, 1) := by decide +kernel
theorem dL_walk_24 : decode cL_walk 24 = .ok (.ireturn, 1) := by decide +kernel
theorem dL_walkTime_0 : decode cL_walkTime 0 = .ok (.aload_n 3, 1) := by decide +kernel
theorem dL_walkTime_1 : decode cL_walkTime 1 = .ok (.iconst 0, 1) := by decide +kernel
theorem dL_walkTime_2 : decode cL_walkTime 2 = .ok (.aload_n 0, 1) := by decide +kernel
theorem dL_walkTime_3 : decode cL_walkTime 3 = .ok (.iload_n 1, 1) := by decide +kernel
theorem dL_walkTime_4 : decode cL_walkTime 4 = .ok (.iload_n 2, 1) := by decide +kernel
theorem dL_walkTime_5 : decode cL_walkTime 5 = .ok (.invokevirtual 27, 3) := by decide +kernel
theorem dL_walkTime_8 : decode cL_walkTime 8 = .ok (.i2l, 1) := by decide +kernel
theorem dL_walkTime_9 : decode cL_walkTime 9 = .ok (.lastore, 1) := by decide +kernel
theorem dL_walkTime_10 : decode cL_walkTime 10 = .ok (.goto 11, 3) := by decide +kernel
theorem dL_walkTime_13 : decode cL_walkTime 13 = .ok (.astore 4, 2) := by decide +kernel
theorem dL_walkTime_15 : decode cL_walkTime 15 = .ok (.iconst 1, 1) := by decide +kernel
theorem dL_walkTime_16 : decode cL_walkTime 16 = .ok (.ireturn, 1) := by decide +kernel
theorem dL_walkTime_17 : decode cL_walkTime 17 = .ok (.astore 4, 2) := by decide +kernel
theorem dL_walkTime_19 : decode cL_walkTime 19 = .ok (.iconst 2, 1) := by decide +kernel
theorem dL_walkTime_20 : decode cL_walkTime 20 = .ok (.ireturn, 1) := by decide +kernel
theorem dL_walkTime_21 : decode cL_walkTime 21 = .ok (.iconst 0, 1) := by decide +kernel
theorem dL_walkTime_22 : decode cL_walkTime 22 = .ok (.ireturn, 1) := by decide +kernel
theorem dL_service_0 : decode cL_service 0 = .ok (.aload_n 1, 1) := by decide +kernel
theorem dL_service_1 : decode cL_service 1 = .ok (.iconst 0, 1) := by decide +kernel
theorem dL_service_2 : decode cL_service 2 = .ok (.aload_n 0, 1) := by decide +kernel
theorem dL_service_3 : decode cL_service 3 = .ok (.invokevirtual 32, 3) := by decide +kernel
theorem dL_service_6 : decode cL_service 6 = .ok (.i2l, 1) := by decide +kernel
theorem dL_service_7 : decode cL_service 7 = .ok (.lastore, 1) := by decide +kernel
theorem dL_service_8 : decode cL_service 8 = .ok (.goto 6, 3) := by decide +kernel
theorem dL_service_11 : decode cL_service 11 = .ok (.astore_n 2, 1) := by decide +kernel
theorem dL_service_12 : decode cL_service 12 = .ok (.iconst 1, 1) := by decide +kernel
theorem dL_service_13 : decode cL_service 13 = .ok (.ireturn, 1) := by decide +kernel
theorem dL_service_14 : decode cL_service 14 = .ok (.iconst 0, 1) := by decide +kernel
theorem dL_service_15 : decode cL_service 15 = .ok (.ireturn, 1) := by decide +kernel
theorem dL_week_0 : decode cL_week 0 = .ok (.aload 5, 2) := by decide +kernel
theorem dL_week_2 : decode cL_week 2 = .ok (.iconst 0, 1) := by decide +kernel
theorem dL_week_3 : decode cL_week 3 = .ok (.aload_n 0, 1) := by decide +kernel
theorem dL_week_4 : decode cL_week 4 = .ok (.iload_n 1, 1) := by decide +kernel
theorem dL_week_5 : decode cL_week 5 = .ok (.iload_n 2, 1) := by decide +kernel
theorem dL_week_6 : decode cL_week 6 = .ok (.iload_n 3, 1) := by decide +kernel
theorem dL_week_7 : decode cL_week 7 = .ok (.iload 4, 2) := by decide +kernel
theorem dL_week_9 : decode cL_week 9 = .ok (.invokevirtual 36, 3) := by decide +kernel
theorem dL_week_12 : decode cL_week 12 = .ok (.i2l, 1) := by decide +kernel
theorem dL_week_13 : decode cL_week 13 = .ok (.lastore, 1) := by decide +kernel
theorem dL_week_14 : decode cL_week 14 = .ok (.goto 11, 3) := by decide +kernel
theorem dL_week_17 : decode cL_week 17 = .ok (.astore 6, 2) := by decide +kernel
theorem dL_week_19 : decode cL_week 19 = .ok (.iconst 1, 1) := by decide +kernel
theorem dL_week_20 : decode cL_week 20 = .ok (.ireturn, 1) := by decide +kernel
theorem dL_week_21 : decode cL_week 21 = .ok (.astore 6, 2) := by decide +kernel
theorem dL_week_23 : decode cL_week 23 = .ok (.iconst 2, 1) := by decide +kernel
theorem dL_week_24 : decode cL_week 24 = .ok (.ireturn, 1) := by decide +kernel
theorem dL_week_25 : decode cL_week 25 = .ok (.iconst 0, 1) := by decide +kernel
theorem dL_week_26 : decode cL_week 26 = .ok (.ireturn, 1) := by decide +kernel
theorem dL_putDay_0 : decode cL_putDay 0 = .ok (.aload 4, 2) := by decide +kernel
theorem dL_putDay_2 : decode cL_putDay 2 = .ok (.iconst 0, 1) := by decide +kernel
theorem dL_putDay_3 : decode cL_putDay 3 = .ok (.aload_n 0, 1) := by decide +kernel
theorem dL_putDay_4 : decode cL_putDay 4 = .ok (.iload_n 1, 1) := by decide +kernel
theorem dL_putDay_5 : decode cL_putDay 5 = .ok (.iload_n 2, 1) := by decide +kernel
theorem dL_putDay_6 : decode cL_putDay 6 = .ok (.iload_n 3, 1) := by decide +kernel
theorem dL_putDay_7 : decode cL_putDay 7 = .ok (.invokevirtual 40, 3) := by decide +kernel
theorem dL_putDay_10 : decode cL_putDay 10 = .ok (.ifCond .eq 7, 3) := by decide +kernel
theorem dL_putDay_13 : decode cL_putDay 13 = .ok (.lconst 1, 1) := by decide +kernel
theorem dL_putDay_14 : decode cL_putDay 14 = .ok (.goto 4, 3) := by decide +kernel
theorem dL_putDay_17 : decode cL_putDay 17 = .ok (.lconst 0, 1) := by decide +kernel
theorem dL_putDay_18 : decode cL_putDay 18 = .ok (.lastore, 1) := by decide +kernel
theorem dL_putDay_19 : decode cL_putDay 19 = .ok (.goto 11, 3) := by decide +kernel
theorem dL_putDay_22 : decode cL_putDay 22 = .ok (.astore 5, 2) := by decide +kernel
theorem dL_putDay_24 : decode cL_putDay 24 = .ok (.iconst 1, 1) := by decide +kernel
theorem dL_putDay_25 : decode cL_putDay 25 = .ok (.ireturn, 1) := by decide +kernel
theorem dL_putDay_26 : decode cL_putDay 26 = .ok (.astore 5, 2) := by decide +kernel
theorem dL_putDay_28 : decode cL_putDay 28 = .ok (.iconst 2, 1) := by decide +kernel
theorem dL_putDay_29 : decode cL_putDay 29 = .ok (.ireturn, 1) := by decide +kernel
theorem dL_putDay_30 : decode cL_putDay 30 = .ok (.iconst 0, 1) := by decide +kernel
theorem dL_putDay_31 : decode cL_putDay 31 = .ok (.ireturn, 1) := by decide +kernel
theorem dL_runsOn_0 : decode cL_runsOn 0 = .ok (.aload_n 3, 1) := by decide +kernel
theorem dL_runsOn_1 : decode cL_runsOn 1 = .ok (.iconst 0, 1) := by decide +kernel
theorem dL_runsOn_2 : decode cL_runsOn 2 = .ok (.aload_n 0, 1) := by decide +kernel
theorem dL_runsOn_3 : decode cL_runsOn 3 = .ok (.iload_n 1, 1) := by decide +kernel
theorem dL_runsOn_4 : decode cL_runsOn 4 = .ok (.iload_n 2, 1) := by decide +kernel
theorem dL_runsOn_5 : decode cL_runsOn 5 = .ok (.invokevirtual 44, 3) := by decide +kernel
theorem dL_runsOn_8 : decode cL_runsOn 8 = .ok (.ifCond .eq 7, 3) := by decide +kernel
theorem dL_runsOn_11 : decode cL_runsOn 11 = .ok (.lconst 1, 1) := by decide +kernel
theorem dL_runsOn_12 : decode cL_runsOn 12 = .ok (.goto 4, 3) := by decide +kernel
theorem dL_runsOn_15 : decode cL_runsOn 15 = .ok (.lconst 0, 1) := by decide +kernel
theorem dL_runsOn_16 : decode cL_runsOn 16 = .ok (.lastore, 1) := by decide +kernel
theorem dL_runsOn_17 : decode cL_runsOn 17 = .ok (.goto 11, 3) := by decide +kernel
theorem dL_runsOn_20 : decode cL_runsOn 20 = .ok (.astore 4, 2) := by decide +kernel
theorem dL_runsOn_22 : decode cL_runsOn 22 = .ok (.iconst 1, 1) := by decide +kernel
theorem dL_runsOn_23 : decode cL_runsOn 23 = .ok (.ireturn, 1) := by decide +kernel
theorem dL_runsOn_24 : decode cL_runsOn 24 = .ok (.astore 4, 2) := by decide +kernel
theorem dL_runsOn_26 : decode cL_runsOn 26 = .ok (.iconst 2, 1) := by decide +kernel
theorem dL_runsOn_27 : decode cL_runsOn 27 = .ok (.ireturn, 1) := by decide +kernel
theorem dL_runsOn_28 : decode cL_runsOn 28 = .ok (.iconst 0, 1) := by decide +kernel
theorem dL_runsOn_29 : decode cL_runsOn 29 = .ok (.ireturn, 1) := by decide +kernel
theorem dL_nextDay_0 : decode cL_nextDay 0 = .ok (.aload_n 3, 1) := by decide +kernel
theorem dL_nextDay_1 : decode cL_nextDay 1 = .ok (.iconst 0, 1) := by decide +kernel
theorem dL_nextDay_2 : decode cL_nextDay 2 = .ok (.aload_n 0, 1) := by decide +kernel
theorem dL_nextDay_3 : decode cL_nextDay 3 = .ok (.iload_n 1, 1) := by decide +kernel
theorem dL_nextDay_4 : decode cL_nextDay 4 = .ok (.iload_n 2, 1) := by decide +kernel
theorem dL_nextDay_5 : decode cL_nextDay 5 = .ok (.invokevirtual 48, 3) := by decide +kernel
theorem dL_nextDay_8 : decode cL_nextDay 8 = .ok (.i2l, 1) := by decide +kernel
theorem dL_nextDay_9 : decode cL_nextDay 9 = .ok (.lastore, 1) := by decide +kernel
theorem dL_nextDay_10 : decode cL_nextDay 10 = .ok (.goto 15, 3) := by decide +kernel
theorem dL_nextDay_13 : decode cL_nextDay 13 = .ok (.astore 4, 2) := by decide +kernel
theorem dL_nextDay_15 : decode cL_nextDay 15 = .ok (.iconst 1, 1) := by decide +kernel
theorem dL_nextDay_16 : decode cL_nextDay 16 = .ok (.ireturn, 1) := by decide +kernel
theorem dL_nextDay_17 : decode cL_nextDay 17 = .ok (.astore 4, 2) := by decide +kernel
theorem dL_nextDay_19 : decode cL_nextDay 19 = .ok (.iconst 2, 1) := by decide +kernel
theorem dL_nextDay_20 : decode cL_nextDay 20 = .ok (.ireturn, 1) := by decide +kernel
theorem dL_nextDay_21 : decode cL_nextDay 21 = .ok (.astore 4, 2) := by decide +kernel
theorem dL_nextDay_23 : decode cL_nextDay 23 = .ok (.iconst 3, 1) := by decide +kernel
theorem dL_nextDay_24 : decode cL_nextDay 24 = .ok (.ireturn, 1) := by decide +kernel
theorem dL_nextDay_25 : decode cL_nextDay 25 = .ok (.iconst 0, 1) := by decide +kernel
theorem dL_nextDay_26 : decode cL_nextDay 26 = .ok (.ireturn, 1) := by decide +kernel
theorem dL_trip_0 : decode cL_trip 0 = .ok (.aload 4, 2) := by decide +kernel
theorem dL_trip_2 : decode cL_trip 2 = .ok (.iconst 0, 1) := by decide +kernel
theorem dL_trip_3 : decode cL_trip 3 = .ok (.aload_n 0, 1) := by decide +kernel
theorem dL_trip_4 : decode cL_trip 4 = .ok (.iload_n 1, 1) := by decide +kernel
theorem dL_trip_5 : decode cL_trip 5 = .ok (.iload_n 2, 1) := by decide +kernel
theorem dL_trip_6 : decode cL_trip 6 = .ok (.iload_n 3, 1) := by decide +kernel
theorem dL_trip_7 : decode cL_trip 7 = .ok (.invokevirtual 51, 3) := by decide +kernel
theorem dL_trip_10 : decode cL_trip 10 = .ok (.i2l, 1) := by decide +kernel
theorem dL_trip_11 : decode cL_trip 11 = .ok (.lastore, 1) := by decide +kernel
theorem dL_trip_12 : decode cL_trip 12 = .ok (.goto 15, 3) := by decide +kernel
theorem dL_trip_15 : decode cL_trip 15 = .ok (.astore 5, 2) := by decide +kernel
theorem dL_trip_17 : decode cL_trip 17 = .ok (.iconst 1, 1) := by decide +kernel
theorem dL_trip_18 : decode cL_trip 18 = .ok (.ireturn, 1) := by decide +kernel
theorem dL_trip_19 : decode cL_trip 19 = .ok (.astore 5, 2) := by decide +kernel
theorem dL_trip_21 : decode cL_trip 21 = .ok (.iconst 2, 1) := by decide +kernel
theorem dL_trip_22 : decode cL_trip 22 = .ok (.ireturn, 1) := by decide +kernel
theorem dL_trip_23 : decode cL_trip 23 = .ok (.astore 5, 2) := by decide +kernel
theorem dL_trip_25 : decode cL_trip 25 = .ok (.iconst 3, 1) := by decide +kernel
theorem dL_trip_26 : decode cL_trip 26 = .ok (.ireturn, 1) := by decide +kernel
theorem dL_trip_27 : decode cL_trip 27 = .ok (.iconst 0, 1) := by decide +kernel
theorem dL_trip_28 : decode cL_trip 28 = .ok (.ireturn, 1) := by decide +kernel
theorem dL_call_0 : decode cL_call 0 = .ok (.aload 5, 2) := by decide +kernel
theorem dL_call_2 : decode cL_call 2 = .ok (.iconst 0, 1) := by decide +kernel
theorem dL_call_3 : decode cL_call 3 = .ok (.aload_n 0, 1) := by decide +kernel
theorem dL_call_4 : decode cL_call 4 = .ok (.iload_n 1, 1) := by decide +kernel
theorem dL_call_5 : decode cL_call 5 = .ok (.iload_n 2, 1) := by decide +kernel
theorem dL_call_6 : decode cL_call 6 = .ok (.iload_n 3, 1) := by decide +kernel
theorem dL_call_7 : decode cL_call 7 = .ok (.iload 4, 2) := by decide +kernel
theorem dL_call_9 : decode cL_call 9 = .ok (.invokevirtual 54, 3) := by decide +kernel
theorem dL_call_12 : decode cL_call 12 = .ok (.i2l, 1) := by decide +kernel
theorem dL_call_13 : decode cL_call 13 = .ok (.lastore, 1) := by decide +kernel
theorem dL_call_14 : decode cL_call 14 = .ok (.goto 15, 3) := by decide +kernel
theorem dL_call_17 : decode cL_call 17 = .ok (.astore 6, 2) := by decide +kernel
theorem dL_call_19 : decode cL_call 19 = .ok (.iconst 1, 1) := by decide +kernel
theorem dL_call_20 : decode cL_call 20 = .ok (.ireturn, 1) := by decide +kernel
theorem dL_call_21 : decode cL_call 21 = .ok (.astore 6, 2) := by decide +kernel
theorem dL_call_23 : decode cL_call 23 = .ok (.iconst 2, 1) := by decide +kernel
theorem dL_call_24 : decode cL_call 24 = .ok (.ireturn, 1) := by decide +kernel
theorem dL_call_25 : decode cL_call 25 = .ok (.astore 6, 2) := by decide +kernel
theorem dL_call_27 : decode cL_call 27 = .ok (.iconst 3, 1) := by decide +kernel
theorem dL_call_28 : decode cL_call 28 = .ok (.ireturn, 1) := by decide +kernel
theorem dL_call_29 : decode cL_call 29 = .ok (.iconst 0, 1) := by decide +kernel
theorem dL_call_30 : decode cL_call 30 = .ok (.ireturn, 1) := by decide +kernel
theorem dL_calls_0 : decode cL_calls 0 = .ok (.aload_n 2, 1) := by decide +kernel
theorem dL_calls_1 : decode cL_calls 1 = .ok (.iconst 0, 1) := by decide +kernel
theorem dL_calls_2 : decode cL_calls 2 = .ok (.aload_n 0, 1) := by decide +kernel
theorem dL_calls_3 : decode cL_calls 3 = .ok (.iload_n 1, 1) := by decide +kernel
theorem dL_calls_4 : decode cL_calls 4 = .ok (.invokevirtual 57, 3) := by decide +kernel
theorem dL_calls_7 : decode cL_calls 7 = .ok (.i2l, 1) := by decide +kernel
theorem dL_calls_8 : decode cL_calls 8 = .ok (.lastore, 1) := by decide +kernel
theorem dL_calls_9 : decode cL_calls 9 = .ok (.goto 6, 3) := by decide +kernel
theorem dL_calls_12 : decode cL_calls 12 = .ok (.astore_n 3, 1) := by decide +kernel
theorem dL_calls_13 : decode cL_calls 13 = .ok (.iconst 1, 1) := by decide +kernel
theorem dL_calls_14 : decode cL_calls 14 = .ok (.ireturn, 1) := by decide +kernel
theorem dL_calls_15 : decode cL_calls 15 = .ok (.iconst 0, 1) := by decide +kernel
theorem dL_calls_16 : decode cL_calls 16 = .ok (.ireturn, 1) := by decide +kernel
theorem dL_stopAt_0 : decode cL_stopAt 0 = .ok (.aload_n 3, 1) := by decide +kernel
theorem dL_stopAt_1 : decode cL_stopAt 1 = .ok (.iconst 0, 1) := by decide +kernel
theorem dL_stopAt_2 : decode cL_stopAt 2 = .ok (.aload_n 0, 1) := by decide +kernel
theorem dL_stopAt_3 : decode cL_stopAt 3 = .ok (.iload_n 1, 1) := by decide +kernel
theorem dL_stopAt_4 : decode cL_stopAt 4 = .ok (.iload_n 2, 1) := by decide +kernel
theorem dL_stopAt_5 : decode cL_stopAt 5 = .ok (.invokevirtual 60, 3) := by decide +kernel
theorem dL_stopAt_8 : decode cL_stopAt 8 = .ok (.i2l, 1) := by decide +kernel
theorem dL_stopAt_9 : decode cL_stopAt 9 = .ok (.lastore, 1) := by decide +kernel
theorem dL_stopAt_10 : decode cL_stopAt 10 = .ok (.goto 7, 3) := by decide +kernel
theorem dL_stopAt_13 : decode cL_stopAt 13 = .ok (.astore 4, 2) := by decide +kernel
theorem dL_stopAt_15 : decode cL_stopAt 15 = .ok (.iconst 1, 1) := by decide +kernel
theorem dL_stopAt_16 : decode cL_stopAt 16 = .ok (.ireturn, 1) := by decide +kernel
theorem dL_stopAt_17 : decode cL_stopAt 17 = .ok (.iconst 0, 1) := by decide +kernel
theorem dL_stopAt_18 : decode cL_stopAt 18 = .ok (.ireturn, 1) := by decide +kernel
theorem dL_timeAt_0 : decode cL_timeAt 0 = .ok (.aload 4, 2) := by decide +kernel
theorem dL_timeAt_2 : decode cL_timeAt 2 = .ok (.iconst 0, 1) := by decide +kernel
theorem dL_timeAt_3 : decode cL_timeAt 3 = .ok (.aload_n 0, 1) := by decide +kernel
theorem dL_timeAt_4 : decode cL_timeAt 4 = .ok (.iload_n 1, 1) := by decide +kernel
theorem dL_timeAt_5 : decode cL_timeAt 5 = .ok (.iload_n 2, 1) := by decide +kernel
theorem dL_timeAt_6 : decode cL_timeAt 6 = .ok (.iload_n 3, 1) := by decide +kernel
theorem dL_timeAt_7 : decode cL_timeAt 7 = .ok (.invokevirtual 63, 3) := by decide +kernel
theorem dL_timeAt_10 : decode cL_timeAt 10 = .ok (.i2l, 1) := by decide +kernel
theorem dL_timeAt_11 : decode cL_timeAt 11 = .ok (.lastore, 1) := by decide +kernel
theorem dL_timeAt_12 : decode cL_timeAt 12 = .ok (.goto 7, 3) := by decide +kernel
theorem dL_timeAt_15 : decode cL_timeAt 15 = .ok (.astore 5, 2) := by decide +kernel
theorem dL_timeAt_17 : decode cL_timeAt 17 = .ok (.iconst 1, 1) := by decide +kernel
theorem dL_timeAt_18 : decode cL_timeAt 18 = .ok (.ireturn, 1) := by decide +kernel
theorem dL_timeAt_19 : decode cL_timeAt 19 = .ok (.iconst 0, 1) := by decide +kernel
theorem dL_timeAt_20 : decode cL_timeAt 20 = .ok (.ireturn, 1) := by decide +kernel
theorem dL_shift_0 : decode cL_shift 0 = .ok (.aload_n 3, 1) := by decide +kernel
theorem dL_shift_1 : decode cL_shift 1 = .ok (.iconst 0, 1) := by decide +kernel
theorem dL_shift_2 : decode cL_shift 2 = .ok (.aload_n 0, 1) := by decide +kernel
theorem dL_shift_3 : decode cL_shift 3 = .ok (.iload_n 1, 1) := by decide +kernel
theorem dL_shift_4 : decode cL_shift 4 = .ok (.iload_n 2, 1) := by decide +kernel
theorem dL_shift_5 : decode cL_shift 5 = .ok (.invokevirtual 67, 3) := by decide +kernel
theorem dL_shift_8 : decode cL_shift 8 = .ok (.i2l, 1) := by decide +kernel
theorem dL_shift_9 : decode cL_shift 9 = .ok (.lastore, 1) := by decide +kernel
theorem dL_shift_10 : decode cL_shift 10 = .ok (.goto 11, 3) := by decide +kernel
theorem dL_shift_13 : decode cL_shift 13 = .ok (.astore 4, 2) := by decide +kernel
theorem dL_shift_15 : decode cL_shift 15 = .ok (.iconst 1, 1) := by decide +kernel
theorem dL_shift_16 : decode cL_shift 16 = .ok (.ireturn, 1) := by decide +kernel
theorem dL_shift_17 : decode cL_shift 17 = .ok (.astore 4, 2) := by decide +kernel
theorem dL_shift_19 : decode cL_shift 19 = .ok (.iconst 2, 1) := by decide +kernel
theorem dL_shift_20 : decode cL_shift 20 = .ok (.ireturn, 1) := by decide +kernel
theorem dL_shift_21 : decode cL_shift 21 = .ok (.iconst 0, 1) := by decide +kernel
theorem dL_shift_22 : decode cL_shift 22 = .ok (.ireturn, 1) := by decide +kernel
theorem dL_type_0 : decode cL_type 0 = .ok (.aload_n 2, 1) := by decide +kernel
theorem dL_type_1 : decode cL_type 1 = .ok (.iconst 0, 1) := by decide +kernel
theorem dL_type_2 : decode cL_type 2 = .ok (.aload_n 0, 1) := by decide +kernel
theorem dL_type_3 : decode cL_type 3 = .ok (.iload_n 1, 1) := by decide +kernel
theorem dL_type_4 : decode cL_type 4 = .ok (.invokevirtual 70, 3) := by decide +kernel
theorem dL_type_7 : decode cL_type 7 = .ok (.i2l, 1) := by decide +kernel
theorem dL_type_8 : decode cL_type 8 = .ok (.lastore, 1) := by decide +kernel
theorem dL_type_9 : decode cL_type 9 = .ok (.goto 6, 3) := by decide +kernel
theorem dL_type_12 : decode cL_type 12 = .ok (.astore_n 3, 1) := by decide +kernel
theorem dL_type_13 : decode cL_type 13 = .ok (.iconst 1, 1) := by decide +kernel
theorem dL_type_14 : decode cL_type 14 = .ok (.ireturn, 1) := by decide +kernel
theorem dL_type_15 : decode cL_type 15 = .ok (.iconst 0, 1) := by decide +kernel
theorem dL_type_16 : decode cL_type 16 = .ok (.ireturn, 1) := by decide +kernel
theorem dL_typeNumber_0 : decode cL_typeNumber 0 = .ok (.aload_n 2, 1) := by decide +kernel
theorem dL_typeNumber_1 : decode cL_typeNumber 1 = .ok (.iconst 0, 1) := by decide +kernel
theorem dL_typeNumber_2 : decode cL_typeNumber 2 = .ok (.aload_n 0, 1) := by decide +kernel
theorem dL_typeNumber_3 : decode cL_typeNumber 3 = .ok (.iload_n 1, 1) := by decide +kernel
theorem dL_typeNumber_4 : decode cL_typeNumber 4 = .ok (.invokevirtual 74, 3) := by decide +kernel
theorem dL_typeNumber_7 : decode cL_typeNumber 7 = .ok (.i2l, 1) := by decide +kernel
theorem dL_typeNumber_8 : decode cL_typeNumber 8 = .ok (.lastore, 1) := by decide +kernel
theorem dL_typeNumber_9 : decode cL_typeNumber 9 = .ok (.goto 9, 3) := by decide +kernel
theorem dL_typeNumber_12 : decode cL_typeNumber 12 = .ok (.astore_n 3, 1) := by decide +kernel
theorem dL_typeNumber_13 : decode cL_typeNumber 13 = .ok (.iconst 1, 1) := by decide +kernel
theorem dL_typeNumber_14 : decode cL_typeNumber 14 = .ok (.ireturn, 1) := by decide +kernel
theorem dL_typeNumber_15 : decode cL_typeNumber 15 = .ok (.astore_n 3, 1) := by decide +kernel
theorem dL_typeNumber_16 : decode cL_typeNumber 16 = .ok (.iconst 2, 1) := by decide +kernel
theorem dL_typeNumber_17 : decode cL_typeNumber 17 = .ok (.ireturn, 1) := by decide +kernel
theorem dL_typeNumber_18 : decode cL_typeNumber 18 = .ok (.iconst 0, 1) := by decide +kernel
theorem dL_typeNumber_19 : decode cL_typeNumber 19 = .ok (.ireturn, 1) := by decide +kernel
theorem dL_readRow_0 : decode cL_readRow 0 = .ok (.aload_n 1, 1) := by decide +kernel
theorem dL_readRow_1 : decode cL_readRow 1 = .ok (.iconst 0, 1) := by decide +kernel
theorem dL_readRow_2 : decode cL_readRow 2 = .ok (.aload_n 0, 1) := by decide +kernel
theorem dL_readRow_3 : decode cL_readRow 3 = .ok (.invokevirtual 77, 3) := by decide +kernel
theorem dL_readRow_6 : decode cL_readRow 6 = .ok (.i2l, 1) := by decide +kernel
theorem dL_readRow_7 : decode cL_readRow 7 = .ok (.lastore, 1) := by decide +kernel
theorem dL_readRow_8 : decode cL_readRow 8 = .ok (.goto 12, 3) := by decide +kernel
theorem dL_readRow_11 : decode cL_readRow 11 = .ok (.astore_n 2, 1) := by decide +kernel
theorem dL_readRow_12 : decode cL_readRow 12 = .ok (.iconst 1, 1) := by decide +kernel
theorem dL_readRow_13 : decode cL_readRow 13 = .ok (.ireturn, 1) := by decide +kernel
theorem dL_readRow_14 : decode cL_readRow 14 = .ok (.astore_n 2, 1) := by decide +kernel
theorem dL_readRow_15 : decode cL_readRow 15 = .ok (.iconst 2, 1) := by decide +kernel
theorem dL_readRow_16 : decode cL_readRow 16 = .ok (.ireturn, 1) := by decide +kernel
theorem dL_readRow_17 : decode cL_readRow 17 = .ok (.astore_n 2, 1) := by decide +kernel
theorem dL_readRow_18 : decode cL_readRow 18 = .ok (.iconst 3, 1) := by decide +kernel
theorem dL_readRow_19 : decode cL_readRow 19 = .ok (.ireturn, 1) := by decide +kernel
theorem dL_readRow_20 : decode cL_readRow 20 = .ok (.iconst 0, 1) := by decide +kernel
theorem dL_readRow_21 : decode cL_readRow 21 = .ok (.ireturn, 1) := by decide +kernel
theorem dL_faultAt_0 : decode cL_faultAt 0 = .ok (.aload_n 1, 1) := by decide +kernel
theorem dL_faultAt_1 : decode cL_faultAt 1 = .ok (.iconst 0, 1) := by decide +kernel
theorem dL_faultAt_2 : decode cL_faultAt 2 = .ok (.aload_n 0, 1) := by decide +kernel
theorem dL_faultAt_3 : decode cL_faultAt 3 = .ok (.invokevirtual 82, 3) := by decide +kernel
theorem dL_faultAt_6 : decode cL_faultAt 6 = .ok (.i2l, 1) := by decide +kernel
theorem dL_faultAt_7 : decode cL_faultAt 7 = .ok (.lastore, 1) := by decide +kernel
theorem dL_faultAt_8 : decode cL_faultAt 8 = .ok (.goto 6, 3) := by decide +kernel
theorem dL_faultAt_11 : decode cL_faultAt 11 = .ok (.astore_n 2, 1) := by decide +kernel
theorem dL_faultAt_12 : decode cL_faultAt 12 = .ok (.iconst 1, 1) := by decide +kernel
theorem dL_faultAt_13 : decode cL_faultAt 13 = .ok (.ireturn, 1) := by decide +kernel
theorem dL_faultAt_14 : decode cL_faultAt 14 = .ok (.iconst 0, 1) := by decide +kernel
theorem dL_faultAt_15 : decode cL_faultAt 15 = .ok (.ireturn, 1) := by decide +kernel
theorem dL_late_0 : decode cL_late 0 = .ok (.aload 5, 2) := by decide +kernel
theorem dL_late_2 : decode cL_late 2 = .ok (.iconst 0, 1) := by decide +kernel
theorem dL_late_3 : decode cL_late 3 = .ok (.aload_n 0, 1) := by decide +kernel
theorem dL_late_4 : decode cL_late 4 = .ok (.iload_n 1, 1) := by decide +kernel
theorem dL_late_5 : decode cL_late 5 = .ok (.iload_n 2, 1) := by decide +kernel
theorem dL_late_6 : decode cL_late 6 = .ok (.iload_n 3, 1) := by decide +kernel
theorem dL_late_7 : decode cL_late 7 = .ok (.iload 4, 2) := by decide +kernel
theorem dL_late_9 : decode cL_late 9 = .ok (.invokevirtual 85, 3) := by decide +kernel
theorem dL_late_12 : decode cL_late 12 = .ok (.i2l, 1) := by decide +kernel
theorem dL_late_13 : decode cL_late 13 = .ok (.lastore, 1) := by decide +kernel
theorem dL_late_14 : decode cL_late 14 = .ok (.goto 15, 3) := by decide +kernel
theorem dL_late_17 : decode cL_late 17 = .ok (.astore 6, 2) := by decide +kernel
theorem dL_late_19 : decode cL_late 19 = .ok (.iconst 1, 1) := by decide +kernel
theorem dL_late_20 : decode cL_late 20 = .ok (.ireturn, 1) := by decide +kernel
theorem dL_late_21 : decode cL_late 21 = .ok (.astore 6, 2) := by decide +kernel
theorem dL_late_23 : decode cL_late 23 = .ok (.iconst 2, 1) := by decide +kernel
theorem dL_late_24 : decode cL_late 24 = .ok (.ireturn, 1) := by decide +kernel
theorem dL_late_25 : decode cL_late 25 = .ok (.astore 6, 2) := by decide +kernel
theorem dL_late_27 : decode cL_late 27 = .ok (.iconst 3, 1) := by decide +kernel
theorem dL_late_28 : decode cL_late 28 = .ok (.ireturn, 1) := by decide +kernel
theorem dL_late_29 : decode cL_late 29 = .ok (.iconst 0, 1) := by decide +kernel
theorem dL_late_30 : decode cL_late 30 = .ok (.ireturn, 1) := by decide +kernel
theorem dL_lateness_0 : decode cL_lateness 0 = .ok (.aload 4, 2) := by decide +kernel
theorem dL_lateness_2 : decode cL_lateness 2 = .ok (.iconst 0, 1) := by decide +kernel
theorem dL_lateness_3 : decode cL_lateness 3 = .ok (.aload_n 0, 1) := by decide +kernel
theorem dL_lateness_4 : decode cL_lateness 4 = .ok (.iload_n 1, 1) := by decide +kernel
theorem dL_lateness_5 : decode cL_lateness 5 = .ok (.iload_n 2, 1) := by decide +kernel
theorem dL_lateness_6 : decode cL_lateness 6 = .ok (.iload_n 3, 1) := by decide +kernel
theorem dL_lateness_7 : decode cL_lateness 7 = .ok (.invokevirtual 88, 3) := by decide +kernel
theorem dL_lateness_10 : decode cL_lateness 10 = .ok (.i2l, 1) := by decide +kernel
theorem dL_lateness_11 : decode cL_lateness 11 = .ok (.lastore, 1) := by decide +kernel
theorem dL_lateness_12 : decode cL_lateness 12 = .ok (.goto 11, 3) := by decide +kernel
theorem dL_lateness_15 : decode cL_lateness 15 = .ok (.astore 5, 2) := by decide +kernel
theorem dL_lateness_17 : decode cL_lateness 17 = .ok (.iconst 1, 1) := by decide +kernel
theorem dL_lateness_18 : decode cL_lateness 18 = .ok (.ireturn, 1) := by decide +kernel
theorem dL_lateness_19 : decode cL_lateness 19 = .ok (.astore 5, 2) := by decide +kernel
theorem dL_lateness_21 : decode cL_lateness 21 = .ok (.iconst 2, 1) := by decide +kernel
theorem dL_lateness_22 : decode cL_lateness 22 = .ok (.ireturn, 1) := by decide +kernel
theorem dL_lateness_23 : decode cL_lateness 23 = .ok (.iconst 0, 1) := by decide +kernel
theorem dL_lateness_24 : decode cL_lateness 24 = .ok (.ireturn, 1) := by decide +kernel
theorem dL_earliest_0 : decode cL_earliest 0 = .ok (.aload 5, 2) := by decide +kernel
theorem dL_earliest_2 : decode cL_earliest 2 = .ok (.iconst 0, 1) := by decide +kernel
theorem dL_earliest_3 : decode cL_earliest 3 = .ok (.aload_n 0, 1) := by decide +kernel
theorem dL_earliest_4 : decode cL_earliest 4 = .ok (.iload_n 1, 1) := by decide +kernel
theorem dL_earliest_5 : decode cL_earliest 5 = .ok (.iload_n 2, 1) := by decide +kernel
theorem dL_earliest_6 : decode cL_earliest 6 = .ok (.iload_n 3, 1) := by decide +kernel
theorem dL_earliest_7 : decode cL_earliest 7 = .ok (.iload 4, 2) := by decide +kernel
theorem dL_earliest_9 : decode cL_earliest 9 = .ok (.invokevirtual 91, 3) := by decide +kernel
theorem dL_earliest_12 : decode cL_earliest 12 = .ok (.i2l, 1) := by decide +kernel
theorem dL_earliest_13 : decode cL_earliest 13 = .ok (.lastore, 1) := by decide +kernel
theorem dL_earliest_14 : decode cL_earliest 14 = .ok (.goto 15, 3) := by decide +kernel
theorem dL_earliest_17 : decode cL_earliest 17 = .ok (.astore 6, 2) := by decide +kernel
theorem dL_earliest_19 : decode cL_earliest 19 = .ok (.iconst 1, 1) := by decide +kernel
theorem dL_earliest_20 : decode cL_earliest 20 = .ok (.ireturn, 1) := by decide +kernel
theorem dL_earliest_21 : decode cL_earliest 21 = .ok (.astore 6, 2) := by decide +kernel
theorem dL_earliest_23 : decode cL_earliest 23 = .ok (.iconst 2, 1) := by decide +kernel
theorem dL_earliest_24 : decode cL_earliest 24 = .ok (.ireturn, 1) := by decide +kernel
theorem dL_earliest_25 : decode cL_earliest 25 = .ok (.astore 6, 2) := by decide +kernel
theorem dL_earliest_27 : decode cL_earliest 27 = .ok (.iconst 3, 1) := by decide +kernel
theorem dL_earliest_28 : decode cL_earliest 28 = .ok (.ireturn, 1) := by decide +kernel
theorem dL_earliest_29 : decode cL_earliest 29 = .ok (.iconst 0, 1) := by decide +kernel
theorem dL_earliest_30 : decode cL_earliest 30 = .ok (.ireturn, 1) := by decide +kernel
theorem dL_earliestByQueue_0 : decode cL_earliestByQueue 0 = .ok (.aload 5, 2) := by decide +kernel
theorem dL_earliestByQueue_2 : decode cL_earliestByQueue 2 = .ok (.iconst 0, 1) := by decide +kernel
theorem dL_earliestByQueue_3 : decode cL_earliestByQueue 3 = .ok (.aload_n 0, 1) := by decide +kernel
theorem dL_earliestByQueue_4 : decode cL_earliestByQueue 4 = .ok (.iload_n 1, 1) := by decide +kernel
theorem dL_earliestByQueue_5 : decode cL_earliestByQueue 5 = .ok (.iload_n 2, 1) := by decide +kernel
theorem dL_earliestByQueue_6 : decode cL_earliestByQueue 6 = .ok (.iload_n 3, 1) := by decide +kernel
theorem dL_earliestByQueue_7 : decode cL_earliestByQueue 7 = .ok (.iload 4, 2) := by decide +kernel
theorem dL_earliestByQueue_9 : decode cL_earliestByQueue 9 = .ok (.invokevirtual 94, 3) := by decide +kernel
theorem dL_earliestByQueue_12 : decode cL_earliestByQueue 12 = .ok (.i2l, 1) := by decide +kernel
theorem dL_earliestByQueue_13 : decode cL_earliestByQueue 13 = .ok (.lastore, 1) := by decide +kernel
theorem dL_earliestByQueue_14 : decode cL_earliestByQueue 14 = .ok (.goto 15, 3) := by decide +kernel
theorem dL_earliestByQueue_17 : decode cL_earliestByQueue 17 = .ok (.astore 6, 2) := by decide +kernel
theorem dL_earliestByQueue_19 : decode cL_earliestByQueue 19 = .ok (.iconst 1, 1) := by decide +kernel
theorem dL_earliestByQueue_20 : decode cL_earliestByQueue 20 = .ok (.ireturn, 1) := by decide +kernel
theorem dL_earliestByQueue_21 : decode cL_earliestByQueue 21 = .ok (.astore 6, 2) := by decide +kernel
theorem dL_earliestByQueue_23 : decode cL_earliestByQueue 23 = .ok (.iconst 2, 1) := by decide +kernel
theorem dL_earliestByQueue_24 : decode cL_earliestByQueue 24 = .ok (.ireturn, 1) := by decide +kernel
theorem dL_earliestByQueue_25 : decode cL_earliestByQueue 25 = .ok (.astore 6, 2) := by decide +kernel
theorem dL_earliestByQueue_27 : decode cL_earliestByQueue 27 = .ok (.iconst 3, 1) := by decide +kernel
theorem dL_earliestByQueue_28 : decode cL_earliestByQueue 28 = .ok (.ireturn, 1) := by decide +kernel
theorem dL_earliestByQueue_29 : decode cL_earliestByQueue 29 = .ok (.iconst 0, 1) := by decide +kernel
theorem dL_earliestByQueue_30 : decode cL_earliestByQueue 30 = .ok (.ireturn, 1) := by decide +kernel
theorem dL_earliestByRounds_0 : decode cL_earliestByRounds 0 = .ok (.aload 5, 2) := by decide +kernel
theorem dL_earliestByRounds_2 : decode cL_earliestByRounds 2 = .ok (.iconst 0, 1) := by decide +kernel
theorem dL_earliestByRounds_3 : decode cL_earliestByRounds 3 = .ok (.aload_n 0, 1) := by decide +kernel
theorem dL_earliestByRounds_4 : decode cL_earliestByRounds 4 = .ok (.iload_n 1, 1) := by decide +kernel
theorem dL_earliestByRounds_5 : decode cL_earliestByRounds 5 = .ok (.iload_n 2, 1) := by decide +kernel
theorem dL_earliestByRounds_6 : decode cL_earliestByRounds 6 = .ok (.iload_n 3, 1) := by decide +kernel
theorem dL_earliestByRounds_7 : decode cL_earliestByRounds 7 = .ok (.iload 4, 2) := by decide +kernel
theorem dL_earliestByRounds_9 : decode cL_earliestByRounds 9 = .ok (.invokevirtual 97, 3) := by decide +kernel
theorem dL_earliestByRounds_12 : decode cL_earliestByRounds 12 = .ok (.i2l, 1) := by decide +kernel
theorem dL_earliestByRounds_13 : decode cL_earliestByRounds 13 = .ok (.lastore, 1) := by decide +kernel
theorem dL_earliestByRounds_14 : decode cL_earliestByRounds 14 = .ok (.goto 15, 3) := by decide +kernel
theorem dL_earliestByRounds_17 : decode cL_earliestByRounds 17 = .ok (.astore 6, 2) := by decide +kernel
theorem dL_earliestByRounds_19 : decode cL_earliestByRounds 19 = .ok (.iconst 1, 1) := by decide +kernel
theorem dL_earliestByRounds_20 : decode cL_earliestByRounds 20 = .ok (.ireturn, 1) := by decide +kernel
theorem dL_earliestByRounds_21 : decode cL_earliestByRounds 21 = .ok (.astore 6, 2) := by decide +kernel
theorem dL_earliestByRounds_23 : decode cL_earliestByRounds 23 = .ok (.iconst 2, 1) := by decide +kernel
theorem dL_earliestByRounds_24 : decode cL_earliestByRounds 24 = .ok (.ireturn, 1) := by decide +kernel
theorem dL_earliestByRounds_25 : decode cL_earliestByRounds 25 = .ok (.astore 6, 2) := by decide +kernel
theorem dL_earliestByRounds_27 : decode cL_earliestByRounds 27 = .ok (.iconst 3, 1) := by decide +kernel
theorem dL_earliestByRounds_28 : decode cL_earliestByRounds 28 = .ok (.ireturn, 1) := by decide +kernel
theorem dL_earliestByRounds_29 : decode cL_earliestByRounds 29 = .ok (.iconst 0, 1) := by decide +kernel
theorem dL_earliestByRounds_30 : decode cL_earliestByRounds 30 = .ok (.ireturn, 1) := by decide +kernel
theorem dL_wall_0 : decode cL_wall 0 = .ok (.aload 5, 2) := by decide +kernel
theorem dL_wall_2 : decode cL_wall 2 = .ok (.iconst 0, 1) := by decide +kernel
theorem dL_wall_3 : decode cL_wall 3 = .ok (.aload_n 0, 1) := by decide +kernel
theorem dL_wall_4 : decode cL_wall 4 = .ok (.iload_n 1, 1) := by decide +kernel
theorem dL_wall_5 : decode cL_wall 5 = .ok (.iload_n 2, 1) := by decide +kernel
theorem dL_wall_6 : decode cL_wall 6 = .ok (.iload_n 3, 1) := by decide +kernel
theorem dL_wall_7 : decode cL_wall 7 = .ok (.iload 4, 2) := by decide +kernel
theorem dL_wall_9 : decode cL_wall 9 = .ok (.invokevirtual 100, 3) := by decide +kernel
theorem dL_wall_12 : decode cL_wall 12 = .ok (.i2l, 1) := by decide +kernel
theorem dL_wall_13 : decode cL_wall 13 = .ok (.lastore, 1) := by decide +kernel
theorem dL_wall_14 : decode cL_wall 14 = .ok (.goto 11, 3) := by decide +kernel
theorem dL_wall_17 : decode cL_wall 17 = .ok (.astore 6, 2) := by decide +kernel
theorem dL_wall_19 : decode cL_wall 19 = .ok (.iconst 1, 1) := by decide +kernel
theorem dL_wall_20 : decode cL_wall 20 = .ok (.ireturn, 1) := by decide +kernel
theorem dL_wall_21 : decode cL_wall 21 = .ok (.astore 6, 2) := by decide +kernel
theorem dL_wall_23 : decode cL_wall 23 = .ok (.iconst 2, 1) := by decide +kernel
theorem dL_wall_24 : decode cL_wall 24 = .ok (.ireturn, 1) := by decide +kernel
theorem dL_wall_25 : decode cL_wall 25 = .ok (.iconst 0, 1) := by decide +kernel
theorem dL_wall_26 : decode cL_wall 26 = .ok (.ireturn, 1) := by decide +kernel
theorem dL_last_0 : decode cL_last 0 = .ok (.aload 5, 2) := by decide +kernel
theorem dL_last_2 : decode cL_last 2 = .ok (.iconst 0, 1) := by decide +kernel
theorem dL_last_3 : decode cL_last 3 = .ok (.aload_n 0, 1) := by decide +kernel
theorem dL_last_4 : decode cL_last 4 = .ok (.iload_n 1, 1) := by decide +kernel
theorem dL_last_5 : decode cL_last 5 = .ok (.iload_n 2, 1) := by decide +kernel
theorem dL_last_6 : decode cL_last 6 = .ok (.iload_n 3, 1) := by decide +kernel
theorem dL_last_7 : decode cL_last 7 = .ok (.iload 4, 2) := by decide +kernel
theorem dL_last_9 : decode cL_last 9 = .ok (.invokevirtual 103, 3) := by decide +kernel
theorem dL_last_12 : decode cL_last 12 = .ok (.i2l, 1) := by decide +kernel
theorem dL_last_13 : decode cL_last 13 = .ok (.lastore, 1) := by decide +kernel
theorem dL_last_14 : decode cL_last 14 = .ok (.goto 15, 3) := by decide +kernel
theorem dL_last_17 : decode cL_last 17 = .ok (.astore 6, 2) := by decide +kernel
theorem dL_last_19 : decode cL_last 19 = .ok (.iconst 1, 1) := by decide +kernel
theorem dL_last_20 : decode cL_last 20 = .ok (.ireturn, 1) := by decide +kernel
theorem dL_last_21 : decode cL_last 21 = .ok (.astore 6, 2) := by decide +kernel
theorem dL_last_23 : decode cL_last 23 = .ok (.iconst 2, 1) := by decide +kernel
theorem dL_last_24 : decode cL_last 24 = .ok (.ireturn, 1) := by decide +kernel
theorem dL_last_25 : decode cL_last 25 = .ok (.astore 6, 2) := by decide +kernel
theorem dL_last_27 : decode cL_last 27 = .ok (.iconst 3, 1) := by decide +kernel
theorem dL_last_28 : decode cL_last 28 = .ok (.ireturn, 1) := by decide +kernel
theorem dL_last_29 : decode cL_last 29 = .ok (.iconst 0, 1) := by decide +kernel
theorem dL_last_30 : decode cL_last 30 = .ok (.ireturn, 1) := by decide +kernel
theorem dL_chain_0 : decode cL_chain 0 = .ok (.aload 5, 2) := by decide +kernel
theorem dL_chain_2 : decode cL_chain 2 = .ok (.iconst 0, 1) := by decide +kernel
theorem dL_chain_3 : decode cL_chain 3 = .ok (.aload_n 0, 1) := by decide +kernel
theorem dL_chain_4 : decode cL_chain 4 = .ok (.iload_n 1, 1) := by decide +kernel
theorem dL_chain_5 : decode cL_chain 5 = .ok (.iload_n 2, 1) := by decide +kernel
theorem dL_chain_6 : decode cL_chain 6 = .ok (.iload_n 3, 1) := by decide +kernel
theorem dL_chain_7 : decode cL_chain 7 = .ok (.iload 4, 2) := by decide +kernel
theorem dL_chain_9 : decode cL_chain 9 = .ok (.invokevirtual 106, 3) := by decide +kernel
theorem dL_chain_12 : decode cL_chain 12 = .ok (.i2l, 1) := by decide +kernel
theorem dL_chain_13 : decode cL_chain 13 = .ok (.lastore, 1) := by decide +kernel
theorem dL_chain_14 : decode cL_chain 14 = .ok (.goto 15, 3) := by decide +kernel
theorem dL_chain_17 : decode cL_chain 17 = .ok (.astore 6, 2) := by decide +kernel
theorem dL_chain_19 : decode cL_chain 19 = .ok (.iconst 1, 1) := by decide +kernel
theorem dL_chain_20 : decode cL_chain 20 = .ok (.ireturn, 1) := by decide +kernel
theorem dL_chain_21 : decode cL_chain 21 = .ok (.astore 6, 2) := by decide +kernel
theorem dL_chain_23 : decode cL_chain 23 = .ok (.iconst 2, 1) := by decide +kernel
theorem dL_chain_24 : decode cL_chain 24 = .ok (.ireturn, 1) := by decide +kernel
theorem dL_chain_25 : decode cL_chain 25 = .ok (.astore 6, 2) := by decide +kernel
theorem dL_chain_27 : decode cL_chain 27 = .ok (.iconst 3, 1) := by decide +kernel
theorem dL_chain_28 : decode cL_chain 28 = .ok (.ireturn, 1) := by decide +kernel
theorem dL_chain_29 : decode cL_chain 29 = .ok (.iconst 0, 1) := by decide +kernel
theorem dL_chain_30 : decode cL_chain 30 = .ok (.ireturn, 1) := by decide +kernel
theorem dL_ride_0 : decode cL_ride 0 = .ok (.aload_n 3, 1) := by decide +kernel
theorem dL_ride_1 : decode cL_ride 1 = .ok (.iconst 0, 1) := by decide +kernel
theorem dL_ride_2 : decode cL_ride 2 = .ok (.aload_n 0, 1) := by decide +kernel
theorem dL_ride_3 : decode cL_ride 3 = .ok (.iload_n 1, 1) := by decide +kernel
theorem dL_ride_4 : decode cL_ride 4 = .ok (.iload_n 2, 1) := by decide +kernel
theorem dL_ride_5 : decode cL_ride 5 = .ok (.invokevirtual 109, 3) := by decide +kernel
theorem dL_ride_8 : decode cL_ride 8 = .ok (.i2l, 1) := by decide +kernel
theorem dL_ride_9 : decode cL_ride 9 = .ok (.lastore, 1) := by decide +kernel
theorem dL_ride_10 : decode cL_ride 10 = .ok (.goto 11, 3) := by decide +kernel
theorem dL_ride_13 : decode cL_ride 13 = .ok (.astore 4, 2) := by decide +kernel
theorem dL_ride_15 : decode cL_ride 15 = .ok (.iconst 1, 1) := by decide +kernel
theorem dL_ride_16 : decode cL_ride 16 = .ok (.ireturn, 1) := by decide +kernel
theorem dL_ride_17 : decode cL_ride 17 = .ok (.astore 4, 2) := by decide +kernel
theorem dL_ride_19 : decode cL_ride 19 = .ok (.iconst 2, 1) := by decide +kernel
theorem dL_ride_20 : decode cL_ride 20 = .ok (.ireturn, 1) := by decide +kernel
theorem dL_ride_21 : decode cL_ride 21 = .ok (.iconst 0, 1) := by decide +kernel
theorem dL_ride_22 : decode cL_ride 22 = .ok (.ireturn, 1) := by decide +kernel
theorem dL_onBoard_0 : decode cL_onBoard 0 = .ok (.aload 5, 2) := by decide +kernel
theorem dL_onBoard_2 : decode cL_onBoard 2 = .ok (.iconst 0, 1) := by decide +kernel
theorem dL_onBoard_3 : decode cL_onBoard 3 = .ok (.aload_n 0, 1) := by decide +kernel
theorem dL_onBoard_4 : decode cL_onBoard 4 = .ok (.iload_n 1, 1) := by decide +kernel
theorem dL_onBoard_5 : decode cL_onBoard 5 = .ok (.iload_n 2, 1) := by decide +kernel
theorem dL_onBoard_6 : decode cL_onBoard 6 = .ok (.iload_n 3, 1) := by decide +kernel
theorem dL_onBoard_7 : decode cL_onBoard 7 = .ok (.iload 4, 2) := by decide +kernel
theorem dL_onBoard_9 : decode cL_onBoard 9 = .ok (.invokevirtual 113, 3) := by decide +kernel
theorem dL_onBoard_12 : decode cL_onBoard 12 = .ok (.i2l, 1) := by decide +kernel
theorem dL_onBoard_13 : decode cL_onBoard 13 = .ok (.lastore, 1) := by decide +kernel
theorem dL_onBoard_14 : decode cL_onBoard 14 = .ok (.goto 19, 3) := by decide +kernel
theorem dL_onBoard_17 : decode cL_onBoard 17 = .ok (.astore 6, 2) := by decide +kernel
theorem dL_onBoard_19 : decode cL_onBoard 19 = .ok (.iconst 1, 1) := by decide +kernel
theorem dL_onBoard_20 : decode cL_onBoard 20 = .ok (.ireturn, 1) := by decide +kernel
theorem dL_onBoard_21 : decode cL_onBoard 21 = .ok (.astore 6, 2) := by decide +kernel
theorem dL_onBoard_23 : decode cL_onBoard 23 = .ok (.iconst 2, 1) := by decide +kernel
theorem dL_onBoard_24 : decode cL_onBoard 24 = .ok (.ireturn, 1) := by decide +kernel
theorem dL_onBoard_25 : decode cL_onBoard 25 = .ok (.astore 6, 2) := by decide +kernel
theorem dL_onBoard_27 : decode cL_onBoard 27 = .ok (.iconst 3, 1) := by decide +kernel
theorem dL_onBoard_28 : decode cL_onBoard 28 = .ok (.ireturn, 1) := by decide +kernel
theorem dL_onBoard_29 : decode cL_onBoard 29 = .ok (.astore 6, 2) := by decide +kernel
theorem dL_onBoard_31 : decode cL_onBoard 31 = .ok (.iconst 4, 1) := by decide +kernel
theorem dL_onBoard_32 : decode cL_onBoard 32 = .ok (.ireturn, 1) := by decide +kernel
theorem dL_onBoard_33 : decode cL_onBoard 33 = .ok (.iconst 0, 1) := by decide +kernel
theorem dL_onBoard_34 : decode cL_onBoard 34 = .ok (.ireturn, 1) := by decide +kernel
theorem dL_pairs_0 : decode cL_pairs 0 = .ok (.aload 4, 2) := by decide +kernel
theorem dL_pairs_2 : decode cL_pairs 2 = .ok (.iconst 0, 1) := by decide +kernel
theorem dL_pairs_3 : decode cL_pairs 3 = .ok (.aload_n 0, 1) := by decide +kernel
theorem dL_pairs_4 : decode cL_pairs 4 = .ok (.iload_n 1, 1) := by decide +kernel
theorem dL_pairs_5 : decode cL_pairs 5 = .ok (.iload_n 2, 1) := by decide +kernel
theorem dL_pairs_6 : decode cL_pairs 6 = .ok (.iload_n 3, 1) := by decide +kernel
theorem dL_pairs_7 : decode cL_pairs 7 = .ok (.invokevirtual 116, 3) := by decide +kernel
theorem dL_pairs_10 : decode cL_pairs 10 = .ok (.i2l, 1) := by decide +kernel
theorem dL_pairs_11 : decode cL_pairs 11 = .ok (.lastore, 1) := by decide +kernel
theorem dL_pairs_12 : decode cL_pairs 12 = .ok (.goto 11, 3) := by decide +kernel
theorem dL_pairs_15 : decode cL_pairs 15 = .ok (.astore 5, 2) := by decide +kernel
theorem dL_pairs_17 : decode cL_pairs 17 = .ok (.iconst 1, 1) := by decide +kernel
theorem dL_pairs_18 : decode cL_pairs 18 = .ok (.ireturn, 1) := by decide +kernel
theorem dL_pairs_19 : decode cL_pairs 19 = .ok (.astore 5, 2) := by decide +kernel
theorem dL_pairs_21 : decode cL_pairs 21 = .ok (.iconst 2, 1) := by decide +kernel
theorem dL_pairs_22 : decode cL_pairs 22 = .ok (.ireturn, 1) := by decide +kernel
theorem dL_pairs_23 : decode cL_pairs 23 = .ok (.iconst 0, 1) := by decide +kernel
theorem dL_pairs_24 : decode cL_pairs 24 = .ok (.ireturn, 1) := by decide +kernel
theorem dL_pair_0 : decode cL_pair 0 = .ok (.aload 6, 2) := by decide +kernel
theorem dL_pair_2 : decode cL_pair 2 = .ok (.iconst 0, 1) := by decide +kernel
theorem dL_pair_3 : decode cL_pair 3 = .ok (.aload_n 0, 1) := by decide +kernel
theorem dL_pair_4 : decode cL_pair 4 = .ok (.iload_n 1, 1) := by decide +kernel
theorem dL_pair_5 : decode cL_pair 5 = .ok (.iload_n 2, 1) := by decide +kernel
theorem dL_pair_6 : decode cL_pair 6 = .ok (.iload_n 3, 1) := by decide +kernel
theorem dL_pair_7 : decode cL_pair 7 = .ok (.iload 4, 2) := by decide +kernel
theorem dL_pair_9 : decode cL_pair 9 = .ok (.iload 5, 2) := by decide +kernel
theorem dL_pair_11 : decode cL_pair 11 = .ok (.invokevirtual 119, 3) := by decide +kernel
theorem dL_pair_14 : decode cL_pair 14 = .ok (.i2l, 1) := by decide +kernel
theorem dL_pair_15 : decode cL_pair 15 = .ok (.lastore, 1) := by decide +kernel
theorem dL_pair_16 : decode cL_pair 16 = .ok (.goto 15, 3) := by decide +kernel
theorem dL_pair_19 : decode cL_pair 19 = .ok (.astore 7, 2) := by decide +kernel
theorem dL_pair_21 : decode cL_pair 21 = .ok (.iconst 1, 1) := by decide +kernel
theorem dL_pair_22 : decode cL_pair 22 = .ok (.ireturn, 1) := by decide +kernel
theorem dL_pair_23 : decode cL_pair 23 = .ok (.astore 7, 2) := by decide +kernel
theorem dL_pair_25 : decode cL_pair 25 = .ok (.iconst 2, 1) := by decide +kernel
theorem dL_pair_26 : decode cL_pair 26 = .ok (.ireturn, 1) := by decide +kernel
theorem dL_pair_27 : decode cL_pair 27 = .ok (.astore 7, 2) := by decide +kernel
theorem dL_pair_29 : decode cL_pair 29 = .ok (.iconst 3, 1) := by decide +kernel
theorem dL_pair_30 : decode cL_pair 30 = .ok (.ireturn, 1) := by decide +kernel
theorem dL_pair_31 : decode cL_pair 31 = .ok (.iconst 0, 1) := by decide +kernel
theorem dL_pair_32 : decode cL_pair 32 = .ok (.ireturn, 1) := by decide +kernel
theorem dL_byPairs_0 : decode cL_byPairs 0 = .ok (.aload 5, 2) := by decide +kernel
theorem dL_byPairs_2 : decode cL_byPairs 2 = .ok (.iconst 0, 1) := by decide +kernel
theorem dL_byPairs_3 : decode cL_byPairs 3 = .ok (.aload_n 0, 1) := by decide +kernel
theorem dL_byPairs_4 : decode cL_byPairs 4 = .ok (.iload_n 1, 1) := by decide +kernel
theorem dL_byPairs_5 : decode cL_byPairs 5 = .ok (.iload_n 2, 1) := by decide +kernel
theorem dL_byPairs_6 : decode cL_byPairs 6 = .ok (.iload_n 3, 1) := by decide +kernel
theorem dL_byPairs_7 : decode cL_byPairs 7 = .ok (.iload 4, 2) := by decide +kernel
theorem dL_byPairs_9 : decode cL_byPairs 9 = .ok (.invokevirtual 123, 3) := by decide +kernel
theorem dL_byPairs_12 : decode cL_byPairs 12 = .ok (.i2l, 1) := by decide +kernel
theorem dL_byPairs_13 : decode cL_byPairs 13 = .ok (.lastore, 1) := by decide +kernel
theorem dL_byPairs_14 : decode cL_byPairs 14 = .ok (.goto 15, 3) := by decide +kernel
theorem dL_byPairs_17 : decode cL_byPairs 17 = .ok (.astore 6, 2) := by decide +kernel
theorem dL_byPairs_19 : decode cL_byPairs 19 = .ok (.iconst 1, 1) := by decide +kernel
theorem dL_byPairs_20 : decode cL_byPairs 20 = .ok (.ireturn, 1) := by decide +kernel
theorem dL_byPairs_21 : decode cL_byPairs 21 = .ok (.astore 6, 2) := by decide +kernel
theorem dL_byPairs_23 : decode cL_byPairs 23 = .ok (.iconst 2, 1) := by decide +kernel
theorem dL_byPairs_24 : decode cL_byPairs 24 = .ok (.ireturn, 1) := by decide +kernel
theorem dL_byPairs_25 : decode cL_byPairs 25 = .ok (.astore 6, 2) := by decide +kernel
theorem dL_byPairs_27 : decode cL_byPairs 27 = .ok (.iconst 3, 1) := by decide +kernel
theorem dL_byPairs_28 : decode cL_byPairs 28 = .ok (.ireturn, 1) := by decide +kernel
theorem dL_byPairs_29 : decode cL_byPairs 29 = .ok (.iconst 0, 1) := by decide +kernel
theorem dL_byPairs_30 : decode cL_byPairs 30 = .ok (.ireturn, 1) := by decide +kernel
theorem dL_choices_0 : decode cL_choices 0 = .ok (.aload 5, 2) := by decide +kernel
theorem dL_choices_2 : decode cL_choices 2 = .ok (.iconst 0, 1) := by decide +kernel
theorem dL_choices_3 : decode cL_choices 3 = .ok (.aload_n 0, 1) := by decide +kernel
theorem dL_choices_4 : decode cL_choices 4 = .ok (.iload_n 1, 1) := by decide +kernel
theorem dL_choices_5 : decode cL_choices 5 = .ok (.iload_n 2, 1) := by decide +kernel
theorem dL_choices_6 : decode cL_choices 6 = .ok (.iload_n 3, 1) := by decide +kernel
theorem dL_choices_7 : decode cL_choices 7 = .ok (.iload 4, 2) := by decide +kernel
theorem dL_choices_9 : decode cL_choices 9 = .ok (.invokevirtual 126, 3) := by decide +kernel
theorem dL_choices_12 : decode cL_choices 12 = .ok (.i2l, 1) := by decide +kernel
theorem dL_choices_13 : decode cL_choices 13 = .ok (.lastore, 1) := by decide +kernel
theorem dL_choices_14 : decode cL_choices 14 = .ok (.goto 11, 3) := by decide +kernel
theorem dL_choices_17 : decode cL_choices 17 = .ok (.astore 6, 2) := by decide +kernel
theorem dL_choices_19 : decode cL_choices 19 = .ok (.iconst 1, 1) := by decide +kernel
theorem dL_choices_20 : decode cL_choices 20 = .ok (.ireturn, 1) := by decide +kernel
theorem dL_choices_21 : decode cL_choices 21 = .ok (.astore 6, 2) := by decide +kernel
theorem dL_choices_23 : decode cL_choices 23 = .ok (.iconst 2, 1) := by decide +kernel
theorem dL_choices_24 : decode cL_choices 24 = .ok (.ireturn, 1) := by decide +kernel
theorem dL_choices_25 : decode cL_choices 25 = .ok (.iconst 0, 1) := by decide +kernel
theorem dL_choices_26 : decode cL_choices 26 = .ok (.ireturn, 1) := by decide +kernel
theorem dL_choice_0 : decode cL_choice 0 = .ok (.aload 6, 2) := by decide +kernel
theorem dL_choice_2 : decode cL_choice 2 = .ok (.iconst 0, 1) := by decide +kernel
theorem dL_choice_3 : decode cL_choice 3 = .ok (.aload_n 0, 1) := by decide +kernel
theorem dL_choice_4 : decode cL_choice 4 = .ok (.iload_n 1, 1) := by decide +kernel
theorem dL_choice_5 : decode cL_choice 5 = .ok (.iload_n 2, 1) := by decide +kernel
theorem dL_choice_6 : decode cL_choice 6 = .ok (.iload_n 3, 1) := by decide +kernel
theorem dL_choice_7 : decode cL_choice 7 = .ok (.iload 4, 2) := by decide +kernel
theorem dL_choice_9 : decode cL_choice 9 = .ok (.iload 5, 2) := by decide +kernel
theorem dL_choice_11 : decode cL_choice 11 = .ok (.invokevirtual 129, 3) := by decide +kernel
theorem dL_choice_14 : decode cL_choice 14 = .ok (.i2l, 1) := by decide +kernel
theorem dL_choice_15 : decode cL_choice 15 = .ok (.lastore, 1) := by decide +kernel
theorem dL_choice_16 : decode cL_choice 16 = .ok (.goto 15, 3) := by decide +kernel
theorem dL_choice_19 : decode cL_choice 19 = .ok (.astore 7, 2) := by decide +kernel
theorem dL_choice_21 : decode cL_choice 21 = .ok (.iconst 1, 1) := by decide +kernel
theorem dL_choice_22 : decode cL_choice 22 = .ok (.ireturn, 1) := by decide +kernel
theorem dL_choice_23 : decode cL_choice 23 = .ok (.astore 7, 2) := by decide +kernel
theorem dL_choice_25 : decode cL_choice 25 = .ok (.iconst 2, 1) := by decide +kernel
theorem dL_choice_26 : decode cL_choice 26 = .ok (.ireturn, 1) := by decide +kernel
theorem dL_choice_27 : decode cL_choice 27 = .ok (.astore 7, 2) := by decide +kernel
theorem dL_choice_29 : decode cL_choice 29 = .ok (.iconst 3, 1) := by decide +kernel
theorem dL_choice_30 : decode cL_choice 30 = .ok (.ireturn, 1) := by decide +kernel
theorem dL_choice_31 : decode cL_choice 31 = .ok (.iconst 0, 1) := by decide +kernel
theorem dL_choice_32 : decode cL_choice 32 = .ok (.ireturn, 1) := by decide +kernel
theorem dL_holds_0 : decode cL_holds 0 = .ok (.aload 6, 2) := by decide +kernel
theorem dL_holds_2 : decode cL_holds 2 = .ok (.iconst 0, 1) := by decide +kernel
theorem dL_holds_3 : decode cL_holds 3 = .ok (.aload_n 0, 1) := by decide +kernel
theorem dL_holds_4 : decode cL_holds 4 = .ok (.iload_n 1, 1) := by decide +kernel
theorem dL_holds_5 : decode cL_holds 5 = .ok (.iload_n 2, 1) := by decide +kernel
theorem dL_holds_6 : decode cL_holds 6 = .ok (.iload_n 3, 1) := by decide +kernel
theorem dL_holds_7 : decode cL_holds 7 = .ok (.iload 4, 2) := by decide +kernel
theorem dL_holds_9 : decode cL_holds 9 = .ok (.iload 5, 2) := by decide +kernel
theorem dL_holds_11 : decode cL_holds 11 = .ok (.invokevirtual 133, 3) := by decide +kernel
theorem dL_holds_14 : decode cL_holds 14 = .ok (.ifCond .eq 7, 3) := by decide +kernel
theorem dL_holds_17 : decode cL_holds 17 = .ok (.lconst 1, 1) := by decide +kernel
theorem dL_holds_18 : decode cL_holds 18 = .ok (.goto 4, 3) := by decide +kernel
theorem dL_holds_21 : decode cL_holds 21 = .ok (.lconst 0, 1) := by decide +kernel
theorem dL_holds_22 : decode cL_holds 22 = .ok (.lastore, 1) := by decide +kernel
theorem dL_holds_23 : decode cL_holds 23 = .ok (.goto 19, 3) := by decide +kernel
theorem dL_holds_26 : decode cL_holds 26 = .ok (.astore 7, 2) := by decide +kernel
theorem dL_holds_28 : decode cL_holds 28 = .ok (.iconst 1, 1) := by decide +kernel
theorem dL_holds_29 : decode cL_holds 29 = .ok (.ireturn, 1) := by decide +kernel
theorem dL_holds_30 : decode cL_holds 30 = .ok (.astore 7, 2) := by decide +kernel
theorem dL_holds_32 : decode cL_holds 32 = .ok (.iconst 2, 1) := by decide +kernel
theorem dL_holds_33 : decode cL_holds 33 = .ok (.ireturn, 1) := by decide +kernel
theorem dL_holds_34 : decode cL_holds 34 = .ok (.astore 7, 2) := by decide +kernel
theorem dL_holds_36 : decode cL_holds 36 = .ok (.iconst 3, 1) := by decide +kernel
theorem dL_holds_37 : decode cL_holds 37 = .ok (.ireturn, 1) := by decide +kernel
theorem dL_holds_38 : decode cL_holds 38 = .ok (.astore 7, 2) := by decide +kernel
theorem dL_holds_40 : decode cL_holds 40 = .ok (.iconst 4, 1) := by decide +kernel
theorem dL_holds_41 : decode cL_holds 41 = .ok (.ireturn, 1) := by decide +kernel
theorem dL_holds_42 : decode cL_holds 42 = .ok (.iconst 0, 1) := by decide +kernel
theorem dL_holds_43 : decode cL_holds 43 = .ok (.ireturn, 1) := by decide +kernel
theorem dL_wish_0 : decode cL_wish 0 = .ok (.aload 6, 2) := by decide +kernel
theorem dL_wish_2 : decode cL_wish 2 = .ok (.iconst 0, 1) := by decide +kernel
theorem dL_wish_3 : decode cL_wish 3 = .ok (.aload_n 0, 1) := by decide +kernel
theorem dL_wish_4 : decode cL_wish 4 = .ok (.iload_n 1, 1) := by decide +kernel
theorem dL_wish_5 : decode cL_wish 5 = .ok (.iload_n 2, 1) := by decide +kernel
theorem dL_wish_6 : decode cL_wish 6 = .ok (.iload_n 3, 1) := by decide +kernel
theorem dL_wish_7 : decode cL_wish 7 = .ok (.iload 4, 2) := by decide +kernel
theorem dL_wish_9 : decode cL_wish 9 = .ok (.iload 5, 2) := by decide +kernel
theorem dL_wish_11 : decode cL_wish 11 = .ok (.invokevirtual 137, 3) := by decide +kernel
theorem dL_wish_14 : decode cL_wish 14 = .ok (.i2l, 1) := by decide +kernel
theorem dL_wish_15 : decode cL_wish 15 = .ok (.lastore, 1) := by decide +kernel
theorem dL_wish_16 : decode cL_wish 16 = .ok (.goto 19, 3) := by decide +kernel
theorem dL_wish_19 : decode cL_wish 19 = .ok (.astore 7, 2) := by decide +kernel
theorem dL_wish_21 : decode cL_wish 21 = .ok (.iconst 1, 1) := by decide +kernel
theorem dL_wish_22 : decode cL_wish 22 = .ok (.ireturn, 1) := by decide +kernel
theorem dL_wish_23 : decode cL_wish 23 = .ok (.astore 7, 2) := by decide +kernel
theorem dL_wish_25 : decode cL_wish 25 = .ok (.iconst 2, 1) := by decide +kernel
theorem dL_wish_26 : decode cL_wish 26 = .ok (.ireturn, 1) := by decide +kernel
theorem dL_wish_27 : decode cL_wish 27 = .ok (.astore 7, 2) := by decide +kernel
theorem dL_wish_29 : decode cL_wish 29 = .ok (.iconst 3, 1) := by decide +kernel
theorem dL_wish_30 : decode cL_wish 30 = .ok (.ireturn, 1) := by decide +kernel
theorem dL_wish_31 : decode cL_wish 31 = .ok (.astore 7, 2) := by decide +kernel
theorem dL_wish_33 : decode cL_wish 33 = .ok (.iconst 4, 1) := by decide +kernel
theorem dL_wish_34 : decode cL_wish 34 = .ok (.ireturn, 1) := by decide +kernel
theorem dL_wish_35 : decode cL_wish 35 = .ok (.iconst 0, 1) := by decide +kernel
theorem dL_wish_36 : decode cL_wish 36 = .ok (.ireturn, 1) := by decide +kernel
theorem dL_waitCost_0 : decode cL_waitCost 0 = .ok (.aload_n 3, 1) := by decide +kernel
theorem dL_waitCost_1 : decode cL_waitCost 1 = .ok (.iconst 0, 1) := by decide +kernel
theorem dL_waitCost_2 : decode cL_waitCost 2 = .ok (.aload_n 0, 1) := by decide +kernel
theorem dL_waitCost_3 : decode cL_waitCost 3 = .ok (.iload_n 1, 1) := by decide +kernel
theorem dL_waitCost_4 : decode cL_waitCost 4 = .ok (.iload_n 2, 1) := by decide +kernel
theorem dL_waitCost_5 : decode cL_waitCost 5 = .ok (.invokevirtual 140, 3) := by decide +kernel
theorem dL_waitCost_8 : decode cL_waitCost 8 = .ok (.i2l, 1) := by decide +kernel
theorem dL_waitCost_9 : decode cL_waitCost 9 = .ok (.lastore, 1) := by decide +kernel
theorem dL_waitCost_10 : decode cL_waitCost 10 = .ok (.goto 11, 3) := by decide +kernel
theorem dL_waitCost_13 : decode cL_waitCost 13 = .ok (.astore 4, 2) := by decide +kernel
theorem dL_waitCost_15 : decode cL_waitCost 15 = .ok (.iconst 1, 1) := by decide +kernel
theorem dL_waitCost_16 : decode cL_waitCost 16 = .ok (.ireturn, 1) := by decide +kernel
theorem dL_waitCost_17 : decode cL_waitCost 17 = .ok (.astore 4, 2) := by decide +kernel
theorem dL_waitCost_19 : decode cL_waitCost 19 = .ok (.iconst 2, 1) := by decide +kernel
theorem dL_waitCost_20 : decode cL_waitCost 20 = .ok (.ireturn, 1) := by decide +kernel
theorem dL_waitCost_21 : decode cL_waitCost 21 = .ok (.iconst 0, 1) := by decide +kernel
theorem dL_waitCost_22 : decode cL_waitCost 22 = .ok (.ireturn, 1) := by decide +kernel
theorem dL_bestWaits_0 : decode cL_bestWaits 0 = .ok (.aload_n 2, 1) := by decide +kernel
theorem dL_bestWaits_1 : decode cL_bestWaits 1 = .ok (.iconst 0, 1) := by decide +kernel
theorem dL_bestWaits_2 : decode cL_bestWaits 2 = .ok (.aload_n 0, 1) := by decide +kernel
theorem dL_bestWaits_3 : decode cL_bestWaits 3 = .ok (.iload_n 1, 1) := by decide +kernel
theorem dL_bestWaits_4 : decode cL_bestWaits 4 = .ok (.invokevirtual 143, 3) := by decide +kernel
theorem dL_bestWaits_7 : decode cL_bestWaits 7 = .ok (.i2l, 1) := by decide +kernel
theorem dL_bestWaits_8 : decode cL_bestWaits 8 = .ok (.lastore, 1) := by decide +kernel
theorem dL_bestWaits_9 : decode cL_bestWaits 9 = .ok (.goto 6, 3) := by decide +kernel
theorem dL_bestWaits_12 : decode cL_bestWaits 12 = .ok (.astore_n 3, 1) := by decide +kernel
theorem dL_bestWaits_13 : decode cL_bestWaits 13 = .ok (.iconst 1, 1) := by decide +kernel
theorem dL_bestWaits_14 : decode cL_bestWaits 14 = .ok (.ireturn, 1) := by decide +kernel
theorem dL_bestWaits_15 : decode cL_bestWaits 15 = .ok (.iconst 0, 1) := by decide +kernel
theorem dL_bestWaits_16 : decode cL_bestWaits 16 = .ok (.ireturn, 1) := by decide +kernel
theorem dL_lost_0 : decode cL_lost 0 = .ok (.aload_n 3, 1) := by decide +kernel
theorem dL_lost_1 : decode cL_lost 1 = .ok (.iconst 0, 1) := by decide +kernel
theorem dL_lost_2 : decode cL_lost 2 = .ok (.aload_n 0, 1) := by decide +kernel
theorem dL_lost_3 : decode cL_lost 3 = .ok (.iload_n 1, 1) := by decide +kernel
theorem dL_lost_4 : decode cL_lost 4 = .ok (.iload_n 2, 1) := by decide +kernel
theorem dL_lost_5 : decode cL_lost 5 = .ok (.invokevirtual 146, 3) := by decide +kernel
theorem dL_lost_8 : decode cL_lost 8 = .ok (.i2l, 1) := by decide +kernel
theorem dL_lost_9 : decode cL_lost 9 = .ok (.lastore, 1) := by decide +kernel
theorem dL_lost_10 : decode cL_lost 10 = .ok (.goto 11, 3) := by decide +kernel
theorem dL_lost_13 : decode cL_lost 13 = .ok (.astore 4, 2) := by decide +kernel
theorem dL_lost_15 : decode cL_lost 15 = .ok (.iconst 1, 1) := by decide +kernel
theorem dL_lost_16 : decode cL_lost 16 = .ok (.ireturn, 1) := by decide +kernel
theorem dL_lost_17 : decode cL_lost 17 = .ok (.astore 4, 2) := by decide +kernel
theorem dL_lost_19 : decode cL_lost 19 = .ok (.iconst 2, 1) := by decide +kernel
theorem dL_lost_20 : decode cL_lost 20 = .ok (.ireturn, 1) := by decide +kernel
theorem dL_lost_21 : decode cL_lost 21 = .ok (.iconst 0, 1) := by decide +kernel
theorem dL_lost_22 : decode cL_lost 22 = .ok (.ireturn, 1) := by decide +kernel
theorem dL_bridges_0 : decode cL_bridges 0 = .ok (.aload_n 2, 1) := by decide +kernel
theorem dL_bridges_1 : decode cL_bridges 1 = .ok (.iconst 0, 1) := by decide +kernel
theorem dL_bridges_2 : decode cL_bridges 2 = .ok (.aload_n 0, 1) := by decide +kernel
theorem dL_bridges_3 : decode cL_bridges 3 = .ok (.iload_n 1, 1) := by decide +kernel
theorem dL_bridges_4 : decode cL_bridges 4 = .ok (.invokevirtual 149, 3) := by decide +kernel
theorem dL_bridges_7 : decode cL_bridges 7 = .ok (.i2l, 1) := by decide +kernel
theorem dL_bridges_8 : decode cL_bridges 8 = .ok (.lastore, 1) := by decide +kernel
theorem dL_bridges_9 : decode cL_bridges 9 = .ok (.goto 6, 3) := by decide +kernel
theorem dL_bridges_12 : decode cL_bridges 12 = .ok (.astore_n 3, 1) := by decide +kernel
theorem dL_bridges_13 : decode cL_bridges 13 = .ok (.iconst 1, 1) := by decide +kernel
theorem dL_bridges_14 : decode cL_bridges 14 = .ok (.ireturn, 1) := by decide +kernel
theorem dL_bridges_15 : decode cL_bridges 15 = .ok (.iconst 0, 1) := by decide +kernel
theorem dL_bridges_16 : decode cL_bridges 16 = .ok (.ireturn, 1) := by decide +kernel
theorem dL_vehicles_0 : decode cL_vehicles 0 = .ok (.aload_n 2, 1) := by decide +kernel
theorem dL_vehicles_1 : decode cL_vehicles 1 = .ok (.iconst 0, 1) := by decide +kernel
theorem dL_vehicles_2 : decode cL_vehicles 2 = .ok (.aload_n 0, 1) := by decide +kernel
theorem dL_vehicles_3 : decode cL_vehicles 3 = .ok (.iload_n 1, 1) := by decide +kernel
theorem dL_vehicles_4 : decode cL_vehicles 4 = .ok (.invokevirtual 152, 3) := by decide +kernel
theorem dL_vehicles_7 : decode cL_vehicles 7 = .ok (.i2l, 1) := by decide +kernel
theorem dL_vehicles_8 : decode cL_vehicles 8 = .ok (.lastore, 1) := by decide +kernel
theorem dL_vehicles_9 : decode cL_vehicles 9 = .ok (.goto 6, 3) := by decide +kernel
theorem dL_vehicles_12 : decode cL_vehicles 12 = .ok (.astore_n 3, 1) := by decide +kernel
theorem dL_vehicles_13 : decode cL_vehicles 13 = .ok (.iconst 1, 1) := by decide +kernel
theorem dL_vehicles_14 : decode cL_vehicles 14 = .ok (.ireturn, 1) := by decide +kernel
theorem dL_vehicles_15 : decode cL_vehicles 15 = .ok (.iconst 0, 1) := by decide +kernel
theorem dL_vehicles_16 : decode cL_vehicles 16 = .ok (.ireturn, 1) := by decide +kernel
theorem dL_vehiclesByMatching_0 : decode cL_vehiclesByMatching 0 = .ok (.aload_n 2, 1) := by decide +kernel
theorem dL_vehiclesByMatching_1 : decode cL_vehiclesByMatching 1 = .ok (.iconst 0, 1) := by decide +kernel
theorem dL_vehiclesByMatching_2 : decode cL_vehiclesByMatching 2 = .ok (.aload_n 0, 1) := by decide +kernel
theorem dL_vehiclesByMatching_3 : decode cL_vehiclesByMatching 3 = .ok (.iload_n 1, 1) := by decide +kernel
theorem dL_vehiclesByMatching_4 : decode cL_vehiclesByMatching 4 = .ok (.invokevirtual 155, 3) := by decide +kernel
theorem dL_vehiclesByMatching_7 : decode cL_vehiclesByMatching 7 = .ok (.i2l, 1) := by decide +kernel
theorem dL_vehiclesByMatching_8 : decode cL_vehiclesByMatching 8 = .ok (.lastore, 1) := by decide +kernel
theorem dL_vehiclesByMatching_9 : decode cL_vehiclesByMatching 9 = .ok (.goto 6, 3) := by decide +kernel
theorem dL_vehiclesByMatching_12 : decode cL_vehiclesByMatching 12 = .ok (.astore_n 3, 1) := by decide +kernel
theorem dL_vehiclesByMatching_13 : decode cL_vehiclesByMatching 13 = .ok (.iconst 1, 1) := by decide +kernel
theorem dL_vehiclesByMatching_14 : decode cL_vehiclesByMatching 14 = .ok (.ireturn, 1) := by decide +kernel
theorem dL_vehiclesByMatching_15 : decode cL_vehiclesByMatching 15 = .ok (.iconst 0, 1) := by decide +kernel
theorem dL_vehiclesByMatching_16 : decode cL_vehiclesByMatching 16 = .ok (.ireturn, 1) := by decide +kernel
theorem dL_gains_0 : decode cL_gains 0 = .ok (.aload 5, 2) := by decide +kernel
theorem dL_gains_2 : decode cL_gains 2 = .ok (.iconst 0, 1) := by decide +kernel
theorem dL_gains_3 : decode cL_gains 3 = .ok (.aload_n 0, 1) := by decide +kernel
theorem dL_gains_4 : decode cL_gains 4 = .ok (.iload_n 1, 1) := by decide +kernel
theorem dL_gains_5 : decode cL_gains 5 = .ok (.iload_n 2, 1) := by decide +kernel
theorem dL_gains_6 : decode cL_gains 6 = .ok (.iload_n 3, 1) := by decide +kernel
theorem dL_gains_7 : decode cL_gains 7 = .ok (.iload 4, 2) := by decide +kernel
theorem dL_gains_9 : decode cL_gains 9 = .ok (.invokevirtual 158, 3) := by decide +kernel
theorem dL_gains_12 : decode cL_gains 12 = .ok (.i2l, 1) := by decide +kernel
theorem dL_gains_13 : decode cL_gains 13 = .ok (.lastore, 1) := by decide +kernel
theorem dL_gains_14 : decode cL_gains 14 = .ok (.goto 11, 3) := by decide +kernel
theorem dL_gains_17 : decode cL_gains 17 = .ok (.astore 6, 2) := by decide +kernel
theorem dL_gains_19 : decode cL_gains 19 = .ok (.iconst 1, 1) := by decide +kernel
theorem dL_gains_20 : decode cL_gains 20 = .ok (.ireturn, 1) := by decide +kernel
theorem dL_gains_21 : decode cL_gains 21 = .ok (.astore 6, 2) := by decide +kernel
theorem dL_gains_23 : decode cL_gains 23 = .ok (.iconst 2, 1) := by decide +kernel
theorem dL_gains_24 : decode cL_gains 24 = .ok (.ireturn, 1) := by decide +kernel
theorem dL_gains_25 : decode cL_gains 25 = .ok (.iconst 0, 1) := by decide +kernel
theorem dL_gains_26 : decode cL_gains 26 = .ok (.ireturn, 1) := by decide +kernel
theorem dL_loses_0 : decode cL_loses 0 = .ok (.aload 5, 2) := by decide +kernel
theorem dL_loses_2 : decode cL_loses 2 = .ok (.iconst 0, 1) := by decide +kernel
theorem dL_loses_3 : decode cL_loses 3 = .ok (.aload_n 0, 1) := by decide +kernel
theorem dL_loses_4 : decode cL_loses 4 = .ok (.iload_n 1, 1) := by decide +kernel
theorem dL_loses_5 : decode cL_loses 5 = .ok (.iload_n 2, 1) := by decide +kernel
theorem dL_loses_6 : decode cL_loses 6 = .ok (.iload_n 3, 1) := by decide +kernel
theorem dL_loses_7 : decode cL_loses 7 = .ok (.iload 4, 2) := by decide +kernel
theorem dL_loses_9 : decode cL_loses 9 = .ok (.invokevirtual 161, 3) := by decide +kernel
theorem dL_loses_12 : decode cL_loses 12 = .ok (.i2l, 1) := by decide +kernel
theorem dL_loses_13 : decode cL_loses 13 = .ok (.lastore, 1) := by decide +kernel
theorem dL_loses_14 : decode cL_loses 14 = .ok (.goto 11, 3) := by decide +kernel
theorem dL_loses_17 : decode cL_loses 17 = .ok (.astore 6, 2) := by decide +kernel
theorem dL_loses_19 : decode cL_loses 19 = .ok (.iconst 1, 1) := by decide +kernel
theorem dL_loses_20 : decode cL_loses 20 = .ok (.ireturn, 1) := by decide +kernel
theorem dL_loses_21 : decode cL_loses 21 = .ok (.astore 6, 2) := by decide +kernel
theorem dL_loses_23 : decode cL_loses 23 = .ok (.iconst 2, 1) := by decide +kernel
theorem dL_loses_24 : decode cL_loses 24 = .ok (.ireturn, 1) := by decide +kernel
theorem dL_loses_25 : decode cL_loses 25 = .ok (.iconst 0, 1) := by decide +kernel
theorem dL_loses_26 : decode cL_loses 26 = .ok (.ireturn, 1) := by decide +kernel
theorem dL_reachShare_0 : decode cL_reachShare 0 = .ok (.aload_n 2, 1) := by decide +kernel
theorem dL_reachShare_1 : decode cL_reachShare 1 = .ok (.iconst 0, 1) := by decide +kernel
theorem dL_reachShare_2 : decode cL_reachShare 2 = .ok (.aload_n 0, 1) := by decide +kernel
theorem dL_reachShare_3 : decode cL_reachShare 3 = .ok (.iload_n 1, 1) := by decide +kernel
theorem dL_reachShare_4 : decode cL_reachShare 4 = .ok (.invokevirtual 164, 3) := by decide +kernel
theorem dL_reachShare_7 : decode cL_reachShare 7 = .ok (.f2d, 1) := by decide +kernel
theorem dL_reachShare_8 : decode cL_reachShare 8 = .ok (.dastore, 1) := by decide +kernel
theorem dL_reachShare_9 : decode cL_reachShare 9 = .ok (.goto 9, 3) := by decide +kernel
theorem dL_reachShare_12 : decode cL_reachShare 12 = .ok (.astore_n 3, 1) := by decide +kernel
theorem dL_reachShare_13 : decode cL_reachShare 13 = .ok (.iconst 1, 1) := by decide +kernel
theorem dL_reachShare_14 : decode cL_reachShare 14 = .ok (.ireturn, 1) := by decide +kernel
theorem dL_reachShare_15 : decode cL_reachShare 15 = .ok (.astore_n 3, 1) := by decide +kernel
theorem dL_reachShare_16 : decode cL_reachShare 16 = .ok (.iconst 2, 1) := by decide +kernel
theorem dL_reachShare_17 : decode cL_reachShare 17 = .ok (.ireturn, 1) := by decide +kernel
theorem dL_reachShare_18 : decode cL_reachShare 18 = .ok (.iconst 0, 1) := by decide +kernel
theorem dL_reachShare_19 : decode cL_reachShare 19 = .ok (.ireturn, 1) := by decide +kernel
theorem dL_meanBetween_0 : decode cL_meanBetween 0 = .ok (.aload_n 1, 1) := by decide +kernel
theorem dL_meanBetween_1 : decode cL_meanBetween 1 = .ok (.iconst 0, 1) := by decide +kernel
theorem dL_meanBetween_2 : decode cL_meanBetween 2 = .ok (.aload_n 0, 1) := by decide +kernel
theorem dL_meanBetween_3 : decode cL_meanBetween 3 = .ok (.invokevirtual 170, 3) := by decide +kernel
theorem dL_meanBetween_6 : decode cL_meanBetween 6 = .ok (.dastore, 1) := by decide +kernel
theorem dL_meanBetween_7 : decode cL_meanBetween 7 = .ok (.goto 6, 3) := by decide +kernel
theorem dL_meanBetween_10 : decode cL_meanBetween 10 = .ok (.astore_n 2, 1) := by decide +kernel
theorem dL_meanBetween_11 : decode cL_meanBetween 11 = .ok (.iconst 1, 1) := by decide +kernel
theorem dL_meanBetween_12 : decode cL_meanBetween 12 = .ok (.ireturn, 1) := by decide +kernel
theorem dL_meanBetween_13 : decode cL_meanBetween 13 = .ok (.iconst 0, 1) := by decide +kernel
theorem dL_meanBetween_14 : decode cL_meanBetween 14 = .ok (.ireturn, 1) := by decide +kernel
theorem dL_isSound_0 : decode cL_isSound 0 = .ok (.aload_n 2, 1) := by decide +kernel
theorem dL_isSound_1 : decode cL_isSound 1 = .ok (.iconst 0, 1) := by decide +kernel
theorem dL_isSound_2 : decode cL_isSound 2 = .ok (.aload_n 0, 1) := by decide +kernel
theorem dL_isSound_3 : decode cL_isSound 3 = .ok (.iload_n 1, 1) := by decide +kernel
theorem dL_isSound_4 : decode cL_isSound 4 = .ok (.invokevirtual 174, 3) := by decide +kernel
theorem dL_isSound_7 : decode cL_isSound 7 = .ok (.ifCond .eq 7, 3) := by decide +kernel
theorem dL_isSound_10 : decode cL_isSound 10 = .ok (.lconst 1, 1) := by decide +kernel
theorem dL_isSound_11 : decode cL_isSound 11 = .ok (.goto 4, 3) := by decide +kernel
theorem dL_isSound_14 : decode cL_isSound 14 = .ok (.lconst 0, 1) := by decide +kernel
theorem dL_isSound_15 : decode cL_isSound 15 = .ok (.lastore, 1) := by decide +kernel
theorem dL_isSound_16 : decode cL_isSound 16 = .ok (.goto 6, 3) := by decide +kernel
theorem dL_isSound_19 : decode cL_isSound 19 = .ok (.astore_n 3, 1) := by decide +kernel
theorem dL_isSound_20 : decode cL_isSound 20 = .ok (.iconst 1, 1) := by decide +kernel
theorem dL_isSound_21 : decode cL_isSound 21 = .ok (.ireturn, 1) := by decide +kernel
theorem dL_isSound_22 : decode cL_isSound 22 = .ok (.iconst 0, 1) := by decide +kernel
theorem dL_isSound_23 : decode cL_isSound 23 = .ok (.ireturn, 1) := by decide +kernel
