theorem dL_stop_0 : decode cL_stop 0 = .ok (.aload_n 0, 1) := by decide +kernel
theorem dL_stop_1 : decode cL_stop 1 = .ok (.iload_n 1, 1) := by decide +kernel
theorem dL_stop_2 : decode cL_stop 2 = .ok (.invokevirtual 7, 3) := by decide +kernel
theorem dL_stop_5 : decode cL_stop 5 = .ok (.ireturn, 1) := by decide +kernel
theorem dL_stop_6 : decode cL_stop 6 = .ok (.astore_n 2, 1) := by decide +kernel
theorem dL_stop_7 : decode cL_stop 7 = .ok (.ldc 15, 2) := by decide +kernel
theorem dL_stop_9 : decode cL_stop 9 = .ok (.ireturn, 1) := by decide +kernel
theorem dL_stop_10 : decode cL_stop 10 = .ok (.astore_n 2, 1) := by decide +kernel
theorem dL_stop_11 : decode cL_stop 11 = .ok (.ldc 18, 2) := by decide +kernel
theorem dL_stop_13 : decode cL_stop 13 = .ok (.ireturn, 1) := by decide +kernel
theorem dL_walk_0 : decode cL_walk 0 = .ok (.aload_n 0, 1) := by decide +kernel
theorem dL_walk_1 : decode cL_walk 1 = .ok (.iload_n 1, 1) := by decide +kernel
theorem dL_walk_2 : decode cL_walk 2 = .ok (.iload_n 2, 1) := by decide +kernel
theorem dL_walk_3 : decode cL_walk 3 = .ok (.iload_n 3, 1) := by decide +kernel
theorem dL_walk_4 : decode cL_walk 4 = .ok (.invokevirtual 19, 3) := by decide +kernel
theorem dL_walk_7 : decode cL_walk 7 = .ok (.ireturn, 1) := by decide +kernel
theorem dL_walk_8 : decode cL_walk 8 = .ok (.astore 4, 2) := by decide +kernel
theorem dL_walk_10 : decode cL_walk 10 = .ok (.ldc 15, 2) := by decide +kernel
theorem dL_walk_12 : decode cL_walk 12 = .ok (.ireturn, 1) := by decide +kernel
theorem dL_walk_13 : decode cL_walk 13 = .ok (.astore 4, 2) := by decide +kernel
theorem dL_walk_15 : decode cL_walk 15 = .ok (.ldc 18, 2) := by decide +kernel
theorem dL_walk_17 : decode cL_walk 17 = .ok (.ireturn, 1) := by decide +kernel
theorem dL_service_0 : decode cL_service 0 = .ok (.aload_n 0, 1) := by decide +kernel
theorem dL_service_1 : decode cL_service 1 = .ok (.invokevirtual 25, 3) := by decide +kernel
theorem dL_service_4 : decode cL_service 4 = .ok (.ireturn, 1) := by decide +kernel
theorem dL_service_5 : decode cL_service 5 = .ok (.astore_n 1, 1) := by decide +kernel
theorem dL_service_6 : decode cL_service 6 = .ok (.ldc 15, 2) := by decide +kernel
theorem dL_service_8 : decode cL_service 8 = .ok (.ireturn, 1) := by decide +kernel
theorem dL_week_0 : decode cL_week 0 = .ok (.aload_n 0, 1) := by decide +kernel
theorem dL_week_1 : decode cL_week 1 = .ok (.iload_n 1, 1) := by decide +kernel
theorem dL_week_2 : decode cL_week 2 = .ok (.iload_n 2, 1) := by decide +kernel
theorem dL_week_3 : decode cL_week 3 = .ok (.iload_n 3, 1) := by decide +kernel
theorem dL_week_4 : decode cL_week 4 = .ok (.iload 4, 2) := by decide +kernel
theorem dL_week_6 : decode cL_week 6 = .ok (.invokevirtual 29, 3) := by decide +kernel
theorem dL_week_9 : decode cL_week 9 = .ok (.ireturn, 1) := by decide +kernel
theorem dL_week_10 : decode cL_week 10 = .ok (.astore 5, 2) := by decide +kernel
theorem dL_week_12 : decode cL_week 12 = .ok (.ldc 15, 2) := by decide +kernel
theorem dL_week_14 : decode cL_week 14 = .ok (.ireturn, 1) := by decide +kernel
theorem dL_week_15 : decode cL_week 15 = .ok (.astore 5, 2) := by decide +kernel
theorem dL_week_17 : decode cL_week 17 = .ok (.ldc 18, 2) := by decide +kernel
theorem dL_week_19 : decode cL_week 19 = .ok (.ireturn, 1) := by decide +kernel
theorem dL_putDay_0 : decode cL_putDay 0 = .ok (.aload_n 0, 1) := by decide +kernel
theorem dL_putDay_1 : decode cL_putDay 1 = .ok (.iload_n 1, 1) := by decide +kernel
theorem dL_putDay_2 : decode cL_putDay 2 = .ok (.iload_n 2, 1) := by decide +kernel
theorem dL_putDay_3 : decode cL_putDay 3 = .ok (.iload_n 3, 1) := by decide +kernel
theorem dL_putDay_4 : decode cL_putDay 4 = .ok (.invokevirtual 33, 3) := by decide +kernel
theorem dL_putDay_7 : decode cL_putDay 7 = .ok (.ifCond .eq 7, 3) := by decide +kernel
theorem dL_putDay_10 : decode cL_putDay 10 = .ok (.iconst 1, 1) := by decide +kernel
theorem dL_putDay_11 : decode cL_putDay 11 = .ok (.goto 4, 3) := by decide +kernel
theorem dL_putDay_14 : decode cL_putDay 14 = .ok (.iconst 0, 1) := by decide +kernel
theorem dL_putDay_15 : decode cL_putDay 15 = .ok (.ireturn, 1) := by decide +kernel
theorem dL_putDay_16 : decode cL_putDay 16 = .ok (.astore 4, 2) := by decide +kernel
theorem dL_putDay_18 : decode cL_putDay 18 = .ok (.ldc 15, 2) := by decide +kernel
theorem dL_putDay_20 : decode cL_putDay 20 = .ok (.ireturn, 1) := by decide +kernel
theorem dL_putDay_21 : decode cL_putDay 21 = .ok (.astore 4, 2) := by decide +kernel
theorem dL_putDay_23 : decode cL_putDay 23 = .ok (.ldc 18, 2) := by decide +kernel
theorem dL_putDay_25 : decode cL_putDay 25 = .ok (.ireturn, 1) := by decide +kernel
theorem dL_trip_0 : decode cL_trip 0 = .ok (.aload_n 0, 1) := by decide +kernel
theorem dL_trip_1 : decode cL_trip 1 = .ok (.iload_n 1, 1) := by decide +kernel
theorem dL_trip_2 : decode cL_trip 2 = .ok (.iload_n 2, 1) := by decide +kernel
theorem dL_trip_3 : decode cL_trip 3 = .ok (.iload_n 3, 1) := by decide +kernel
theorem dL_trip_4 : decode cL_trip 4 = .ok (.invokevirtual 37, 3) := by decide +kernel
theorem dL_trip_7 : decode cL_trip 7 = .ok (.ireturn, 1) := by decide +kernel
theorem dL_trip_8 : decode cL_trip 8 = .ok (.astore 4, 2) := by decide +kernel
theorem dL_trip_10 : decode cL_trip 10 = .ok (.ldc 15, 2) := by decide +kernel
theorem dL_trip_12 : decode cL_trip 12 = .ok (.ireturn, 1) := by decide +kernel
theorem dL_trip_13 : decode cL_trip 13 = .ok (.astore 4, 2) := by decide +kernel
theorem dL_trip_15 : decode cL_trip 15 = .ok (.ldc 18, 2) := by decide +kernel
theorem dL_trip_17 : decode cL_trip 17 = .ok (.ireturn, 1) := by decide +kernel
theorem dL_trip_18 : decode cL_trip 18 = .ok (.astore 4, 2) := by decide +kernel
theorem dL_trip_20 : decode cL_trip 20 = .ok (.ldc 40, 2) := by decide +kernel
theorem dL_trip_22 : decode cL_trip 22 = .ok (.ireturn, 1) := by decide +kernel
theorem dL_call_0 : decode cL_call 0 = .ok (.aload_n 0, 1) := by decide +kernel
theorem dL_call_1 : decode cL_call 1 = .ok (.iload_n 1, 1) := by decide +kernel
theorem dL_call_2 : decode cL_call 2 = .ok (.iload_n 2, 1) := by decide +kernel
theorem dL_call_3 : decode cL_call 3 = .ok (.iload_n 3, 1) := by decide +kernel
theorem dL_call_4 : decode cL_call 4 = .ok (.iload 4, 2) := by decide +kernel
theorem dL_call_6 : decode cL_call 6 = .ok (.invokevirtual 41, 3) := by decide +kernel
theorem dL_call_9 : decode cL_call 9 = .ok (.ireturn, 1) := by decide +kernel
theorem dL_call_10 : decode cL_call 10 = .ok (.astore 5, 2) := by decide +kernel
theorem dL_call_12 : decode cL_call 12 = .ok (.ldc 15, 2) := by decide +kernel
theorem dL_call_14 : decode cL_call 14 = .ok (.ireturn, 1) := by decide +kernel
theorem dL_call_15 : decode cL_call 15 = .ok (.astore 5, 2) := by decide +kernel
theorem dL_call_17 : decode cL_call 17 = .ok (.ldc 18, 2) := by decide +kernel
theorem dL_call_19 : decode cL_call 19 = .ok (.ireturn, 1) := by decide +kernel
theorem dL_call_20 : decode cL_call 20 = .ok (.astore 5, 2) := by decide +kernel
theorem dL_call_22 : decode cL_call 22 = .ok (.ldc 40, 2) := by decide +kernel
theorem dL_call_24 : decode cL_call 24 = .ok (.ireturn, 1) := by decide +kernel
theorem dL_earliest_0 : decode cL_earliest 0 = .ok (.aload_n 0, 1) := by decide +kernel
theorem dL_earliest_1 : decode cL_earliest 1 = .ok (.iload_n 1, 1) := by decide +kernel
theorem dL_earliest_2 : decode cL_earliest 2 = .ok (.iload_n 2, 1) := by decide +kernel
theorem dL_earliest_3 : decode cL_earliest 3 = .ok (.iload_n 3, 1) := by decide +kernel
theorem dL_earliest_4 : decode cL_earliest 4 = .ok (.iload 4, 2) := by decide +kernel
theorem dL_earliest_6 : decode cL_earliest 6 = .ok (.invokevirtual 44, 3) := by decide +kernel
theorem dL_earliest_9 : decode cL_earliest 9 = .ok (.ireturn, 1) := by decide +kernel
theorem dL_earliest_10 : decode cL_earliest 10 = .ok (.astore 5, 2) := by decide +kernel
theorem dL_earliest_12 : decode cL_earliest 12 = .ok (.ldc 15, 2) := by decide +kernel
theorem dL_earliest_14 : decode cL_earliest 14 = .ok (.ireturn, 1) := by decide +kernel
theorem dL_earliest_15 : decode cL_earliest 15 = .ok (.astore 5, 2) := by decide +kernel
theorem dL_earliest_17 : decode cL_earliest 17 = .ok (.ldc 18, 2) := by decide +kernel
theorem dL_earliest_19 : decode cL_earliest 19 = .ok (.ireturn, 1) := by decide +kernel
theorem dL_earliest_20 : decode cL_earliest 20 = .ok (.astore 5, 2) := by decide +kernel
theorem dL_earliest_22 : decode cL_earliest 22 = .ok (.ldc 40, 2) := by decide +kernel
theorem dL_earliest_24 : decode cL_earliest 24 = .ok (.ireturn, 1) := by decide +kernel
theorem dL_earliestByQueue_0 : decode cL_earliestByQueue 0 = .ok (.aload_n 0, 1) := by decide +kernel
theorem dL_earliestByQueue_1 : decode cL_earliestByQueue 1 = .ok (.iload_n 1, 1) := by decide +kernel
theorem dL_earliestByQueue_2 : decode cL_earliestByQueue 2 = .ok (.iload_n 2, 1) := by decide +kernel
theorem dL_earliestByQueue_3 : decode cL_earliestByQueue 3 = .ok (.iload_n 3, 1) := by decide +kernel
theorem dL_earliestByQueue_4 : decode cL_earliestByQueue 4 = .ok (.iload 4, 2) := by decide +kernel
theorem dL_earliestByQueue_6 : decode cL_earliestByQueue 6 = .ok (.invokevirtual 49, 3) := by decide +kernel
theorem dL_earliestByQueue_9 : decode cL_earliestByQueue 9 = .ok (.ireturn, 1) := by decide +kernel
theorem dL_earliestByQueue_10 : decode cL_earliestByQueue 10 = .ok (.astore 5, 2) := by decide +kernel
theorem dL_earliestByQueue_12 : decode cL_earliestByQueue 12 = .ok (.ldc 15, 2) := by decide +kernel
theorem dL_earliestByQueue_14 : decode cL_earliestByQueue 14 = .ok (.ireturn, 1) := by decide +kernel
theorem dL_earliestByQueue_15 : decode cL_earliestByQueue 15 = .ok (.astore 5, 2) := by decide +kernel
theorem dL_earliestByQueue_17 : decode cL_earliestByQueue 17 = .ok (.ldc 18, 2) := by decide +kernel
theorem dL_earliestByQueue_19 : decode cL_earliestByQueue 19 = .ok (.ireturn, 1) := by decide +kernel
theorem dL_earliestByQueue_20 : decode cL_earliestByQueue 20 = .ok (.astore 5, 2) := by decide +kernel
theorem dL_earliestByQueue_22 : decode cL_earliestByQueue 22 = .ok (.ldc 40, 2) := by decide +kernel
theorem dL_earliestByQueue_24 : decode cL_earliestByQueue 24 = .ok (.ireturn, 1) := by decide +kernel
theorem dL_earliestByRounds_0 : decode cL_earliestByRounds 0 = .ok (.aload_n 0, 1) := by decide +kernel
theorem dL_earliestByRounds_1 : decode cL_earliestByRounds 1 = .ok (.iload_n 1, 1) := by decide +kernel
theorem dL_earliestByRounds_2 : decode cL_earliestByRounds 2 = .ok (.iload_n 2, 1) := by decide +kernel
theorem dL_earliestByRounds_3 : decode cL_earliestByRounds 3 = .ok (.iload_n 3, 1) := by decide +kernel
theorem dL_earliestByRounds_4 : decode cL_earliestByRounds 4 = .ok (.iload 4, 2) := by decide +kernel
theorem dL_earliestByRounds_6 : decode cL_earliestByRounds 6 = .ok (.invokevirtual 52, 3) := by decide +kernel
theorem dL_earliestByRounds_9 : decode cL_earliestByRounds 9 = .ok (.ireturn, 1) := by decide +kernel
theorem dL_earliestByRounds_10 : decode cL_earliestByRounds 10 = .ok (.astore 5, 2) := by decide +kernel
theorem dL_earliestByRounds_12 : decode cL_earliestByRounds 12 = .ok (.ldc 15, 2) := by decide +kernel
theorem dL_earliestByRounds_14 : decode cL_earliestByRounds 14 = .ok (.ireturn, 1) := by decide +kernel
theorem dL_earliestByRounds_15 : decode cL_earliestByRounds 15 = .ok (.astore 5, 2) := by decide +kernel
theorem dL_earliestByRounds_17 : decode cL_earliestByRounds 17 = .ok (.ldc 18, 2) := by decide +kernel
theorem dL_earliestByRounds_19 : decode cL_earliestByRounds 19 = .ok (.ireturn, 1) := by decide +kernel
theorem dL_earliestByRounds_20 : decode cL_earliestByRounds 20 = .ok (.astore 5, 2) := by decide +kernel
theorem dL_earliestByRounds_22 : decode cL_earliestByRounds 22 = .ok (.ldc 40, 2) := by decide +kernel
theorem dL_earliestByRounds_24 : decode cL_earliestByRounds 24 = .ok (.ireturn, 1) := by decide +kernel
theorem dL_wall_0 : decode cL_wall 0 = .ok (.aload_n 0, 1) := by decide +kernel
theorem dL_wall_1 : decode cL_wall 1 = .ok (.iload_n 1, 1) := by decide +kernel
theorem dL_wall_2 : decode cL_wall 2 = .ok (.iload_n 2, 1) := by decide +kernel
theorem dL_wall_3 : decode cL_wall 3 = .ok (.iload_n 3, 1) := by decide +kernel
theorem dL_wall_4 : decode cL_wall 4 = .ok (.iload 4, 2) := by decide +kernel
theorem dL_wall_6 : decode cL_wall 6 = .ok (.invokevirtual 55, 3) := by decide +kernel
theorem dL_wall_9 : decode cL_wall 9 = .ok (.ireturn, 1) := by decide +kernel
theorem dL_wall_10 : decode cL_wall 10 = .ok (.astore 5, 2) := by decide +kernel
theorem dL_wall_12 : decode cL_wall 12 = .ok (.ldc 15, 2) := by decide +kernel
theorem dL_wall_14 : decode cL_wall 14 = .ok (.ireturn, 1) := by decide +kernel
theorem dL_wall_15 : decode cL_wall 15 = .ok (.astore 5, 2) := by decide +kernel
theorem dL_wall_17 : decode cL_wall 17 = .ok (.ldc 18, 2) := by decide +kernel
theorem dL_wall_19 : decode cL_wall 19 = .ok (.ireturn, 1) := by decide +kernel
theorem dL_last_0 : decode cL_last 0 = .ok (.aload_n 0, 1) := by decide +kernel
theorem dL_last_1 : decode cL_last 1 = .ok (.iload_n 1, 1) := by decide +kernel
theorem dL_last_2 : decode cL_last 2 = .ok (.iload_n 2, 1) := by decide +kernel
theorem dL_last_3 : decode cL_last 3 = .ok (.iload_n 3, 1) := by decide +kernel
theorem dL_last_4 : decode cL_last 4 = .ok (.iload 4, 2) := by decide +kernel
theorem dL_last_6 : decode cL_last 6 = .ok (.invokevirtual 58, 3) := by decide +kernel
theorem dL_last_9 : decode cL_last 9 = .ok (.ireturn, 1) := by decide +kernel
theorem dL_last_10 : decode cL_last 10 = .ok (.astore 5, 2) := by decide +kernel
theorem dL_last_12 : decode cL_last 12 = .ok (.ldc 15, 2) := by decide +kernel
theorem dL_last_14 : decode cL_last 14 = .ok (.ireturn, 1) := by decide +kernel
theorem dL_last_15 : decode cL_last 15 = .ok (.astore 5, 2) := by decide +kernel
theorem dL_last_17 : decode cL_last 17 = .ok (.ldc 18, 2) := by decide +kernel
theorem dL_last_19 : decode cL_last 19 = .ok (.ireturn, 1) := by decide +kernel
theorem dL_last_20 : decode cL_last 20 = .ok (.astore 5, 2) := by decide +kernel
theorem dL_last_22 : decode cL_last 22 = .ok (.ldc 40, 2) := by decide +kernel
theorem dL_last_24 : decode cL_last 24 = .ok (.ireturn, 1) := by decide +kernel
theorem dL_chain_0 : decode cL_chain 0 = .ok (.aload_n 0, 1) := by decide +kernel
theorem dL_chain_1 : decode cL_chain 1 = .ok (.iload_n 1, 1) := by decide +kernel
theorem dL_chain_2 : decode cL_chain 2 = .ok (.iload_n 2, 1) := by decide +kernel
theorem dL_chain_3 : decode cL_chain 3 = .ok (.iload_n 3, 1) := by decide +kernel
theorem dL_chain_4 : decode cL_chain 4 = .ok (.iload 4, 2) := by decide +kernel
theorem dL_chain_6 : decode cL_chain 6 = .ok (.invokevirtual 61, 3) := by decide +kernel
theorem dL_chain_9 : decode cL_chain 9 = .ok (.ireturn, 1) := by decide +kernel
theorem dL_chain_10 : decode cL_chain 10 = .ok (.astore 5, 2) := by decide +kernel
theorem dL_chain_12 : decode cL_chain 12 = .ok (.ldc 15, 2) := by decide +kernel
theorem dL_chain_14 : decode cL_chain 14 = .ok (.ireturn, 1) := by decide +kernel
theorem dL_chain_15 : decode cL_chain 15 = .ok (.astore 5, 2) := by decide +kernel
theorem dL_chain_17 : decode cL_chain 17 = .ok (.ldc 18, 2) := by decide +kernel
theorem dL_chain_19 : decode cL_chain 19 = .ok (.ireturn, 1) := by decide +kernel
theorem dL_chain_20 : decode cL_chain 20 = .ok (.astore 5, 2) := by decide +kernel
theorem dL_chain_22 : decode cL_chain 22 = .ok (.ldc 40, 2) := by decide +kernel
theorem dL_chain_24 : decode cL_chain 24 = .ok (.ireturn, 1) := by decide +kernel
theorem dL_ride_0 : decode cL_ride 0 = .ok (.aload_n 0, 1) := by decide +kernel
theorem dL_ride_1 : decode cL_ride 1 = .ok (.iload_n 1, 1) := by decide +kernel
theorem dL_ride_2 : decode cL_ride 2 = .ok (.iload_n 2, 1) := by decide +kernel
theorem dL_ride_3 : decode cL_ride 3 = .ok (.invokevirtual 64, 3) := by decide +kernel
theorem dL_ride_6 : decode cL_ride 6 = .ok (.ireturn, 1) := by decide +kernel
theorem dL_ride_7 : decode cL_ride 7 = .ok (.astore_n 3, 1) := by decide +kernel
theorem dL_ride_8 : decode cL_ride 8 = .ok (.ldc 15, 2) := by decide +kernel
theorem dL_ride_10 : decode cL_ride 10 = .ok (.ireturn, 1) := by decide +kernel
theorem dL_ride_11 : decode cL_ride 11 = .ok (.astore_n 3, 1) := by decide +kernel
theorem dL_ride_12 : decode cL_ride 12 = .ok (.ldc 18, 2) := by decide +kernel
theorem dL_ride_14 : decode cL_ride 14 = .ok (.ireturn, 1) := by decide +kernel
theorem dL_pairs_0 : decode cL_pairs 0 = .ok (.aload_n 0, 1) := by decide +kernel
theorem dL_pairs_1 : decode cL_pairs 1 = .ok (.iload_n 1, 1) := by decide +kernel
theorem dL_pairs_2 : decode cL_pairs 2 = .ok (.iload_n 2, 1) := by decide +kernel
theorem dL_pairs_3 : decode cL_pairs 3 = .ok (.iload_n 3, 1) := by decide +kernel
theorem dL_pairs_4 : decode cL_pairs 4 = .ok (.invokevirtual 68, 3) := by decide +kernel
theorem dL_pairs_7 : decode cL_pairs 7 = .ok (.ireturn, 1) := by decide +kernel
theorem dL_pairs_8 : decode cL_pairs 8 = .ok (.astore 4, 2) := by decide +kernel
theorem dL_pairs_10 : decode cL_pairs 10 = .ok (.ldc 15, 2) := by decide +kernel
theorem dL_pairs_12 : decode cL_pairs 12 = .ok (.ireturn, 1) := by decide +kernel
theorem dL_pairs_13 : decode cL_pairs 13 = .ok (.astore 4, 2) := by decide +kernel
theorem dL_pairs_15 : decode cL_pairs 15 = .ok (.ldc 18, 2) := by decide +kernel
theorem dL_pairs_17 : decode cL_pairs 17 = .ok (.ireturn, 1) := by decide +kernel
theorem dL_pair_0 : decode cL_pair 0 = .ok (.aload_n 0, 1) := by decide +kernel
theorem dL_pair_1 : decode cL_pair 1 = .ok (.iload_n 1, 1) := by decide +kernel
theorem dL_pair_2 : decode cL_pair 2 = .ok (.iload_n 2, 1) := by decide +kernel
theorem dL_pair_3 : decode cL_pair 3 = .ok (.iload_n 3, 1) := by decide +kernel
theorem dL_pair_4 : decode cL_pair 4 = .ok (.iload 4, 2) := by decide +kernel
theorem dL_pair_6 : decode cL_pair 6 = .ok (.iload 5, 2) := by decide +kernel
theorem dL_pair_8 : decode cL_pair 8 = .ok (.invokevirtual 71, 3) := by decide +kernel
theorem dL_pair_11 : decode cL_pair 11 = .ok (.ireturn, 1) := by decide +kernel
theorem dL_pair_12 : decode cL_pair 12 = .ok (.astore 6, 2) := by decide +kernel
theorem dL_pair_14 : decode cL_pair 14 = .ok (.ldc 15, 2) := by decide +kernel
theorem dL_pair_16 : decode cL_pair 16 = .ok (.ireturn, 1) := by decide +kernel
theorem dL_pair_17 : decode cL_pair 17 = .ok (.astore 6, 2) := by decide +kernel
theorem dL_pair_19 : decode cL_pair 19 = .ok (.ldc 18, 2) := by decide +kernel
theorem dL_pair_21 : decode cL_pair 21 = .ok (.ireturn, 1) := by decide +kernel
theorem dL_pair_22 : decode cL_pair 22 = .ok (.astore 6, 2) := by decide +kernel
theorem dL_pair_24 : decode cL_pair 24 = .ok (.ldc 40, 2) := by decide +kernel
theorem dL_pair_26 : decode cL_pair 26 = .ok (.ireturn, 1) := by decide +kernel
theorem dL_byPairs_0 : decode cL_byPairs 0 = .ok (.aload_n 0, 1) := by decide +kernel
theorem dL_byPairs_1 : decode cL_byPairs 1 = .ok (.iload_n 1, 1) := by decide +kernel
theorem dL_byPairs_2 : decode cL_byPairs 2 = .ok (.iload_n 2, 1) := by decide +kernel
theorem dL_byPairs_3 : decode cL_byPairs 3 = .ok (.iload_n 3, 1) := by decide +kernel
theorem dL_byPairs_4 : decode cL_byPairs 4 = .ok (.iload 4, 2) := by decide +kernel
theorem dL_byPairs_6 : decode cL_byPairs 6 = .ok (.invokevirtual 75, 3) := by decide +kernel
theorem dL_byPairs_9 : decode cL_byPairs 9 = .ok (.ireturn, 1) := by decide +kernel
theorem dL_byPairs_10 : decode cL_byPairs 10 = .ok (.astore 5, 2) := by decide +kernel
theorem dL_byPairs_12 : decode cL_byPairs 12 = .ok (.ldc 15, 2) := by decide +kernel
theorem dL_byPairs_14 : decode cL_byPairs 14 = .ok (.ireturn, 1) := by decide +kernel
theorem dL_byPairs_15 : decode cL_byPairs 15 = .ok (.astore 5, 2) := by decide +kernel
theorem dL_byPairs_17 : decode cL_byPairs 17 = .ok (.ldc 18, 2) := by decide +kernel
theorem dL_byPairs_19 : decode cL_byPairs 19 = .ok (.ireturn, 1) := by decide +kernel
theorem dL_byPairs_20 : decode cL_byPairs 20 = .ok (.astore 5, 2) := by decide +kernel
theorem dL_byPairs_22 : decode cL_byPairs 22 = .ok (.ldc 40, 2) := by decide +kernel
theorem dL_byPairs_24 : decode cL_byPairs 24 = .ok (.ireturn, 1) := by decide +kernel
theorem dL_choices_0 : decode cL_choices 0 = .ok (.aload_n 0, 1) := by decide +kernel
theorem dL_choices_1 : decode cL_choices 1 = .ok (.iload_n 1, 1) := by decide +kernel
theorem dL_choices_2 : decode cL_choices 2 = .ok (.iload_n 2, 1) := by decide +kernel
theorem dL_choices_3 : decode cL_choices 3 = .ok (.iload_n 3, 1) := by decide +kernel
theorem dL_choices_4 : decode cL_choices 4 = .ok (.iload 4, 2) := by decide +kernel
theorem dL_choices_6 : decode cL_choices 6 = .ok (.invokevirtual 78, 3) := by decide +kernel
theorem dL_choices_9 : decode cL_choices 9 = .ok (.ireturn, 1) := by decide +kernel
theorem dL_choices_10 : decode cL_choices 10 = .ok (.astore 5, 2) := by decide +kernel
theorem dL_choices_12 : decode cL_choices 12 = .ok (.ldc 15, 2) := by decide +kernel
theorem dL_choices_14 : decode cL_choices 14 = .ok (.ireturn, 1) := by decide +kernel
theorem dL_choices_15 : decode cL_choices 15 = .ok (.astore 5, 2) := by decide +kernel
theorem dL_choices_17 : decode cL_choices 17 = .ok (.ldc 18, 2) := by decide +kernel
theorem dL_choices_19 : decode cL_choices 19 = .ok (.ireturn, 1) := by decide +kernel
theorem dL_choice_0 : decode cL_choice 0 = .ok (.aload_n 0, 1) := by decide +kernel
theorem dL_choice_1 : decode cL_choice 1 = .ok (.iload_n 1, 1) := by decide +kernel
theorem dL_choice_2 : decode cL_choice 2 = .ok (.iload_n 2, 1) := by decide +kernel
theorem dL_choice_3 : decode cL_choice 3 = .ok (.iload_n 3, 1) := by decide +kernel
theorem dL_choice_4 : decode cL_choice 4 = .ok (.iload 4, 2) := by decide +kernel
theorem dL_choice_6 : decode cL_choice 6 = .ok (.iload 5, 2) := by decide +kernel
theorem dL_choice_8 : decode cL_choice 8 = .ok (.invokevirtual 81, 3) := by decide +kernel
theorem dL_choice_11 : decode cL_choice 11 = .ok (.ireturn, 1) := by decide +kernel
theorem dL_choice_12 : decode cL_choice 12 = .ok (.astore 6, 2) := by decide +kernel
theorem dL_choice_14 : decode cL_choice 14 = .ok (.ldc 15, 2) := by decide +kernel
theorem dL_choice_16 : decode cL_choice 16 = .ok (.ireturn, 1) := by decide +kernel
theorem dL_choice_17 : decode cL_choice 17 = .ok (.astore 6, 2) := by decide +kernel
theorem dL_choice_19 : decode cL_choice 19 = .ok (.ldc 18, 2) := by decide +kernel
theorem dL_choice_21 : decode cL_choice 21 = .ok (.ireturn, 1) := by decide +kernel
theorem dL_choice_22 : decode cL_choice 22 = .ok (.astore 6, 2) := by decide +kernel
theorem dL_choice_24 : decode cL_choice 24 = .ok (.ldc 40, 2) := by decide +kernel
theorem dL_choice_26 : decode cL_choice 26 = .ok (.ireturn, 1) := by decide +kernel
theorem dL_vehicles_0 : decode cL_vehicles 0 = .ok (.aload_n 0, 1) := by decide +kernel
theorem dL_vehicles_1 : decode cL_vehicles 1 = .ok (.iload_n 1, 1) := by decide +kernel
theorem dL_vehicles_2 : decode cL_vehicles 2 = .ok (.invokevirtual 85, 3) := by decide +kernel
theorem dL_vehicles_5 : decode cL_vehicles 5 = .ok (.ireturn, 1) := by decide +kernel
theorem dL_vehicles_6 : decode cL_vehicles 6 = .ok (.astore_n 2, 1) := by decide +kernel
theorem dL_vehicles_7 : decode cL_vehicles 7 = .ok (.ldc 15, 2) := by decide +kernel
theorem dL_vehicles_9 : decode cL_vehicles 9 = .ok (.ireturn, 1) := by decide +kernel
theorem dL_vehiclesByMatching_0 : decode cL_vehiclesByMatching 0 = .ok (.aload_n 0, 1) := by decide +kernel
theorem dL_vehiclesByMatching_1 : decode cL_vehiclesByMatching 1 = .ok (.iload_n 1, 1) := by decide +kernel
theorem dL_vehiclesByMatching_2 : decode cL_vehiclesByMatching 2 = .ok (.invokevirtual 88, 3) := by decide +kernel
theorem dL_vehiclesByMatching_5 : decode cL_vehiclesByMatching 5 = .ok (.ireturn, 1) := by decide +kernel
theorem dL_vehiclesByMatching_6 : decode cL_vehiclesByMatching 6 = .ok (.astore_n 2, 1) := by decide +kernel
theorem dL_vehiclesByMatching_7 : decode cL_vehiclesByMatching 7 = .ok (.ldc 15, 2) := by decide +kernel
theorem dL_vehiclesByMatching_9 : decode cL_vehiclesByMatching 9 = .ok (.ireturn, 1) := by decide +kernel
theorem dL_isSound_0 : decode cL_isSound 0 = .ok (.aload_n 0, 1) := by decide +kernel
theorem dL_isSound_1 : decode cL_isSound 1 = .ok (.iload_n 1, 1) := by decide +kernel
theorem dL_isSound_2 : decode cL_isSound 2 = .ok (.invokevirtual 91, 3) := by decide +kernel
theorem dL_isSound_5 : decode cL_isSound 5 = .ok (.ifCond .eq 7, 3) := by decide +kernel
theorem dL_isSound_8 : decode cL_isSound 8 = .ok (.iconst 1, 1) := by decide +kernel
theorem dL_isSound_9 : decode cL_isSound 9 = .ok (.goto 4, 3) := by decide +kernel
theorem dL_isSound_12 : decode cL_isSound 12 = .ok (.iconst 0, 1) := by decide +kernel
theorem dL_isSound_13 : decode cL_isSound 13 = .ok (.ireturn, 1) := by decide +kernel
theorem dL_isSound_14 : decode cL_isSound 14 = .ok (.astore_n 2, 1) := by decide +kernel
theorem dL_isSound_15 : decode cL_isSound 15 = .ok (.ldc 15, 2) := by decide +kernel
theorem dL_isSound_17 : decode cL_isSound 17 = .ok (.ireturn, 1) := by decide +kernel
