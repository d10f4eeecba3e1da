/-! decoded instructions -/
theorem dL_load_0 : decode cL_load 0 = .ok (.aload_n 2, 1) := by decide +kernel
theorem dL_load_1 : decode cL_load 1 = .ok (.iconst 0, 1) := by decide +kernel
theorem dL_load_2 : decode cL_load 2 = .ok (.aload_n 0, 1) := by decide +kernel
theorem dL_load_3 : decode cL_load 3 = .ok (.iload_n 1, 1) := by decide +kernel
theorem dL_load_4 : decode cL_load 4 = .ok (.invokevirtual 7, 3) := by decide +kernel
theorem dL_load_7 : decode cL_load 7 = .ok (.i2l, 1) := by decide +kernel
theorem dL_load_8 : decode cL_load 8 = .ok (.lastore, 1) := by decide +kernel
theorem dL_load_9 : decode cL_load 9 = .ok (.goto 6, 3) := by decide +kernel
theorem dL_load_12 : decode cL_load 12 = .ok (.astore_n 3, 1) := by decide +kernel
theorem dL_load_13 : decode cL_load 13 = .ok (.iconst 1, 1) := by decide +kernel
theorem dL_load_14 : decode cL_load 14 = .ok (.ireturn, 1) := by decide +kernel
theorem dL_load_15 : decode cL_load 15 = .ok (.iconst 0, 1) := by decide +kernel
theorem dL_load_16 : decode cL_load 16 = .ok (.ireturn, 1) := by decide +kernel
theorem dL_distance_0 : decode cL_distance 0 = .ok (.aload_n 3, 1) := by decide +kernel
theorem dL_distance_1 : decode cL_distance 1 = .ok (.iconst 0, 1) := by decide +kernel
theorem dL_distance_2 : decode cL_distance 2 = .ok (.aload_n 0, 1) := by decide +kernel
theorem dL_distance_3 : decode cL_distance 3 = .ok (.iload_n 1, 1) := by decide +kernel
theorem dL_distance_4 : decode cL_distance 4 = .ok (.iload_n 2, 1) := by decide +kernel
theorem dL_distance_5 : decode cL_distance 5 = .ok (.invokevirtual 15, 3) := by decide +kernel
theorem dL_distance_8 : decode cL_distance 8 = .ok (.i2l, 1) := by decide +kernel
theorem dL_distance_9 : decode cL_distance 9 = .ok (.lastore, 1) := by decide +kernel
theorem dL_distance_10 : decode cL_distance 10 = .ok (.goto 7, 3) := by decide +kernel
theorem dL_distance_13 : decode cL_distance 13 = .ok (.astore 4, 2) := by decide +kernel
theorem dL_distance_15 : decode cL_distance 15 = .ok (.iconst 1, 1) := by decide +kernel
theorem dL_distance_16 : decode cL_distance 16 = .ok (.ireturn, 1) := by decide +kernel
theorem dL_distance_17 : decode cL_distance 17 = .ok (.iconst 0, 1) := by decide +kernel
theorem dL_distance_18 : decode cL_distance 18 = .ok (.ireturn, 1) := by decide +kernel
theorem dL_distanceFrom_0 : decode cL_distanceFrom 0 = .ok (.aload_n 3, 1) := by decide +kernel
theorem dL_distanceFrom_1 : decode cL_distanceFrom 1 = .ok (.iconst 0, 1) := by decide +kernel
theorem dL_distanceFrom_2 : decode cL_distanceFrom 2 = .ok (.aload_n 0, 1) := by decide +kernel
theorem dL_distanceFrom_3 : decode cL_distanceFrom 3 = .ok (.iload_n 1, 1) := by decide +kernel
theorem dL_distanceFrom_4 : decode cL_distanceFrom 4 = .ok (.iload_n 2, 1) := by decide +kernel
theorem dL_distanceFrom_5 : decode cL_distanceFrom 5 = .ok (.invokevirtual 21, 3) := by decide +kernel
theorem dL_distanceFrom_8 : decode cL_distanceFrom 8 = .ok (.i2l, 1) := by decide +kernel
theorem dL_distanceFrom_9 : decode cL_distanceFrom 9 = .ok (.lastore, 1) := by decide +kernel
theorem dL_distanceFrom_10 : decode cL_distanceFrom 10 = .ok (.goto 7, 3) := by decide +kernel
theorem dL_distanceFrom_13 : decode cL_distanceFrom 13 = .ok (.astore 4, 2) := by decide +kernel
theorem dL_distanceFrom_15 : decode cL_distanceFrom 15 = .ok (.iconst 1, 1) := by decide +kernel
theorem dL_distanceFrom_16 : decode cL_distanceFrom 16 = .ok (.ireturn, 1) := by decide +kernel
theorem dL_distanceFrom_17 : decode cL_distanceFrom 17 = .ok (.iconst 0, 1) := by decide +kernel
theorem dL_distanceFrom_18 : decode cL_distanceFrom 18 = .ok (.ireturn, 1) := by decide +kernel
theorem dL_streetOf_0 : decode cL_streetOf 0 = .ok (.aload_n 2, 1) := by decide +kernel
theorem dL_streetOf_1 : decode cL_streetOf 1 = .ok (.iconst 0, 1) := by decide +kernel
theorem dL_streetOf_2 : decode cL_streetOf 2 = .ok (.aload_n 0, 1) := by decide +kernel
theorem dL_streetOf_3 : decode cL_streetOf 3 = .ok (.iload_n 1, 1) := by decide +kernel
theorem dL_streetOf_4 : decode cL_streetOf 4 = .ok (.invokevirtual 24, 3) := by decide +kernel
theorem dL_streetOf_7 : decode cL_streetOf 7 = .ok (.i2l, 1) := by decide +kernel
theorem dL_streetOf_8 : decode cL_streetOf 8 = .ok (.lastore, 1) := by decide +kernel
theorem dL_streetOf_9 : decode cL_streetOf 9 = .ok (.goto 6, 3) := by decide +kernel
theorem dL_streetOf_12 : decode cL_streetOf 12 = .ok (.astore_n 3, 1) := by decide +kernel
theorem dL_streetOf_13 : decode cL_streetOf 13 = .ok (.iconst 1, 1) := by decide +kernel
theorem dL_streetOf_14 : decode cL_streetOf 14 = .ok (.ireturn, 1) := by decide +kernel
theorem dL_streetOf_15 : decode cL_streetOf 15 = .ok (.iconst 0, 1) := by decide +kernel
theorem dL_streetOf_16 : decode cL_streetOf 16 = .ok (.ireturn, 1) := by decide +kernel
theorem dL_isOpen_0 : decode cL_isOpen 0 = .ok (.aload_n 2, 1) := by decide +kernel
theorem dL_isOpen_1 : decode cL_isOpen 1 = .ok (.iconst 0, 1) := by decide +kernel
theorem dL_isOpen_2 : decode cL_isOpen 2 = .ok (.aload_n 0, 1) := by decide +kernel
theorem dL_isOpen_3 : decode cL_isOpen 3 = .ok (.iload_n 1, 1) := by decide +kernel
theorem dL_isOpen_4 : decode cL_isOpen 4 = .ok (.invokevirtual 27, 3) := by decide +kernel
theorem dL_isOpen_7 : decode cL_isOpen 7 = .ok (.ifCond .eq 7, 3) := by decide +kernel
theorem dL_isOpen_10 : decode cL_isOpen 10 = .ok (.lconst 1, 1) := by decide +kernel
theorem dL_isOpen_11 : decode cL_isOpen 11 = .ok (.goto 4, 3) := by decide +kernel
theorem dL_isOpen_14 : decode cL_isOpen 14 = .ok (.lconst 0, 1) := by decide +kernel
theorem dL_isOpen_15 : decode cL_isOpen 15 = .ok (.lastore, 1) := by decide +kernel
theorem dL_isOpen_16 : decode cL_isOpen 16 = .ok (.goto 6, 3) := by decide +kernel
theorem dL_isOpen_19 : decode cL_isOpen 19 = .ok (.astore_n 3, 1) := by decide +kernel
theorem dL_isOpen_20 : decode cL_isOpen 20 = .ok (.iconst 1, 1) := by decide +kernel
theorem dL_isOpen_21 : decode cL_isOpen 21 = .ok (.ireturn, 1) := by decide +kernel
theorem dL_isOpen_22 : decode cL_isOpen 22 = .ok (.iconst 0, 1) := by decide +kernel
theorem dL_isOpen_23 : decode cL_isOpen 23 = .ok (.ireturn, 1) := by decide +kernel
theorem dL_hasDog_0 : decode cL_hasDog 0 = .ok (.aload_n 2, 1) := by decide +kernel
theorem dL_hasDog_1 : decode cL_hasDog 1 = .ok (.iconst 0, 1) := by decide +kernel
theorem dL_hasDog_2 : decode cL_hasDog 2 = .ok (.aload_n 0, 1) := by decide +kernel
theorem dL_hasDog_3 : decode cL_hasDog 3 = .ok (.iload_n 1, 1) := by decide +kernel
theorem dL_hasDog_4 : decode cL_hasDog 4 = .ok (.invokevirtual 31, 3) := by decide +kernel
theorem dL_hasDog_7 : decode cL_hasDog 7 = .ok (.ifCond .eq 7, 3) := by decide +kernel
theorem dL_hasDog_10 : decode cL_hasDog 10 = .ok (.lconst 1, 1) := by decide +kernel
theorem dL_hasDog_11 : decode cL_hasDog 11 = .ok (.goto 4, 3) := by decide +kernel
theorem dL_hasDog_14 : decode cL_hasDog 14 = .ok (.lconst 0, 1) := by decide +kernel
theorem dL_hasDog_15 : decode cL_hasDog 15 = .ok (.lastore, 1) := by decide +kernel
theorem dL_hasDog_16 : decode cL_hasDog 16 = .ok (.goto 6, 3) := by decide +kernel
theorem dL_hasDog_19 : decode cL_hasDog 19 = .ok (.astore_n 3, 1) := by decide +kernel
theorem dL_hasDog_20 : decode cL_hasDog 20 = .ok (.iconst 1, 1) := by decide +kernel
theorem dL_hasDog_21 : decode cL_hasDog 21 = .ok (.ireturn, 1) := by decide +kernel
theorem dL_hasDog_22 : decode cL_hasDog 22 = .ok (.iconst 0, 1) := by decide +kernel
theorem dL_hasDog_23 : decode cL_hasDog 23 = .ok (.ireturn, 1) := by decide +kernel
theorem dL_isHome_0 : decode cL_isHome 0 = .ok (.aload_n 3, 1) := by decide +kernel
theorem dL_isHome_1 : decode cL_isHome 1 = .ok (.iconst 0, 1) := by decide +kernel
theorem dL_isHome_2 : decode cL_isHome 2 = .ok (.aload_n 0, 1) := by decide +kernel
theorem dL_isHome_3 : decode cL_isHome 3 = .ok (.iload_n 1, 1) := by decide +kernel
theorem dL_isHome_4 : decode cL_isHome 4 = .ok (.iload_n 2, 1) := by decide +kernel
theorem dL_isHome_5 : decode cL_isHome 5 = .ok (.invokevirtual 34, 3) := by decide +kernel
theorem dL_isHome_8 : decode cL_isHome 8 = .ok (.ifCond .eq 7, 3) := by decide +kernel
theorem dL_isHome_11 : decode cL_isHome 11 = .ok (.lconst 1, 1) := by decide +kernel
theorem dL_isHome_12 : decode cL_isHome 12 = .ok (.goto 4, 3) := by decide +kernel
theorem dL_isHome_15 : decode cL_isHome 15 = .ok (.lconst 0, 1) := by decide +kernel
theorem dL_isHome_16 : decode cL_isHome 16 = .ok (.lastore, 1) := by decide +kernel
theorem dL_isHome_17 : decode cL_isHome 17 = .ok (.goto 11, 3) := by decide +kernel
theorem dL_isHome_20 : decode cL_isHome 20 = .ok (.astore 4, 2) := by decide +kernel
theorem dL_isHome_22 : decode cL_isHome 22 = .ok (.iconst 1, 1) := by decide +kernel
theorem dL_isHome_23 : decode cL_isHome 23 = .ok (.ireturn, 1) := by decide +kernel
theorem dL_isHome_24 : decode cL_isHome 24 = .ok (.astore 4, 2) := by decide +kernel
theorem dL_isHome_26 : decode cL_isHome 26 = .ok (.iconst 2, 1) := by decide +kernel
theorem dL_isHome_27 : decode cL_isHome 27 = .ok (.ireturn, 1) := by decide +kernel
theorem dL_isHome_28 : decode cL_isHome 28 = .ok (.iconst 0, 1) := by decide +kernel
theorem dL_isHome_29 : decode cL_isHome 29 = .ok (.ireturn, 1) := by decide +kernel
theorem dL_duration_0 : decode cL_duration 0 = .ok (.aload_n 3, 1) := by decide +kernel
theorem dL_duration_1 : decode cL_duration 1 = .ok (.iconst 0, 1) := by decide +kernel
theorem dL_duration_2 : decode cL_duration 2 = .ok (.aload_n 0, 1) := by decide +kernel
theorem dL_duration_3 : decode cL_duration 3 = .ok (.iload_n 1, 1) := by decide +kernel
theorem dL_duration_4 : decode cL_duration 4 = .ok (.iload_n 2, 1) := by decide +kernel
theorem dL_duration_5 : decode cL_duration 5 = .ok (.invokevirtual 38, 3) := by decide +kernel
theorem dL_duration_8 : decode cL_duration 8 = .ok (.i2l, 1) := by decide +kernel
theorem dL_duration_9 : decode cL_duration 9 = .ok (.lastore, 1) := by decide +kernel
theorem dL_duration_10 : decode cL_duration 10 = .ok (.goto 11, 3) := by decide +kernel
theorem dL_duration_13 : decode cL_duration 13 = .ok (.astore 4, 2) := by decide +kernel
theorem dL_duration_15 : decode cL_duration 15 = .ok (.iconst 1, 1) := by decide +kernel
theorem dL_duration_16 : decode cL_duration 16 = .ok (.ireturn, 1) := by decide +kernel
theorem dL_duration_17 : decode cL_duration 17 = .ok (.astore 4, 2) := by decide +kernel
theorem dL_duration_19 : decode cL_duration 19 = .ok (.iconst 2, 1) := by decide +kernel
theorem dL_duration_20 : decode cL_duration 20 = .ok (.ireturn, 1) := by decide +kernel
theorem dL_duration_21 : decode cL_duration 21 = .ok (.iconst 0, 1) := by decide +kernel
theorem dL_duration_22 : decode cL_duration 22 = .ok (.ireturn, 1) := by decide +kernel
theorem dL_planLength_0 : decode cL_planLength 0 = .ok (.aload_n 2, 1) := by decide +kernel
theorem dL_planLength_1 : decode cL_planLength 1 = .ok (.iconst 0, 1) := by decide +kernel
theorem dL_planLength_2 : decode cL_planLength 2 = .ok (.aload_n 0, 1) := by decide +kernel
theorem dL_planLength_3 : decode cL_planLength 3 = .ok (.iload_n 1, 1) := by decide +kernel
theorem dL_planLength_4 : decode cL_planLength 4 = .ok (.invokevirtual 41, 3) := by decide +kernel
theorem dL_planLength_7 : decode cL_planLength 7 = .ok (.i2l, 1) := by decide +kernel
theorem dL_planLength_8 : decode cL_planLength 8 = .ok (.lastore, 1) := by decide +kernel
theorem dL_planLength_9 : decode cL_planLength 9 = .ok (.goto 6, 3) := by decide +kernel
theorem dL_planLength_12 : decode cL_planLength 12 = .ok (.astore_n 3, 1) := by decide +kernel
theorem dL_planLength_13 : decode cL_planLength 13 = .ok (.iconst 1, 1) := by decide +kernel
theorem dL_planLength_14 : decode cL_planLength 14 = .ok (.ireturn, 1) := by decide +kernel
theorem dL_planLength_15 : decode cL_planLength 15 = .ok (.iconst 0, 1) := by decide +kernel
theorem dL_planLength_16 : decode cL_planLength 16 = .ok (.ireturn, 1) := by decide +kernel
theorem dL_planned_0 : decode cL_planned 0 = .ok (.aload_n 3, 1) := by decide +kernel
theorem dL_planned_1 : decode cL_planned 1 = .ok (.iconst 0, 1) := by decide +kernel
theorem dL_planned_2 : decode cL_planned 2 = .ok (.aload_n 0, 1) := by decide +kernel
theorem dL_planned_3 : decode cL_planned 3 = .ok (.iload_n 1, 1) := by decide +kernel
theorem dL_planned_4 : decode cL_planned 4 = .ok (.iload_n 2, 1) := by decide +kernel
theorem dL_planned_5 : decode cL_planned 5 = .ok (.invokevirtual 44, 3) := by decide +kernel
theorem dL_planned_8 : decode cL_planned 8 = .ok (.i2l, 1) := by decide +kernel
theorem dL_planned_9 : decode cL_planned 9 = .ok (.lastore, 1) := by decide +kernel
theorem dL_planned_10 : decode cL_planned 10 = .ok (.goto 7, 3) := by decide +kernel
theorem dL_planned_13 : decode cL_planned 13 = .ok (.astore 4, 2) := by decide +kernel
theorem dL_planned_15 : decode cL_planned 15 = .ok (.iconst 1, 1) := by decide +kernel
theorem dL_planned_16 : decode cL_planned 16 = .ok (.ireturn, 1) := by decide +kernel
theorem dL_planned_17 : decode cL_planned 17 = .ok (.iconst 0, 1) := by decide +kernel
theorem dL_planned_18 : decode cL_planned 18 = .ok (.ireturn, 1) := by decide +kernel
theorem dL_result_0 : decode cL_result 0 = .ok (.aload_n 3, 1) := by decide +kernel
theorem dL_result_1 : decode cL_result 1 = .ok (.iconst 0, 1) := by decide +kernel
theorem dL_result_2 : decode cL_result 2 = .ok (.aload_n 0, 1) := by decide +kernel
theorem dL_result_3 : decode cL_result 3 = .ok (.iload_n 1, 1) := by decide +kernel
theorem dL_result_4 : decode cL_result 4 = .ok (.iload_n 2, 1) := by decide +kernel
theorem dL_result_5 : decode cL_result 5 = .ok (.invokevirtual 47, 3) := by decide +kernel
theorem dL_result_8 : decode cL_result 8 = .ok (.i2l, 1) := by decide +kernel
theorem dL_result_9 : decode cL_result 9 = .ok (.lastore, 1) := by decide +kernel
theorem dL_result_10 : decode cL_result 10 = .ok (.goto 7, 3) := by decide +kernel
theorem dL_result_13 : decode cL_result 13 = .ok (.astore 4, 2) := by decide +kernel
theorem dL_result_15 : decode cL_result 15 = .ok (.iconst 1, 1) := by decide +kernel
theorem dL_result_16 : decode cL_result 16 = .ok (.ireturn, 1) := by decide +kernel
theorem dL_result_17 : decode cL_result 17 = .ok (.iconst 0, 1) := by decide +kernel
theorem dL_result_18 : decode cL_result 18 = .ok (.ireturn, 1) := by decide +kernel
theorem dL_arrival_0 : decode cL_arrival 0 = .ok (.aload_n 3, 1) := by decide +kernel
theorem dL_arrival_1 : decode cL_arrival 1 = .ok (.iconst 0, 1) := by decide +kernel
theorem dL_arrival_2 : decode cL_arrival 2 = .ok (.aload_n 0, 1) := by decide +kernel
theorem dL_arrival_3 : decode cL_arrival 3 = .ok (.iload_n 1, 1) := by decide +kernel
theorem dL_arrival_4 : decode cL_arrival 4 = .ok (.iload_n 2, 1) := by decide +kernel
theorem dL_arrival_5 : decode cL_arrival 5 = .ok (.invokevirtual 50, 3) := by decide +kernel
theorem dL_arrival_8 : decode cL_arrival 8 = .ok (.i2l, 1) := by decide +kernel
theorem dL_arrival_9 : decode cL_arrival 9 = .ok (.lastore, 1) := by decide +kernel
theorem dL_arrival_10 : decode cL_arrival 10 = .ok (.goto 7, 3) := by decide +kernel
theorem dL_arrival_13 : decode cL_arrival 13 = .ok (.astore 4, 2) := by decide +kernel
theorem dL_arrival_15 : decode cL_arrival 15 = .ok (.iconst 1, 1) := by decide +kernel
theorem dL_arrival_16 : decode cL_arrival 16 = .ok (.ireturn, 1) := by decide +kernel
theorem dL_arrival_17 : decode cL_arrival 17 = .ok (.iconst 0, 1) := by decide +kernel
theorem dL_arrival_18 : decode cL_arrival 18 = .ok (.ireturn, 1) := by decide +kernel
theorem dL_finish_0 : decode cL_finish 0 = .ok (.aload_n 2, 1) := by decide +kernel
theorem dL_finish_1 : decode cL_finish 1 = .ok (.iconst 0, 1) := by decide +kernel
theorem dL_finish_2 : decode cL_finish 2 = .ok (.aload_n 0, 1) := by decide +kernel
theorem dL_finish_3 : decode cL_finish 3 = .ok (.iload_n 1, 1) := by decide +kernel
theorem dL_finish_4 : decode cL_finish 4 = .ok (.invokevirtual 53, 3) := by decide +kernel
theorem dL_finish_7 : decode cL_finish 7 = .ok (.i2l, 1) := by decide +kernel
theorem dL_finish_8 : decode cL_finish 8 = .ok (.lastore, 1) := by decide +kernel
theorem dL_finish_9 : decode cL_finish 9 = .ok (.goto 6, 3) := by decide +kernel
theorem dL_finish_12 : decode cL_finish 12 = .ok (.astore_n 3, 1) := by decide +kernel
theorem dL_finish_13 : decode cL_finish 13 = .ok (.iconst 1, 1) := by decide +kernel
theorem dL_finish_14 : decode cL_finish 14 = .ok (.ireturn, 1) := by decide +kernel
theorem dL_finish_15 : decode cL_finish 15 = .ok (.iconst 0, 1) := by decide +kernel
theorem dL_finish_16 : decode cL_finish 16 = .ok (.ireturn, 1) := by decide +kernel
theorem dL_calls_0 : decode cL_calls 0 = .ok (.aload_n 2, 1) := by decide +kernel
theorem dL_calls_1 : decode cL_calls 1 = .ok (.iconst 0, 1) := by decide +kernel
theorem dL_calls_2 : decode cL_calls 2 = .ok (.aload_n 0, 1) := by decide +kernel
theorem dL_calls_3 : decode cL_calls 3 = .ok (.iload_n 1, 1) := by decide +kernel
theorem dL_calls_4 : decode cL_calls 4 = .ok (.invokevirtual 56, 3) := by decide +kernel
theorem dL_calls_7 : decode cL_calls 7 = .ok (.i2l, 1) := by decide +kernel
theorem dL_calls_8 : decode cL_calls 8 = .ok (.lastore, 1) := by decide +kernel
theorem dL_calls_9 : decode cL_calls 9 = .ok (.goto 6, 3) := by decide +kernel
theorem dL_calls_12 : decode cL_calls 12 = .ok (.astore_n 3, 1) := by decide +kernel
theorem dL_calls_13 : decode cL_calls 13 = .ok (.iconst 1, 1) := by decide +kernel
theorem dL_calls_14 : decode cL_calls 14 = .ok (.ireturn, 1) := by decide +kernel
theorem dL_calls_15 : decode cL_calls 15 = .ok (.iconst 0, 1) := by decide +kernel
theorem dL_calls_16 : decode cL_calls 16 = .ok (.ireturn, 1) := by decide +kernel
theorem dL_soonest_0 : decode cL_soonest 0 = .ok (.aload_n 3, 1) := by decide +kernel
theorem dL_soonest_1 : decode cL_soonest 1 = .ok (.iconst 0, 1) := by decide +kernel
theorem dL_soonest_2 : decode cL_soonest 2 = .ok (.aload_n 0, 1) := by decide +kernel
theorem dL_soonest_3 : decode cL_soonest 3 = .ok (.iload_n 1, 1) := by decide +kernel
theorem dL_soonest_4 : decode cL_soonest 4 = .ok (.iload_n 2, 1) := by decide +kernel
theorem dL_soonest_5 : decode cL_soonest 5 = .ok (.invokevirtual 59, 3) := by decide +kernel
theorem dL_soonest_8 : decode cL_soonest 8 = .ok (.i2l, 1) := by decide +kernel
theorem dL_soonest_9 : decode cL_soonest 9 = .ok (.lastore, 1) := by decide +kernel
theorem dL_soonest_10 : decode cL_soonest 10 = .ok (.goto 11, 3) := by decide +kernel
theorem dL_soonest_13 : decode cL_soonest 13 = .ok (.astore 4, 2) := by decide +kernel
theorem dL_soonest_15 : decode cL_soonest 15 = .ok (.iconst 1, 1) := by decide +kernel
theorem dL_soonest_16 : decode cL_soonest 16 = .ok (.ireturn, 1) := by decide +kernel
theorem dL_soonest_17 : decode cL_soonest 17 = .ok (.astore 4, 2) := by decide +kernel
theorem dL_soonest_19 : decode cL_soonest 19 = .ok (.iconst 2, 1) := by decide +kernel
theorem dL_soonest_20 : decode cL_soonest 20 = .ok (.ireturn, 1) := by decide +kernel
theorem dL_soonest_21 : decode cL_soonest 21 = .ok (.iconst 0, 1) := by decide +kernel
theorem dL_soonest_22 : decode cL_soonest 22 = .ok (.ireturn, 1) := by decide +kernel
theorem dL_soonestOrder_0 : decode cL_soonestOrder 0 = .ok (.aload 4, 2) := by decide +kernel
theorem dL_soonestOrder_2 : decode cL_soonestOrder 2 = .ok (.iconst 0, 1) := by decide +kernel
theorem dL_soonestOrder_3 : decode cL_soonestOrder 3 = .ok (.aload_n 0, 1) := by decide +kernel
theorem dL_soonestOrder_4 : decode cL_soonestOrder 4 = .ok (.iload_n 1, 1) := by decide +kernel
theorem dL_soonestOrder_5 : decode cL_soonestOrder 5 = .ok (.iload_n 2, 1) := by decide +kernel
theorem dL_soonestOrder_6 : decode cL_soonestOrder 6 = .ok (.iload_n 3, 1) := by decide +kernel
theorem dL_soonestOrder_7 : decode cL_soonestOrder 7 = .ok (.invokevirtual 62, 3) := by decide +kernel
theorem dL_soonestOrder_10 : decode cL_soonestOrder 10 = .ok (.i2l, 1) := by decide +kernel
theorem dL_soonestOrder_11 : decode cL_soonestOrder 11 = .ok (.lastore, 1) := by decide +kernel
theorem dL_soonestOrder_12 : decode cL_soonestOrder 12 = .ok (.goto 11, 3) := by decide +kernel
theorem dL_soonestOrder_15 : decode cL_soonestOrder 15 = .ok (.astore 5, 2) := by decide +kernel
theorem dL_soonestOrder_17 : decode cL_soonestOrder 17 = .ok (.iconst 1, 1) := by decide +kernel
theorem dL_soonestOrder_18 : decode cL_soonestOrder 18 = .ok (.ireturn, 1) := by decide +kernel
theorem dL_soonestOrder_19 : decode cL_soonestOrder 19 = .ok (.astore 5, 2) := by decide +kernel
theorem dL_soonestOrder_21 : decode cL_soonestOrder 21 = .ok (.iconst 2, 1) := by decide +kernel
theorem dL_soonestOrder_22 : decode cL_soonestOrder 22 = .ok (.ireturn, 1) := by decide +kernel
theorem dL_soonestOrder_23 : decode cL_soonestOrder 23 = .ok (.iconst 0, 1) := by decide +kernel
theorem dL_soonestOrder_24 : decode cL_soonestOrder 24 = .ok (.ireturn, 1) := by decide +kernel
theorem dL_division_0 : decode cL_division 0 = .ok (.aload_n 2, 1) := by decide +kernel
theorem dL_division_1 : decode cL_division 1 = .ok (.iconst 0, 1) := by decide +kernel
theorem dL_division_2 : decode cL_division 2 = .ok (.aload_n 0, 1) := by decide +kernel
theorem dL_division_3 : decode cL_division 3 = .ok (.iload_n 1, 1) := by decide +kernel
theorem dL_division_4 : decode cL_division 4 = .ok (.invokevirtual 66, 3) := by decide +kernel
theorem dL_division_7 : decode cL_division 7 = .ok (.i2l, 1) := by decide +kernel
theorem dL_division_8 : decode cL_division 8 = .ok (.lastore, 1) := by decide +kernel
theorem dL_division_9 : decode cL_division 9 = .ok (.goto 6, 3) := by decide +kernel
theorem dL_division_12 : decode cL_division 12 = .ok (.astore_n 3, 1) := by decide +kernel
theorem dL_division_13 : decode cL_division 13 = .ok (.iconst 1, 1) := by decide +kernel
theorem dL_division_14 : decode cL_division 14 = .ok (.ireturn, 1) := by decide +kernel
theorem dL_division_15 : decode cL_division 15 = .ok (.iconst 0, 1) := by decide +kernel
theorem dL_division_16 : decode cL_division 16 = .ok (.ireturn, 1) := by decide +kernel
theorem dL_walkerOf_0 : decode cL_walkerOf 0 = .ok (.aload_n 3, 1) := by decide +kernel
theorem dL_walkerOf_1 : decode cL_walkerOf 1 = .ok (.iconst 0, 1) := by decide +kernel
theorem dL_walkerOf_2 : decode cL_walkerOf 2 = .ok (.aload_n 0, 1) := by decide +kernel
theorem dL_walkerOf_3 : decode cL_walkerOf 3 = .ok (.iload_n 1, 1) := by decide +kernel
theorem dL_walkerOf_4 : decode cL_walkerOf 4 = .ok (.iload_n 2, 1) := by decide +kernel
theorem dL_walkerOf_5 : decode cL_walkerOf 5 = .ok (.invokevirtual 69, 3) := by decide +kernel
theorem dL_walkerOf_8 : decode cL_walkerOf 8 = .ok (.i2l, 1) := by decide +kernel
theorem dL_walkerOf_9 : decode cL_walkerOf 9 = .ok (.lastore, 1) := by decide +kernel
theorem dL_walkerOf_10 : decode cL_walkerOf 10 = .ok (.goto 11, 3) := by decide +kernel
theorem dL_walkerOf_13 : decode cL_walkerOf 13 = .ok (.astore 4, 2) := by decide +kernel
theorem dL_walkerOf_15 : decode cL_walkerOf 15 = .ok (.iconst 1, 1) := by decide +kernel
theorem dL_walkerOf_16 : decode cL_walkerOf 16 = .ok (.ireturn, 1) := by decide +kernel
theorem dL_walkerOf_17 : decode cL_walkerOf 17 = .ok (.astore 4, 2) := by decide +kernel
theorem dL_walkerOf_19 : decode cL_walkerOf 19 = .ok (.iconst 2, 1) := by decide +kernel
theorem dL_walkerOf_20 : decode cL_walkerOf 20 = .ok (.ireturn, 1) := by decide +kernel
theorem dL_walkerOf_21 : decode cL_walkerOf 21 = .ok (.iconst 0, 1) := by decide +kernel
theorem dL_walkerOf_22 : decode cL_walkerOf 22 = .ok (.ireturn, 1) := by decide +kernel
theorem dL_plan_0 : decode cL_plan 0 = .ok (.aload_n 3, 1) := by decide +kernel
theorem dL_plan_1 : decode cL_plan 1 = .ok (.iconst 0, 1) := by decide +kernel
theorem dL_plan_2 : decode cL_plan 2 = .ok (.aload_n 0, 1) := by decide +kernel
theorem dL_plan_3 : decode cL_plan 3 = .ok (.iload_n 1, 1) := by decide +kernel
theorem dL_plan_4 : decode cL_plan 4 = .ok (.iload_n 2, 1) := by decide +kernel
theorem dL_plan_5 : decode cL_plan 5 = .ok (.invokevirtual 72, 3) := by decide +kernel
theorem dL_plan_8 : decode cL_plan 8 = .ok (.i2l, 1) := by decide +kernel
theorem dL_plan_9 : decode cL_plan 9 = .ok (.lastore, 1) := by decide +kernel
theorem dL_plan_10 : decode cL_plan 10 = .ok (.goto 11, 3) := by decide +kernel
theorem dL_plan_13 : decode cL_plan 13 = .ok (.astore 4, 2) := by decide +kernel
theorem dL_plan_15 : decode cL_plan 15 = .ok (.iconst 1, 1) := by decide +kernel
theorem dL_plan_16 : decode cL_plan 16 = .ok (.ireturn, 1) := by decide +kernel
theorem dL_plan_17 : decode cL_plan 17 = .ok (.astore 4, 2) := by decide +kernel
theorem dL_plan_19 : decode cL_plan 19 = .ok (.iconst 2, 1) := by decide +kernel
theorem dL_plan_20 : decode cL_plan 20 = .ok (.ireturn, 1) := by decide +kernel
theorem dL_plan_21 : decode cL_plan 21 = .ok (.iconst 0, 1) := by decide +kernel
theorem dL_plan_22 : decode cL_plan 22 = .ok (.ireturn, 1) := by decide +kernel
theorem dL_unplan_0 : decode cL_unplan 0 = .ok (.aload_n 2, 1) := by decide +kernel
theorem dL_unplan_1 : decode cL_unplan 1 = .ok (.iconst 0, 1) := by decide +kernel
theorem dL_unplan_2 : decode cL_unplan 2 = .ok (.aload_n 0, 1) := by decide +kernel
theorem dL_unplan_3 : decode cL_unplan 3 = .ok (.iload_n 1, 1) := by decide +kernel
theorem dL_unplan_4 : decode cL_unplan 4 = .ok (.invokevirtual 77, 3) := by decide +kernel
theorem dL_unplan_7 : decode cL_unplan 7 = .ok (.i2l, 1) := by decide +kernel
theorem dL_unplan_8 : decode cL_unplan 8 = .ok (.lastore, 1) := by decide +kernel
theorem dL_unplan_9 : decode cL_unplan 9 = .ok (.goto 9, 3) := by decide +kernel
theorem dL_unplan_12 : decode cL_unplan 12 = .ok (.astore_n 3, 1) := by decide +kernel
theorem dL_unplan_13 : decode cL_unplan 13 = .ok (.iconst 1, 1) := by decide +kernel
theorem dL_unplan_14 : decode cL_unplan 14 = .ok (.ireturn, 1) := by decide +kernel
theorem dL_unplan_15 : decode cL_unplan 15 = .ok (.astore_n 3, 1) := by decide +kernel
theorem dL_unplan_16 : decode cL_unplan 16 = .ok (.iconst 2, 1) := by decide +kernel
theorem dL_unplan_17 : decode cL_unplan 17 = .ok (.ireturn, 1) := by decide +kernel
theorem dL_unplan_18 : decode cL_unplan 18 = .ok (.iconst 0, 1) := by decide +kernel
theorem dL_unplan_19 : decode cL_unplan 19 = .ok (.ireturn, 1) := by decide +kernel
theorem dL_setHours_0 : decode cL_setHours 0 = .ok (.aload 4, 2) := by decide +kernel
theorem dL_setHours_2 : decode cL_setHours 2 = .ok (.iconst 0, 1) := by decide +kernel
theorem dL_setHours_3 : decode cL_setHours 3 = .ok (.aload_n 0, 1) := by decide +kernel
theorem dL_setHours_4 : decode cL_setHours 4 = .ok (.iload_n 1, 1) := by decide +kernel
theorem dL_setHours_5 : decode cL_setHours 5 = .ok (.iload_n 2, 1) := by decide +kernel
theorem dL_setHours_6 : decode cL_setHours 6 = .ok (.iload_n 3, 1) := by decide +kernel
theorem dL_setHours_7 : decode cL_setHours 7 = .ok (.invokevirtual 80, 3) := by decide +kernel
theorem dL_setHours_10 : decode cL_setHours 10 = .ok (.i2l, 1) := by decide +kernel
theorem dL_setHours_11 : decode cL_setHours 11 = .ok (.lastore, 1) := by decide +kernel
theorem dL_setHours_12 : decode cL_setHours 12 = .ok (.goto 11, 3) := by decide +kernel
theorem dL_setHours_15 : decode cL_setHours 15 = .ok (.astore 5, 2) := by decide +kernel
theorem dL_setHours_17 : decode cL_setHours 17 = .ok (.iconst 1, 1) := by decide +kernel
theorem dL_setHours_18 : decode cL_setHours 18 = .ok (.ireturn, 1) := by decide +kernel
theorem dL_setHours_19 : decode cL_setHours 19 = .ok (.astore 5, 2) := by decide +kernel
theorem dL_setHours_21 : decode cL_setHours 21 = .ok (.iconst 2, 1) := by decide +kernel
theorem dL_setHours_22 : decode cL_setHours 22 = .ok (.ireturn, 1) := by decide +kernel
theorem dL_setHours_23 : decode cL_setHours 23 = .ok (.iconst 0, 1) := by decide +kernel
theorem dL_setHours_24 : decode cL_setHours 24 = .ok (.ireturn, 1) := by decide +kernel
theorem dL_setDog_0 : decode cL_setDog 0 = .ok (.aload_n 3, 1) := by decide +kernel
theorem dL_setDog_1 : decode cL_setDog 1 = .ok (.iconst 0, 1) := by decide +kernel
theorem dL_setDog_2 : decode cL_setDog 2 = .ok (.aload_n 0, 1) := by decide +kernel
theorem dL_setDog_3 : decode cL_setDog 3 = .ok (.iload_n 1, 1) := by decide +kernel
theorem dL_setDog_4 : decode cL_setDog 4 = .ok (.iload_n 2, 1) := by decide +kernel
theorem dL_setDog_5 : decode cL_setDog 5 = .ok (.invokevirtual 83, 3) := by decide +kernel
theorem dL_setDog_8 : decode cL_setDog 8 = .ok (.ifCond .eq 7, 3) := by decide +kernel
theorem dL_setDog_11 : decode cL_setDog 11 = .ok (.lconst 1, 1) := by decide +kernel
theorem dL_setDog_12 : decode cL_setDog 12 = .ok (.goto 4, 3) := by decide +kernel
theorem dL_setDog_15 : decode cL_setDog 15 = .ok (.lconst 0, 1) := by decide +kernel
theorem dL_setDog_16 : decode cL_setDog 16 = .ok (.lastore, 1) := by decide +kernel
theorem dL_setDog_17 : decode cL_setDog 17 = .ok (.goto 7, 3) := by decide +kernel
theorem dL_setDog_20 : decode cL_setDog 20 = .ok (.astore 4, 2) := by decide +kernel
theorem dL_setDog_22 : decode cL_setDog 22 = .ok (.iconst 1, 1) := by decide +kernel
theorem dL_setDog_23 : decode cL_setDog 23 = .ok (.ireturn, 1) := by decide +kernel
theorem dL_setDog_24 : decode cL_setDog 24 = .ok (.iconst 0, 1) := by decide +kernel
theorem dL_setDog_25 : decode cL_setDog 25 = .ok (.ireturn, 1) := by decide +kernel
theorem dL_setOpen_0 : decode cL_setOpen 0 = .ok (.aload_n 3, 1) := by decide +kernel
theorem dL_setOpen_1 : decode cL_setOpen 1 = .ok (.iconst 0, 1) := by decide +kernel
theorem dL_setOpen_2 : decode cL_setOpen 2 = .ok (.aload_n 0, 1) := by decide +kernel
theorem dL_setOpen_3 : decode cL_setOpen 3 = .ok (.iload_n 1, 1) := by decide +kernel
theorem dL_setOpen_4 : decode cL_setOpen 4 = .ok (.iload_n 2, 1) := by decide +kernel
theorem dL_setOpen_5 : decode cL_setOpen 5 = .ok (.invokevirtual 87, 3) := by decide +kernel
theorem dL_setOpen_8 : decode cL_setOpen 8 = .ok (.ifCond .eq 7, 3) := by decide +kernel
theorem dL_setOpen_11 : decode cL_setOpen 11 = .ok (.lconst 1, 1) := by decide +kernel
theorem dL_setOpen_12 : decode cL_setOpen 12 = .ok (.goto 4, 3) := by decide +kernel
theorem dL_setOpen_15 : decode cL_setOpen 15 = .ok (.lconst 0, 1) := by decide +kernel
theorem dL_setOpen_16 : decode cL_setOpen 16 = .ok (.lastore, 1) := by decide +kernel
theorem dL_setOpen_17 : decode cL_setOpen 17 = .ok (.goto 7, 3) := by decide +kernel
theorem dL_setOpen_20 : decode cL_setOpen 20 = .ok (.astore 4, 2) := by decide +kernel
theorem dL_setOpen_22 : decode cL_setOpen 22 = .ok (.iconst 1, 1) := by decide +kernel
theorem dL_setOpen_23 : decode cL_setOpen 23 = .ok (.ireturn, 1) := by decide +kernel
theorem dL_setOpen_24 : decode cL_setOpen 24 = .ok (.iconst 0, 1) := by decide +kernel
theorem dL_setOpen_25 : decode cL_setOpen 25 = .ok (.ireturn, 1) := by decide +kernel
