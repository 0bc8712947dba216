theorem dW_group_0 : decode cW_group 0 = .ok (.aload_n 3, 1) := by decide +kernel
theorem dW_group_1 : decode cW_group 1 = .ok (.iconst 0, 1) := by decide +kernel
theorem dW_group_2 : decode cW_group 2 = .ok (.aload_n 0, 1) := by decide +kernel
theorem dW_group_3 : decode cW_group 3 = .ok (.iload_n 1, 1) := by decide +kernel
theorem dW_group_4 : decode cW_group 4 = .ok (.iload_n 2, 1) := by decide +kernel
theorem dW_group_5 : decode cW_group 5 = .ok (.invokevirtual 7, 3) := by decide +kernel
theorem dW_group_8 : decode cW_group 8 = .ok (.i2l, 1) := by decide +kernel
theorem dW_group_9 : decode cW_group 9 = .ok (.lastore, 1) := by decide +kernel
theorem dW_group_10 : decode cW_group 10 = .ok (.goto 11, 3) := by decide +kernel
theorem dW_group_13 : decode cW_group 13 = .ok (.astore 4, 2) := by decide +kernel
theorem dW_group_15 : decode cW_group 15 = .ok (.iconst 1, 1) := by decide +kernel
theorem dW_group_16 : decode cW_group 16 = .ok (.ireturn, 1) := by decide +kernel
theorem dW_group_17 : decode cW_group 17 = .ok (.astore 4, 2) := by decide +kernel
theorem dW_group_19 : decode cW_group 19 = .ok (.iconst 2, 1) := by decide +kernel
theorem dW_group_20 : decode cW_group 20 = .ok (.ireturn, 1) := by decide +kernel
theorem dW_group_21 : decode cW_group 21 = .ok (.iconst 0, 1) := by decide +kernel
theorem dW_group_22 : decode cW_group 22 = .ok (.ireturn, 1) := by decide +kernel
theorem dW_next_0 : decode cW_next 0 = .ok (.aload_n 0, 1) := by decide +kernel
theorem dW_next_1 : decode cW_next 1 = .ok (.iload_n 1, 1) := by decide +kernel
theorem dW_next_2 : decode cW_next 2 = .ok (.iload_n 2, 1) := by decide +kernel
theorem dW_next_3 : decode cW_next 3 = .ok (.invokevirtual 17, 3) := by decide +kernel
theorem dW_next_6 : decode cW_next 6 = .ok (.goto 9, 3) := by decide +kernel
theorem dW_next_9 : decode cW_next 9 = .ok (.astore_n 3, 1) := by decide +kernel
theorem dW_next_10 : decode cW_next 10 = .ok (.iconst 1, 1) := by decide +kernel
theorem dW_next_11 : decode cW_next 11 = .ok (.ireturn, 1) := by decide +kernel
theorem dW_next_12 : decode cW_next 12 = .ok (.astore_n 3, 1) := by decide +kernel
theorem dW_next_13 : decode cW_next 13 = .ok (.iconst 2, 1) := by decide +kernel
theorem dW_next_14 : decode cW_next 14 = .ok (.ireturn, 1) := by decide +kernel
theorem dW_next_15 : decode cW_next 15 = .ok (.iconst 0, 1) := by decide +kernel
theorem dW_next_16 : decode cW_next 16 = .ok (.ireturn, 1) := by decide +kernel
theorem dW_person_0 : decode cW_person 0 = .ok (.aload_n 2, 1) := by decide +kernel
theorem dW_person_1 : decode cW_person 1 = .ok (.iconst 0, 1) := by decide +kernel
theorem dW_person_2 : decode cW_person 2 = .ok (.aload_n 0, 1) := by decide +kernel
theorem dW_person_3 : decode cW_person 3 = .ok (.iload_n 1, 1) := by decide +kernel
theorem dW_person_4 : decode cW_person 4 = .ok (.invokevirtual 25, 3) := by decide +kernel
theorem dW_person_7 : decode cW_person 7 = .ok (.i2l, 1) := by decide +kernel
theorem dW_person_8 : decode cW_person 8 = .ok (.lastore, 1) := by decide +kernel
theorem dW_person_9 : decode cW_person 9 = .ok (.goto 9, 3) := by decide +kernel
theorem dW_person_12 : decode cW_person 12 = .ok (.astore_n 3, 1) := by decide +kernel
theorem dW_person_13 : decode cW_person 13 = .ok (.iconst 1, 1) := by decide +kernel
theorem dW_person_14 : decode cW_person 14 = .ok (.ireturn, 1) := by decide +kernel
theorem dW_person_15 : decode cW_person 15 = .ok (.astore_n 3, 1) := by decide +kernel
theorem dW_person_16 : decode cW_person 16 = .ok (.iconst 2, 1) := by decide +kernel
theorem dW_person_17 : decode cW_person 17 = .ok (.ireturn, 1) := by decide +kernel
theorem dW_person_18 : decode cW_person 18 = .ok (.iconst 0, 1) := by decide +kernel
theorem dW_person_19 : decode cW_person 19 = .ok (.ireturn, 1) := by decide +kernel
theorem dW_way_0 : decode cW_way 0 = .ok (.aload 4, 2) := by decide +kernel
theorem dW_way_2 : decode cW_way 2 = .ok (.iconst 0, 1) := by decide +kernel
theorem dW_way_3 : decode cW_way 3 = .ok (.aload_n 0, 1) := by decide +kernel
theorem dW_way_4 : decode cW_way 4 = .ok (.iload_n 1, 1) := by decide +kernel
theorem dW_way_5 : decode cW_way 5 = .ok (.iload_n 2, 1) := by decide +kernel
theorem dW_way_6 : decode cW_way 6 = .ok (.iload_n 3, 1) := by decide +kernel
theorem dW_way_7 : decode cW_way 7 = .ok (.invokevirtual 29, 3) := by decide +kernel
theorem dW_way_10 : decode cW_way 10 = .ok (.i2l, 1) := by decide +kernel
theorem dW_way_11 : decode cW_way 11 = .ok (.lastore, 1) := by decide +kernel
theorem dW_way_12 : decode cW_way 12 = .ok (.goto 11, 3) := by decide +kernel
theorem dW_way_15 : decode cW_way 15 = .ok (.astore 5, 2) := by decide +kernel
theorem dW_way_17 : decode cW_way 17 = .ok (.iconst 1, 1) := by decide +kernel
theorem dW_way_18 : decode cW_way 18 = .ok (.ireturn, 1) := by decide +kernel
theorem dW_way_19 : decode cW_way 19 = .ok (.astore 5, 2) := by decide +kernel
theorem dW_way_21 : decode cW_way 21 = .ok (.iconst 2, 1) := by decide +kernel
theorem dW_way_22 : decode cW_way 22 = .ok (.ireturn, 1) := by decide +kernel
theorem dW_way_23 : decode cW_way 23 = .ok (.iconst 0, 1) := by decide +kernel
theorem dW_way_24 : decode cW_way 24 = .ok (.ireturn, 1) := by decide +kernel
theorem dW_is_0 : decode cW_is 0 = .ok (.aload_n 0, 1) := by decide +kernel
theorem dW_is_1 : decode cW_is 1 = .ok (.iload_n 1, 1) := by decide +kernel
theorem dW_is_2 : decode cW_is 2 = .ok (.iload_n 2, 1) := by decide +kernel
theorem dW_is_3 : decode cW_is 3 = .ok (.invokevirtual 33, 3) := by decide +kernel
theorem dW_is_6 : decode cW_is 6 = .ok (.goto 9, 3) := by decide +kernel
theorem dW_is_9 : decode cW_is 9 = .ok (.astore_n 3, 1) := by decide +kernel
theorem dW_is_10 : decode cW_is 10 = .ok (.iconst 1, 1) := by decide +kernel
theorem dW_is_11 : decode cW_is 11 = .ok (.ireturn, 1) := by decide +kernel
theorem dW_is_12 : decode cW_is 12 = .ok (.astore_n 3, 1) := by decide +kernel
theorem dW_is_13 : decode cW_is 13 = .ok (.iconst 2, 1) := by decide +kernel
theorem dW_is_14 : decode cW_is 14 = .ok (.ireturn, 1) := by decide +kernel
theorem dW_is_15 : decode cW_is 15 = .ok (.iconst 0, 1) := by decide +kernel
theorem dW_is_16 : decode cW_is 16 = .ok (.ireturn, 1) := by decide +kernel
theorem dW_alarm_0 : decode cW_alarm 0 = .ok (.aload_n 3, 1) := by decide +kernel
theorem dW_alarm_1 : decode cW_alarm 1 = .ok (.iconst 0, 1) := by decide +kernel
theorem dW_alarm_2 : decode cW_alarm 2 = .ok (.aload_n 0, 1) := by decide +kernel
theorem dW_alarm_3 : decode cW_alarm 3 = .ok (.iload_n 1, 1) := by decide +kernel
theorem dW_alarm_4 : decode cW_alarm 4 = .ok (.iload_n 2, 1) := by decide +kernel
theorem dW_alarm_5 : decode cW_alarm 5 = .ok (.invokevirtual 36, 3) := by decide +kernel
theorem dW_alarm_8 : decode cW_alarm 8 = .ok (.i2l, 1) := by decide +kernel
theorem dW_alarm_9 : decode cW_alarm 9 = .ok (.lastore, 1) := by decide +kernel
theorem dW_alarm_10 : decode cW_alarm 10 = .ok (.goto 15, 3) := by decide +kernel
theorem dW_alarm_13 : decode cW_alarm 13 = .ok (.astore 4, 2) := by decide +kernel
theorem dW_alarm_15 : decode cW_alarm 15 = .ok (.iconst 1, 1) := by decide +kernel
theorem dW_alarm_16 : decode cW_alarm 16 = .ok (.ireturn, 1) := by decide +kernel
theorem dW_alarm_17 : decode cW_alarm 17 = .ok (.astore 4, 2) := by decide +kernel
theorem dW_alarm_19 : decode cW_alarm 19 = .ok (.iconst 2, 1) := by decide +kernel
theorem dW_alarm_20 : decode cW_alarm 20 = .ok (.ireturn, 1) := by decide +kernel
theorem dW_alarm_21 : decode cW_alarm 21 = .ok (.astore 4, 2) := by decide +kernel
theorem dW_alarm_23 : decode cW_alarm 23 = .ok (.iconst 3, 1) := by decide +kernel
theorem dW_alarm_24 : decode cW_alarm 24 = .ok (.ireturn, 1) := by decide +kernel
theorem dW_alarm_25 : decode cW_alarm 25 = .ok (.iconst 0, 1) := by decide +kernel
theorem dW_alarm_26 : decode cW_alarm 26 = .ok (.ireturn, 1) := by decide +kernel
theorem dW_answer_0 : decode cW_answer 0 = .ok (.aload 4, 2) := by decide +kernel
theorem dW_answer_2 : decode cW_answer 2 = .ok (.iconst 0, 1) := by decide +kernel
theorem dW_answer_3 : decode cW_answer 3 = .ok (.aload_n 0, 1) := by decide +kernel
theorem dW_answer_4 : decode cW_answer 4 = .ok (.iload_n 1, 1) := by decide +kernel
theorem dW_answer_5 : decode cW_answer 5 = .ok (.iload_n 2, 1) := by decide +kernel
theorem dW_answer_6 : decode cW_answer 6 = .ok (.iload_n 3, 1) := by decide +kernel
theorem dW_answer_7 : decode cW_answer 7 = .ok (.invokevirtual 40, 3) := by decide +kernel
theorem dW_answer_10 : decode cW_answer 10 = .ok (.i2l, 1) := by decide +kernel
theorem dW_answer_11 : decode cW_answer 11 = .ok (.lastore, 1) := by decide +kernel
theorem dW_answer_12 : decode cW_answer 12 = .ok (.goto 15, 3) := by decide +kernel
theorem dW_answer_15 : decode cW_answer 15 = .ok (.astore 5, 2) := by decide +kernel
theorem dW_answer_17 : decode cW_answer 17 = .ok (.iconst 1, 1) := by decide +kernel
theorem dW_answer_18 : decode cW_answer 18 = .ok (.ireturn, 1) := by decide +kernel
theorem dW_answer_19 : decode cW_answer 19 = .ok (.astore 5, 2) := by decide +kernel
theorem dW_answer_21 : decode cW_answer 21 = .ok (.iconst 2, 1) := by decide +kernel
theorem dW_answer_22 : decode cW_answer 22 = .ok (.ireturn, 1) := by decide +kernel
theorem dW_answer_23 : decode cW_answer 23 = .ok (.astore 5, 2) := by decide +kernel
theorem dW_answer_25 : decode cW_answer 25 = .ok (.iconst 3, 1) := by decide +kernel
theorem dW_answer_26 : decode cW_answer 26 = .ok (.ireturn, 1) := by decide +kernel
theorem dW_answer_27 : decode cW_answer 27 = .ok (.iconst 0, 1) := by decide +kernel
theorem dW_answer_28 : decode cW_answer 28 = .ok (.ireturn, 1) := by decide +kernel
theorem dW_tick_0 : decode cW_tick 0 = .ok (.aload_n 2, 1) := by decide +kernel
theorem dW_tick_1 : decode cW_tick 1 = .ok (.iconst 0, 1) := by decide +kernel
theorem dW_tick_2 : decode cW_tick 2 = .ok (.aload_n 0, 1) := by decide +kernel
theorem dW_tick_3 : decode cW_tick 3 = .ok (.iload_n 1, 1) := by decide +kernel
theorem dW_tick_4 : decode cW_tick 4 = .ok (.invokevirtual 44, 3) := by decide +kernel
theorem dW_tick_7 : decode cW_tick 7 = .ok (.i2l, 1) := by decide +kernel
theorem dW_tick_8 : decode cW_tick 8 = .ok (.lastore, 1) := by decide +kernel
theorem dW_tick_9 : decode cW_tick 9 = .ok (.goto 6, 3) := by decide +kernel
theorem dW_tick_12 : decode cW_tick 12 = .ok (.astore_n 3, 1) := by decide +kernel
theorem dW_tick_13 : decode cW_tick 13 = .ok (.iconst 1, 1) := by decide +kernel
theorem dW_tick_14 : decode cW_tick 14 = .ok (.ireturn, 1) := by decide +kernel
theorem dW_tick_15 : decode cW_tick 15 = .ok (.iconst 0, 1) := by decide +kernel
theorem dW_tick_16 : decode cW_tick 16 = .ok (.ireturn, 1) := by decide +kernel
theorem dW_alarmAt_0 : decode cW_alarmAt 0 = .ok (.aload_n 3, 1) := by decide +kernel
theorem dW_alarmAt_1 : decode cW_alarmAt 1 = .ok (.iconst 0, 1) := by decide +kernel
theorem dW_alarmAt_2 : decode cW_alarmAt 2 = .ok (.aload_n 0, 1) := by decide +kernel
theorem dW_alarmAt_3 : decode cW_alarmAt 3 = .ok (.iload_n 1, 1) := by decide +kernel
theorem dW_alarmAt_4 : decode cW_alarmAt 4 = .ok (.iload_n 2, 1) := by decide +kernel
theorem dW_alarmAt_5 : decode cW_alarmAt 5 = .ok (.invokevirtual 47, 3) := by decide +kernel
theorem dW_alarmAt_8 : decode cW_alarmAt 8 = .ok (.i2l, 1) := by decide +kernel
theorem dW_alarmAt_9 : decode cW_alarmAt 9 = .ok (.lastore, 1) := by decide +kernel
theorem dW_alarmAt_10 : decode cW_alarmAt 10 = .ok (.goto 7, 3) := by decide +kernel
theorem dW_alarmAt_13 : decode cW_alarmAt 13 = .ok (.astore 4, 2) := by decide +kernel
theorem dW_alarmAt_15 : decode cW_alarmAt 15 = .ok (.iconst 1, 1) := by decide +kernel
theorem dW_alarmAt_16 : decode cW_alarmAt 16 = .ok (.ireturn, 1) := by decide +kernel
theorem dW_alarmAt_17 : decode cW_alarmAt 17 = .ok (.iconst 0, 1) := by decide +kernel
theorem dW_alarmAt_18 : decode cW_alarmAt 18 = .ok (.ireturn, 1) := by decide +kernel
theorem dW_comes_0 : decode cW_comes 0 = .ok (.aload_n 3, 1) := by decide +kernel
theorem dW_comes_1 : decode cW_comes 1 = .ok (.iconst 0, 1) := by decide +kernel
theorem dW_comes_2 : decode cW_comes 2 = .ok (.aload_n 0, 1) := by decide +kernel
theorem dW_comes_3 : decode cW_comes 3 = .ok (.iload_n 1, 1) := by decide +kernel
theorem dW_comes_4 : decode cW_comes 4 = .ok (.iload_n 2, 1) := by decide +kernel
theorem dW_comes_5 : decode cW_comes 5 = .ok (.invokevirtual 50, 3) := by decide +kernel
theorem dW_comes_8 : decode cW_comes 8 = .ok (.i2l, 1) := by decide +kernel
theorem dW_comes_9 : decode cW_comes 9 = .ok (.lastore, 1) := by decide +kernel
theorem dW_comes_10 : decode cW_comes 10 = .ok (.goto 11, 3) := by decide +kernel
theorem dW_comes_13 : decode cW_comes 13 = .ok (.astore 4, 2) := by decide +kernel
theorem dW_comes_15 : decode cW_comes 15 = .ok (.iconst 1, 1) := by decide +kernel
theorem dW_comes_16 : decode cW_comes 16 = .ok (.ireturn, 1) := by decide +kernel
theorem dW_comes_17 : decode cW_comes 17 = .ok (.astore 4, 2) := by decide +kernel
theorem dW_comes_19 : decode cW_comes 19 = .ok (.iconst 2, 1) := by decide +kernel
theorem dW_comes_20 : decode cW_comes 20 = .ok (.ireturn, 1) := by decide +kernel
theorem dW_comes_21 : decode cW_comes 21 = .ok (.iconst 0, 1) := by decide +kernel
theorem dW_comes_22 : decode cW_comes 22 = .ok (.ireturn, 1) := by decide +kernel
theorem dW_reached_0 : decode cW_reached 0 = .ok (.aload_n 3, 1) := by decide +kernel
theorem dW_reached_1 : decode cW_reached 1 = .ok (.iconst 0, 1) := by decide +kernel
theorem dW_reached_2 : decode cW_reached 2 = .ok (.aload_n 0, 1) := by decide +kernel
theorem dW_reached_3 : decode cW_reached 3 = .ok (.iload_n 1, 1) := by decide +kernel
theorem dW_reached_4 : decode cW_reached 4 = .ok (.iload_n 2, 1) := by decide +kernel
theorem dW_reached_5 : decode cW_reached 5 = .ok (.invokevirtual 53, 3) := by decide +kernel
theorem dW_reached_8 : decode cW_reached 8 = .ok (.i2l, 1) := by decide +kernel
theorem dW_reached_9 : decode cW_reached 9 = .ok (.lastore, 1) := by decide +kernel
theorem dW_reached_10 : decode cW_reached 10 = .ok (.goto 7, 3) := by decide +kernel
theorem dW_reached_13 : decode cW_reached 13 = .ok (.astore 4, 2) := by decide +kernel
theorem dW_reached_15 : decode cW_reached 15 = .ok (.iconst 1, 1) := by decide +kernel
theorem dW_reached_16 : decode cW_reached 16 = .ok (.ireturn, 1) := by decide +kernel
theorem dW_reached_17 : decode cW_reached 17 = .ok (.iconst 0, 1) := by decide +kernel
theorem dW_reached_18 : decode cW_reached 18 = .ok (.ireturn, 1) := by decide +kernel
theorem dW_share_0 : decode cW_share 0 = .ok (.aload_n 3, 1) := by decide +kernel
theorem dW_share_1 : decode cW_share 1 = .ok (.iconst 0, 1) := by decide +kernel
theorem dW_share_2 : decode cW_share 2 = .ok (.aload_n 0, 1) := by decide +kernel
theorem dW_share_3 : decode cW_share 3 = .ok (.iload_n 1, 1) := by decide +kernel
theorem dW_share_4 : decode cW_share 4 = .ok (.iload_n 2, 1) := by decide +kernel
theorem dW_share_5 : decode cW_share 5 = .ok (.invokevirtual 56, 3) := by decide +kernel
theorem dW_share_8 : decode cW_share 8 = .ok (.i2l, 1) := by decide +kernel
theorem dW_share_9 : decode cW_share 9 = .ok (.lastore, 1) := by decide +kernel
theorem dW_share_10 : decode cW_share 10 = .ok (.goto 11, 3) := by decide +kernel
theorem dW_share_13 : decode cW_share 13 = .ok (.astore 4, 2) := by decide +kernel
theorem dW_share_15 : decode cW_share 15 = .ok (.iconst 1, 1) := by decide +kernel
theorem dW_share_16 : decode cW_share 16 = .ok (.ireturn, 1) := by decide +kernel
theorem dW_share_17 : decode cW_share 17 = .ok (.astore 4, 2) := by decide +kernel
theorem dW_share_19 : decode cW_share 19 = .ok (.iconst 2, 1) := by decide +kernel
theorem dW_share_20 : decode cW_share 20 = .ok (.ireturn, 1) := by decide +kernel
theorem dW_share_21 : decode cW_share 21 = .ok (.iconst 0, 1) := by decide +kernel
theorem dW_share_22 : decode cW_share 22 = .ok (.ireturn, 1) := by decide +kernel
theorem dW_never_0 : decode cW_never 0 = .ok (.aload_n 2, 1) := by decide +kernel
theorem dW_never_1 : decode cW_never 1 = .ok (.iconst 0, 1) := by decide +kernel
theorem dW_never_2 : decode cW_never 2 = .ok (.aload_n 0, 1) := by decide +kernel
theorem dW_never_3 : decode cW_never 3 = .ok (.iload_n 1, 1) := by decide +kernel
theorem dW_never_4 : decode cW_never 4 = .ok (.invokevirtual 61, 3) := by decide +kernel
theorem dW_never_7 : decode cW_never 7 = .ok (.i2l, 1) := by decide +kernel
theorem dW_never_8 : decode cW_never 8 = .ok (.lastore, 1) := by decide +kernel
theorem dW_never_9 : decode cW_never 9 = .ok (.goto 6, 3) := by decide +kernel
theorem dW_never_12 : decode cW_never 12 = .ok (.astore_n 3, 1) := by decide +kernel
theorem dW_never_13 : decode cW_never 13 = .ok (.iconst 1, 1) := by decide +kernel
theorem dW_never_14 : decode cW_never 14 = .ok (.ireturn, 1) := by decide +kernel
theorem dW_never_15 : decode cW_never 15 = .ok (.iconst 0, 1) := by decide +kernel
theorem dW_never_16 : decode cW_never 16 = .ok (.ireturn, 1) := by decide +kernel
theorem dW_count_0 : decode cW_count 0 = .ok (.aload_n 2, 1) := by decide +kernel
theorem dW_count_1 : decode cW_count 1 = .ok (.iconst 0, 1) := by decide +kernel
theorem dW_count_2 : decode cW_count 2 = .ok (.aload_n 0, 1) := by decide +kernel
theorem dW_count_3 : decode cW_count 3 = .ok (.iload_n 1, 1) := by decide +kernel
theorem dW_count_4 : decode cW_count 4 = .ok (.invokevirtual 64, 3) := by decide +kernel
theorem dW_count_7 : decode cW_count 7 = .ok (.i2l, 1) := by decide +kernel
theorem dW_count_8 : decode cW_count 8 = .ok (.lastore, 1) := by decide +kernel
theorem dW_count_9 : decode cW_count 9 = .ok (.goto 6, 3) := by decide +kernel
theorem dW_count_12 : decode cW_count 12 = .ok (.astore_n 3, 1) := by decide +kernel
theorem dW_count_13 : decode cW_count 13 = .ok (.iconst 1, 1) := by decide +kernel
theorem dW_count_14 : decode cW_count 14 = .ok (.ireturn, 1) := by decide +kernel
theorem dW_count_15 : decode cW_count 15 = .ok (.iconst 0, 1) := by decide +kernel
theorem dW_count_16 : decode cW_count 16 = .ok (.ireturn, 1) := by decide +kernel
theorem dW_law_0 : decode cW_law 0 = .ok (.new 8, 3) := by decide +kernel
theorem dW_law_3 : decode cW_law 3 = .ok (.dup, 1) := by decide +kernel
theorem dW_law_4 : decode cW_law 4 = .ok (.invokespecial 67, 3) := by decide +kernel
theorem dW_law_7 : decode cW_law 7 = .ok (.astore_n 1, 1) := by decide +kernel
theorem dW_law_8 : decode cW_law 8 = .ok (.new 68, 3) := by decide +kernel
theorem dW_law_11 : decode cW_law 11 = .ok (.dup, 1) := by decide +kernel
theorem dW_law_12 : decode cW_law 12 = .ok (.invokespecial 70, 3) := by decide +kernel
theorem dW_law_15 : decode cW_law 15 = .ok (.astore_n 2, 1) := by decide +kernel
theorem dW_law_16 : decode cW_law 16 = .ok (.iconst 1, 1) := by decide +kernel
theorem dW_law_17 : decode cW_law 17 = .ok (.newarray .long, 2) := by decide +kernel
theorem dW_law_19 : decode cW_law 19 = .ok (.astore_n 3, 1) := by decide +kernel
theorem dW_law_20 : decode cW_law 20 = .ok (.iconst 0, 1) := by decide +kernel
theorem dW_law_21 : decode cW_law 21 = .ok (.istore 4, 2) := by decide +kernel
theorem dW_law_23 : decode cW_law 23 = .ok (.iload 4, 2) := by decide +kernel
theorem dW_law_25 : decode cW_law 25 = .ok (.aload_n 0, 1) := by decide +kernel
theorem dW_law_26 : decode cW_law 26 = .ok (.arraylength, 1) := by decide +kernel
theorem dW_law_27 : decode cW_law 27 = .ok (.iconst 4, 1) := by decide +kernel
theorem dW_law_28 : decode cW_law 28 = .ok (.isub, 1) := by decide +kernel
theorem dW_law_29 : decode cW_law 29 = .ok (.if_icmp .gt 1005, 3) := by decide +kernel
theorem dW_law_32 : decode cW_law 32 = .ok (.aload_n 0, 1) := by decide +kernel
theorem dW_law_33 : decode cW_law 33 = .ok (.iload 4, 2) := by decide +kernel
theorem dW_law_35 : decode cW_law 35 = .ok (.iaload, 1) := by decide +kernel
theorem dW_law_36 : decode cW_law 36 = .ok (.bipush 15, 2) := by decide +kernel
theorem dW_law_38 : decode cW_law 38 = .ok (.iand, 1) := by decide +kernel
theorem dW_law_39 : decode cW_law 39 = .ok (.tableswitch 989 0 13 #[69, 137, 185, 241, 337, 385, 469, 549, 605, 673, 741, 809, 877, 933], 69) := by decide +kernel
theorem dW_law_108 : decode cW_law 108 = .ok (.aload_n 1, 1) := by decide +kernel
theorem dW_law_109 : decode cW_law 109 = .ok (.aload_n 0, 1) := by decide +kernel
theorem dW_law_110 : decode cW_law 110 = .ok (.iload 4, 2) := by decide +kernel
theorem dW_law_112 : decode cW_law 112 = .ok (.iconst 1, 1) := by decide +kernel
theorem dW_law_113 : decode cW_law 113 = .ok (.iadd, 1) := by decide +kernel
theorem dW_law_114 : decode cW_law 114 = .ok (.iaload, 1) := by decide +kernel
theorem dW_law_115 : decode cW_law 115 = .ok (.aload_n 0, 1) := by decide +kernel
theorem dW_law_116 : decode cW_law 116 = .ok (.iload 4, 2) := by decide +kernel
theorem dW_law_118 : decode cW_law 118 = .ok (.iconst 2, 1) := by decide +kernel
theorem dW_law_119 : decode cW_law 119 = .ok (.iadd, 1) := by decide +kernel
theorem dW_law_120 : decode cW_law 120 = .ok (.iaload, 1) := by decide +kernel
theorem dW_law_121 : decode cW_law 121 = .ok (.aload_n 3, 1) := by decide +kernel
theorem dW_law_122 : decode cW_law 122 = .ok (.invokestatic 71, 3) := by decide +kernel
theorem dW_law_125 : decode cW_law 125 = .ok (.istore 5, 2) := by decide +kernel
theorem dW_law_127 : decode cW_law 127 = .ok (.aload_n 2, 1) := by decide +kernel
theorem dW_law_128 : decode cW_law 128 = .ok (.aload_n 0, 1) := by decide +kernel
theorem dW_law_129 : decode cW_law 129 = .ok (.iload 4, 2) := by decide +kernel
theorem dW_law_131 : decode cW_law 131 = .ok (.iconst 1, 1) := by decide +kernel
theorem dW_law_132 : decode cW_law 132 = .ok (.iadd, 1) := by decide +kernel
theorem dW_law_133 : decode cW_law 133 = .ok (.iaload, 1) := by decide +kernel
theorem dW_law_134 : decode cW_law 134 = .ok (.aload_n 0, 1) := by decide +kernel
theorem dW_law_135 : decode cW_law 135 = .ok (.iload 4, 2) := by decide +kernel
theorem dW_law_137 : decode cW_law 137 = .ok (.iconst 2, 1) := by decide +kernel
theorem dW_law_138 : decode cW_law 138 = .ok (.iadd, 1) := by decide +kernel
theorem dW_law_139 : decode cW_law 139 = .ok (.iaload, 1) := by decide +kernel
theorem dW_law_140 : decode cW_law 140 = .ok (.invokevirtual 76, 3) := by decide +kernel
theorem dW_law_143 : decode cW_law 143 = .ok (.istore 6, 2) := by decide +kernel
theorem dW_law_145 : decode cW_law 145 = .ok (.aload_n 2, 1) := by decide +kernel
theorem dW_law_146 : decode cW_law 146 = .ok (.invokevirtual 77, 3) := by decide +kernel
theorem dW_law_149 : decode cW_law 149 = .ok (.iload 5, 2) := by decide +kernel
theorem dW_law_151 : decode cW_law 151 = .ok (.if_icmp .eq 5, 3) := by decide +kernel
theorem dW_law_154 : decode cW_law 154 = .ok (.iconst 0, 1) := by decide +kernel
theorem dW_law_155 : decode cW_law 155 = .ok (.ireturn, 1) := by decide +kernel
theorem dW_law_156 : decode cW_law 156 = .ok (.iload 5, 2) := by decide +kernel
theorem dW_law_158 : decode cW_law 158 = .ok (.ifCond .ne 15, 3) := by decide +kernel
theorem dW_law_161 : decode cW_law 161 = .ok (.aload_n 3, 1) := by decide +kernel
theorem dW_law_162 : decode cW_law 162 = .ok (.iconst 0, 1) := by decide +kernel
theorem dW_law_163 : decode cW_law 163 = .ok (.laload, 1) := by decide +kernel
theorem dW_law_164 : decode cW_law 164 = .ok (.iload 6, 2) := by decide +kernel
theorem dW_law_166 : decode cW_law 166 = .ok (.i2l, 1) := by decide +kernel
theorem dW_law_167 : decode cW_law 167 = .ok (.lcmp, 1) := by decide +kernel
theorem dW_law_168 : decode cW_law 168 = .ok (.ifCond .eq 5, 3) := by decide +kernel
theorem dW_law_171 : decode cW_law 171 = .ok (.iconst 0, 1) := by decide +kernel
theorem dW_law_172 : decode cW_law 172 = .ok (.ireturn, 1) := by decide +kernel
theorem dW_law_173 : decode cW_law 173 = .ok (.goto 855, 3) := by decide +kernel
theorem dW_law_176 : decode cW_law 176 = .ok (.aload_n 1, 1) := by decide +kernel
theorem dW_law_177 : decode cW_law 177 = .ok (.aload_n 0, 1) := by decide +kernel
theorem dW_law_178 : decode cW_law 178 = .ok (.iload 4, 2) := by decide +kernel
theorem dW_law_180 : decode cW_law 180 = .ok (.iconst 1, 1) := by decide +kernel
theorem dW_law_181 : decode cW_law 181 = .ok (.iadd, 1) := by decide +kernel
theorem dW_law_182 : decode cW_law 182 = .ok (.iaload, 1) := by decide +kernel
theorem dW_law_183 : decode cW_law 183 = .ok (.aload_n 0, 1) := by decide +kernel
theorem dW_law_184 : decode cW_law 184 = .ok (.iload 4, 2) := by decide +kernel
theorem dW_law_186 : decode cW_law 186 = .ok (.iconst 2, 1) := by decide +kernel
theorem dW_law_187 : decode cW_law 187 = .ok (.iadd, 1) := by decide +kernel
theorem dW_law_188 : decode cW_law 188 = .ok (.iaload, 1) := by decide +kernel
theorem dW_law_189 : decode cW_law 189 = .ok (.invokestatic 81, 3) := by decide +kernel
theorem dW_law_192 : decode cW_law 192 = .ok (.istore 5, 2) := by decide +kernel
theorem dW_law_194 : decode cW_law 194 = .ok (.aload_n 2, 1) := by decide +kernel
theorem dW_law_195 : decode cW_law 195 = .ok (.aload_n 0, 1) := by decide +kernel
theorem dW_law_196 : decode cW_law 196 = .ok (.iload 4, 2) := by decide +kernel
theorem dW_law_198 : decode cW_law 198 = .ok (.iconst 1, 1) := by decide +kernel
theorem dW_law_199 : decode cW_law 199 = .ok (.iadd, 1) := by decide +kernel
theorem dW_law_200 : decode cW_law 200 = .ok (.iaload, 1) := by decide +kernel
theorem dW_law_201 : decode cW_law 201 = .ok (.aload_n 0, 1) := by decide +kernel
theorem dW_law_202 : decode cW_law 202 = .ok (.iload 4, 2) := by decide +kernel
theorem dW_law_204 : decode cW_law 204 = .ok (.iconst 2, 1) := by decide +kernel
theorem dW_law_205 : decode cW_law 205 = .ok (.iadd, 1) := by decide +kernel
theorem dW_law_206 : decode cW_law 206 = .ok (.iaload, 1) := by decide +kernel
theorem dW_law_207 : decode cW_law 207 = .ok (.invokevirtual 84, 3) := by decide +kernel
theorem dW_law_210 : decode cW_law 210 = .ok (.aload_n 2, 1) := by decide +kernel
theorem dW_law_211 : decode cW_law 211 = .ok (.invokevirtual 77, 3) := by decide +kernel
theorem dW_law_214 : decode cW_law 214 = .ok (.iload 5, 2) := by decide +kernel
theorem dW_law_216 : decode cW_law 216 = .ok (.if_icmp .eq 5, 3) := by decide +kernel
theorem dW_law_219 : decode cW_law 219 = .ok (.iconst 0, 1) := by decide +kernel
theorem dW_law_220 : decode cW_law 220 = .ok (.ireturn, 1) := by decide +kernel
theorem dW_law_221 : decode cW_law 221 = .ok (.goto 807, 3) := by decide +kernel
theorem dW_law_224 : decode cW_law 224 = .ok (.aload_n 1, 1) := by decide +kernel
theorem dW_law_225 : decode cW_law 225 = .ok (.aload_n 0, 1) := by decide +kernel
theorem dW_law_226 : decode cW_law 226 = .ok (.iload 4, 2) := by decide +kernel
theorem dW_law_228 : decode cW_law 228 = .ok (.iconst 1, 1) := by decide +kernel
theorem dW_law_229 : decode cW_law 229 = .ok (.iadd, 1) := by decide +kernel
theorem dW_law_230 : decode cW_law 230 = .ok (.iaload, 1) := by decide +kernel
theorem dW_law_231 : decode cW_law 231 = .ok (.aload_n 3, 1) := by decide +kernel
theorem dW_law_232 : decode cW_law 232 = .ok (.invokestatic 85, 3) := by decide +kernel
theorem dW_law_235 : decode cW_law 235 = .ok (.istore 5, 2) := by decide +kernel
theorem dW_law_237 : decode cW_law 237 = .ok (.aload_n 2, 1) := by decide +kernel
theorem dW_law_238 : decode cW_law 238 = .ok (.aload_n 0, 1) := by decide +kernel
theorem dW_law_239 : decode cW_law 239 = .ok (.iload 4, 2) := by decide +kernel
theorem dW_law_241 : decode cW_law 241 = .ok (.iconst 1, 1) := by decide +kernel
theorem dW_law_242 : decode cW_law 242 = .ok (.iadd, 1) := by decide +kernel
theorem dW_law_243 : decode cW_law 243 = .ok (.iaload, 1) := by decide +kernel
theorem dW_law_244 : decode cW_law 244 = .ok (.invokevirtual 88, 3) := by decide +kernel
theorem dW_law_247 : decode cW_law 247 = .ok (.istore 6, 2) := by decide +kernel
theorem dW_law_249 : decode cW_law 249 = .ok (.aload_n 2, 1) := by decide +kernel
theorem dW_law_250 : decode cW_law 250 = .ok (.invokevirtual 77, 3) := by decide +kernel
theorem dW_law_253 : decode cW_law 253 = .ok (.iload 5, 2) := by decide +kernel
theorem dW_law_255 : decode cW_law 255 = .ok (.if_icmp .eq 5, 3) := by decide +kernel
theorem dW_law_258 : decode cW_law 258 = .ok (.iconst 0, 1) := by decide +kernel
theorem dW_law_259 : decode cW_law 259 = .ok (.ireturn, 1) := by decide +kernel
theorem dW_law_260 : decode cW_law 260 = .ok (.iload 5, 2) := by decide +kernel
theorem dW_law_262 : decode cW_law 262 = .ok (.ifCond .ne 15, 3) := by decide +kernel
theorem dW_law_265 : decode cW_law 265 = .ok (.aload_n 3, 1) := by decide +kernel
theorem dW_law_266 : decode cW_law 266 = .ok (.iconst 0, 1) := by decide +kernel
theorem dW_law_267 : decode cW_law 267 = .ok (.laload, 1) := by decide +kernel
theorem dW_law_268 : decode cW_law 268 = .ok (.iload 6, 2) := by decide +kernel
theorem dW_law_270 : decode cW_law 270 = .ok (.i2l, 1) := by decide +kernel
theorem dW_law_271 : decode cW_law 271 = .ok (.lcmp, 1) := by decide +kernel
theorem dW_law_272 : decode cW_law 272 = .ok (.ifCond .eq 5, 3) := by decide +kernel
theorem dW_law_275 : decode cW_law 275 = .ok (.iconst 0, 1) := by decide +kernel
theorem dW_law_276 : decode cW_law 276 = .ok (.ireturn, 1) := by decide +kernel
theorem dW_law_277 : decode cW_law 277 = .ok (.goto 751, 3) := by decide +kernel
theorem dW_law_280 : decode cW_law 280 = .ok (.aload_n 1, 1) := by decide +kernel
theorem dW_law_281 : decode cW_law 281 = .ok (.aload_n 0, 1) := by decide +kernel
theorem dW_law_282 : decode cW_law 282 = .ok (.iload 4, 2) := by decide +kernel
theorem dW_law_284 : decode cW_law 284 = .ok (.iconst 1, 1) := by decide +kernel
theorem dW_law_285 : decode cW_law 285 = .ok (.iadd, 1) := by decide +kernel
theorem dW_law_286 : decode cW_law 286 = .ok (.iaload, 1) := by decide +kernel
theorem dW_law_287 : decode cW_law 287 = .ok (.aload_n 0, 1) := by decide +kernel
theorem dW_law_288 : decode cW_law 288 = .ok (.iload 4, 2) := by decide +kernel
theorem dW_law_290 : decode cW_law 290 = .ok (.iconst 2, 1) := by decide +kernel
theorem dW_law_291 : decode cW_law 291 = .ok (.iadd, 1) := by decide +kernel
theorem dW_law_292 : decode cW_law 292 = .ok (.iaload, 1) := by decide +kernel
theorem dW_law_293 : decode cW_law 293 = .ok (.aload_n 0, 1) := by decide +kernel
theorem dW_law_294 : decode cW_law 294 = .ok (.iload 4, 2) := by decide +kernel
theorem dW_law_296 : decode cW_law 296 = .ok (.iconst 3, 1) := by decide +kernel
theorem dW_law_297 : decode cW_law 297 = .ok (.iadd, 1) := by decide +kernel
theorem dW_law_298 : decode cW_law 298 = .ok (.iaload, 1) := by decide +kernel
theorem dW_law_299 : decode cW_law 299 = .ok (.ifCond .eq 7, 3) := by decide +kernel
theorem dW_law_302 : decode cW_law 302 = .ok (.iconst 1, 1) := by decide +kernel
theorem dW_law_303 : decode cW_law 303 = .ok (.goto 4, 3) := by decide +kernel
theorem dW_law_306 : decode cW_law 306 = .ok (.iconst 0, 1) := by decide +kernel
theorem dW_law_307 : decode cW_law 307 = .ok (.aload_n 3, 1) := by decide +kernel
theorem dW_law_308 : decode cW_law 308 = .ok (.invokestatic 89, 3) := by decide +kernel
theorem dW_law_311 : decode cW_law 311 = .ok (.istore 5, 2) := by decide +kernel
theorem dW_law_313 : decode cW_law 313 = .ok (.aload_n 2, 1) := by decide +kernel
theorem dW_law_314 : decode cW_law 314 = .ok (.aload_n 0, 1) := by decide +kernel
theorem dW_law_315 : decode cW_law 315 = .ok (.iload 4, 2) := by decide +kernel
theorem dW_law_317 : decode cW_law 317 = .ok (.iconst 1, 1) := by decide +kernel
theorem dW_law_318 : decode cW_law 318 = .ok (.iadd, 1) := by decide +kernel
theorem dW_law_319 : decode cW_law 319 = .ok (.iaload, 1) := by decide +kernel
theorem dW_law_320 : decode cW_law 320 = .ok (.aload_n 0, 1) := by decide +kernel
theorem dW_law_321 : decode cW_law 321 = .ok (.iload 4, 2) := by decide +kernel
theorem dW_law_323 : decode cW_law 323 = .ok (.iconst 2, 1) := by decide +kernel
theorem dW_law_324 : decode cW_law 324 = .ok (.iadd, 1) := by decide +kernel
theorem dW_law_325 : decode cW_law 325 = .ok (.iaload, 1) := by decide +kernel
theorem dW_law_326 : decode cW_law 326 = .ok (.aload_n 0, 1) := by decide +kernel
theorem dW_law_327 : decode cW_law 327 = .ok (.iload 4, 2) := by decide +kernel
theorem dW_law_329 : decode cW_law 329 = .ok (.iconst 3, 1) := by decide +kernel
theorem dW_law_330 : decode cW_law 330 = .ok (.iadd, 1) := by decide +kernel
theorem dW_law_331 : decode cW_law 331 = .ok (.iaload, 1) := by decide +kernel
theorem dW_law_332 : decode cW_law 332 = .ok (.ifCond .eq 7, 3) := by decide +kernel
theorem dW_law_335 : decode cW_law 335 = .ok (.iconst 1, 1) := by decide +kernel
theorem dW_law_336 : decode cW_law 336 = .ok (.goto 4, 3) := by decide +kernel
theorem dW_law_339 : decode cW_law 339 = .ok (.iconst 0, 1) := by decide +kernel
theorem dW_law_340 : decode cW_law 340 = .ok (.invokevirtual 92, 3) := by decide +kernel
theorem dW_law_343 : decode cW_law 343 = .ok (.istore 6, 2) := by decide +kernel
theorem dW_law_345 : decode cW_law 345 = .ok (.aload_n 2, 1) := by decide +kernel
theorem dW_law_346 : decode cW_law 346 = .ok (.invokevirtual 77, 3) := by decide +kernel
theorem dW_law_349 : decode cW_law 349 = .ok (.iload 5, 2) := by decide +kernel
theorem dW_law_351 : decode cW_law 351 = .ok (.if_icmp .eq 5, 3) := by decide +kernel
theorem dW_law_354 : decode cW_law 354 = .ok (.iconst 0, 1) := by decide +kernel
theorem dW_law_355 : decode cW_law 355 = .ok (.ireturn, 1) := by decide +kernel
theorem dW_law_356 : decode cW_law 356 = .ok (.iload 5, 2) := by decide +kernel
theorem dW_law_358 : decode cW_law 358 = .ok (.ifCond .ne 15, 3) := by decide +kernel
theorem dW_law_361 : decode cW_law 361 = .ok (.aload_n 3, 1) := by decide +kernel
theorem dW_law_362 : decode cW_law 362 = .ok (.iconst 0, 1) := by decide +kernel
theorem dW_law_363 : decode cW_law 363 = .ok (.laload, 1) := by decide +kernel
theorem dW_law_364 : decode cW_law 364 = .ok (.iload 6, 2) := by decide +kernel
theorem dW_law_366 : decode cW_law 366 = .ok (.i2l, 1) := by decide +kernel
theorem dW_law_367 : decode cW_law 367 = .ok (.lcmp, 1) := by decide +kernel
theorem dW_law_368 : decode cW_law 368 = .ok (.ifCond .eq 5, 3) := by decide +kernel
theorem dW_law_371 : decode cW_law 371 = .ok (.iconst 0, 1) := by decide +kernel
theorem dW_law_372 : decode cW_law 372 = .ok (.ireturn, 1) := by decide +kernel
theorem dW_law_373 : decode cW_law 373 = .ok (.goto 655, 3) := by decide +kernel
theorem dW_law_376 : decode cW_law 376 = .ok (.aload_n 1, 1) := by decide +kernel
theorem dW_law_377 : decode cW_law 377 = .ok (.aload_n 0, 1) := by decide +kernel
theorem dW_law_378 : decode cW_law 378 = .ok (.iload 4, 2) := by decide +kernel
theorem dW_law_380 : decode cW_law 380 = .ok (.iconst 1, 1) := by decide +kernel
theorem dW_law_381 : decode cW_law 381 = .ok (.iadd, 1) := by decide +kernel
theorem dW_law_382 : decode cW_law 382 = .ok (.iaload, 1) := by decide +kernel
theorem dW_law_383 : decode cW_law 383 = .ok (.aload_n 0, 1) := by decide +kernel
theorem dW_law_384 : decode cW_law 384 = .ok (.iload 4, 2) := by decide +kernel
theorem dW_law_386 : decode cW_law 386 = .ok (.iconst 2, 1) := by decide +kernel
theorem dW_law_387 : decode cW_law 387 = .ok (.iadd, 1) := by decide +kernel
theorem dW_law_388 : decode cW_law 388 = .ok (.iaload, 1) := by decide +kernel
theorem dW_law_389 : decode cW_law 389 = .ok (.invokestatic 93, 3) := by decide +kernel
theorem dW_law_392 : decode cW_law 392 = .ok (.istore 5, 2) := by decide +kernel
theorem dW_law_394 : decode cW_law 394 = .ok (.aload_n 2, 1) := by decide +kernel
theorem dW_law_395 : decode cW_law 395 = .ok (.aload_n 0, 1) := by decide +kernel
theorem dW_law_396 : decode cW_law 396 = .ok (.iload 4, 2) := by decide +kernel
theorem dW_law_398 : decode cW_law 398 = .ok (.iconst 1, 1) := by decide +kernel
theorem dW_law_399 : decode cW_law 399 = .ok (.iadd, 1) := by decide +kernel
theorem dW_law_400 : decode cW_law 400 = .ok (.iaload, 1) := by decide +kernel
theorem dW_law_401 : decode cW_law 401 = .ok (.aload_n 0, 1) := by decide +kernel
theorem dW_law_402 : decode cW_law 402 = .ok (.iload 4, 2) := by decide +kernel
theorem dW_law_404 : decode cW_law 404 = .ok (.iconst 2, 1) := by decide +kernel
theorem dW_law_405 : decode cW_law 405 = .ok (.iadd, 1) := by decide +kernel
theorem dW_law_406 : decode cW_law 406 = .ok (.iaload, 1) := by decide +kernel
theorem dW_law_407 : decode cW_law 407 = .ok (.invokevirtual 95, 3) := by decide +kernel
theorem dW_law_410 : decode cW_law 410 = .ok (.aload_n 2, 1) := by decide +kernel
theorem dW_law_411 : decode cW_law 411 = .ok (.invokevirtual 77, 3) := by decide +kernel
theorem dW_law_414 : decode cW_law 414 = .ok (.iload 5, 2) := by decide +kernel
theorem dW_law_416 : decode cW_law 416 = .ok (.if_icmp .eq 5, 3) := by decide +kernel
theorem dW_law_419 : decode cW_law 419 = .ok (.iconst 0, 1) := by decide +kernel
theorem dW_law_420 : decode cW_law 420 = .ok (.ireturn, 1) := by decide +kernel
theorem dW_law_421 : decode cW_law 421 = .ok (.goto 607, 3) := by decide +kernel
theorem dW_law_424 : decode cW_law 424 = .ok (.aload_n 1, 1) := by decide +kernel
theorem dW_law_425 : decode cW_law 425 = .ok (.aload_n 0, 1) := by decide +kernel
theorem dW_law_426 : decode cW_law 426 = .ok (.iload 4, 2) := by decide +kernel
theorem dW_law_428 : decode cW_law 428 = .ok (.iconst 1, 1) := by decide +kernel
theorem dW_law_429 : decode cW_law 429 = .ok (.iadd, 1) := by decide +kernel
theorem dW_law_430 : decode cW_law 430 = .ok (.iaload, 1) := by decide +kernel
theorem dW_law_431 : decode cW_law 431 = .ok (.aload_n 0, 1) := by decide +kernel
theorem dW_law_432 : decode cW_law 432 = .ok (.iload 4, 2) := by decide +kernel
theorem dW_law_434 : decode cW_law 434 = .ok (.iconst 2, 1) := by decide +kernel
theorem dW_law_435 : decode cW_law 435 = .ok (.iadd, 1) := by decide +kernel
theorem dW_law_436 : decode cW_law 436 = .ok (.iaload, 1) := by decide +kernel
theorem dW_law_437 : decode cW_law 437 = .ok (.ifCond .eq 7, 3) := by decide +kernel
theorem dW_law_440 : decode cW_law 440 = .ok (.iconst 1, 1) := by decide +kernel
theorem dW_law_441 : decode cW_law 441 = .ok (.goto 4, 3) := by decide +kernel
theorem dW_law_444 : decode cW_law 444 = .ok (.iconst 0, 1) := by decide +kernel
theorem dW_law_445 : decode cW_law 445 = .ok (.aload_n 3, 1) := by decide +kernel
theorem dW_law_446 : decode cW_law 446 = .ok (.invokestatic 96, 3) := by decide +kernel
theorem dW_law_449 : decode cW_law 449 = .ok (.istore 5, 2) := by decide +kernel
theorem dW_law_451 : decode cW_law 451 = .ok (.aload_n 2, 1) := by decide +kernel
theorem dW_law_452 : decode cW_law 452 = .ok (.aload_n 0, 1) := by decide +kernel
theorem dW_law_453 : decode cW_law 453 = .ok (.iload 4, 2) := by decide +kernel
theorem dW_law_455 : decode cW_law 455 = .ok (.iconst 1, 1) := by decide +kernel
theorem dW_law_456 : decode cW_law 456 = .ok (.iadd, 1) := by decide +kernel
theorem dW_law_457 : decode cW_law 457 = .ok (.iaload, 1) := by decide +kernel
theorem dW_law_458 : decode cW_law 458 = .ok (.aload_n 0, 1) := by decide +kernel
theorem dW_law_459 : decode cW_law 459 = .ok (.iload 4, 2) := by decide +kernel
theorem dW_law_461 : decode cW_law 461 = .ok (.iconst 2, 1) := by decide +kernel
theorem dW_law_462 : decode cW_law 462 = .ok (.iadd, 1) := by decide +kernel
theorem dW_law_463 : decode cW_law 463 = .ok (.iaload, 1) := by decide +kernel
theorem dW_law_464 : decode cW_law 464 = .ok (.ifCond .eq 7, 3) := by decide +kernel
theorem dW_law_467 : decode cW_law 467 = .ok (.iconst 1, 1) := by decide +kernel
theorem dW_law_468 : decode cW_law 468 = .ok (.goto 4, 3) := by decide +kernel
theorem dW_law_471 : decode cW_law 471 = .ok (.iconst 0, 1) := by decide +kernel
theorem dW_law_472 : decode cW_law 472 = .ok (.invokevirtual 99, 3) := by decide +kernel
theorem dW_law_475 : decode cW_law 475 = .ok (.istore 6, 2) := by decide +kernel
theorem dW_law_477 : decode cW_law 477 = .ok (.aload_n 2, 1) := by decide +kernel
theorem dW_law_478 : decode cW_law 478 = .ok (.invokevirtual 77, 3) := by decide +kernel
theorem dW_law_481 : decode cW_law 481 = .ok (.iload 5, 2) := by decide +kernel
theorem dW_law_483 : decode cW_law 483 = .ok (.if_icmp .eq 5, 3) := by decide +kernel
theorem dW_law_486 : decode cW_law 486 = .ok (.iconst 0, 1) := by decide +kernel
theorem dW_law_487 : decode cW_law 487 = .ok (.ireturn, 1) := by decide +kernel
theorem dW_law_488 : decode cW_law 488 = .ok (.iload 5, 2) := by decide +kernel
theorem dW_law_490 : decode cW_law 490 = .ok (.ifCond .ne 15, 3) := by decide +kernel
theorem dW_law_493 : decode cW_law 493 = .ok (.aload_n 3, 1) := by decide +kernel
theorem dW_law_494 : decode cW_law 494 = .ok (.iconst 0, 1) := by decide +kernel
theorem dW_law_495 : decode cW_law 495 = .ok (.laload, 1) := by decide +kernel
theorem dW_law_496 : decode cW_law 496 = .ok (.iload 6, 2) := by decide +kernel
theorem dW_law_498 : decode cW_law 498 = .ok (.i2l, 1) := by decide +kernel
theorem dW_law_499 : decode cW_law 499 = .ok (.lcmp, 1) := by decide +kernel
theorem dW_law_500 : decode cW_law 500 = .ok (.ifCond .eq 5, 3) := by decide +kernel
theorem dW_law_503 : decode cW_law 503 = .ok (.iconst 0, 1) := by decide +kernel
theorem dW_law_504 : decode cW_law 504 = .ok (.ireturn, 1) := by decide +kernel
theorem dW_law_505 : decode cW_law 505 = .ok (.goto 523, 3) := by decide +kernel
theorem dW_law_508 : decode cW_law 508 = .ok (.aload_n 1, 1) := by decide +kernel
theorem dW_law_509 : decode cW_law 509 = .ok (.aload_n 0, 1) := by decide +kernel
theorem dW_law_510 : decode cW_law 510 = .ok (.iload 4, 2) := by decide +kernel
theorem dW_law_512 : decode cW_law 512 = .ok (.iconst 1, 1) := by decide +kernel
theorem dW_law_513 : decode cW_law 513 = .ok (.iadd, 1) := by decide +kernel
theorem dW_law_514 : decode cW_law 514 = .ok (.iaload, 1) := by decide +kernel
theorem dW_law_515 : decode cW_law 515 = .ok (.aload_n 0, 1) := by decide +kernel
theorem dW_law_516 : decode cW_law 516 = .ok (.iload 4, 2) := by decide +kernel
theorem dW_law_518 : decode cW_law 518 = .ok (.iconst 2, 1) := by decide +kernel
theorem dW_law_519 : decode cW_law 519 = .ok (.iadd, 1) := by decide +kernel
theorem dW_law_520 : decode cW_law 520 = .ok (.iaload, 1) := by decide +kernel
theorem dW_law_521 : decode cW_law 521 = .ok (.aload_n 0, 1) := by decide +kernel
theorem dW_law_522 : decode cW_law 522 = .ok (.iload 4, 2) := by decide +kernel
theorem dW_law_524 : decode cW_law 524 = .ok (.iconst 3, 1) := by decide +kernel
theorem dW_law_525 : decode cW_law 525 = .ok (.iadd, 1) := by decide +kernel
theorem dW_law_526 : decode cW_law 526 = .ok (.iaload, 1) := by decide +kernel
theorem dW_law_527 : decode cW_law 527 = .ok (.aload_n 3, 1) := by decide +kernel
theorem dW_law_528 : decode cW_law 528 = .ok (.invokestatic 100, 3) := by decide +kernel
theorem dW_law_531 : decode cW_law 531 = .ok (.istore 5, 2) := by decide +kernel
theorem dW_law_533 : decode cW_law 533 = .ok (.aload_n 2, 1) := by decide +kernel
theorem dW_law_534 : decode cW_law 534 = .ok (.aload_n 0, 1) := by decide +kernel
theorem dW_law_535 : decode cW_law 535 = .ok (.iload 4, 2) := by decide +kernel
theorem dW_law_537 : decode cW_law 537 = .ok (.iconst 1, 1) := by decide +kernel
theorem dW_law_538 : decode cW_law 538 = .ok (.iadd, 1) := by decide +kernel
theorem dW_law_539 : decode cW_law 539 = .ok (.iaload, 1) := by decide +kernel
theorem dW_law_540 : decode cW_law 540 = .ok (.aload_n 0, 1) := by decide +kernel
theorem dW_law_541 : decode cW_law 541 = .ok (.iload 4, 2) := by decide +kernel
theorem dW_law_543 : decode cW_law 543 = .ok (.iconst 2, 1) := by decide +kernel
theorem dW_law_544 : decode cW_law 544 = .ok (.iadd, 1) := by decide +kernel
theorem dW_law_545 : decode cW_law 545 = .ok (.iaload, 1) := by decide +kernel
theorem dW_law_546 : decode cW_law 546 = .ok (.aload_n 0, 1) := by decide +kernel
theorem dW_law_547 : decode cW_law 547 = .ok (.iload 4, 2) := by decide +kernel
theorem dW_law_549 : decode cW_law 549 = .ok (.iconst 3, 1) := by decide +kernel
theorem dW_law_550 : decode cW_law 550 = .ok (.iadd, 1) := by decide +kernel
theorem dW_law_551 : decode cW_law 551 = .ok (.iaload, 1) := by decide +kernel
theorem dW_law_552 : decode cW_law 552 = .ok (.invokevirtual 103, 3) := by decide +kernel
theorem dW_law_555 : decode cW_law 555 = .ok (.istore 6, 2) := by decide +kernel
theorem dW_law_557 : decode cW_law 557 = .ok (.aload_n 2, 1) := by decide +kernel
theorem dW_law_558 : decode cW_law 558 = .ok (.invokevirtual 77, 3) := by decide +kernel
theorem dW_law_561 : decode cW_law 561 = .ok (.iload 5, 2) := by decide +kernel
theorem dW_law_563 : decode cW_law 563 = .ok (.if_icmp .eq 5, 3) := by decide +kernel
theorem dW_law_566 : decode cW_law 566 = .ok (.iconst 0, 1) := by decide +kernel
theorem dW_law_567 : decode cW_law 567 = .ok (.ireturn, 1) := by decide +kernel
theorem dW_law_568 : decode cW_law 568 = .ok (.iload 5, 2) := by decide +kernel
theorem dW_law_570 : decode cW_law 570 = .ok (.ifCond .ne 15, 3) := by decide +kernel
theorem dW_law_573 : decode cW_law 573 = .ok (.aload_n 3, 1) := by decide +kernel
theorem dW_law_574 : decode cW_law 574 = .ok (.iconst 0, 1) := by decide +kernel
theorem dW_law_575 : decode cW_law 575 = .ok (.laload, 1) := by decide +kernel
theorem dW_law_576 : decode cW_law 576 = .ok (.iload 6, 2) := by decide +kernel
theorem dW_law_578 : decode cW_law 578 = .ok (.i2l, 1) := by decide +kernel
theorem dW_law_579 : decode cW_law 579 = .ok (.lcmp, 1) := by decide +kernel
theorem dW_law_580 : decode cW_law 580 = .ok (.ifCond .eq 5, 3) := by decide +kernel
theorem dW_law_583 : decode cW_law 583 = .ok (.iconst 0, 1) := by decide +kernel
theorem dW_law_584 : decode cW_law 584 = .ok (.ireturn, 1) := by decide +kernel
theorem dW_law_585 : decode cW_law 585 = .ok (.goto 443, 3) := by decide +kernel
theorem dW_law_588 : decode cW_law 588 = .ok (.aload_n 1, 1) := by decide +kernel
theorem dW_law_589 : decode cW_law 589 = .ok (.aload_n 0, 1) := by decide +kernel
theorem dW_law_590 : decode cW_law 590 = .ok (.iload 4, 2) := by decide +kernel
theorem dW_law_592 : decode cW_law 592 = .ok (.iconst 1, 1) := by decide +kernel
theorem dW_law_593 : decode cW_law 593 = .ok (.iadd, 1) := by decide +kernel
theorem dW_law_594 : decode cW_law 594 = .ok (.iaload, 1) := by decide +kernel
theorem dW_law_595 : decode cW_law 595 = .ok (.aload_n 3, 1) := by decide +kernel
theorem dW_law_596 : decode cW_law 596 = .ok (.invokestatic 104, 3) := by decide +kernel
theorem dW_law_599 : decode cW_law 599 = .ok (.istore 5, 2) := by decide +kernel
theorem dW_law_601 : decode cW_law 601 = .ok (.aload_n 2, 1) := by decide +kernel
theorem dW_law_602 : decode cW_law 602 = .ok (.aload_n 0, 1) := by decide +kernel
theorem dW_law_603 : decode cW_law 603 = .ok (.iload 4, 2) := by decide +kernel
theorem dW_law_605 : decode cW_law 605 = .ok (.iconst 1, 1) := by decide +kernel
theorem dW_law_606 : decode cW_law 606 = .ok (.iadd, 1) := by decide +kernel
theorem dW_law_607 : decode cW_law 607 = .ok (.iaload, 1) := by decide +kernel
theorem dW_law_608 : decode cW_law 608 = .ok (.invokevirtual 106, 3) := by decide +kernel
theorem dW_law_611 : decode cW_law 611 = .ok (.istore 6, 2) := by decide +kernel
theorem dW_law_613 : decode cW_law 613 = .ok (.aload_n 2, 1) := by decide +kernel
theorem dW_law_614 : decode cW_law 614 = .ok (.invokevirtual 77, 3) := by decide +kernel
theorem dW_law_617 : decode cW_law 617 = .ok (.iload 5, 2) := by decide +kernel
theorem dW_law_619 : decode cW_law 619 = .ok (.if_icmp .eq 5, 3) := by decide +kernel
theorem dW_law_622 : decode cW_law 622 = .ok (.iconst 0, 1) := by decide +kernel
theorem dW_law_623 : decode cW_law 623 = .ok (.ireturn, 1) := by decide +kernel
theorem dW_law_624 : decode cW_law 624 = .ok (.iload 5, 2) := by decide +kernel
theorem dW_law_626 : decode cW_law 626 = .ok (.ifCond .ne 15, 3) := by decide +kernel
theorem dW_law_629 : decode cW_law 629 = .ok (.aload_n 3, 1) := by decide +kernel
theorem dW_law_630 : decode cW_law 630 = .ok (.iconst 0, 1) := by decide +kernel
theorem dW_law_631 : decode cW_law 631 = .ok (.laload, 1) := by decide +kernel
theorem dW_law_632 : decode cW_law 632 = .ok (.iload 6, 2) := by decide +kernel
theorem dW_law_634 : decode cW_law 634 = .ok (.i2l, 1) := by decide +kernel
theorem dW_law_635 : decode cW_law 635 = .ok (.lcmp, 1) := by decide +kernel
theorem dW_law_636 : decode cW_law 636 = .ok (.ifCond .eq 5, 3) := by decide +kernel
theorem dW_law_639 : decode cW_law 639 = .ok (.iconst 0, 1) := by decide +kernel
theorem dW_law_640 : decode cW_law 640 = .ok (.ireturn, 1) := by decide +kernel
theorem dW_law_641 : decode cW_law 641 = .ok (.goto 387, 3) := by decide +kernel
theorem dW_law_644 : decode cW_law 644 = .ok (.aload_n 1, 1) := by decide +kernel
theorem dW_law_645 : decode cW_law 645 = .ok (.aload_n 0, 1) := by decide +kernel
theorem dW_law_646 : decode cW_law 646 = .ok (.iload 4, 2) := by decide +kernel
theorem dW_law_648 : decode cW_law 648 = .ok (.iconst 1, 1) := by decide +kernel
theorem dW_law_649 : decode cW_law 649 = .ok (.iadd, 1) := by decide +kernel
theorem dW_law_650 : decode cW_law 650 = .ok (.iaload, 1) := by decide +kernel
theorem dW_law_651 : decode cW_law 651 = .ok (.aload_n 0, 1) := by decide +kernel
theorem dW_law_652 : decode cW_law 652 = .ok (.iload 4, 2) := by decide +kernel
theorem dW_law_654 : decode cW_law 654 = .ok (.iconst 2, 1) := by decide +kernel
theorem dW_law_655 : decode cW_law 655 = .ok (.iadd, 1) := by decide +kernel
theorem dW_law_656 : decode cW_law 656 = .ok (.iaload, 1) := by decide +kernel
theorem dW_law_657 : decode cW_law 657 = .ok (.aload_n 3, 1) := by decide +kernel
theorem dW_law_658 : decode cW_law 658 = .ok (.invokestatic 107, 3) := by decide +kernel
theorem dW_law_661 : decode cW_law 661 = .ok (.istore 5, 2) := by decide +kernel
theorem dW_law_663 : decode cW_law 663 = .ok (.aload_n 2, 1) := by decide +kernel
theorem dW_law_664 : decode cW_law 664 = .ok (.aload_n 0, 1) := by decide +kernel
theorem dW_law_665 : decode cW_law 665 = .ok (.iload 4, 2) := by decide +kernel
theorem dW_law_667 : decode cW_law 667 = .ok (.iconst 1, 1) := by decide +kernel
theorem dW_law_668 : decode cW_law 668 = .ok (.iadd, 1) := by decide +kernel
theorem dW_law_669 : decode cW_law 669 = .ok (.iaload, 1) := by decide +kernel
theorem dW_law_670 : decode cW_law 670 = .ok (.aload_n 0, 1) := by decide +kernel
theorem dW_law_671 : decode cW_law 671 = .ok (.iload 4, 2) := by decide +kernel
theorem dW_law_673 : decode cW_law 673 = .ok (.iconst 2, 1) := by decide +kernel
theorem dW_law_674 : decode cW_law 674 = .ok (.iadd, 1) := by decide +kernel
theorem dW_law_675 : decode cW_law 675 = .ok (.iaload, 1) := by decide +kernel
theorem dW_law_676 : decode cW_law 676 = .ok (.invokevirtual 109, 3) := by decide +kernel
theorem dW_law_679 : decode cW_law 679 = .ok (.istore 6, 2) := by decide +kernel
theorem dW_law_681 : decode cW_law 681 = .ok (.aload_n 2, 1) := by decide +kernel
theorem dW_law_682 : decode cW_law 682 = .ok (.invokevirtual 77, 3) := by decide +kernel
theorem dW_law_685 : decode cW_law 685 = .ok (.iload 5, 2) := by decide +kernel
theorem dW_law_687 : decode cW_law 687 = .ok (.if_icmp .eq 5, 3) := by decide +kernel
theorem dW_law_690 : decode cW_law 690 = .ok (.iconst 0, 1) := by decide +kernel
theorem dW_law_691 : decode cW_law 691 = .ok (.ireturn, 1) := by decide +kernel
theorem dW_law_692 : decode cW_law 692 = .ok (.iload 5, 2) := by decide +kernel
theorem dW_law_694 : decode cW_law 694 = .ok (.ifCond .ne 15, 3) := by decide +kernel
theorem dW_law_697 : decode cW_law 697 = .ok (.aload_n 3, 1) := by decide +kernel
theorem dW_law_698 : decode cW_law 698 = .ok (.iconst 0, 1) := by decide +kernel
theorem dW_law_699 : decode cW_law 699 = .ok (.laload, 1) := by decide +kernel
theorem dW_law_700 : decode cW_law 700 = .ok (.iload 6, 2) := by decide +kernel
theorem dW_law_702 : decode cW_law 702 = .ok (.i2l, 1) := by decide +kernel
theorem dW_law_703 : decode cW_law 703 = .ok (.lcmp, 1) := by decide +kernel
theorem dW_law_704 : decode cW_law 704 = .ok (.ifCond .eq 5, 3) := by decide +kernel
theorem dW_law_707 : decode cW_law 707 = .ok (.iconst 0, 1) := by decide +kernel
theorem dW_law_708 : decode cW_law 708 = .ok (.ireturn, 1) := by decide +kernel
theorem dW_law_709 : decode cW_law 709 = .ok (.goto 319, 3) := by decide +kernel
theorem dW_law_712 : decode cW_law 712 = .ok (.aload_n 1, 1) := by decide +kernel
theorem dW_law_713 : decode cW_law 713 = .ok (.aload_n 0, 1) := by decide +kernel
theorem dW_law_714 : decode cW_law 714 = .ok (.iload 4, 2) := by decide +kernel
theorem dW_law_716 : decode cW_law 716 = .ok (.iconst 1, 1) := by decide +kernel
theorem dW_law_717 : decode cW_law 717 = .ok (.iadd, 1) := by decide +kernel
theorem dW_law_718 : decode cW_law 718 = .ok (.iaload, 1) := by decide +kernel
theorem dW_law_719 : decode cW_law 719 = .ok (.aload_n 0, 1) := by decide +kernel
theorem dW_law_720 : decode cW_law 720 = .ok (.iload 4, 2) := by decide +kernel
theorem dW_law_722 : decode cW_law 722 = .ok (.iconst 2, 1) := by decide +kernel
theorem dW_law_723 : decode cW_law 723 = .ok (.iadd, 1) := by decide +kernel
theorem dW_law_724 : decode cW_law 724 = .ok (.iaload, 1) := by decide +kernel
theorem dW_law_725 : decode cW_law 725 = .ok (.aload_n 3, 1) := by decide +kernel
theorem dW_law_726 : decode cW_law 726 = .ok (.invokestatic 110, 3) := by decide +kernel
theorem dW_law_729 : decode cW_law 729 = .ok (.istore 5, 2) := by decide +kernel
theorem dW_law_731 : decode cW_law 731 = .ok (.aload_n 2, 1) := by decide +kernel
theorem dW_law_732 : decode cW_law 732 = .ok (.aload_n 0, 1) := by decide +kernel
theorem dW_law_733 : decode cW_law 733 = .ok (.iload 4, 2) := by decide +kernel
theorem dW_law_735 : decode cW_law 735 = .ok (.iconst 1, 1) := by decide +kernel
theorem dW_law_736 : decode cW_law 736 = .ok (.iadd, 1) := by decide +kernel
theorem dW_law_737 : decode cW_law 737 = .ok (.iaload, 1) := by decide +kernel
theorem dW_law_738 : decode cW_law 738 = .ok (.aload_n 0, 1) := by decide +kernel
theorem dW_law_739 : decode cW_law 739 = .ok (.iload 4, 2) := by decide +kernel
theorem dW_law_741 : decode cW_law 741 = .ok (.iconst 2, 1) := by decide +kernel
theorem dW_law_742 : decode cW_law 742 = .ok (.iadd, 1) := by decide +kernel
theorem dW_law_743 : decode cW_law 743 = .ok (.iaload, 1) := by decide +kernel
theorem dW_law_744 : decode cW_law 744 = .ok (.invokevirtual 112, 3) := by decide +kernel
theorem dW_law_747 : decode cW_law 747 = .ok (.istore 6, 2) := by decide +kernel
theorem dW_law_749 : decode cW_law 749 = .ok (.aload_n 2, 1) := by decide +kernel
theorem dW_law_750 : decode cW_law 750 = .ok (.invokevirtual 77, 3) := by decide +kernel
theorem dW_law_753 : decode cW_law 753 = .ok (.iload 5, 2) := by decide +kernel
theorem dW_law_755 : decode cW_law 755 = .ok (.if_icmp .eq 5, 3) := by decide +kernel
theorem dW_law_758 : decode cW_law 758 = .ok (.iconst 0, 1) := by decide +kernel
theorem dW_law_759 : decode cW_law 759 = .ok (.ireturn, 1) := by decide +kernel
theorem dW_law_760 : decode cW_law 760 = .ok (.iload 5, 2) := by decide +kernel
theorem dW_law_762 : decode cW_law 762 = .ok (.ifCond .ne 15, 3) := by decide +kernel
theorem dW_law_765 : decode cW_law 765 = .ok (.aload_n 3, 1) := by decide +kernel
theorem dW_law_766 : decode cW_law 766 = .ok (.iconst 0, 1) := by decide +kernel
theorem dW_law_767 : decode cW_law 767 = .ok (.laload, 1) := by decide +kernel
theorem dW_law_768 : decode cW_law 768 = .ok (.iload 6, 2) := by decide +kernel
theorem dW_law_770 : decode cW_law 770 = .ok (.i2l, 1) := by decide +kernel
theorem dW_law_771 : decode cW_law 771 = .ok (.lcmp, 1) := by decide +kernel
theorem dW_law_772 : decode cW_law 772 = .ok (.ifCond .eq 5, 3) := by decide +kernel
theorem dW_law_775 : decode cW_law 775 = .ok (.iconst 0, 1) := by decide +kernel
theorem dW_law_776 : decode cW_law 776 = .ok (.ireturn, 1) := by decide +kernel
theorem dW_law_777 : decode cW_law 777 = .ok (.goto 251, 3) := by decide +kernel
theorem dW_law_780 : decode cW_law 780 = .ok (.aload_n 1, 1) := by decide +kernel
theorem dW_law_781 : decode cW_law 781 = .ok (.aload_n 0, 1) := by decide +kernel
theorem dW_law_782 : decode cW_law 782 = .ok (.iload 4, 2) := by decide +kernel
theorem dW_law_784 : decode cW_law 784 = .ok (.iconst 1, 1) := by decide +kernel
theorem dW_law_785 : decode cW_law 785 = .ok (.iadd, 1) := by decide +kernel
theorem dW_law_786 : decode cW_law 786 = .ok (.iaload, 1) := by decide +kernel
theorem dW_law_787 : decode cW_law 787 = .ok (.aload_n 0, 1) := by decide +kernel
theorem dW_law_788 : decode cW_law 788 = .ok (.iload 4, 2) := by decide +kernel
theorem dW_law_790 : decode cW_law 790 = .ok (.iconst 2, 1) := by decide +kernel
theorem dW_law_791 : decode cW_law 791 = .ok (.iadd, 1) := by decide +kernel
theorem dW_law_792 : decode cW_law 792 = .ok (.iaload, 1) := by decide +kernel
theorem dW_law_793 : decode cW_law 793 = .ok (.aload_n 3, 1) := by decide +kernel
theorem dW_law_794 : decode cW_law 794 = .ok (.invokestatic 113, 3) := by decide +kernel
theorem dW_law_797 : decode cW_law 797 = .ok (.istore 5, 2) := by decide +kernel
theorem dW_law_799 : decode cW_law 799 = .ok (.aload_n 2, 1) := by decide +kernel
theorem dW_law_800 : decode cW_law 800 = .ok (.aload_n 0, 1) := by decide +kernel
theorem dW_law_801 : decode cW_law 801 = .ok (.iload 4, 2) := by decide +kernel
theorem dW_law_803 : decode cW_law 803 = .ok (.iconst 1, 1) := by decide +kernel
theorem dW_law_804 : decode cW_law 804 = .ok (.iadd, 1) := by decide +kernel
theorem dW_law_805 : decode cW_law 805 = .ok (.iaload, 1) := by decide +kernel
theorem dW_law_806 : decode cW_law 806 = .ok (.aload_n 0, 1) := by decide +kernel
theorem dW_law_807 : decode cW_law 807 = .ok (.iload 4, 2) := by decide +kernel
theorem dW_law_809 : decode cW_law 809 = .ok (.iconst 2, 1) := by decide +kernel
theorem dW_law_810 : decode cW_law 810 = .ok (.iadd, 1) := by decide +kernel
theorem dW_law_811 : decode cW_law 811 = .ok (.iaload, 1) := by decide +kernel
theorem dW_law_812 : decode cW_law 812 = .ok (.invokevirtual 115, 3) := by decide +kernel
theorem dW_law_815 : decode cW_law 815 = .ok (.istore 6, 2) := by decide +kernel
theorem dW_law_817 : decode cW_law 817 = .ok (.aload_n 2, 1) := by decide +kernel
theorem dW_law_818 : decode cW_law 818 = .ok (.invokevirtual 77, 3) := by decide +kernel
theorem dW_law_821 : decode cW_law 821 = .ok (.iload 5, 2) := by decide +kernel
theorem dW_law_823 : decode cW_law 823 = .ok (.if_icmp .eq 5, 3) := by decide +kernel
theorem dW_law_826 : decode cW_law 826 = .ok (.iconst 0, 1) := by decide +kernel
theorem dW_law_827 : decode cW_law 827 = .ok (.ireturn, 1) := by decide +kernel
theorem dW_law_828 : decode cW_law 828 = .ok (.iload 5, 2) := by decide +kernel
theorem dW_law_830 : decode cW_law 830 = .ok (.ifCond .ne 15, 3) := by decide +kernel
theorem dW_law_833 : decode cW_law 833 = .ok (.aload_n 3, 1) := by decide +kernel
theorem dW_law_834 : decode cW_law 834 = .ok (.iconst 0, 1) := by decide +kernel
theorem dW_law_835 : decode cW_law 835 = .ok (.laload, 1) := by decide +kernel
theorem dW_law_836 : decode cW_law 836 = .ok (.iload 6, 2) := by decide +kernel
theorem dW_law_838 : decode cW_law 838 = .ok (.i2l, 1) := by decide +kernel
theorem dW_law_839 : decode cW_law 839 = .ok (.lcmp, 1) := by decide +kernel
theorem dW_law_840 : decode cW_law 840 = .ok (.ifCond .eq 5, 3) := by decide +kernel
theorem dW_law_843 : decode cW_law 843 = .ok (.iconst 0, 1) := by decide +kernel
theorem dW_law_844 : decode cW_law 844 = .ok (.ireturn, 1) := by decide +kernel
theorem dW_law_845 : decode cW_law 845 = .ok (.goto 183, 3) := by decide +kernel
theorem dW_law_848 : decode cW_law 848 = .ok (.aload_n 1, 1) := by decide +kernel
theorem dW_law_849 : decode cW_law 849 = .ok (.aload_n 0, 1) := by decide +kernel
theorem dW_law_850 : decode cW_law 850 = .ok (.iload 4, 2) := by decide +kernel
theorem dW_law_852 : decode cW_law 852 = .ok (.iconst 1, 1) := by decide +kernel
theorem dW_law_853 : decode cW_law 853 = .ok (.iadd, 1) := by decide +kernel
theorem dW_law_854 : decode cW_law 854 = .ok (.iaload, 1) := by decide +kernel
theorem dW_law_855 : decode cW_law 855 = .ok (.aload_n 0, 1) := by decide +kernel
theorem dW_law_856 : decode cW_law 856 = .ok (.iload 4, 2) := by decide +kernel
theorem dW_law_858 : decode cW_law 858 = .ok (.iconst 2, 1) := by decide +kernel
theorem dW_law_859 : decode cW_law 859 = .ok (.iadd, 1) := by decide +kernel
theorem dW_law_860 : decode cW_law 860 = .ok (.iaload, 1) := by decide +kernel
theorem dW_law_861 : decode cW_law 861 = .ok (.aload_n 3, 1) := by decide +kernel
theorem dW_law_862 : decode cW_law 862 = .ok (.invokestatic 116, 3) := by decide +kernel
theorem dW_law_865 : decode cW_law 865 = .ok (.istore 5, 2) := by decide +kernel
theorem dW_law_867 : decode cW_law 867 = .ok (.aload_n 2, 1) := by decide +kernel
theorem dW_law_868 : decode cW_law 868 = .ok (.aload_n 0, 1) := by decide +kernel
theorem dW_law_869 : decode cW_law 869 = .ok (.iload 4, 2) := by decide +kernel
theorem dW_law_871 : decode cW_law 871 = .ok (.iconst 1, 1) := by decide +kernel
theorem dW_law_872 : decode cW_law 872 = .ok (.iadd, 1) := by decide +kernel
theorem dW_law_873 : decode cW_law 873 = .ok (.iaload, 1) := by decide +kernel
theorem dW_law_874 : decode cW_law 874 = .ok (.aload_n 0, 1) := by decide +kernel
theorem dW_law_875 : decode cW_law 875 = .ok (.iload 4, 2) := by decide +kernel
theorem dW_law_877 : decode cW_law 877 = .ok (.iconst 2, 1) := by decide +kernel
theorem dW_law_878 : decode cW_law 878 = .ok (.iadd, 1) := by decide +kernel
theorem dW_law_879 : decode cW_law 879 = .ok (.iaload, 1) := by decide +kernel
theorem dW_law_880 : decode cW_law 880 = .ok (.invokevirtual 118, 3) := by decide +kernel
theorem dW_law_883 : decode cW_law 883 = .ok (.istore 6, 2) := by decide +kernel
theorem dW_law_885 : decode cW_law 885 = .ok (.aload_n 2, 1) := by decide +kernel
theorem dW_law_886 : decode cW_law 886 = .ok (.invokevirtual 77, 3) := by decide +kernel
theorem dW_law_889 : decode cW_law 889 = .ok (.iload 5, 2) := by decide +kernel
theorem dW_law_891 : decode cW_law 891 = .ok (.if_icmp .eq 5, 3) := by decide +kernel
theorem dW_law_894 : decode cW_law 894 = .ok (.iconst 0, 1) := by decide +kernel
theorem dW_law_895 : decode cW_law 895 = .ok (.ireturn, 1) := by decide +kernel
theorem dW_law_896 : decode cW_law 896 = .ok (.iload 5, 2) := by decide +kernel
theorem dW_law_898 : decode cW_law 898 = .ok (.ifCond .ne 15, 3) := by decide +kernel
theorem dW_law_901 : decode cW_law 901 = .ok (.aload_n 3, 1) := by decide +kernel
theorem dW_law_902 : decode cW_law 902 = .ok (.iconst 0, 1) := by decide +kernel
theorem dW_law_903 : decode cW_law 903 = .ok (.laload, 1) := by decide +kernel
theorem dW_law_904 : decode cW_law 904 = .ok (.iload 6, 2) := by decide +kernel
theorem dW_law_906 : decode cW_law 906 = .ok (.i2l, 1) := by decide +kernel
theorem dW_law_907 : decode cW_law 907 = .ok (.lcmp, 1) := by decide +kernel
theorem dW_law_908 : decode cW_law 908 = .ok (.ifCond .eq 5, 3) := by decide +kernel
theorem dW_law_911 : decode cW_law 911 = .ok (.iconst 0, 1) := by decide +kernel
theorem dW_law_912 : decode cW_law 912 = .ok (.ireturn, 1) := by decide +kernel
theorem dW_law_913 : decode cW_law 913 = .ok (.goto 115, 3) := by decide +kernel
theorem dW_law_916 : decode cW_law 916 = .ok (.aload_n 1, 1) := by decide +kernel
theorem dW_law_917 : decode cW_law 917 = .ok (.aload_n 0, 1) := by decide +kernel
theorem dW_law_918 : decode cW_law 918 = .ok (.iload 4, 2) := by decide +kernel
theorem dW_law_920 : decode cW_law 920 = .ok (.iconst 1, 1) := by decide +kernel
theorem dW_law_921 : decode cW_law 921 = .ok (.iadd, 1) := by decide +kernel
theorem dW_law_922 : decode cW_law 922 = .ok (.iaload, 1) := by decide +kernel
theorem dW_law_923 : decode cW_law 923 = .ok (.aload_n 3, 1) := by decide +kernel
theorem dW_law_924 : decode cW_law 924 = .ok (.invokestatic 119, 3) := by decide +kernel
theorem dW_law_927 : decode cW_law 927 = .ok (.istore 5, 2) := by decide +kernel
theorem dW_law_929 : decode cW_law 929 = .ok (.aload_n 2, 1) := by decide +kernel
theorem dW_law_930 : decode cW_law 930 = .ok (.aload_n 0, 1) := by decide +kernel
theorem dW_law_931 : decode cW_law 931 = .ok (.iload 4, 2) := by decide +kernel
theorem dW_law_933 : decode cW_law 933 = .ok (.iconst 1, 1) := by decide +kernel
theorem dW_law_934 : decode cW_law 934 = .ok (.iadd, 1) := by decide +kernel
theorem dW_law_935 : decode cW_law 935 = .ok (.iaload, 1) := by decide +kernel
theorem dW_law_936 : decode cW_law 936 = .ok (.invokevirtual 121, 3) := by decide +kernel
theorem dW_law_939 : decode cW_law 939 = .ok (.istore 6, 2) := by decide +kernel
theorem dW_law_941 : decode cW_law 941 = .ok (.aload_n 2, 1) := by decide +kernel
theorem dW_law_942 : decode cW_law 942 = .ok (.invokevirtual 77, 3) := by decide +kernel
theorem dW_law_945 : decode cW_law 945 = .ok (.iload 5, 2) := by decide +kernel
theorem dW_law_947 : decode cW_law 947 = .ok (.if_icmp .eq 5, 3) := by decide +kernel
theorem dW_law_950 : decode cW_law 950 = .ok (.iconst 0, 1) := by decide +kernel
theorem dW_law_951 : decode cW_law 951 = .ok (.ireturn, 1) := by decide +kernel
theorem dW_law_952 : decode cW_law 952 = .ok (.iload 5, 2) := by decide +kernel
theorem dW_law_954 : decode cW_law 954 = .ok (.ifCond .ne 15, 3) := by decide +kernel
theorem dW_law_957 : decode cW_law 957 = .ok (.aload_n 3, 1) := by decide +kernel
theorem dW_law_958 : decode cW_law 958 = .ok (.iconst 0, 1) := by decide +kernel
theorem dW_law_959 : decode cW_law 959 = .ok (.laload, 1) := by decide +kernel
theorem dW_law_960 : decode cW_law 960 = .ok (.iload 6, 2) := by decide +kernel
theorem dW_law_962 : decode cW_law 962 = .ok (.i2l, 1) := by decide +kernel
theorem dW_law_963 : decode cW_law 963 = .ok (.lcmp, 1) := by decide +kernel
theorem dW_law_964 : decode cW_law 964 = .ok (.ifCond .eq 5, 3) := by decide +kernel
theorem dW_law_967 : decode cW_law 967 = .ok (.iconst 0, 1) := by decide +kernel
theorem dW_law_968 : decode cW_law 968 = .ok (.ireturn, 1) := by decide +kernel
theorem dW_law_969 : decode cW_law 969 = .ok (.goto 59, 3) := by decide +kernel
theorem dW_law_972 : decode cW_law 972 = .ok (.aload_n 1, 1) := by decide +kernel
theorem dW_law_973 : decode cW_law 973 = .ok (.aload_n 0, 1) := by decide +kernel
theorem dW_law_974 : decode cW_law 974 = .ok (.iload 4, 2) := by decide +kernel
theorem dW_law_976 : decode cW_law 976 = .ok (.iconst 1, 1) := by decide +kernel
theorem dW_law_977 : decode cW_law 977 = .ok (.iadd, 1) := by decide +kernel
theorem dW_law_978 : decode cW_law 978 = .ok (.iaload, 1) := by decide +kernel
theorem dW_law_979 : decode cW_law 979 = .ok (.aload_n 3, 1) := by decide +kernel
theorem dW_law_980 : decode cW_law 980 = .ok (.invokestatic 122, 3) := by decide +kernel
theorem dW_law_983 : decode cW_law 983 = .ok (.istore 5, 2) := by decide +kernel
theorem dW_law_985 : decode cW_law 985 = .ok (.aload_n 2, 1) := by decide +kernel
theorem dW_law_986 : decode cW_law 986 = .ok (.aload_n 0, 1) := by decide +kernel
theorem dW_law_987 : decode cW_law 987 = .ok (.iload 4, 2) := by decide +kernel
theorem dW_law_989 : decode cW_law 989 = .ok (.iconst 1, 1) := by decide +kernel
theorem dW_law_990 : decode cW_law 990 = .ok (.iadd, 1) := by decide +kernel
theorem dW_law_991 : decode cW_law 991 = .ok (.iaload, 1) := by decide +kernel
theorem dW_law_992 : decode cW_law 992 = .ok (.invokevirtual 124, 3) := by decide +kernel
theorem dW_law_995 : decode cW_law 995 = .ok (.istore 6, 2) := by decide +kernel
theorem dW_law_997 : decode cW_law 997 = .ok (.aload_n 2, 1) := by decide +kernel
theorem dW_law_998 : decode cW_law 998 = .ok (.invokevirtual 77, 3) := by decide +kernel
theorem dW_law_1001 : decode cW_law 1001 = .ok (.iload 5, 2) := by decide +kernel
theorem dW_law_1003 : decode cW_law 1003 = .ok (.if_icmp .eq 5, 3) := by decide +kernel
theorem dW_law_1006 : decode cW_law 1006 = .ok (.iconst 0, 1) := by decide +kernel
theorem dW_law_1007 : decode cW_law 1007 = .ok (.ireturn, 1) := by decide +kernel
theorem dW_law_1008 : decode cW_law 1008 = .ok (.iload 5, 2) := by decide +kernel
theorem dW_law_1010 : decode cW_law 1010 = .ok (.ifCond .ne 15, 3) := by decide +kernel
theorem dW_law_1013 : decode cW_law 1013 = .ok (.aload_n 3, 1) := by decide +kernel
theorem dW_law_1014 : decode cW_law 1014 = .ok (.iconst 0, 1) := by decide +kernel
theorem dW_law_1015 : decode cW_law 1015 = .ok (.laload, 1) := by decide +kernel
theorem dW_law_1016 : decode cW_law 1016 = .ok (.iload 6, 2) := by decide +kernel
theorem dW_law_1018 : decode cW_law 1018 = .ok (.i2l, 1) := by decide +kernel
theorem dW_law_1019 : decode cW_law 1019 = .ok (.lcmp, 1) := by decide +kernel
theorem dW_law_1020 : decode cW_law 1020 = .ok (.ifCond .eq 5, 3) := by decide +kernel
theorem dW_law_1023 : decode cW_law 1023 = .ok (.iconst 0, 1) := by decide +kernel
theorem dW_law_1024 : decode cW_law 1024 = .ok (.ireturn, 1) := by decide +kernel
theorem dW_law_1025 : decode cW_law 1025 = .ok (.goto 3, 3) := by decide +kernel
theorem dW_law_1028 : decode cW_law 1028 = .ok (.iinc 4 4, 3) := by decide +kernel
theorem dW_law_1031 : decode cW_law 1031 = .ok (.goto (-1008), 3) := by decide +kernel
theorem dW_law_1034 : decode cW_law 1034 = .ok (.iconst 1, 1) := by decide +kernel
theorem dW_law_1035 : decode cW_law 1035 = .ok (.ireturn, 1) := by decide +kernel
