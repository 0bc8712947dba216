theorem dA_init_0 : decode cA_init 0 = .ok (.aload_n 0, 1) := by decide +kernel
theorem dA_init_1 : decode cA_init 1 = .ok (.invokespecial 1, 3) := by decide +kernel
theorem dA_init_4 : decode cA_init 4 = .ok (.aload_n 0, 1) := by decide +kernel
theorem dA_init_5 : decode cA_init 5 = .ok (.new 7, 3) := by decide +kernel
theorem dA_init_8 : decode cA_init 8 = .ok (.dup, 1) := by decide +kernel
theorem dA_init_9 : decode cA_init 9 = .ok (.invokespecial 9, 3) := by decide +kernel
theorem dA_init_12 : decode cA_init 12 = .ok (.putfield 10, 3) := by decide +kernel
theorem dA_init_15 : decode cA_init 15 = .ok (.aload_n 0, 1) := by decide +kernel
theorem dA_init_16 : decode cA_init 16 = .ok (.new 7, 3) := by decide +kernel
theorem dA_init_19 : decode cA_init 19 = .ok (.dup, 1) := by decide +kernel
theorem dA_init_20 : decode cA_init 20 = .ok (.invokespecial 9, 3) := by decide +kernel
theorem dA_init_23 : decode cA_init 23 = .ok (.putfield 16, 3) := by decide +kernel
theorem dA_init_26 : decode cA_init 26 = .ok (.aload_n 0, 1) := by decide +kernel
theorem dA_init_27 : decode cA_init 27 = .ok (.new 7, 3) := by decide +kernel
theorem dA_init_30 : decode cA_init 30 = .ok (.dup, 1) := by decide +kernel
theorem dA_init_31 : decode cA_init 31 = .ok (.invokespecial 9, 3) := by decide +kernel
theorem dA_init_34 : decode cA_init 34 = .ok (.putfield 19, 3) := by decide +kernel
theorem dA_init_37 : decode cA_init 37 = .ok (.return_, 1) := by decide +kernel
theorem dA_group_0 : decode cA_group 0 = .ok (.iload_n 1, 1) := by decide +kernel
theorem dA_group_1 : decode cA_group 1 = .ok (.iconst 1, 1) := by decide +kernel
theorem dA_group_2 : decode cA_group 2 = .ok (.if_icmp .lt 9, 3) := by decide +kernel
theorem dA_group_5 : decode cA_group 5 = .ok (.iload_n 1, 1) := by decide +kernel
theorem dA_group_6 : decode cA_group 6 = .ok (.bipush 20, 2) := by decide +kernel
theorem dA_group_8 : decode cA_group 8 = .ok (.if_icmp .le 13, 3) := by decide +kernel
theorem dA_group_11 : decode cA_group 11 = .ok (.new 22, 3) := by decide +kernel
theorem dA_group_14 : decode cA_group 14 = .ok (.dup, 1) := by decide +kernel
theorem dA_group_15 : decode cA_group 15 = .ok (.ldc 24, 2) := by decide +kernel
theorem dA_group_17 : decode cA_group 17 = .ok (.invokespecial 26, 3) := by decide +kernel
theorem dA_group_20 : decode cA_group 20 = .ok (.athrow, 1) := by decide +kernel
theorem dA_group_21 : decode cA_group 21 = .ok (.iload_n 2, 1) := by decide +kernel
theorem dA_group_22 : decode cA_group 22 = .ok (.iconst 1, 1) := by decide +kernel
theorem dA_group_23 : decode cA_group 23 = .ok (.if_icmp .lt 10, 3) := by decide +kernel
theorem dA_group_26 : decode cA_group 26 = .ok (.iload_n 2, 1) := by decide +kernel
theorem dA_group_27 : decode cA_group 27 = .ok (.sipush 3600, 3) := by decide +kernel
theorem dA_group_30 : decode cA_group 30 = .ok (.if_icmp .le 13, 3) := by decide +kernel
theorem dA_group_33 : decode cA_group 33 = .ok (.new 22, 3) := by decide +kernel
theorem dA_group_36 : decode cA_group 36 = .ok (.dup, 1) := by decide +kernel
theorem dA_group_37 : decode cA_group 37 = .ok (.ldc 29, 2) := by decide +kernel
theorem dA_group_39 : decode cA_group 39 = .ok (.invokespecial 26, 3) := by decide +kernel
theorem dA_group_42 : decode cA_group 42 = .ok (.athrow, 1) := by decide +kernel
theorem dA_group_43 : decode cA_group 43 = .ok (.aload_n 0, 1) := by decide +kernel
theorem dA_group_44 : decode cA_group 44 = .ok (.getfield 10, 3) := by decide +kernel
theorem dA_group_47 : decode cA_group 47 = .ok (.invokevirtual 31, 3) := by decide +kernel
theorem dA_group_50 : decode cA_group 50 = .ok (.bipush 12, 2) := by decide +kernel
theorem dA_group_52 : decode cA_group 52 = .ok (.if_icmp .lt 13, 3) := by decide +kernel
theorem dA_group_55 : decode cA_group 55 = .ok (.new 35, 3) := by decide +kernel
theorem dA_group_58 : decode cA_group 58 = .ok (.dup, 1) := by decide +kernel
theorem dA_group_59 : decode cA_group 59 = .ok (.ldc 37, 2) := by decide +kernel
theorem dA_group_61 : decode cA_group 61 = .ok (.invokespecial 39, 3) := by decide +kernel
theorem dA_group_64 : decode cA_group 64 = .ok (.athrow, 1) := by decide +kernel
theorem dA_group_65 : decode cA_group 65 = .ok (.aload_n 0, 1) := by decide +kernel
theorem dA_group_66 : decode cA_group 66 = .ok (.getfield 10, 3) := by decide +kernel
theorem dA_group_69 : decode cA_group 69 = .ok (.new 40, 3) := by decide +kernel
theorem dA_group_72 : decode cA_group 72 = .ok (.dup, 1) := by decide +kernel
theorem dA_group_73 : decode cA_group 73 = .ok (.iload_n 1, 1) := by decide +kernel
theorem dA_group_74 : decode cA_group 74 = .ok (.iload_n 2, 1) := by decide +kernel
theorem dA_group_75 : decode cA_group 75 = .ok (.invokespecial 42, 3) := by decide +kernel
theorem dA_group_78 : decode cA_group 78 = .ok (.invokevirtual 45, 3) := by decide +kernel
theorem dA_group_81 : decode cA_group 81 = .ok (.pop, 1) := by decide +kernel
theorem dA_group_82 : decode cA_group 82 = .ok (.aload_n 0, 1) := by decide +kernel
theorem dA_group_83 : decode cA_group 83 = .ok (.getfield 10, 3) := by decide +kernel
theorem dA_group_86 : decode cA_group 86 = .ok (.invokevirtual 31, 3) := by decide +kernel
theorem dA_group_89 : decode cA_group 89 = .ok (.iconst 1, 1) := by decide +kernel
theorem dA_group_90 : decode cA_group 90 = .ok (.isub, 1) := by decide +kernel
theorem dA_group_91 : decode cA_group 91 = .ok (.ireturn, 1) := by decide +kernel
theorem dA_requireGroup_0 : decode cA_requireGroup 0 = .ok (.iload_n 1, 1) := by decide +kernel
theorem dA_requireGroup_1 : decode cA_requireGroup 1 = .ok (.ifCond .lt 14, 3) := by decide +kernel
theorem dA_requireGroup_4 : decode cA_requireGroup 4 = .ok (.iload_n 1, 1) := by decide +kernel
theorem dA_requireGroup_5 : decode cA_requireGroup 5 = .ok (.aload_n 0, 1) := by decide +kernel
theorem dA_requireGroup_6 : decode cA_requireGroup 6 = .ok (.getfield 10, 3) := by decide +kernel
theorem dA_requireGroup_9 : decode cA_requireGroup 9 = .ok (.invokevirtual 31, 3) := by decide +kernel
theorem dA_requireGroup_12 : decode cA_requireGroup 12 = .ok (.if_icmp .lt 13, 3) := by decide +kernel
theorem dA_requireGroup_15 : decode cA_requireGroup 15 = .ok (.new 173, 3) := by decide +kernel
theorem dA_requireGroup_18 : decode cA_requireGroup 18 = .ok (.dup, 1) := by decide +kernel
theorem dA_requireGroup_19 : decode cA_requireGroup 19 = .ok (.ldc 216, 2) := by decide +kernel
theorem dA_requireGroup_21 : decode cA_requireGroup 21 = .ok (.invokespecial 177, 3) := by decide +kernel
theorem dA_requireGroup_24 : decode cA_requireGroup 24 = .ok (.athrow, 1) := by decide +kernel
theorem dA_requireGroup_25 : decode cA_requireGroup 25 = .ok (.return_, 1) := by decide +kernel
theorem dA_groupOf_0 : decode cA_groupOf 0 = .ok (.aload_n 0, 1) := by decide +kernel
theorem dA_groupOf_1 : decode cA_groupOf 1 = .ok (.iload_n 1, 1) := by decide +kernel
theorem dA_groupOf_2 : decode cA_groupOf 2 = .ok (.invokevirtual 53, 3) := by decide +kernel
theorem dA_groupOf_5 : decode cA_groupOf 5 = .ok (.aload_n 0, 1) := by decide +kernel
theorem dA_groupOf_6 : decode cA_groupOf 6 = .ok (.getfield 10, 3) := by decide +kernel
theorem dA_groupOf_9 : decode cA_groupOf 9 = .ok (.iload_n 1, 1) := by decide +kernel
theorem dA_groupOf_10 : decode cA_groupOf 10 = .ok (.invokevirtual 203, 3) := by decide +kernel
theorem dA_groupOf_13 : decode cA_groupOf 13 = .ok (.checkcast 40, 3) := by decide +kernel
theorem dA_groupOf_16 : decode cA_groupOf 16 = .ok (.areturn, 1) := by decide +kernel
theorem dA_next_0 : decode cA_next 0 = .ok (.aload_n 0, 1) := by decide +kernel
theorem dA_next_1 : decode cA_next 1 = .ok (.iload_n 1, 1) := by decide +kernel
theorem dA_next_2 : decode cA_next 2 = .ok (.invokevirtual 49, 3) := by decide +kernel
theorem dA_next_5 : decode cA_next 5 = .ok (.astore_n 3, 1) := by decide +kernel
theorem dA_next_6 : decode cA_next 6 = .ok (.iload_n 2, 1) := by decide +kernel
theorem dA_next_7 : decode cA_next 7 = .ok (.iconst (-1), 1) := by decide +kernel
theorem dA_next_8 : decode cA_next 8 = .ok (.if_icmp .eq 23, 3) := by decide +kernel
theorem dA_next_11 : decode cA_next 11 = .ok (.aload_n 0, 1) := by decide +kernel
theorem dA_next_12 : decode cA_next 12 = .ok (.iload_n 2, 1) := by decide +kernel
theorem dA_next_13 : decode cA_next 13 = .ok (.invokevirtual 53, 3) := by decide +kernel
theorem dA_next_16 : decode cA_next 16 = .ok (.iload_n 2, 1) := by decide +kernel
theorem dA_next_17 : decode cA_next 17 = .ok (.iload_n 1, 1) := by decide +kernel
theorem dA_next_18 : decode cA_next 18 = .ok (.if_icmp .gt 13, 3) := by decide +kernel
theorem dA_next_21 : decode cA_next 21 = .ok (.new 57, 3) := by decide +kernel
theorem dA_next_24 : decode cA_next 24 = .ok (.dup, 1) := by decide +kernel
theorem dA_next_25 : decode cA_next 25 = .ok (.ldc 59, 2) := by decide +kernel
theorem dA_next_27 : decode cA_next 27 = .ok (.invokespecial 61, 3) := by decide +kernel
theorem dA_next_30 : decode cA_next 30 = .ok (.athrow, 1) := by decide +kernel
theorem dA_next_31 : decode cA_next 31 = .ok (.aload_n 3, 1) := by decide +kernel
theorem dA_next_32 : decode cA_next 32 = .ok (.iload_n 2, 1) := by decide +kernel
theorem dA_next_33 : decode cA_next 33 = .ok (.putfield 62, 3) := by decide +kernel
theorem dA_next_36 : decode cA_next 36 = .ok (.return_, 1) := by decide +kernel
theorem dA_person_0 : decode cA_person 0 = .ok (.aload_n 0, 1) := by decide +kernel
theorem dA_person_1 : decode cA_person 1 = .ok (.iload_n 1, 1) := by decide +kernel
theorem dA_person_2 : decode cA_person 2 = .ok (.invokevirtual 53, 3) := by decide +kernel
theorem dA_person_5 : decode cA_person 5 = .ok (.aload_n 0, 1) := by decide +kernel
theorem dA_person_6 : decode cA_person 6 = .ok (.getfield 16, 3) := by decide +kernel
theorem dA_person_9 : decode cA_person 9 = .ok (.invokevirtual 31, 3) := by decide +kernel
theorem dA_person_12 : decode cA_person 12 = .ok (.bipush 60, 2) := by decide +kernel
theorem dA_person_14 : decode cA_person 14 = .ok (.if_icmp .lt 13, 3) := by decide +kernel
theorem dA_person_17 : decode cA_person 17 = .ok (.new 35, 3) := by decide +kernel
theorem dA_person_20 : decode cA_person 20 = .ok (.dup, 1) := by decide +kernel
theorem dA_person_21 : decode cA_person 21 = .ok (.ldc 66, 2) := by decide +kernel
theorem dA_person_23 : decode cA_person 23 = .ok (.invokespecial 39, 3) := by decide +kernel
theorem dA_person_26 : decode cA_person 26 = .ok (.athrow, 1) := by decide +kernel
theorem dA_person_27 : decode cA_person 27 = .ok (.aload_n 0, 1) := by decide +kernel
theorem dA_person_28 : decode cA_person 28 = .ok (.getfield 16, 3) := by decide +kernel
theorem dA_person_31 : decode cA_person 31 = .ok (.new 68, 3) := by decide +kernel
theorem dA_person_34 : decode cA_person 34 = .ok (.dup, 1) := by decide +kernel
theorem dA_person_35 : decode cA_person 35 = .ok (.iload_n 1, 1) := by decide +kernel
theorem dA_person_36 : decode cA_person 36 = .ok (.invokespecial 70, 3) := by decide +kernel
theorem dA_person_39 : decode cA_person 39 = .ok (.invokevirtual 45, 3) := by decide +kernel
theorem dA_person_42 : decode cA_person 42 = .ok (.pop, 1) := by decide +kernel
theorem dA_person_43 : decode cA_person 43 = .ok (.aload_n 0, 1) := by decide +kernel
theorem dA_person_44 : decode cA_person 44 = .ok (.getfield 16, 3) := by decide +kernel
theorem dA_person_47 : decode cA_person 47 = .ok (.invokevirtual 31, 3) := by decide +kernel
theorem dA_person_50 : decode cA_person 50 = .ok (.iconst 1, 1) := by decide +kernel
theorem dA_person_51 : decode cA_person 51 = .ok (.isub, 1) := by decide +kernel
theorem dA_person_52 : decode cA_person 52 = .ok (.ireturn, 1) := by decide +kernel
theorem dA_requirePerson_0 : decode cA_requirePerson 0 = .ok (.iload_n 1, 1) := by decide +kernel
theorem dA_requirePerson_1 : decode cA_requirePerson 1 = .ok (.ifCond .lt 14, 3) := by decide +kernel
theorem dA_requirePerson_4 : decode cA_requirePerson 4 = .ok (.iload_n 1, 1) := by decide +kernel
theorem dA_requirePerson_5 : decode cA_requirePerson 5 = .ok (.aload_n 0, 1) := by decide +kernel
theorem dA_requirePerson_6 : decode cA_requirePerson 6 = .ok (.getfield 16, 3) := by decide +kernel
theorem dA_requirePerson_9 : decode cA_requirePerson 9 = .ok (.invokevirtual 31, 3) := by decide +kernel
theorem dA_requirePerson_12 : decode cA_requirePerson 12 = .ok (.if_icmp .lt 13, 3) := by decide +kernel
theorem dA_requirePerson_15 : decode cA_requirePerson 15 = .ok (.new 173, 3) := by decide +kernel
theorem dA_requirePerson_18 : decode cA_requirePerson 18 = .ok (.dup, 1) := by decide +kernel
theorem dA_requirePerson_19 : decode cA_requirePerson 19 = .ok (.ldc 218, 2) := by decide +kernel
theorem dA_requirePerson_21 : decode cA_requirePerson 21 = .ok (.invokespecial 177, 3) := by decide +kernel
theorem dA_requirePerson_24 : decode cA_requirePerson 24 = .ok (.athrow, 1) := by decide +kernel
theorem dA_requirePerson_25 : decode cA_requirePerson 25 = .ok (.return_, 1) := by decide +kernel
theorem dA_personOf_0 : decode cA_personOf 0 = .ok (.aload_n 0, 1) := by decide +kernel
theorem dA_personOf_1 : decode cA_personOf 1 = .ok (.iload_n 1, 1) := by decide +kernel
theorem dA_personOf_2 : decode cA_personOf 2 = .ok (.invokevirtual 106, 3) := by decide +kernel
theorem dA_personOf_5 : decode cA_personOf 5 = .ok (.aload_n 0, 1) := by decide +kernel
theorem dA_personOf_6 : decode cA_personOf 6 = .ok (.getfield 16, 3) := by decide +kernel
theorem dA_personOf_9 : decode cA_personOf 9 = .ok (.iload_n 1, 1) := by decide +kernel
theorem dA_personOf_10 : decode cA_personOf 10 = .ok (.invokevirtual 203, 3) := by decide +kernel
theorem dA_personOf_13 : decode cA_personOf 13 = .ok (.checkcast 68, 3) := by decide +kernel
theorem dA_personOf_16 : decode cA_personOf 16 = .ok (.areturn, 1) := by decide +kernel
theorem dA_way_0 : decode cA_way 0 = .ok (.aload_n 0, 1) := by decide +kernel
theorem dA_way_1 : decode cA_way 1 = .ok (.iload_n 1, 1) := by decide +kernel
theorem dA_way_2 : decode cA_way 2 = .ok (.invokevirtual 72, 3) := by decide +kernel
theorem dA_way_5 : decode cA_way 5 = .ok (.astore 4, 2) := by decide +kernel
theorem dA_way_7 : decode cA_way 7 = .ok (.iload_n 2, 1) := by decide +kernel
theorem dA_way_8 : decode cA_way 8 = .ok (.ifCond .lt 8, 3) := by decide +kernel
theorem dA_way_11 : decode cA_way 11 = .ok (.iload_n 2, 1) := by decide +kernel
theorem dA_way_12 : decode cA_way 12 = .ok (.iconst 3, 1) := by decide +kernel
theorem dA_way_13 : decode cA_way 13 = .ok (.if_icmp .lt 13, 3) := by decide +kernel
theorem dA_way_16 : decode cA_way 16 = .ok (.new 22, 3) := by decide +kernel
theorem dA_way_19 : decode cA_way 19 = .ok (.dup, 1) := by decide +kernel
theorem dA_way_20 : decode cA_way 20 = .ok (.ldc 76, 2) := by decide +kernel
theorem dA_way_22 : decode cA_way 22 = .ok (.invokespecial 26, 3) := by decide +kernel
theorem dA_way_25 : decode cA_way 25 = .ok (.athrow, 1) := by decide +kernel
theorem dA_way_26 : decode cA_way 26 = .ok (.aload 4, 2) := by decide +kernel
theorem dA_way_28 : decode cA_way 28 = .ok (.iload_n 2, 1) := by decide +kernel
theorem dA_way_29 : decode cA_way 29 = .ok (.iload_n 3, 1) := by decide +kernel
theorem dA_way_30 : decode cA_way 30 = .ok (.invokevirtual 78, 3) := by decide +kernel
theorem dA_way_33 : decode cA_way 33 = .ok (.aload 4, 2) := by decide +kernel
theorem dA_way_35 : decode cA_way 35 = .ok (.getfield 82, 3) := by decide +kernel
theorem dA_way_38 : decode cA_way 38 = .ok (.ireturn, 1) := by decide +kernel
theorem dA_is_0 : decode cA_is 0 = .ok (.aload_n 0, 1) := by decide +kernel
theorem dA_is_1 : decode cA_is 1 = .ok (.iload_n 1, 1) := by decide +kernel
theorem dA_is_2 : decode cA_is 2 = .ok (.invokevirtual 72, 3) := by decide +kernel
theorem dA_is_5 : decode cA_is 5 = .ok (.astore_n 3, 1) := by decide +kernel
theorem dA_is_6 : decode cA_is 6 = .ok (.iload_n 2, 1) := by decide +kernel
theorem dA_is_7 : decode cA_is 7 = .ok (.ifCond .lt 8, 3) := by decide +kernel
theorem dA_is_10 : decode cA_is 10 = .ok (.iload_n 2, 1) := by decide +kernel
theorem dA_is_11 : decode cA_is 11 = .ok (.iconst 2, 1) := by decide +kernel
theorem dA_is_12 : decode cA_is 12 = .ok (.if_icmp .le 13, 3) := by decide +kernel
theorem dA_is_15 : decode cA_is 15 = .ok (.new 22, 3) := by decide +kernel
theorem dA_is_18 : decode cA_is 18 = .ok (.dup, 1) := by decide +kernel
theorem dA_is_19 : decode cA_is 19 = .ok (.ldc 85, 2) := by decide +kernel
theorem dA_is_21 : decode cA_is 21 = .ok (.invokespecial 26, 3) := by decide +kernel
theorem dA_is_24 : decode cA_is 24 = .ok (.athrow, 1) := by decide +kernel
theorem dA_is_25 : decode cA_is 25 = .ok (.aload_n 3, 1) := by decide +kernel
theorem dA_is_26 : decode cA_is 26 = .ok (.iload_n 2, 1) := by decide +kernel
theorem dA_is_27 : decode cA_is 27 = .ok (.putfield 87, 3) := by decide +kernel
theorem dA_is_30 : decode cA_is 30 = .ok (.return_, 1) := by decide +kernel
theorem dA_wouldAskSomebody_0 : decode cA_wouldAskSomebody 0 = .ok (.iconst 0, 1) := by decide +kernel
theorem dA_wouldAskSomebody_1 : decode cA_wouldAskSomebody 1 = .ok (.istore_n 3, 1) := by decide +kernel
theorem dA_wouldAskSomebody_2 : decode cA_wouldAskSomebody 2 = .ok (.iload_n 3, 1) := by decide +kernel
theorem dA_wouldAskSomebody_3 : decode cA_wouldAskSomebody 3 = .ok (.aload_n 0, 1) := by decide +kernel
theorem dA_wouldAskSomebody_4 : decode cA_wouldAskSomebody 4 = .ok (.getfield 16, 3) := by decide +kernel
theorem dA_wouldAskSomebody_7 : decode cA_wouldAskSomebody 7 = .ok (.invokevirtual 31, 3) := by decide +kernel
theorem dA_wouldAskSomebody_10 : decode cA_wouldAskSomebody 10 = .ok (.if_icmp .ge 30, 3) := by decide +kernel
theorem dA_wouldAskSomebody_13 : decode cA_wouldAskSomebody 13 = .ok (.aload_n 0, 1) := by decide +kernel
theorem dA_wouldAskSomebody_14 : decode cA_wouldAskSomebody 14 = .ok (.getfield 16, 3) := by decide +kernel
theorem dA_wouldAskSomebody_17 : decode cA_wouldAskSomebody 17 = .ok (.iload_n 3, 1) := by decide +kernel
theorem dA_wouldAskSomebody_18 : decode cA_wouldAskSomebody 18 = .ok (.invokevirtual 203, 3) := by decide +kernel
theorem dA_wouldAskSomebody_21 : decode cA_wouldAskSomebody 21 = .ok (.checkcast 68, 3) := by decide +kernel
theorem dA_wouldAskSomebody_24 : decode cA_wouldAskSomebody 24 = .ok (.iload_n 1, 1) := by decide +kernel
theorem dA_wouldAskSomebody_25 : decode cA_wouldAskSomebody 25 = .ok (.iload_n 2, 1) := by decide +kernel
theorem dA_wouldAskSomebody_26 : decode cA_wouldAskSomebody 26 = .ok (.invokevirtual 227, 3) := by decide +kernel
theorem dA_wouldAskSomebody_29 : decode cA_wouldAskSomebody 29 = .ok (.ifCond .eq 5, 3) := by decide +kernel
theorem dA_wouldAskSomebody_32 : decode cA_wouldAskSomebody 32 = .ok (.iconst 1, 1) := by decide +kernel
theorem dA_wouldAskSomebody_33 : decode cA_wouldAskSomebody 33 = .ok (.ireturn, 1) := by decide +kernel
theorem dA_wouldAskSomebody_34 : decode cA_wouldAskSomebody 34 = .ok (.iinc 3 1, 3) := by decide +kernel
theorem dA_wouldAskSomebody_37 : decode cA_wouldAskSomebody 37 = .ok (.goto (-35), 3) := by decide +kernel
theorem dA_wouldAskSomebody_40 : decode cA_wouldAskSomebody 40 = .ok (.iconst 0, 1) := by decide +kernel
theorem dA_wouldAskSomebody_41 : decode cA_wouldAskSomebody 41 = .ok (.ireturn, 1) := by decide +kernel
theorem dA_raise_0 : decode cA_raise 0 = .ok (.new 112, 3) := by decide +kernel
theorem dA_raise_3 : decode cA_raise 3 = .ok (.dup, 1) := by decide +kernel
theorem dA_raise_4 : decode cA_raise 4 = .ok (.iload_n 1, 1) := by decide +kernel
theorem dA_raise_5 : decode cA_raise 5 = .ok (.iload_n 2, 1) := by decide +kernel
theorem dA_raise_6 : decode cA_raise 6 = .ok (.aload_n 0, 1) := by decide +kernel
theorem dA_raise_7 : decode cA_raise 7 = .ok (.getfield 119, 3) := by decide +kernel
theorem dA_raise_10 : decode cA_raise 10 = .ok (.aload_n 0, 1) := by decide +kernel
theorem dA_raise_11 : decode cA_raise 11 = .ok (.getfield 119, 3) := by decide +kernel
theorem dA_raise_14 : decode cA_raise 14 = .ok (.aload_n 0, 1) := by decide +kernel
theorem dA_raise_15 : decode cA_raise 15 = .ok (.iload_n 1, 1) := by decide +kernel
theorem dA_raise_16 : decode cA_raise 16 = .ok (.invokevirtual 49, 3) := by decide +kernel
theorem dA_raise_19 : decode cA_raise 19 = .ok (.getfield 230, 3) := by decide +kernel
theorem dA_raise_22 : decode cA_raise 22 = .ok (.iadd, 1) := by decide +kernel
theorem dA_raise_23 : decode cA_raise 23 = .ok (.iload_n 3, 1) := by decide +kernel
theorem dA_raise_24 : decode cA_raise 24 = .ok (.invokespecial 233, 3) := by decide +kernel
theorem dA_raise_27 : decode cA_raise 27 = .ok (.astore 4, 2) := by decide +kernel
theorem dA_raise_29 : decode cA_raise 29 = .ok (.iconst 0, 1) := by decide +kernel
theorem dA_raise_30 : decode cA_raise 30 = .ok (.istore 5, 2) := by decide +kernel
theorem dA_raise_32 : decode cA_raise 32 = .ok (.iload 5, 2) := by decide +kernel
theorem dA_raise_34 : decode cA_raise 34 = .ok (.aload_n 0, 1) := by decide +kernel
theorem dA_raise_35 : decode cA_raise 35 = .ok (.getfield 16, 3) := by decide +kernel
theorem dA_raise_38 : decode cA_raise 38 = .ok (.invokevirtual 31, 3) := by decide +kernel
theorem dA_raise_41 : decode cA_raise 41 = .ok (.if_icmp .ge 45, 3) := by decide +kernel
theorem dA_raise_44 : decode cA_raise 44 = .ok (.aload_n 0, 1) := by decide +kernel
theorem dA_raise_45 : decode cA_raise 45 = .ok (.getfield 16, 3) := by decide +kernel
theorem dA_raise_48 : decode cA_raise 48 = .ok (.iload 5, 2) := by decide +kernel
theorem dA_raise_50 : decode cA_raise 50 = .ok (.invokevirtual 203, 3) := by decide +kernel
theorem dA_raise_53 : decode cA_raise 53 = .ok (.checkcast 68, 3) := by decide +kernel
theorem dA_raise_56 : decode cA_raise 56 = .ok (.astore 6, 2) := by decide +kernel
theorem dA_raise_58 : decode cA_raise 58 = .ok (.aload 6, 2) := by decide +kernel
theorem dA_raise_60 : decode cA_raise 60 = .ok (.iload_n 1, 1) := by decide +kernel
theorem dA_raise_61 : decode cA_raise 61 = .ok (.iload_n 2, 1) := by decide +kernel
theorem dA_raise_62 : decode cA_raise 62 = .ok (.invokevirtual 227, 3) := by decide +kernel
theorem dA_raise_65 : decode cA_raise 65 = .ok (.ifCond .eq 15, 3) := by decide +kernel
theorem dA_raise_68 : decode cA_raise 68 = .ok (.aload 4, 2) := by decide +kernel
theorem dA_raise_70 : decode cA_raise 70 = .ok (.iload 5, 2) := by decide +kernel
theorem dA_raise_72 : decode cA_raise 72 = .ok (.aload 6, 2) := by decide +kernel
theorem dA_raise_74 : decode cA_raise 74 = .ok (.invokevirtual 236, 3) := by decide +kernel
theorem dA_raise_77 : decode cA_raise 77 = .ok (.invokevirtual 239, 3) := by decide +kernel
theorem dA_raise_80 : decode cA_raise 80 = .ok (.iinc 5 1, 3) := by decide +kernel
theorem dA_raise_83 : decode cA_raise 83 = .ok (.goto (-51), 3) := by decide +kernel
theorem dA_raise_86 : decode cA_raise 86 = .ok (.aload_n 0, 1) := by decide +kernel
theorem dA_raise_87 : decode cA_raise 87 = .ok (.getfield 19, 3) := by decide +kernel
theorem dA_raise_90 : decode cA_raise 90 = .ok (.aload 4, 2) := by decide +kernel
theorem dA_raise_92 : decode cA_raise 92 = .ok (.invokevirtual 45, 3) := by decide +kernel
theorem dA_raise_95 : decode cA_raise 95 = .ok (.pop, 1) := by decide +kernel
theorem dA_raise_96 : decode cA_raise 96 = .ok (.return_, 1) := by decide +kernel
theorem dA_alarm_0 : decode cA_alarm 0 = .ok (.aload_n 0, 1) := by decide +kernel
theorem dA_alarm_1 : decode cA_alarm 1 = .ok (.iload_n 1, 1) := by decide +kernel
theorem dA_alarm_2 : decode cA_alarm 2 = .ok (.invokevirtual 53, 3) := by decide +kernel
theorem dA_alarm_5 : decode cA_alarm 5 = .ok (.aload_n 0, 1) := by decide +kernel
theorem dA_alarm_6 : decode cA_alarm 6 = .ok (.iload_n 1, 1) := by decide +kernel
theorem dA_alarm_7 : decode cA_alarm 7 = .ok (.iload_n 2, 1) := by decide +kernel
theorem dA_alarm_8 : decode cA_alarm 8 = .ok (.invokevirtual 90, 3) := by decide +kernel
theorem dA_alarm_11 : decode cA_alarm 11 = .ok (.ifCond .ne 13, 3) := by decide +kernel
theorem dA_alarm_14 : decode cA_alarm 14 = .ok (.new 57, 3) := by decide +kernel
theorem dA_alarm_17 : decode cA_alarm 17 = .ok (.dup, 1) := by decide +kernel
theorem dA_alarm_18 : decode cA_alarm 18 = .ok (.ldc 94, 2) := by decide +kernel
theorem dA_alarm_20 : decode cA_alarm 20 = .ok (.invokespecial 61, 3) := by decide +kernel
theorem dA_alarm_23 : decode cA_alarm 23 = .ok (.athrow, 1) := by decide +kernel
theorem dA_alarm_24 : decode cA_alarm 24 = .ok (.aload_n 0, 1) := by decide +kernel
theorem dA_alarm_25 : decode cA_alarm 25 = .ok (.getfield 19, 3) := by decide +kernel
theorem dA_alarm_28 : decode cA_alarm 28 = .ok (.invokevirtual 31, 3) := by decide +kernel
theorem dA_alarm_31 : decode cA_alarm 31 = .ok (.bipush 60, 2) := by decide +kernel
theorem dA_alarm_33 : decode cA_alarm 33 = .ok (.if_icmp .lt 13, 3) := by decide +kernel
theorem dA_alarm_36 : decode cA_alarm 36 = .ok (.new 35, 3) := by decide +kernel
theorem dA_alarm_39 : decode cA_alarm 39 = .ok (.dup, 1) := by decide +kernel
theorem dA_alarm_40 : decode cA_alarm 40 = .ok (.ldc 96, 2) := by decide +kernel
theorem dA_alarm_42 : decode cA_alarm 42 = .ok (.invokespecial 39, 3) := by decide +kernel
theorem dA_alarm_45 : decode cA_alarm 45 = .ok (.athrow, 1) := by decide +kernel
theorem dA_alarm_46 : decode cA_alarm 46 = .ok (.aload_n 0, 1) := by decide +kernel
theorem dA_alarm_47 : decode cA_alarm 47 = .ok (.iload_n 1, 1) := by decide +kernel
theorem dA_alarm_48 : decode cA_alarm 48 = .ok (.iload_n 2, 1) := by decide +kernel
theorem dA_alarm_49 : decode cA_alarm 49 = .ok (.iconst (-1), 1) := by decide +kernel
theorem dA_alarm_50 : decode cA_alarm 50 = .ok (.invokevirtual 98, 3) := by decide +kernel
theorem dA_alarm_53 : decode cA_alarm 53 = .ok (.aload_n 0, 1) := by decide +kernel
theorem dA_alarm_54 : decode cA_alarm 54 = .ok (.getfield 19, 3) := by decide +kernel
theorem dA_alarm_57 : decode cA_alarm 57 = .ok (.invokevirtual 31, 3) := by decide +kernel
theorem dA_alarm_60 : decode cA_alarm 60 = .ok (.iconst 1, 1) := by decide +kernel
theorem dA_alarm_61 : decode cA_alarm 61 = .ok (.isub, 1) := by decide +kernel
theorem dA_alarm_62 : decode cA_alarm 62 = .ok (.ireturn, 1) := by decide +kernel
theorem dA_requireAlarm_0 : decode cA_requireAlarm 0 = .ok (.iload_n 1, 1) := by decide +kernel
theorem dA_requireAlarm_1 : decode cA_requireAlarm 1 = .ok (.ifCond .lt 14, 3) := by decide +kernel
theorem dA_requireAlarm_4 : decode cA_requireAlarm 4 = .ok (.iload_n 1, 1) := by decide +kernel
theorem dA_requireAlarm_5 : decode cA_requireAlarm 5 = .ok (.aload_n 0, 1) := by decide +kernel
theorem dA_requireAlarm_6 : decode cA_requireAlarm 6 = .ok (.getfield 19, 3) := by decide +kernel
theorem dA_requireAlarm_9 : decode cA_requireAlarm 9 = .ok (.invokevirtual 31, 3) := by decide +kernel
theorem dA_requireAlarm_12 : decode cA_requireAlarm 12 = .ok (.if_icmp .lt 13, 3) := by decide +kernel
theorem dA_requireAlarm_15 : decode cA_requireAlarm 15 = .ok (.new 173, 3) := by decide +kernel
theorem dA_requireAlarm_18 : decode cA_requireAlarm 18 = .ok (.dup, 1) := by decide +kernel
theorem dA_requireAlarm_19 : decode cA_requireAlarm 19 = .ok (.ldc 220, 2) := by decide +kernel
theorem dA_requireAlarm_21 : decode cA_requireAlarm 21 = .ok (.invokespecial 177, 3) := by decide +kernel
theorem dA_requireAlarm_24 : decode cA_requireAlarm 24 = .ok (.athrow, 1) := by decide +kernel
theorem dA_requireAlarm_25 : decode cA_requireAlarm 25 = .ok (.return_, 1) := by decide +kernel
theorem dA_alarmOf_0 : decode cA_alarmOf 0 = .ok (.aload_n 0, 1) := by decide +kernel
theorem dA_alarmOf_1 : decode cA_alarmOf 1 = .ok (.iload_n 1, 1) := by decide +kernel
theorem dA_alarmOf_2 : decode cA_alarmOf 2 = .ok (.invokevirtual 224, 3) := by decide +kernel
theorem dA_alarmOf_5 : decode cA_alarmOf 5 = .ok (.aload_n 0, 1) := by decide +kernel
theorem dA_alarmOf_6 : decode cA_alarmOf 6 = .ok (.getfield 19, 3) := by decide +kernel
theorem dA_alarmOf_9 : decode cA_alarmOf 9 = .ok (.iload_n 1, 1) := by decide +kernel
theorem dA_alarmOf_10 : decode cA_alarmOf 10 = .ok (.invokevirtual 203, 3) := by decide +kernel
theorem dA_alarmOf_13 : decode cA_alarmOf 13 = .ok (.checkcast 112, 3) := by decide +kernel
theorem dA_alarmOf_16 : decode cA_alarmOf 16 = .ok (.areturn, 1) := by decide +kernel
theorem dA_noteLate_0 : decode cA_noteLate 0 = .ok (.aload_n 0, 1) := by decide +kernel
theorem dA_noteLate_1 : decode cA_noteLate 1 = .ok (.getfield 19, 3) := by decide +kernel
theorem dA_noteLate_4 : decode cA_noteLate 4 = .ok (.invokevirtual 31, 3) := by decide +kernel
theorem dA_noteLate_7 : decode cA_noteLate 7 = .ok (.iconst 1, 1) := by decide +kernel
theorem dA_noteLate_8 : decode cA_noteLate 8 = .ok (.isub, 1) := by decide +kernel
theorem dA_noteLate_9 : decode cA_noteLate 9 = .ok (.istore_n 3, 1) := by decide +kernel
theorem dA_noteLate_10 : decode cA_noteLate 10 = .ok (.iload_n 3, 1) := by decide +kernel
theorem dA_noteLate_11 : decode cA_noteLate 11 = .ok (.ifCond .lt 63, 3) := by decide +kernel
theorem dA_noteLate_14 : decode cA_noteLate 14 = .ok (.aload_n 0, 1) := by decide +kernel
theorem dA_noteLate_15 : decode cA_noteLate 15 = .ok (.getfield 19, 3) := by decide +kernel
theorem dA_noteLate_18 : decode cA_noteLate 18 = .ok (.iload_n 3, 1) := by decide +kernel
theorem dA_noteLate_19 : decode cA_noteLate 19 = .ok (.invokevirtual 203, 3) := by decide +kernel
theorem dA_noteLate_22 : decode cA_noteLate 22 = .ok (.checkcast 112, 3) := by decide +kernel
theorem dA_noteLate_25 : decode cA_noteLate 25 = .ok (.astore 4, 2) := by decide +kernel
theorem dA_noteLate_27 : decode cA_noteLate 27 = .ok (.aload 4, 2) := by decide +kernel
theorem dA_noteLate_29 : decode cA_noteLate 29 = .ok (.getfield 129, 3) := by decide +kernel
theorem dA_noteLate_32 : decode cA_noteLate 32 = .ok (.ifCond .ne 36, 3) := by decide +kernel
theorem dA_noteLate_35 : decode cA_noteLate 35 = .ok (.aload 4, 2) := by decide +kernel
theorem dA_noteLate_37 : decode cA_noteLate 37 = .ok (.iload_n 1, 1) := by decide +kernel
theorem dA_noteLate_38 : decode cA_noteLate 38 = .ok (.invokevirtual 242, 3) := by decide +kernel
theorem dA_noteLate_41 : decode cA_noteLate 41 = .ok (.ifCond .eq 27, 3) := by decide +kernel
theorem dA_noteLate_44 : decode cA_noteLate 44 = .ok (.aload 4, 2) := by decide +kernel
theorem dA_noteLate_46 : decode cA_noteLate 46 = .ok (.aload_n 0, 1) := by decide +kernel
theorem dA_noteLate_47 : decode cA_noteLate 47 = .ok (.getfield 119, 3) := by decide +kernel
theorem dA_noteLate_50 : decode cA_noteLate 50 = .ok (.iload_n 1, 1) := by decide +kernel
theorem dA_noteLate_51 : decode cA_noteLate 51 = .ok (.invokevirtual 122, 3) := by decide +kernel
theorem dA_noteLate_54 : decode cA_noteLate 54 = .ok (.ifCond .ne 5, 3) := by decide +kernel
theorem dA_noteLate_57 : decode cA_noteLate 57 = .ok (.iconst 3, 1) := by decide +kernel
theorem dA_noteLate_58 : decode cA_noteLate 58 = .ok (.ireturn, 1) := by decide +kernel
theorem dA_noteLate_59 : decode cA_noteLate 59 = .ok (.aload 4, 2) := by decide +kernel
theorem dA_noteLate_61 : decode cA_noteLate 61 = .ok (.iload_n 1, 1) := by decide +kernel
theorem dA_noteLate_62 : decode cA_noteLate 62 = .ok (.iload_n 2, 1) := by decide +kernel
theorem dA_noteLate_63 : decode cA_noteLate 63 = .ok (.invokevirtual 130, 3) := by decide +kernel
theorem dA_noteLate_66 : decode cA_noteLate 66 = .ok (.iconst 2, 1) := by decide +kernel
theorem dA_noteLate_67 : decode cA_noteLate 67 = .ok (.ireturn, 1) := by decide +kernel
theorem dA_noteLate_68 : decode cA_noteLate 68 = .ok (.iinc 3 (-1), 3) := by decide +kernel
theorem dA_noteLate_71 : decode cA_noteLate 71 = .ok (.goto (-61), 3) := by decide +kernel
theorem dA_noteLate_74 : decode cA_noteLate 74 = .ok (.iconst 3, 1) := by decide +kernel
theorem dA_noteLate_75 : decode cA_noteLate 75 = .ok (.ireturn, 1) := by decide +kernel
theorem dA_answer_0 : decode cA_answer 0 = .ok (.aload_n 0, 1) := by decide +kernel
theorem dA_answer_1 : decode cA_answer 1 = .ok (.iload_n 1, 1) := by decide +kernel
theorem dA_answer_2 : decode cA_answer 2 = .ok (.invokevirtual 102, 3) := by decide +kernel
theorem dA_answer_5 : decode cA_answer 5 = .ok (.astore 4, 2) := by decide +kernel
theorem dA_answer_7 : decode cA_answer 7 = .ok (.aload_n 0, 1) := by decide +kernel
theorem dA_answer_8 : decode cA_answer 8 = .ok (.iload_n 2, 1) := by decide +kernel
theorem dA_answer_9 : decode cA_answer 9 = .ok (.invokevirtual 106, 3) := by decide +kernel
theorem dA_answer_12 : decode cA_answer 12 = .ok (.iload_n 3, 1) := by decide +kernel
theorem dA_answer_13 : decode cA_answer 13 = .ok (.iconst (-1), 1) := by decide +kernel
theorem dA_answer_14 : decode cA_answer 14 = .ok (.if_icmp .lt 9, 3) := by decide +kernel
theorem dA_answer_17 : decode cA_answer 17 = .ok (.iload_n 3, 1) := by decide +kernel
theorem dA_answer_18 : decode cA_answer 18 = .ok (.bipush 120, 2) := by decide +kernel
theorem dA_answer_20 : decode cA_answer 20 = .ok (.if_icmp .le 13, 3) := by decide +kernel
theorem dA_answer_23 : decode cA_answer 23 = .ok (.new 22, 3) := by decide +kernel
theorem dA_answer_26 : decode cA_answer 26 = .ok (.dup, 1) := by decide +kernel
theorem dA_answer_27 : decode cA_answer 27 = .ok (.ldc 109, 2) := by decide +kernel
theorem dA_answer_29 : decode cA_answer 29 = .ok (.invokespecial 26, 3) := by decide +kernel
theorem dA_answer_32 : decode cA_answer 32 = .ok (.athrow, 1) := by decide +kernel
theorem dA_answer_33 : decode cA_answer 33 = .ok (.aload 4, 2) := by decide +kernel
theorem dA_answer_35 : decode cA_answer 35 = .ok (.iload_n 2, 1) := by decide +kernel
theorem dA_answer_36 : decode cA_answer 36 = .ok (.invokevirtual 111, 3) := by decide +kernel
theorem dA_answer_39 : decode cA_answer 39 = .ok (.ifCond .ne 13, 3) := by decide +kernel
theorem dA_answer_42 : decode cA_answer 42 = .ok (.new 57, 3) := by decide +kernel
theorem dA_answer_45 : decode cA_answer 45 = .ok (.dup, 1) := by decide +kernel
theorem dA_answer_46 : decode cA_answer 46 = .ok (.ldc 117, 2) := by decide +kernel
theorem dA_answer_48 : decode cA_answer 48 = .ok (.invokespecial 61, 3) := by decide +kernel
theorem dA_answer_51 : decode cA_answer 51 = .ok (.athrow, 1) := by decide +kernel
theorem dA_answer_52 : decode cA_answer 52 = .ok (.aload 4, 2) := by decide +kernel
theorem dA_answer_54 : decode cA_answer 54 = .ok (.aload_n 0, 1) := by decide +kernel
theorem dA_answer_55 : decode cA_answer 55 = .ok (.getfield 119, 3) := by decide +kernel
theorem dA_answer_58 : decode cA_answer 58 = .ok (.iload_n 2, 1) := by decide +kernel
theorem dA_answer_59 : decode cA_answer 59 = .ok (.invokevirtual 122, 3) := by decide +kernel
theorem dA_answer_62 : decode cA_answer 62 = .ok (.ifCond .ne 15, 3) := by decide +kernel
theorem dA_answer_65 : decode cA_answer 65 = .ok (.aload_n 0, 1) := by decide +kernel
theorem dA_answer_66 : decode cA_answer 66 = .ok (.dup, 1) := by decide +kernel
theorem dA_answer_67 : decode cA_answer 67 = .ok (.getfield 126, 3) := by decide +kernel
theorem dA_answer_70 : decode cA_answer 70 = .ok (.iconst 1, 1) := by decide +kernel
theorem dA_answer_71 : decode cA_answer 71 = .ok (.iadd, 1) := by decide +kernel
theorem dA_answer_72 : decode cA_answer 72 = .ok (.putfield 126, 3) := by decide +kernel
theorem dA_answer_75 : decode cA_answer 75 = .ok (.iconst 4, 1) := by decide +kernel
theorem dA_answer_76 : decode cA_answer 76 = .ok (.ireturn, 1) := by decide +kernel
theorem dA_answer_77 : decode cA_answer 77 = .ok (.aload 4, 2) := by decide +kernel
theorem dA_answer_79 : decode cA_answer 79 = .ok (.getfield 129, 3) := by decide +kernel
theorem dA_answer_82 : decode cA_answer 82 = .ok (.ifCond .ne 12, 3) := by decide +kernel
theorem dA_answer_85 : decode cA_answer 85 = .ok (.aload 4, 2) := by decide +kernel
theorem dA_answer_87 : decode cA_answer 87 = .ok (.iload_n 2, 1) := by decide +kernel
theorem dA_answer_88 : decode cA_answer 88 = .ok (.iload_n 3, 1) := by decide +kernel
theorem dA_answer_89 : decode cA_answer 89 = .ok (.invokevirtual 130, 3) := by decide +kernel
theorem dA_answer_92 : decode cA_answer 92 = .ok (.iconst 1, 1) := by decide +kernel
theorem dA_answer_93 : decode cA_answer 93 = .ok (.ireturn, 1) := by decide +kernel
theorem dA_answer_94 : decode cA_answer 94 = .ok (.aload_n 0, 1) := by decide +kernel
theorem dA_answer_95 : decode cA_answer 95 = .ok (.dup, 1) := by decide +kernel
theorem dA_answer_96 : decode cA_answer 96 = .ok (.getfield 133, 3) := by decide +kernel
theorem dA_answer_99 : decode cA_answer 99 = .ok (.iconst 1, 1) := by decide +kernel
theorem dA_answer_100 : decode cA_answer 100 = .ok (.iadd, 1) := by decide +kernel
theorem dA_answer_101 : decode cA_answer 101 = .ok (.putfield 133, 3) := by decide +kernel
theorem dA_answer_104 : decode cA_answer 104 = .ok (.aload_n 0, 1) := by decide +kernel
theorem dA_answer_105 : decode cA_answer 105 = .ok (.iload_n 2, 1) := by decide +kernel
theorem dA_answer_106 : decode cA_answer 106 = .ok (.iload_n 3, 1) := by decide +kernel
theorem dA_answer_107 : decode cA_answer 107 = .ok (.invokevirtual 136, 3) := by decide +kernel
theorem dA_answer_110 : decode cA_answer 110 = .ok (.ireturn, 1) := by decide +kernel
theorem dA_firstDue_0 : decode cA_firstDue 0 = .ok (.iconst (-1), 1) := by decide +kernel
theorem dA_firstDue_1 : decode cA_firstDue 1 = .ok (.istore_n 2, 1) := by decide +kernel
theorem dA_firstDue_2 : decode cA_firstDue 2 = .ok (.iload_n 1, 1) := by decide +kernel
theorem dA_firstDue_3 : decode cA_firstDue 3 = .ok (.iconst 1, 1) := by decide +kernel
theorem dA_firstDue_4 : decode cA_firstDue 4 = .ok (.iadd, 1) := by decide +kernel
theorem dA_firstDue_5 : decode cA_firstDue 5 = .ok (.istore_n 3, 1) := by decide +kernel
theorem dA_firstDue_6 : decode cA_firstDue 6 = .ok (.iconst 0, 1) := by decide +kernel
theorem dA_firstDue_7 : decode cA_firstDue 7 = .ok (.istore 4, 2) := by decide +kernel
theorem dA_firstDue_9 : decode cA_firstDue 9 = .ok (.iload 4, 2) := by decide +kernel
theorem dA_firstDue_11 : decode cA_firstDue 11 = .ok (.aload_n 0, 1) := by decide +kernel
theorem dA_firstDue_12 : decode cA_firstDue 12 = .ok (.getfield 19, 3) := by decide +kernel
theorem dA_firstDue_15 : decode cA_firstDue 15 = .ok (.invokevirtual 31, 3) := by decide +kernel
theorem dA_firstDue_18 : decode cA_firstDue 18 = .ok (.if_icmp .ge 49, 3) := by decide +kernel
theorem dA_firstDue_21 : decode cA_firstDue 21 = .ok (.aload_n 0, 1) := by decide +kernel
theorem dA_firstDue_22 : decode cA_firstDue 22 = .ok (.getfield 19, 3) := by decide +kernel
theorem dA_firstDue_25 : decode cA_firstDue 25 = .ok (.iload 4, 2) := by decide +kernel
theorem dA_firstDue_27 : decode cA_firstDue 27 = .ok (.invokevirtual 203, 3) := by decide +kernel
theorem dA_firstDue_30 : decode cA_firstDue 30 = .ok (.checkcast 112, 3) := by decide +kernel
theorem dA_firstDue_33 : decode cA_firstDue 33 = .ok (.astore 5, 2) := by decide +kernel
theorem dA_firstDue_35 : decode cA_firstDue 35 = .ok (.aload 5, 2) := by decide +kernel
theorem dA_firstDue_37 : decode cA_firstDue 37 = .ok (.getfield 129, 3) := by decide +kernel
theorem dA_firstDue_40 : decode cA_firstDue 40 = .ok (.ifCond .ne 21, 3) := by decide +kernel
theorem dA_firstDue_43 : decode cA_firstDue 43 = .ok (.aload 5, 2) := by decide +kernel
theorem dA_firstDue_45 : decode cA_firstDue 45 = .ok (.getfield 245, 3) := by decide +kernel
theorem dA_firstDue_48 : decode cA_firstDue 48 = .ok (.iload_n 3, 1) := by decide +kernel
theorem dA_firstDue_49 : decode cA_firstDue 49 = .ok (.if_icmp .ge 12, 3) := by decide +kernel
theorem dA_firstDue_52 : decode cA_firstDue 52 = .ok (.iload 4, 2) := by decide +kernel
theorem dA_firstDue_54 : decode cA_firstDue 54 = .ok (.istore_n 2, 1) := by decide +kernel
theorem dA_firstDue_55 : decode cA_firstDue 55 = .ok (.aload 5, 2) := by decide +kernel
theorem dA_firstDue_57 : decode cA_firstDue 57 = .ok (.getfield 245, 3) := by decide +kernel
theorem dA_firstDue_60 : decode cA_firstDue 60 = .ok (.istore_n 3, 1) := by decide +kernel
theorem dA_firstDue_61 : decode cA_firstDue 61 = .ok (.iinc 4 1, 3) := by decide +kernel
theorem dA_firstDue_64 : decode cA_firstDue 64 = .ok (.goto (-55), 3) := by decide +kernel
theorem dA_firstDue_67 : decode cA_firstDue 67 = .ok (.iload_n 2, 1) := by decide +kernel
theorem dA_firstDue_68 : decode cA_firstDue 68 = .ok (.ireturn, 1) := by decide +kernel
theorem dA_addUp_0 : decode cA_addUp 0 = .ok (.aload_n 2, 1) := by decide +kernel
theorem dA_addUp_1 : decode cA_addUp 1 = .ok (.dup, 1) := by decide +kernel
theorem dA_addUp_2 : decode cA_addUp 2 = .ok (.getfield 189, 3) := by decide +kernel
theorem dA_addUp_5 : decode cA_addUp 5 = .ok (.aload_n 1, 1) := by decide +kernel
theorem dA_addUp_6 : decode cA_addUp 6 = .ok (.invokevirtual 155, 3) := by decide +kernel
theorem dA_addUp_9 : decode cA_addUp 9 = .ok (.iadd, 1) := by decide +kernel
theorem dA_addUp_10 : decode cA_addUp 10 = .ok (.putfield 189, 3) := by decide +kernel
theorem dA_addUp_13 : decode cA_addUp 13 = .ok (.aload_n 2, 1) := by decide +kernel
theorem dA_addUp_14 : decode cA_addUp 14 = .ok (.dup, 1) := by decide +kernel
theorem dA_addUp_15 : decode cA_addUp 15 = .ok (.getfield 192, 3) := by decide +kernel
theorem dA_addUp_18 : decode cA_addUp 18 = .ok (.aload_n 1, 1) := by decide +kernel
theorem dA_addUp_19 : decode cA_addUp 19 = .ok (.invokevirtual 161, 3) := by decide +kernel
theorem dA_addUp_22 : decode cA_addUp 22 = .ok (.iadd, 1) := by decide +kernel
theorem dA_addUp_23 : decode cA_addUp 23 = .ok (.putfield 192, 3) := by decide +kernel
theorem dA_addUp_26 : decode cA_addUp 26 = .ok (.iconst 0, 1) := by decide +kernel
theorem dA_addUp_27 : decode cA_addUp 27 = .ok (.istore_n 3, 1) := by decide +kernel
theorem dA_addUp_28 : decode cA_addUp 28 = .ok (.iload_n 3, 1) := by decide +kernel
theorem dA_addUp_29 : decode cA_addUp 29 = .ok (.aload_n 0, 1) := by decide +kernel
theorem dA_addUp_30 : decode cA_addUp 30 = .ok (.getfield 16, 3) := by decide +kernel
theorem dA_addUp_33 : decode cA_addUp 33 = .ok (.invokevirtual 31, 3) := by decide +kernel
theorem dA_addUp_36 : decode cA_addUp 36 = .ok (.if_icmp .ge 36, 3) := by decide +kernel
theorem dA_addUp_39 : decode cA_addUp 39 = .ok (.aload_n 1, 1) := by decide +kernel
theorem dA_addUp_40 : decode cA_addUp 40 = .ok (.iload_n 3, 1) := by decide +kernel
theorem dA_addUp_41 : decode cA_addUp 41 = .ok (.invokevirtual 242, 3) := by decide +kernel
theorem dA_addUp_44 : decode cA_addUp 44 = .ok (.ifCond .eq 22, 3) := by decide +kernel
theorem dA_addUp_47 : decode cA_addUp 47 = .ok (.aload_n 0, 1) := by decide +kernel
theorem dA_addUp_48 : decode cA_addUp 48 = .ok (.getfield 16, 3) := by decide +kernel
theorem dA_addUp_51 : decode cA_addUp 51 = .ok (.iload_n 3, 1) := by decide +kernel
theorem dA_addUp_52 : decode cA_addUp 52 = .ok (.invokevirtual 203, 3) := by decide +kernel
theorem dA_addUp_55 : decode cA_addUp 55 = .ok (.checkcast 68, 3) := by decide +kernel
theorem dA_addUp_58 : decode cA_addUp 58 = .ok (.aload_n 1, 1) := by decide +kernel
theorem dA_addUp_59 : decode cA_addUp 59 = .ok (.iload_n 3, 1) := by decide +kernel
theorem dA_addUp_60 : decode cA_addUp 60 = .ok (.invokevirtual 265, 3) := by decide +kernel
theorem dA_addUp_63 : decode cA_addUp 63 = .ok (.invokevirtual 268, 3) := by decide +kernel
theorem dA_addUp_66 : decode cA_addUp 66 = .ok (.iinc 3 1, 3) := by decide +kernel
theorem dA_addUp_69 : decode cA_addUp 69 = .ok (.goto (-41), 3) := by decide +kernel
theorem dA_addUp_72 : decode cA_addUp 72 = .ok (.return_, 1) := by decide +kernel
theorem dA_raiseSecond_0 : decode cA_raiseSecond 0 = .ok (.iload_n 1, 1) := by decide +kernel
theorem dA_raiseSecond_1 : decode cA_raiseSecond 1 = .ok (.iconst (-1), 1) := by decide +kernel
theorem dA_raiseSecond_2 : decode cA_raiseSecond 2 = .ok (.if_icmp .eq 24, 3) := by decide +kernel
theorem dA_raiseSecond_5 : decode cA_raiseSecond 5 = .ok (.aload_n 0, 1) := by decide +kernel
theorem dA_raiseSecond_6 : decode cA_raiseSecond 6 = .ok (.getfield 19, 3) := by decide +kernel
theorem dA_raiseSecond_9 : decode cA_raiseSecond 9 = .ok (.invokevirtual 31, 3) := by decide +kernel
theorem dA_raiseSecond_12 : decode cA_raiseSecond 12 = .ok (.bipush 60, 2) := by decide +kernel
theorem dA_raiseSecond_14 : decode cA_raiseSecond 14 = .ok (.if_icmp .ge 12, 3) := by decide +kernel
theorem dA_raiseSecond_17 : decode cA_raiseSecond 17 = .ok (.aload_n 0, 1) := by decide +kernel
theorem dA_raiseSecond_18 : decode cA_raiseSecond 18 = .ok (.iload_n 1, 1) := by decide +kernel
theorem dA_raiseSecond_19 : decode cA_raiseSecond 19 = .ok (.iconst 0, 1) := by decide +kernel
theorem dA_raiseSecond_20 : decode cA_raiseSecond 20 = .ok (.invokevirtual 90, 3) := by decide +kernel
theorem dA_raiseSecond_23 : decode cA_raiseSecond 23 = .ok (.ifCond .ne 4, 3) := by decide +kernel
theorem dA_raiseSecond_26 : decode cA_raiseSecond 26 = .ok (.return_, 1) := by decide +kernel
theorem dA_raiseSecond_27 : decode cA_raiseSecond 27 = .ok (.aload_n 0, 1) := by decide +kernel
theorem dA_raiseSecond_28 : decode cA_raiseSecond 28 = .ok (.iload_n 1, 1) := by decide +kernel
theorem dA_raiseSecond_29 : decode cA_raiseSecond 29 = .ok (.iconst 0, 1) := by decide +kernel
theorem dA_raiseSecond_30 : decode cA_raiseSecond 30 = .ok (.iload_n 2, 1) := by decide +kernel
theorem dA_raiseSecond_31 : decode cA_raiseSecond 31 = .ok (.invokevirtual 98, 3) := by decide +kernel
theorem dA_raiseSecond_34 : decode cA_raiseSecond 34 = .ok (.aload_n 0, 1) := by decide +kernel
theorem dA_raiseSecond_35 : decode cA_raiseSecond 35 = .ok (.dup, 1) := by decide +kernel
theorem dA_raiseSecond_36 : decode cA_raiseSecond 36 = .ok (.getfield 145, 3) := by decide +kernel
theorem dA_raiseSecond_39 : decode cA_raiseSecond 39 = .ok (.iconst 1, 1) := by decide +kernel
theorem dA_raiseSecond_40 : decode cA_raiseSecond 40 = .ok (.iadd, 1) := by decide +kernel
theorem dA_raiseSecond_41 : decode cA_raiseSecond 41 = .ok (.putfield 145, 3) := by decide +kernel
theorem dA_raiseSecond_44 : decode cA_raiseSecond 44 = .ok (.return_, 1) := by decide +kernel
theorem dA_closeAlarm_0 : decode cA_closeAlarm 0 = .ok (.aload_n 0, 1) := by decide +kernel
theorem dA_closeAlarm_1 : decode cA_closeAlarm 1 = .ok (.iload_n 1, 1) := by decide +kernel
theorem dA_closeAlarm_2 : decode cA_closeAlarm 2 = .ok (.invokevirtual 102, 3) := by decide +kernel
theorem dA_closeAlarm_5 : decode cA_closeAlarm 5 = .ok (.astore_n 2, 1) := by decide +kernel
theorem dA_closeAlarm_6 : decode cA_closeAlarm 6 = .ok (.aload_n 0, 1) := by decide +kernel
theorem dA_closeAlarm_7 : decode cA_closeAlarm 7 = .ok (.aload_n 2, 1) := by decide +kernel
theorem dA_closeAlarm_8 : decode cA_closeAlarm 8 = .ok (.getfield 248, 3) := by decide +kernel
theorem dA_closeAlarm_11 : decode cA_closeAlarm 11 = .ok (.invokevirtual 49, 3) := by decide +kernel
theorem dA_closeAlarm_14 : decode cA_closeAlarm 14 = .ok (.astore_n 3, 1) := by decide +kernel
theorem dA_closeAlarm_15 : decode cA_closeAlarm 15 = .ok (.aload_n 0, 1) := by decide +kernel
theorem dA_closeAlarm_16 : decode cA_closeAlarm 16 = .ok (.aload_n 2, 1) := by decide +kernel
theorem dA_closeAlarm_17 : decode cA_closeAlarm 17 = .ok (.getfield 245, 3) := by decide +kernel
theorem dA_closeAlarm_20 : decode cA_closeAlarm 20 = .ok (.putfield 119, 3) := by decide +kernel
theorem dA_closeAlarm_23 : decode cA_closeAlarm 23 = .ok (.aload_n 2, 1) := by decide +kernel
theorem dA_closeAlarm_24 : decode cA_closeAlarm 24 = .ok (.aload_n 2, 1) := by decide +kernel
theorem dA_closeAlarm_25 : decode cA_closeAlarm 25 = .ok (.invokevirtual 164, 3) := by decide +kernel
theorem dA_closeAlarm_28 : decode cA_closeAlarm 28 = .ok (.aload_n 3, 1) := by decide +kernel
theorem dA_closeAlarm_29 : decode cA_closeAlarm 29 = .ok (.getfield 251, 3) := by decide +kernel
theorem dA_closeAlarm_32 : decode cA_closeAlarm 32 = .ok (.if_icmp .lt 7, 3) := by decide +kernel
theorem dA_closeAlarm_35 : decode cA_closeAlarm 35 = .ok (.iconst 1, 1) := by decide +kernel
theorem dA_closeAlarm_36 : decode cA_closeAlarm 36 = .ok (.goto 4, 3) := by decide +kernel
theorem dA_closeAlarm_39 : decode cA_closeAlarm 39 = .ok (.iconst 2, 1) := by decide +kernel
theorem dA_closeAlarm_40 : decode cA_closeAlarm 40 = .ok (.putfield 129, 3) := by decide +kernel
theorem dA_closeAlarm_43 : decode cA_closeAlarm 43 = .ok (.aload_n 0, 1) := by decide +kernel
theorem dA_closeAlarm_44 : decode cA_closeAlarm 44 = .ok (.aload_n 2, 1) := by decide +kernel
theorem dA_closeAlarm_45 : decode cA_closeAlarm 45 = .ok (.aload_n 3, 1) := by decide +kernel
theorem dA_closeAlarm_46 : decode cA_closeAlarm 46 = .ok (.invokevirtual 254, 3) := by decide +kernel
theorem dA_closeAlarm_49 : decode cA_closeAlarm 49 = .ok (.aload_n 2, 1) := by decide +kernel
theorem dA_closeAlarm_50 : decode cA_closeAlarm 50 = .ok (.getfield 129, 3) := by decide +kernel
theorem dA_closeAlarm_53 : decode cA_closeAlarm 53 = .ok (.iconst 2, 1) := by decide +kernel
theorem dA_closeAlarm_54 : decode cA_closeAlarm 54 = .ok (.if_icmp .ne 19, 3) := by decide +kernel
theorem dA_closeAlarm_57 : decode cA_closeAlarm 57 = .ok (.aload_n 2, 1) := by decide +kernel
theorem dA_closeAlarm_58 : decode cA_closeAlarm 58 = .ok (.getfield 258, 3) := by decide +kernel
theorem dA_closeAlarm_61 : decode cA_closeAlarm 61 = .ok (.ifCond .ne 12, 3) := by decide +kernel
theorem dA_closeAlarm_64 : decode cA_closeAlarm 64 = .ok (.aload_n 0, 1) := by decide +kernel
theorem dA_closeAlarm_65 : decode cA_closeAlarm 65 = .ok (.aload_n 3, 1) := by decide +kernel
theorem dA_closeAlarm_66 : decode cA_closeAlarm 66 = .ok (.getfield 62, 3) := by decide +kernel
theorem dA_closeAlarm_69 : decode cA_closeAlarm 69 = .ok (.iload_n 1, 1) := by decide +kernel
theorem dA_closeAlarm_70 : decode cA_closeAlarm 70 = .ok (.invokevirtual 262, 3) := by decide +kernel
theorem dA_closeAlarm_73 : decode cA_closeAlarm 73 = .ok (.return_, 1) := by decide +kernel
theorem dA_tick_0 : decode cA_tick 0 = .ok (.iload_n 1, 1) := by decide +kernel
theorem dA_tick_1 : decode cA_tick 1 = .ok (.iconst 1, 1) := by decide +kernel
theorem dA_tick_2 : decode cA_tick 2 = .ok (.if_icmp .lt 10, 3) := by decide +kernel
theorem dA_tick_5 : decode cA_tick 5 = .ok (.iload_n 1, 1) := by decide +kernel
theorem dA_tick_6 : decode cA_tick 6 = .ok (.sipush 5000, 3) := by decide +kernel
theorem dA_tick_9 : decode cA_tick 9 = .ok (.if_icmp .le 13, 3) := by decide +kernel
theorem dA_tick_12 : decode cA_tick 12 = .ok (.new 22, 3) := by decide +kernel
theorem dA_tick_15 : decode cA_tick 15 = .ok (.dup, 1) := by decide +kernel
theorem dA_tick_16 : decode cA_tick 16 = .ok (.ldc 140, 2) := by decide +kernel
theorem dA_tick_18 : decode cA_tick 18 = .ok (.invokespecial 26, 3) := by decide +kernel
theorem dA_tick_21 : decode cA_tick 21 = .ok (.athrow, 1) := by decide +kernel
theorem dA_tick_22 : decode cA_tick 22 = .ok (.iload_n 1, 1) := by decide +kernel
theorem dA_tick_23 : decode cA_tick 23 = .ok (.ldc 142, 2) := by decide +kernel
theorem dA_tick_25 : decode cA_tick 25 = .ok (.aload_n 0, 1) := by decide +kernel
theorem dA_tick_26 : decode cA_tick 26 = .ok (.getfield 119, 3) := by decide +kernel
theorem dA_tick_29 : decode cA_tick 29 = .ok (.isub, 1) := by decide +kernel
theorem dA_tick_30 : decode cA_tick 30 = .ok (.if_icmp .le 13, 3) := by decide +kernel
theorem dA_tick_33 : decode cA_tick 33 = .ok (.new 22, 3) := by decide +kernel
theorem dA_tick_36 : decode cA_tick 36 = .ok (.dup, 1) := by decide +kernel
theorem dA_tick_37 : decode cA_tick 37 = .ok (.ldc 143, 2) := by decide +kernel
theorem dA_tick_39 : decode cA_tick 39 = .ok (.invokespecial 26, 3) := by decide +kernel
theorem dA_tick_42 : decode cA_tick 42 = .ok (.athrow, 1) := by decide +kernel
theorem dA_tick_43 : decode cA_tick 43 = .ok (.aload_n 0, 1) := by decide +kernel
theorem dA_tick_44 : decode cA_tick 44 = .ok (.getfield 119, 3) := by decide +kernel
theorem dA_tick_47 : decode cA_tick 47 = .ok (.iload_n 1, 1) := by decide +kernel
theorem dA_tick_48 : decode cA_tick 48 = .ok (.iadd, 1) := by decide +kernel
theorem dA_tick_49 : decode cA_tick 49 = .ok (.istore_n 2, 1) := by decide +kernel
theorem dA_tick_50 : decode cA_tick 50 = .ok (.aload_n 0, 1) := by decide +kernel
theorem dA_tick_51 : decode cA_tick 51 = .ok (.getfield 145, 3) := by decide +kernel
theorem dA_tick_54 : decode cA_tick 54 = .ok (.istore_n 3, 1) := by decide +kernel
theorem dA_tick_55 : decode cA_tick 55 = .ok (.iconst 0, 1) := by decide +kernel
theorem dA_tick_56 : decode cA_tick 56 = .ok (.istore 4, 2) := by decide +kernel
theorem dA_tick_58 : decode cA_tick 58 = .ok (.iload 4, 2) := by decide +kernel
theorem dA_tick_60 : decode cA_tick 60 = .ok (.bipush 60, 2) := by decide +kernel
theorem dA_tick_62 : decode cA_tick 62 = .ok (.if_icmp .ge 31, 3) := by decide +kernel
theorem dA_tick_65 : decode cA_tick 65 = .ok (.aload_n 0, 1) := by decide +kernel
theorem dA_tick_66 : decode cA_tick 66 = .ok (.iload_n 2, 1) := by decide +kernel
theorem dA_tick_67 : decode cA_tick 67 = .ok (.invokevirtual 148, 3) := by decide +kernel
theorem dA_tick_70 : decode cA_tick 70 = .ok (.istore 5, 2) := by decide +kernel
theorem dA_tick_72 : decode cA_tick 72 = .ok (.iload 5, 2) := by decide +kernel
theorem dA_tick_74 : decode cA_tick 74 = .ok (.iconst (-1), 1) := by decide +kernel
theorem dA_tick_75 : decode cA_tick 75 = .ok (.if_icmp .ne 6, 3) := by decide +kernel
theorem dA_tick_78 : decode cA_tick 78 = .ok (.goto 15, 3) := by decide +kernel
theorem dA_tick_81 : decode cA_tick 81 = .ok (.aload_n 0, 1) := by decide +kernel
theorem dA_tick_82 : decode cA_tick 82 = .ok (.iload 5, 2) := by decide +kernel
theorem dA_tick_84 : decode cA_tick 84 = .ok (.invokevirtual 152, 3) := by decide +kernel
theorem dA_tick_87 : decode cA_tick 87 = .ok (.iinc 4 1, 3) := by decide +kernel
theorem dA_tick_90 : decode cA_tick 90 = .ok (.goto (-32), 3) := by decide +kernel
theorem dA_tick_93 : decode cA_tick 93 = .ok (.aload_n 0, 1) := by decide +kernel
theorem dA_tick_94 : decode cA_tick 94 = .ok (.iload_n 2, 1) := by decide +kernel
theorem dA_tick_95 : decode cA_tick 95 = .ok (.putfield 119, 3) := by decide +kernel
theorem dA_tick_98 : decode cA_tick 98 = .ok (.aload_n 0, 1) := by decide +kernel
theorem dA_tick_99 : decode cA_tick 99 = .ok (.getfield 145, 3) := by decide +kernel
theorem dA_tick_102 : decode cA_tick 102 = .ok (.iload_n 3, 1) := by decide +kernel
theorem dA_tick_103 : decode cA_tick 103 = .ok (.isub, 1) := by decide +kernel
theorem dA_tick_104 : decode cA_tick 104 = .ok (.ireturn, 1) := by decide +kernel
theorem dA_alarmAt_0 : decode cA_alarmAt 0 = .ok (.aload_n 0, 1) := by decide +kernel
theorem dA_alarmAt_1 : decode cA_alarmAt 1 = .ok (.iload_n 1, 1) := by decide +kernel
theorem dA_alarmAt_2 : decode cA_alarmAt 2 = .ok (.invokevirtual 102, 3) := by decide +kernel
theorem dA_alarmAt_5 : decode cA_alarmAt 5 = .ok (.astore_n 3, 1) := by decide +kernel
theorem dA_alarmAt_6 : decode cA_alarmAt 6 = .ok (.iload_n 2, 1) := by decide +kernel
theorem dA_alarmAt_7 : decode cA_alarmAt 7 = .ok (.tableswitch 76 0 6 #[41, 46, 51, 56, 61, 66, 71], 41) := by decide +kernel
theorem dA_alarmAt_48 : decode cA_alarmAt 48 = .ok (.aload_n 3, 1) := by decide +kernel
theorem dA_alarmAt_49 : decode cA_alarmAt 49 = .ok (.getfield 129, 3) := by decide +kernel
theorem dA_alarmAt_52 : decode cA_alarmAt 52 = .ok (.ireturn, 1) := by decide +kernel
theorem dA_alarmAt_53 : decode cA_alarmAt 53 = .ok (.aload_n 3, 1) := by decide +kernel
theorem dA_alarmAt_54 : decode cA_alarmAt 54 = .ok (.invokevirtual 155, 3) := by decide +kernel
theorem dA_alarmAt_57 : decode cA_alarmAt 57 = .ok (.ireturn, 1) := by decide +kernel
theorem dA_alarmAt_58 : decode cA_alarmAt 58 = .ok (.aload_n 3, 1) := by decide +kernel
theorem dA_alarmAt_59 : decode cA_alarmAt 59 = .ok (.invokevirtual 158, 3) := by decide +kernel
theorem dA_alarmAt_62 : decode cA_alarmAt 62 = .ok (.ireturn, 1) := by decide +kernel
theorem dA_alarmAt_63 : decode cA_alarmAt 63 = .ok (.aload_n 3, 1) := by decide +kernel
theorem dA_alarmAt_64 : decode cA_alarmAt 64 = .ok (.invokevirtual 161, 3) := by decide +kernel
theorem dA_alarmAt_67 : decode cA_alarmAt 67 = .ok (.ireturn, 1) := by decide +kernel
theorem dA_alarmAt_68 : decode cA_alarmAt 68 = .ok (.aload_n 3, 1) := by decide +kernel
theorem dA_alarmAt_69 : decode cA_alarmAt 69 = .ok (.invokevirtual 164, 3) := by decide +kernel
theorem dA_alarmAt_72 : decode cA_alarmAt 72 = .ok (.ireturn, 1) := by decide +kernel
theorem dA_alarmAt_73 : decode cA_alarmAt 73 = .ok (.aload_n 3, 1) := by decide +kernel
theorem dA_alarmAt_74 : decode cA_alarmAt 74 = .ok (.getfield 167, 3) := by decide +kernel
theorem dA_alarmAt_77 : decode cA_alarmAt 77 = .ok (.ireturn, 1) := by decide +kernel
theorem dA_alarmAt_78 : decode cA_alarmAt 78 = .ok (.aload_n 3, 1) := by decide +kernel
theorem dA_alarmAt_79 : decode cA_alarmAt 79 = .ok (.getfield 170, 3) := by decide +kernel
theorem dA_alarmAt_82 : decode cA_alarmAt 82 = .ok (.ireturn, 1) := by decide +kernel
theorem dA_alarmAt_83 : decode cA_alarmAt 83 = .ok (.new 173, 3) := by decide +kernel
theorem dA_alarmAt_86 : decode cA_alarmAt 86 = .ok (.dup, 1) := by decide +kernel
theorem dA_alarmAt_87 : decode cA_alarmAt 87 = .ok (.ldc 175, 2) := by decide +kernel
theorem dA_alarmAt_89 : decode cA_alarmAt 89 = .ok (.invokespecial 177, 3) := by decide +kernel
theorem dA_alarmAt_92 : decode cA_alarmAt 92 = .ok (.athrow, 1) := by decide +kernel
theorem dA_requireNotBelowZero_0 : decode cA_requireNotBelowZero 0 = .ok (.iload_n 0, 1) := by decide +kernel
theorem dA_requireNotBelowZero_1 : decode cA_requireNotBelowZero 1 = .ok (.ifCond .ge 13, 3) := by decide +kernel
theorem dA_requireNotBelowZero_4 : decode cA_requireNotBelowZero 4 = .ok (.new 22, 3) := by decide +kernel
theorem dA_requireNotBelowZero_7 : decode cA_requireNotBelowZero 7 = .ok (.dup, 1) := by decide +kernel
theorem dA_requireNotBelowZero_8 : decode cA_requireNotBelowZero 8 = .ok (.ldc 222, 2) := by decide +kernel
theorem dA_requireNotBelowZero_10 : decode cA_requireNotBelowZero 10 = .ok (.invokespecial 26, 3) := by decide +kernel
theorem dA_requireNotBelowZero_13 : decode cA_requireNotBelowZero 13 = .ok (.athrow, 1) := by decide +kernel
theorem dA_requireNotBelowZero_14 : decode cA_requireNotBelowZero 14 = .ok (.return_, 1) := by decide +kernel
theorem dA_comes_0 : decode cA_comes 0 = .ok (.aload_n 0, 1) := by decide +kernel
theorem dA_comes_1 : decode cA_comes 1 = .ok (.iload_n 1, 1) := by decide +kernel
theorem dA_comes_2 : decode cA_comes 2 = .ok (.invokevirtual 102, 3) := by decide +kernel
theorem dA_comes_5 : decode cA_comes 5 = .ok (.astore_n 3, 1) := by decide +kernel
theorem dA_comes_6 : decode cA_comes 6 = .ok (.iload_n 2, 1) := by decide +kernel
theorem dA_comes_7 : decode cA_comes 7 = .ok (.invokestatic 178, 3) := by decide +kernel
theorem dA_comes_10 : decode cA_comes 10 = .ok (.aload_n 3, 1) := by decide +kernel
theorem dA_comes_11 : decode cA_comes 11 = .ok (.iload_n 2, 1) := by decide +kernel
theorem dA_comes_12 : decode cA_comes 12 = .ok (.invokevirtual 181, 3) := by decide +kernel
theorem dA_comes_15 : decode cA_comes 15 = .ok (.ireturn, 1) := by decide +kernel
theorem dA_reached_0 : decode cA_reached 0 = .ok (.aload_n 0, 1) := by decide +kernel
theorem dA_reached_1 : decode cA_reached 1 = .ok (.iload_n 1, 1) := by decide +kernel
theorem dA_reached_2 : decode cA_reached 2 = .ok (.invokevirtual 102, 3) := by decide +kernel
theorem dA_reached_5 : decode cA_reached 5 = .ok (.astore_n 3, 1) := by decide +kernel
theorem dA_reached_6 : decode cA_reached 6 = .ok (.aload_n 0, 1) := by decide +kernel
theorem dA_reached_7 : decode cA_reached 7 = .ok (.iload_n 2, 1) := by decide +kernel
theorem dA_reached_8 : decode cA_reached 8 = .ok (.invokevirtual 106, 3) := by decide +kernel
theorem dA_reached_11 : decode cA_reached 11 = .ok (.aload_n 3, 1) := by decide +kernel
theorem dA_reached_12 : decode cA_reached 12 = .ok (.iload_n 2, 1) := by decide +kernel
theorem dA_reached_13 : decode cA_reached 13 = .ok (.invokevirtual 111, 3) := by decide +kernel
theorem dA_reached_16 : decode cA_reached 16 = .ok (.ifCond .eq 11, 3) := by decide +kernel
theorem dA_reached_19 : decode cA_reached 19 = .ok (.aload_n 3, 1) := by decide +kernel
theorem dA_reached_20 : decode cA_reached 20 = .ok (.iload_n 2, 1) := by decide +kernel
theorem dA_reached_21 : decode cA_reached 21 = .ok (.invokevirtual 184, 3) := by decide +kernel
theorem dA_reached_24 : decode cA_reached 24 = .ok (.goto 4, 3) := by decide +kernel
theorem dA_reached_27 : decode cA_reached 27 = .ok (.iconst (-1), 1) := by decide +kernel
theorem dA_reached_28 : decode cA_reached 28 = .ok (.ireturn, 1) := by decide +kernel
theorem dA_commonDivisor_0 : decode cA_commonDivisor 0 = .ok (.iload_n 0, 1) := by decide +kernel
theorem dA_commonDivisor_1 : decode cA_commonDivisor 1 = .ok (.istore_n 2, 1) := by decide +kernel
theorem dA_commonDivisor_2 : decode cA_commonDivisor 2 = .ok (.iload_n 1, 1) := by decide +kernel
theorem dA_commonDivisor_3 : decode cA_commonDivisor 3 = .ok (.istore_n 3, 1) := by decide +kernel
theorem dA_commonDivisor_4 : decode cA_commonDivisor 4 = .ok (.iconst 0, 1) := by decide +kernel
theorem dA_commonDivisor_5 : decode cA_commonDivisor 5 = .ok (.istore 4, 2) := by decide +kernel
theorem dA_commonDivisor_7 : decode cA_commonDivisor 7 = .ok (.iload 4, 2) := by decide +kernel
theorem dA_commonDivisor_9 : decode cA_commonDivisor 9 = .ok (.bipush 50, 2) := by decide +kernel
theorem dA_commonDivisor_11 : decode cA_commonDivisor 11 = .ok (.if_icmp .ge 23, 3) := by decide +kernel
theorem dA_commonDivisor_14 : decode cA_commonDivisor 14 = .ok (.iload_n 3, 1) := by decide +kernel
theorem dA_commonDivisor_15 : decode cA_commonDivisor 15 = .ok (.ifCond .eq 19, 3) := by decide +kernel
theorem dA_commonDivisor_18 : decode cA_commonDivisor 18 = .ok (.iload_n 2, 1) := by decide +kernel
theorem dA_commonDivisor_19 : decode cA_commonDivisor 19 = .ok (.iload_n 3, 1) := by decide +kernel
theorem dA_commonDivisor_20 : decode cA_commonDivisor 20 = .ok (.irem, 1) := by decide +kernel
theorem dA_commonDivisor_21 : decode cA_commonDivisor 21 = .ok (.istore 5, 2) := by decide +kernel
theorem dA_commonDivisor_23 : decode cA_commonDivisor 23 = .ok (.iload_n 3, 1) := by decide +kernel
theorem dA_commonDivisor_24 : decode cA_commonDivisor 24 = .ok (.istore_n 2, 1) := by decide +kernel
theorem dA_commonDivisor_25 : decode cA_commonDivisor 25 = .ok (.iload 5, 2) := by decide +kernel
theorem dA_commonDivisor_27 : decode cA_commonDivisor 27 = .ok (.istore_n 3, 1) := by decide +kernel
theorem dA_commonDivisor_28 : decode cA_commonDivisor 28 = .ok (.iinc 4 1, 3) := by decide +kernel
theorem dA_commonDivisor_31 : decode cA_commonDivisor 31 = .ok (.goto (-24), 3) := by decide +kernel
theorem dA_commonDivisor_34 : decode cA_commonDivisor 34 = .ok (.iload_n 2, 1) := by decide +kernel
theorem dA_commonDivisor_35 : decode cA_commonDivisor 35 = .ok (.ireturn, 1) := by decide +kernel
theorem dA_share_0 : decode cA_share 0 = .ok (.aload_n 0, 1) := by decide +kernel
theorem dA_share_1 : decode cA_share 1 = .ok (.iload_n 1, 1) := by decide +kernel
theorem dA_share_2 : decode cA_share 2 = .ok (.invokevirtual 49, 3) := by decide +kernel
theorem dA_share_5 : decode cA_share 5 = .ok (.astore_n 3, 1) := by decide +kernel
theorem dA_share_6 : decode cA_share 6 = .ok (.iload_n 2, 1) := by decide +kernel
theorem dA_share_7 : decode cA_share 7 = .ok (.ifCond .eq 18, 3) := by decide +kernel
theorem dA_share_10 : decode cA_share 10 = .ok (.iload_n 2, 1) := by decide +kernel
theorem dA_share_11 : decode cA_share 11 = .ok (.iconst 1, 1) := by decide +kernel
theorem dA_share_12 : decode cA_share 12 = .ok (.if_icmp .eq 13, 3) := by decide +kernel
theorem dA_share_15 : decode cA_share 15 = .ok (.new 173, 3) := by decide +kernel
theorem dA_share_18 : decode cA_share 18 = .ok (.dup, 1) := by decide +kernel
theorem dA_share_19 : decode cA_share 19 = .ok (.ldc 187, 2) := by decide +kernel
theorem dA_share_21 : decode cA_share 21 = .ok (.invokespecial 177, 3) := by decide +kernel
theorem dA_share_24 : decode cA_share 24 = .ok (.athrow, 1) := by decide +kernel
theorem dA_share_25 : decode cA_share 25 = .ok (.aload_n 3, 1) := by decide +kernel
theorem dA_share_26 : decode cA_share 26 = .ok (.getfield 189, 3) := by decide +kernel
theorem dA_share_29 : decode cA_share 29 = .ok (.aload_n 3, 1) := by decide +kernel
theorem dA_share_30 : decode cA_share 30 = .ok (.getfield 192, 3) := by decide +kernel
theorem dA_share_33 : decode cA_share 33 = .ok (.invokestatic 195, 3) := by decide +kernel
theorem dA_share_36 : decode cA_share 36 = .ok (.istore 4, 2) := by decide +kernel
theorem dA_share_38 : decode cA_share 38 = .ok (.iload 4, 2) := by decide +kernel
theorem dA_share_40 : decode cA_share 40 = .ok (.iconst 1, 1) := by decide +kernel
theorem dA_share_41 : decode cA_share 41 = .ok (.if_icmp .ge 13, 3) := by decide +kernel
theorem dA_share_44 : decode cA_share 44 = .ok (.new 198, 3) := by decide +kernel
theorem dA_share_47 : decode cA_share 47 = .ok (.dup, 1) := by decide +kernel
theorem dA_share_48 : decode cA_share 48 = .ok (.ldc 200, 2) := by decide +kernel
theorem dA_share_50 : decode cA_share 50 = .ok (.invokespecial 202, 3) := by decide +kernel
theorem dA_share_53 : decode cA_share 53 = .ok (.athrow, 1) := by decide +kernel
theorem dA_share_54 : decode cA_share 54 = .ok (.iload_n 2, 1) := by decide +kernel
theorem dA_share_55 : decode cA_share 55 = .ok (.ifCond .ne 10, 3) := by decide +kernel
theorem dA_share_58 : decode cA_share 58 = .ok (.aload_n 3, 1) := by decide +kernel
theorem dA_share_59 : decode cA_share 59 = .ok (.getfield 192, 3) := by decide +kernel
theorem dA_share_62 : decode cA_share 62 = .ok (.goto 7, 3) := by decide +kernel
theorem dA_share_65 : decode cA_share 65 = .ok (.aload_n 3, 1) := by decide +kernel
theorem dA_share_66 : decode cA_share 66 = .ok (.getfield 189, 3) := by decide +kernel
theorem dA_share_69 : decode cA_share 69 = .ok (.iload 4, 2) := by decide +kernel
theorem dA_share_71 : decode cA_share 71 = .ok (.idiv, 1) := by decide +kernel
theorem dA_share_72 : decode cA_share 72 = .ok (.ireturn, 1) := by decide +kernel
theorem dA_never_0 : decode cA_never 0 = .ok (.iload_n 1, 1) := by decide +kernel
theorem dA_never_1 : decode cA_never 1 = .ok (.invokestatic 178, 3) := by decide +kernel
theorem dA_never_4 : decode cA_never 4 = .ok (.iconst 0, 1) := by decide +kernel
theorem dA_never_5 : decode cA_never 5 = .ok (.istore_n 2, 1) := by decide +kernel
theorem dA_never_6 : decode cA_never 6 = .ok (.iconst 0, 1) := by decide +kernel
theorem dA_never_7 : decode cA_never 7 = .ok (.istore_n 3, 1) := by decide +kernel
theorem dA_never_8 : decode cA_never 8 = .ok (.iload_n 3, 1) := by decide +kernel
theorem dA_never_9 : decode cA_never 9 = .ok (.aload_n 0, 1) := by decide +kernel
theorem dA_never_10 : decode cA_never 10 = .ok (.getfield 16, 3) := by decide +kernel
theorem dA_never_13 : decode cA_never 13 = .ok (.invokevirtual 31, 3) := by decide +kernel
theorem dA_never_16 : decode cA_never 16 = .ok (.if_icmp .ge 36, 3) := by decide +kernel
theorem dA_never_19 : decode cA_never 19 = .ok (.aload_n 0, 1) := by decide +kernel
theorem dA_never_20 : decode cA_never 20 = .ok (.getfield 16, 3) := by decide +kernel
theorem dA_never_23 : decode cA_never 23 = .ok (.iload_n 3, 1) := by decide +kernel
theorem dA_never_24 : decode cA_never 24 = .ok (.invokevirtual 203, 3) := by decide +kernel
theorem dA_never_27 : decode cA_never 27 = .ok (.checkcast 68, 3) := by decide +kernel
theorem dA_never_30 : decode cA_never 30 = .ok (.invokevirtual 207, 3) := by decide +kernel
theorem dA_never_33 : decode cA_never 33 = .ok (.ifCond .eq 13, 3) := by decide +kernel
theorem dA_never_36 : decode cA_never 36 = .ok (.iload_n 2, 1) := by decide +kernel
theorem dA_never_37 : decode cA_never 37 = .ok (.iload_n 1, 1) := by decide +kernel
theorem dA_never_38 : decode cA_never 38 = .ok (.if_icmp .ne 5, 3) := by decide +kernel
theorem dA_never_41 : decode cA_never 41 = .ok (.iload_n 3, 1) := by decide +kernel
theorem dA_never_42 : decode cA_never 42 = .ok (.ireturn, 1) := by decide +kernel
theorem dA_never_43 : decode cA_never 43 = .ok (.iinc 2 1, 3) := by decide +kernel
theorem dA_never_46 : decode cA_never 46 = .ok (.iinc 3 1, 3) := by decide +kernel
theorem dA_never_49 : decode cA_never 49 = .ok (.goto (-41), 3) := by decide +kernel
theorem dA_never_52 : decode cA_never 52 = .ok (.iconst (-1), 1) := by decide +kernel
theorem dA_never_53 : decode cA_never 53 = .ok (.ireturn, 1) := by decide +kernel
theorem dA_openAlarms_0 : decode cA_openAlarms 0 = .ok (.iconst 0, 1) := by decide +kernel
theorem dA_openAlarms_1 : decode cA_openAlarms 1 = .ok (.istore_n 1, 1) := by decide +kernel
theorem dA_openAlarms_2 : decode cA_openAlarms 2 = .ok (.iconst 0, 1) := by decide +kernel
theorem dA_openAlarms_3 : decode cA_openAlarms 3 = .ok (.istore_n 2, 1) := by decide +kernel
theorem dA_openAlarms_4 : decode cA_openAlarms 4 = .ok (.iload_n 2, 1) := by decide +kernel
theorem dA_openAlarms_5 : decode cA_openAlarms 5 = .ok (.aload_n 0, 1) := by decide +kernel
theorem dA_openAlarms_6 : decode cA_openAlarms 6 = .ok (.getfield 19, 3) := by decide +kernel
theorem dA_openAlarms_9 : decode cA_openAlarms 9 = .ok (.invokevirtual 31, 3) := by decide +kernel
theorem dA_openAlarms_12 : decode cA_openAlarms 12 = .ok (.if_icmp .ge 29, 3) := by decide +kernel
theorem dA_openAlarms_15 : decode cA_openAlarms 15 = .ok (.aload_n 0, 1) := by decide +kernel
theorem dA_openAlarms_16 : decode cA_openAlarms 16 = .ok (.getfield 19, 3) := by decide +kernel
theorem dA_openAlarms_19 : decode cA_openAlarms 19 = .ok (.iload_n 2, 1) := by decide +kernel
theorem dA_openAlarms_20 : decode cA_openAlarms 20 = .ok (.invokevirtual 203, 3) := by decide +kernel
theorem dA_openAlarms_23 : decode cA_openAlarms 23 = .ok (.checkcast 112, 3) := by decide +kernel
theorem dA_openAlarms_26 : decode cA_openAlarms 26 = .ok (.getfield 129, 3) := by decide +kernel
theorem dA_openAlarms_29 : decode cA_openAlarms 29 = .ok (.ifCond .ne 6, 3) := by decide +kernel
theorem dA_openAlarms_32 : decode cA_openAlarms 32 = .ok (.iinc 1 1, 3) := by decide +kernel
theorem dA_openAlarms_35 : decode cA_openAlarms 35 = .ok (.iinc 2 1, 3) := by decide +kernel
theorem dA_openAlarms_38 : decode cA_openAlarms 38 = .ok (.goto (-34), 3) := by decide +kernel
theorem dA_openAlarms_41 : decode cA_openAlarms 41 = .ok (.iload_n 1, 1) := by decide +kernel
theorem dA_openAlarms_42 : decode cA_openAlarms 42 = .ok (.ireturn, 1) := by decide +kernel
theorem dA_count_0 : decode cA_count 0 = .ok (.iload_n 1, 1) := by decide +kernel
theorem dA_count_1 : decode cA_count 1 = .ok (.tableswitch 60 0 4 #[35, 40, 45, 50, 55], 35) := by decide +kernel
theorem dA_count_36 : decode cA_count 36 = .ok (.aload_n 0, 1) := by decide +kernel
theorem dA_count_37 : decode cA_count 37 = .ok (.getfield 119, 3) := by decide +kernel
theorem dA_count_40 : decode cA_count 40 = .ok (.ireturn, 1) := by decide +kernel
theorem dA_count_41 : decode cA_count 41 = .ok (.aload_n 0, 1) := by decide +kernel
theorem dA_count_42 : decode cA_count 42 = .ok (.invokevirtual 211, 3) := by decide +kernel
theorem dA_count_45 : decode cA_count 45 = .ok (.ireturn, 1) := by decide +kernel
theorem dA_count_46 : decode cA_count 46 = .ok (.aload_n 0, 1) := by decide +kernel
theorem dA_count_47 : decode cA_count 47 = .ok (.getfield 133, 3) := by decide +kernel
theorem dA_count_50 : decode cA_count 50 = .ok (.ireturn, 1) := by decide +kernel
theorem dA_count_51 : decode cA_count 51 = .ok (.aload_n 0, 1) := by decide +kernel
theorem dA_count_52 : decode cA_count 52 = .ok (.getfield 126, 3) := by decide +kernel
theorem dA_count_55 : decode cA_count 55 = .ok (.ireturn, 1) := by decide +kernel
theorem dA_count_56 : decode cA_count 56 = .ok (.aload_n 0, 1) := by decide +kernel
theorem dA_count_57 : decode cA_count 57 = .ok (.getfield 145, 3) := by decide +kernel
theorem dA_count_60 : decode cA_count 60 = .ok (.ireturn, 1) := by decide +kernel
theorem dA_count_61 : decode cA_count 61 = .ok (.new 173, 3) := by decide +kernel
theorem dA_count_64 : decode cA_count 64 = .ok (.dup, 1) := by decide +kernel
theorem dA_count_65 : decode cA_count 65 = .ok (.ldc 214, 2) := by decide +kernel
theorem dA_count_67 : decode cA_count 67 = .ok (.invokespecial 177, 3) := by decide +kernel
theorem dA_count_70 : decode cA_count 70 = .ok (.athrow, 1) := by decide +kernel
