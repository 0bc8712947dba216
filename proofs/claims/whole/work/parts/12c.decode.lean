theorem dM_init_0 : decode cM_init 0 = .ok (.aload_n 0, 1) := by decide +kernel
theorem dM_init_1 : decode cM_init 1 = .ok (.invokespecial 1, 3) := by decide +kernel
theorem dM_init_4 : decode cM_init 4 = .ok (.aload_n 0, 1) := by decide +kernel
theorem dM_init_5 : decode cM_init 5 = .ok (.bipush 12, 2) := by decide +kernel
theorem dM_init_7 : decode cM_init 7 = .ok (.newarray .int, 2) := by decide +kernel
theorem dM_init_9 : decode cM_init 9 = .ok (.putfield 7, 3) := by decide +kernel
theorem dM_init_12 : decode cM_init 12 = .ok (.aload_n 0, 1) := by decide +kernel
theorem dM_init_13 : decode cM_init 13 = .ok (.bipush 12, 2) := by decide +kernel
theorem dM_init_15 : decode cM_init 15 = .ok (.newarray .int, 2) := by decide +kernel
theorem dM_init_17 : decode cM_init 17 = .ok (.putfield 13, 3) := by decide +kernel
theorem dM_init_20 : decode cM_init 20 = .ok (.aload_n 0, 1) := by decide +kernel
theorem dM_init_21 : decode cM_init 21 = .ok (.bipush 12, 2) := by decide +kernel
theorem dM_init_23 : decode cM_init 23 = .ok (.newarray .int, 2) := by decide +kernel
theorem dM_init_25 : decode cM_init 25 = .ok (.putfield 16, 3) := by decide +kernel
theorem dM_init_28 : decode cM_init 28 = .ok (.aload_n 0, 1) := by decide +kernel
theorem dM_init_29 : decode cM_init 29 = .ok (.bipush 60, 2) := by decide +kernel
theorem dM_init_31 : decode cM_init 31 = .ok (.newarray .int, 2) := by decide +kernel
theorem dM_init_33 : decode cM_init 33 = .ok (.putfield 19, 3) := by decide +kernel
theorem dM_init_36 : decode cM_init 36 = .ok (.aload_n 0, 1) := by decide +kernel
theorem dM_init_37 : decode cM_init 37 = .ok (.bipush 60, 2) := by decide +kernel
theorem dM_init_39 : decode cM_init 39 = .ok (.newarray .int, 2) := by decide +kernel
theorem dM_init_41 : decode cM_init 41 = .ok (.putfield 22, 3) := by decide +kernel
theorem dM_init_44 : decode cM_init 44 = .ok (.aload_n 0, 1) := by decide +kernel
theorem dM_init_45 : decode cM_init 45 = .ok (.sipush 180, 3) := by decide +kernel
theorem dM_init_48 : decode cM_init 48 = .ok (.newarray .int, 2) := by decide +kernel
theorem dM_init_50 : decode cM_init 50 = .ok (.putfield 25, 3) := by decide +kernel
theorem dM_init_53 : decode cM_init 53 = .ok (.aload_n 0, 1) := by decide +kernel
theorem dM_init_54 : decode cM_init 54 = .ok (.sipush 180, 3) := by decide +kernel
theorem dM_init_57 : decode cM_init 57 = .ok (.newarray .boolean, 2) := by decide +kernel
theorem dM_init_59 : decode cM_init 59 = .ok (.putfield 28, 3) := by decide +kernel
theorem dM_init_62 : decode cM_init 62 = .ok (.aload_n 0, 1) := by decide +kernel
theorem dM_init_63 : decode cM_init 63 = .ok (.bipush 60, 2) := by decide +kernel
theorem dM_init_65 : decode cM_init 65 = .ok (.newarray .int, 2) := by decide +kernel
theorem dM_init_67 : decode cM_init 67 = .ok (.putfield 32, 3) := by decide +kernel
theorem dM_init_70 : decode cM_init 70 = .ok (.aload_n 0, 1) := by decide +kernel
theorem dM_init_71 : decode cM_init 71 = .ok (.bipush 60, 2) := by decide +kernel
theorem dM_init_73 : decode cM_init 73 = .ok (.newarray .int, 2) := by decide +kernel
theorem dM_init_75 : decode cM_init 75 = .ok (.putfield 35, 3) := by decide +kernel
theorem dM_init_78 : decode cM_init 78 = .ok (.aload_n 0, 1) := by decide +kernel
theorem dM_init_79 : decode cM_init 79 = .ok (.bipush 60, 2) := by decide +kernel
theorem dM_init_81 : decode cM_init 81 = .ok (.newarray .boolean, 2) := by decide +kernel
theorem dM_init_83 : decode cM_init 83 = .ok (.putfield 38, 3) := by decide +kernel
theorem dM_init_86 : decode cM_init 86 = .ok (.aload_n 0, 1) := by decide +kernel
theorem dM_init_87 : decode cM_init 87 = .ok (.bipush 60, 2) := by decide +kernel
theorem dM_init_89 : decode cM_init 89 = .ok (.newarray .int, 2) := by decide +kernel
theorem dM_init_91 : decode cM_init 91 = .ok (.putfield 41, 3) := by decide +kernel
theorem dM_init_94 : decode cM_init 94 = .ok (.aload_n 0, 1) := by decide +kernel
theorem dM_init_95 : decode cM_init 95 = .ok (.bipush 60, 2) := by decide +kernel
theorem dM_init_97 : decode cM_init 97 = .ok (.newarray .int, 2) := by decide +kernel
theorem dM_init_99 : decode cM_init 99 = .ok (.putfield 44, 3) := by decide +kernel
theorem dM_init_102 : decode cM_init 102 = .ok (.aload_n 0, 1) := by decide +kernel
theorem dM_init_103 : decode cM_init 103 = .ok (.bipush 60, 2) := by decide +kernel
theorem dM_init_105 : decode cM_init 105 = .ok (.newarray .int, 2) := by decide +kernel
theorem dM_init_107 : decode cM_init 107 = .ok (.putfield 47, 3) := by decide +kernel
theorem dM_init_110 : decode cM_init 110 = .ok (.aload_n 0, 1) := by decide +kernel
theorem dM_init_111 : decode cM_init 111 = .ok (.sipush 3600, 3) := by decide +kernel
theorem dM_init_114 : decode cM_init 114 = .ok (.newarray .boolean, 2) := by decide +kernel
theorem dM_init_116 : decode cM_init 116 = .ok (.putfield 50, 3) := by decide +kernel
theorem dM_init_119 : decode cM_init 119 = .ok (.aload_n 0, 1) := by decide +kernel
theorem dM_init_120 : decode cM_init 120 = .ok (.sipush 3600, 3) := by decide +kernel
theorem dM_init_123 : decode cM_init 123 = .ok (.newarray .int, 2) := by decide +kernel
theorem dM_init_125 : decode cM_init 125 = .ok (.putfield 53, 3) := by decide +kernel
theorem dM_init_128 : decode cM_init 128 = .ok (.aload_n 0, 1) := by decide +kernel
theorem dM_init_129 : decode cM_init 129 = .ok (.sipush 3600, 3) := by decide +kernel
theorem dM_init_132 : decode cM_init 132 = .ok (.newarray .int, 2) := by decide +kernel
theorem dM_init_134 : decode cM_init 134 = .ok (.putfield 56, 3) := by decide +kernel
theorem dM_init_137 : decode cM_init 137 = .ok (.aload_n 0, 1) := by decide +kernel
theorem dM_init_138 : decode cM_init 138 = .ok (.sipush 3600, 3) := by decide +kernel
theorem dM_init_141 : decode cM_init 141 = .ok (.newarray .int, 2) := by decide +kernel
theorem dM_init_143 : decode cM_init 143 = .ok (.putfield 59, 3) := by decide +kernel
theorem dM_init_146 : decode cM_init 146 = .ok (.return_, 1) := by decide +kernel
theorem dM_thrown_0 : decode cM_thrown 0 = .ok (.aload_n 0, 1) := by decide +kernel
theorem dM_thrown_1 : decode cM_thrown 1 = .ok (.getfield 62, 3) := by decide +kernel
theorem dM_thrown_4 : decode cM_thrown 4 = .ok (.ireturn, 1) := by decide +kernel
theorem dM_in_0 : decode cM_in 0 = .ok (.iload_n 0, 1) := by decide +kernel
theorem dM_in_1 : decode cM_in 1 = .ok (.iload_n 1, 1) := by decide +kernel
theorem dM_in_2 : decode cM_in 2 = .ok (.if_icmp .lt 12, 3) := by decide +kernel
theorem dM_in_5 : decode cM_in 5 = .ok (.iload_n 0, 1) := by decide +kernel
theorem dM_in_6 : decode cM_in 6 = .ok (.iload_n 2, 1) := by decide +kernel
theorem dM_in_7 : decode cM_in 7 = .ok (.if_icmp .gt 7, 3) := by decide +kernel
theorem dM_in_10 : decode cM_in 10 = .ok (.iconst 1, 1) := by decide +kernel
theorem dM_in_11 : decode cM_in 11 = .ok (.goto 4, 3) := by decide +kernel
theorem dM_in_14 : decode cM_in 14 = .ok (.iconst 0, 1) := by decide +kernel
theorem dM_in_15 : decode cM_in 15 = .ok (.ireturn, 1) := by decide +kernel
theorem dM_goes_0 : decode cM_goes 0 = .ok (.aload_n 0, 1) := by decide +kernel
theorem dM_goes_1 : decode cM_goes 1 = .ok (.iload_n 1, 1) := by decide +kernel
theorem dM_goes_2 : decode cM_goes 2 = .ok (.ifCond .ne 7, 3) := by decide +kernel
theorem dM_goes_5 : decode cM_goes 5 = .ok (.iconst 1, 1) := by decide +kernel
theorem dM_goes_6 : decode cM_goes 6 = .ok (.goto 20, 3) := by decide +kernel
theorem dM_goes_9 : decode cM_goes 9 = .ok (.iload_n 2, 1) := by decide +kernel
theorem dM_goes_10 : decode cM_goes 10 = .ok (.ifCond .ne 7, 3) := by decide +kernel
theorem dM_goes_13 : decode cM_goes 13 = .ok (.iconst 2, 1) := by decide +kernel
theorem dM_goes_14 : decode cM_goes 14 = .ok (.goto 12, 3) := by decide +kernel
theorem dM_goes_17 : decode cM_goes 17 = .ok (.iload_n 3, 1) := by decide +kernel
theorem dM_goes_18 : decode cM_goes 18 = .ok (.ifCond .ne 7, 3) := by decide +kernel
theorem dM_goes_21 : decode cM_goes 21 = .ok (.iconst 3, 1) := by decide +kernel
theorem dM_goes_22 : decode cM_goes 22 = .ok (.goto 4, 3) := by decide +kernel
theorem dM_goes_25 : decode cM_goes 25 = .ok (.iconst 0, 1) := by decide +kernel
theorem dM_goes_26 : decode cM_goes 26 = .ok (.putfield 62, 3) := by decide +kernel
theorem dM_goes_29 : decode cM_goes 29 = .ok (.aload_n 0, 1) := by decide +kernel
theorem dM_goes_30 : decode cM_goes 30 = .ok (.getfield 62, 3) := by decide +kernel
theorem dM_goes_33 : decode cM_goes 33 = .ok (.ifCond .ne 7, 3) := by decide +kernel
theorem dM_goes_36 : decode cM_goes 36 = .ok (.iconst 1, 1) := by decide +kernel
theorem dM_goes_37 : decode cM_goes 37 = .ok (.goto 4, 3) := by decide +kernel
theorem dM_goes_40 : decode cM_goes 40 = .ok (.iconst 0, 1) := by decide +kernel
theorem dM_goes_41 : decode cM_goes 41 = .ok (.ireturn, 1) := by decide +kernel
theorem dM_group_0 : decode cM_group 0 = .ok (.aload_n 0, 1) := by decide +kernel
theorem dM_group_1 : decode cM_group 1 = .ok (.iload_n 1, 1) := by decide +kernel
theorem dM_group_2 : decode cM_group 2 = .ok (.iconst 1, 1) := by decide +kernel
theorem dM_group_3 : decode cM_group 3 = .ok (.bipush 20, 2) := by decide +kernel
theorem dM_group_5 : decode cM_group 5 = .ok (.invokestatic 69, 3) := by decide +kernel
theorem dM_group_8 : decode cM_group 8 = .ok (.ifCond .eq 18, 3) := by decide +kernel
theorem dM_group_11 : decode cM_group 11 = .ok (.iload_n 2, 1) := by decide +kernel
theorem dM_group_12 : decode cM_group 12 = .ok (.iconst 1, 1) := by decide +kernel
theorem dM_group_13 : decode cM_group 13 = .ok (.sipush 3600, 3) := by decide +kernel
theorem dM_group_16 : decode cM_group 16 = .ok (.invokestatic 69, 3) := by decide +kernel
theorem dM_group_19 : decode cM_group 19 = .ok (.ifCond .eq 7, 3) := by decide +kernel
theorem dM_group_22 : decode cM_group 22 = .ok (.iconst 1, 1) := by decide +kernel
theorem dM_group_23 : decode cM_group 23 = .ok (.goto 4, 3) := by decide +kernel
theorem dM_group_26 : decode cM_group 26 = .ok (.iconst 0, 1) := by decide +kernel
theorem dM_group_27 : decode cM_group 27 = .ok (.aload_n 0, 1) := by decide +kernel
theorem dM_group_28 : decode cM_group 28 = .ok (.getfield 66, 3) := by decide +kernel
theorem dM_group_31 : decode cM_group 31 = .ok (.bipush 12, 2) := by decide +kernel
theorem dM_group_33 : decode cM_group 33 = .ok (.if_icmp .ge 7, 3) := by decide +kernel
theorem dM_group_36 : decode cM_group 36 = .ok (.iconst 1, 1) := by decide +kernel
theorem dM_group_37 : decode cM_group 37 = .ok (.goto 4, 3) := by decide +kernel
theorem dM_group_40 : decode cM_group 40 = .ok (.iconst 0, 1) := by decide +kernel
theorem dM_group_41 : decode cM_group 41 = .ok (.iconst 1, 1) := by decide +kernel
theorem dM_group_42 : decode cM_group 42 = .ok (.invokevirtual 79, 3) := by decide +kernel
theorem dM_group_45 : decode cM_group 45 = .ok (.ifCond .ne 5, 3) := by decide +kernel
theorem dM_group_48 : decode cM_group 48 = .ok (.iconst 0, 1) := by decide +kernel
theorem dM_group_49 : decode cM_group 49 = .ok (.ireturn, 1) := by decide +kernel
theorem dM_group_50 : decode cM_group 50 = .ok (.aload_n 0, 1) := by decide +kernel
theorem dM_group_51 : decode cM_group 51 = .ok (.getfield 7, 3) := by decide +kernel
theorem dM_group_54 : decode cM_group 54 = .ok (.aload_n 0, 1) := by decide +kernel
theorem dM_group_55 : decode cM_group 55 = .ok (.getfield 66, 3) := by decide +kernel
theorem dM_group_58 : decode cM_group 58 = .ok (.iload_n 1, 1) := by decide +kernel
theorem dM_group_59 : decode cM_group 59 = .ok (.iastore, 1) := by decide +kernel
theorem dM_group_60 : decode cM_group 60 = .ok (.aload_n 0, 1) := by decide +kernel
theorem dM_group_61 : decode cM_group 61 = .ok (.getfield 13, 3) := by decide +kernel
theorem dM_group_64 : decode cM_group 64 = .ok (.aload_n 0, 1) := by decide +kernel
theorem dM_group_65 : decode cM_group 65 = .ok (.getfield 66, 3) := by decide +kernel
theorem dM_group_68 : decode cM_group 68 = .ok (.iload_n 2, 1) := by decide +kernel
theorem dM_group_69 : decode cM_group 69 = .ok (.iastore, 1) := by decide +kernel
theorem dM_group_70 : decode cM_group 70 = .ok (.aload_n 0, 1) := by decide +kernel
theorem dM_group_71 : decode cM_group 71 = .ok (.getfield 16, 3) := by decide +kernel
theorem dM_group_74 : decode cM_group 74 = .ok (.aload_n 0, 1) := by decide +kernel
theorem dM_group_75 : decode cM_group 75 = .ok (.getfield 66, 3) := by decide +kernel
theorem dM_group_78 : decode cM_group 78 = .ok (.iconst (-1), 1) := by decide +kernel
theorem dM_group_79 : decode cM_group 79 = .ok (.iastore, 1) := by decide +kernel
theorem dM_group_80 : decode cM_group 80 = .ok (.aload_n 0, 1) := by decide +kernel
theorem dM_group_81 : decode cM_group 81 = .ok (.dup, 1) := by decide +kernel
theorem dM_group_82 : decode cM_group 82 = .ok (.getfield 66, 3) := by decide +kernel
theorem dM_group_85 : decode cM_group 85 = .ok (.iconst 1, 1) := by decide +kernel
theorem dM_group_86 : decode cM_group 86 = .ok (.iadd, 1) := by decide +kernel
theorem dM_group_87 : decode cM_group 87 = .ok (.putfield 66, 3) := by decide +kernel
theorem dM_group_90 : decode cM_group 90 = .ok (.aload_n 0, 1) := by decide +kernel
theorem dM_group_91 : decode cM_group 91 = .ok (.getfield 66, 3) := by decide +kernel
theorem dM_group_94 : decode cM_group 94 = .ok (.iconst 1, 1) := by decide +kernel
theorem dM_group_95 : decode cM_group 95 = .ok (.isub, 1) := by decide +kernel
theorem dM_group_96 : decode cM_group 96 = .ok (.ireturn, 1) := by decide +kernel
theorem dM_isGroup_0 : decode cM_isGroup 0 = .ok (.iload_n 1, 1) := by decide +kernel
theorem dM_isGroup_1 : decode cM_isGroup 1 = .ok (.iconst 0, 1) := by decide +kernel
theorem dM_isGroup_2 : decode cM_isGroup 2 = .ok (.aload_n 0, 1) := by decide +kernel
theorem dM_isGroup_3 : decode cM_isGroup 3 = .ok (.getfield 66, 3) := by decide +kernel
theorem dM_isGroup_6 : decode cM_isGroup 6 = .ok (.iconst 1, 1) := by decide +kernel
theorem dM_isGroup_7 : decode cM_isGroup 7 = .ok (.isub, 1) := by decide +kernel
theorem dM_isGroup_8 : decode cM_isGroup 8 = .ok (.invokestatic 69, 3) := by decide +kernel
theorem dM_isGroup_11 : decode cM_isGroup 11 = .ok (.ireturn, 1) := by decide +kernel
theorem dM_next_0 : decode cM_next 0 = .ok (.aload_n 0, 1) := by decide +kernel
theorem dM_next_1 : decode cM_next 1 = .ok (.aload_n 0, 1) := by decide +kernel
theorem dM_next_2 : decode cM_next 2 = .ok (.iload_n 1, 1) := by decide +kernel
theorem dM_next_3 : decode cM_next 3 = .ok (.invokevirtual 83, 3) := by decide +kernel
theorem dM_next_6 : decode cM_next 6 = .ok (.ifCond .eq 20, 3) := by decide +kernel
theorem dM_next_9 : decode cM_next 9 = .ok (.iload_n 2, 1) := by decide +kernel
theorem dM_next_10 : decode cM_next 10 = .ok (.iconst (-1), 1) := by decide +kernel
theorem dM_next_11 : decode cM_next 11 = .ok (.if_icmp .eq 11, 3) := by decide +kernel
theorem dM_next_14 : decode cM_next 14 = .ok (.aload_n 0, 1) := by decide +kernel
theorem dM_next_15 : decode cM_next 15 = .ok (.iload_n 2, 1) := by decide +kernel
theorem dM_next_16 : decode cM_next 16 = .ok (.invokevirtual 83, 3) := by decide +kernel
theorem dM_next_19 : decode cM_next 19 = .ok (.ifCond .eq 7, 3) := by decide +kernel
theorem dM_next_22 : decode cM_next 22 = .ok (.iconst 1, 1) := by decide +kernel
theorem dM_next_23 : decode cM_next 23 = .ok (.goto 4, 3) := by decide +kernel
theorem dM_next_26 : decode cM_next 26 = .ok (.iconst 0, 1) := by decide +kernel
theorem dM_next_27 : decode cM_next 27 = .ok (.iload_n 2, 1) := by decide +kernel
theorem dM_next_28 : decode cM_next 28 = .ok (.iconst (-1), 1) := by decide +kernel
theorem dM_next_29 : decode cM_next 29 = .ok (.if_icmp .eq 8, 3) := by decide +kernel
theorem dM_next_32 : decode cM_next 32 = .ok (.iload_n 2, 1) := by decide +kernel
theorem dM_next_33 : decode cM_next 33 = .ok (.iload_n 1, 1) := by decide +kernel
theorem dM_next_34 : decode cM_next 34 = .ok (.if_icmp .le 7, 3) := by decide +kernel
theorem dM_next_37 : decode cM_next 37 = .ok (.iconst 1, 1) := by decide +kernel
theorem dM_next_38 : decode cM_next 38 = .ok (.goto 4, 3) := by decide +kernel
theorem dM_next_41 : decode cM_next 41 = .ok (.iconst 0, 1) := by decide +kernel
theorem dM_next_42 : decode cM_next 42 = .ok (.iconst 1, 1) := by decide +kernel
theorem dM_next_43 : decode cM_next 43 = .ok (.invokevirtual 79, 3) := by decide +kernel
theorem dM_next_46 : decode cM_next 46 = .ok (.ifCond .eq 10, 3) := by decide +kernel
theorem dM_next_49 : decode cM_next 49 = .ok (.aload_n 0, 1) := by decide +kernel
theorem dM_next_50 : decode cM_next 50 = .ok (.getfield 16, 3) := by decide +kernel
theorem dM_next_53 : decode cM_next 53 = .ok (.iload_n 1, 1) := by decide +kernel
theorem dM_next_54 : decode cM_next 54 = .ok (.iload_n 2, 1) := by decide +kernel
theorem dM_next_55 : decode cM_next 55 = .ok (.iastore, 1) := by decide +kernel
theorem dM_next_56 : decode cM_next 56 = .ok (.return_, 1) := by decide +kernel
theorem dM_person_0 : decode cM_person 0 = .ok (.aload_n 0, 1) := by decide +kernel
theorem dM_person_1 : decode cM_person 1 = .ok (.aload_n 0, 1) := by decide +kernel
theorem dM_person_2 : decode cM_person 2 = .ok (.iload_n 1, 1) := by decide +kernel
theorem dM_person_3 : decode cM_person 3 = .ok (.invokevirtual 83, 3) := by decide +kernel
theorem dM_person_6 : decode cM_person 6 = .ok (.aload_n 0, 1) := by decide +kernel
theorem dM_person_7 : decode cM_person 7 = .ok (.getfield 73, 3) := by decide +kernel
theorem dM_person_10 : decode cM_person 10 = .ok (.bipush 60, 2) := by decide +kernel
theorem dM_person_12 : decode cM_person 12 = .ok (.if_icmp .ge 7, 3) := by decide +kernel
theorem dM_person_15 : decode cM_person 15 = .ok (.iconst 1, 1) := by decide +kernel
theorem dM_person_16 : decode cM_person 16 = .ok (.goto 4, 3) := by decide +kernel
theorem dM_person_19 : decode cM_person 19 = .ok (.iconst 0, 1) := by decide +kernel
theorem dM_person_20 : decode cM_person 20 = .ok (.iconst 1, 1) := by decide +kernel
theorem dM_person_21 : decode cM_person 21 = .ok (.invokevirtual 79, 3) := by decide +kernel
theorem dM_person_24 : decode cM_person 24 = .ok (.ifCond .ne 5, 3) := by decide +kernel
theorem dM_person_27 : decode cM_person 27 = .ok (.iconst 0, 1) := by decide +kernel
theorem dM_person_28 : decode cM_person 28 = .ok (.ireturn, 1) := by decide +kernel
theorem dM_person_29 : decode cM_person 29 = .ok (.aload_n 0, 1) := by decide +kernel
theorem dM_person_30 : decode cM_person 30 = .ok (.getfield 19, 3) := by decide +kernel
theorem dM_person_33 : decode cM_person 33 = .ok (.aload_n 0, 1) := by decide +kernel
theorem dM_person_34 : decode cM_person 34 = .ok (.getfield 73, 3) := by decide +kernel
theorem dM_person_37 : decode cM_person 37 = .ok (.iload_n 1, 1) := by decide +kernel
theorem dM_person_38 : decode cM_person 38 = .ok (.iastore, 1) := by decide +kernel
theorem dM_person_39 : decode cM_person 39 = .ok (.aload_n 0, 1) := by decide +kernel
theorem dM_person_40 : decode cM_person 40 = .ok (.dup, 1) := by decide +kernel
theorem dM_person_41 : decode cM_person 41 = .ok (.getfield 73, 3) := by decide +kernel
theorem dM_person_44 : decode cM_person 44 = .ok (.iconst 1, 1) := by decide +kernel
theorem dM_person_45 : decode cM_person 45 = .ok (.iadd, 1) := by decide +kernel
theorem dM_person_46 : decode cM_person 46 = .ok (.putfield 73, 3) := by decide +kernel
theorem dM_person_49 : decode cM_person 49 = .ok (.aload_n 0, 1) := by decide +kernel
theorem dM_person_50 : decode cM_person 50 = .ok (.getfield 73, 3) := by decide +kernel
theorem dM_person_53 : decode cM_person 53 = .ok (.iconst 1, 1) := by decide +kernel
theorem dM_person_54 : decode cM_person 54 = .ok (.isub, 1) := by decide +kernel
theorem dM_person_55 : decode cM_person 55 = .ok (.ireturn, 1) := by decide +kernel
theorem dM_isPerson_0 : decode cM_isPerson 0 = .ok (.iload_n 1, 1) := by decide +kernel
theorem dM_isPerson_1 : decode cM_isPerson 1 = .ok (.iconst 0, 1) := by decide +kernel
theorem dM_isPerson_2 : decode cM_isPerson 2 = .ok (.aload_n 0, 1) := by decide +kernel
theorem dM_isPerson_3 : decode cM_isPerson 3 = .ok (.getfield 73, 3) := by decide +kernel
theorem dM_isPerson_6 : decode cM_isPerson 6 = .ok (.iconst 1, 1) := by decide +kernel
theorem dM_isPerson_7 : decode cM_isPerson 7 = .ok (.isub, 1) := by decide +kernel
theorem dM_isPerson_8 : decode cM_isPerson 8 = .ok (.invokestatic 69, 3) := by decide +kernel
theorem dM_isPerson_11 : decode cM_isPerson 11 = .ok (.ireturn, 1) := by decide +kernel
theorem dM_way_0 : decode cM_way 0 = .ok (.aload_n 0, 1) := by decide +kernel
theorem dM_way_1 : decode cM_way 1 = .ok (.aload_n 0, 1) := by decide +kernel
theorem dM_way_2 : decode cM_way 2 = .ok (.iload_n 1, 1) := by decide +kernel
theorem dM_way_3 : decode cM_way 3 = .ok (.invokevirtual 87, 3) := by decide +kernel
theorem dM_way_6 : decode cM_way 6 = .ok (.iload_n 2, 1) := by decide +kernel
theorem dM_way_7 : decode cM_way 7 = .ok (.iconst 0, 1) := by decide +kernel
theorem dM_way_8 : decode cM_way 8 = .ok (.iconst 2, 1) := by decide +kernel
theorem dM_way_9 : decode cM_way 9 = .ok (.invokestatic 69, 3) := by decide +kernel
theorem dM_way_12 : decode cM_way 12 = .ok (.iconst 1, 1) := by decide +kernel
theorem dM_way_13 : decode cM_way 13 = .ok (.invokevirtual 79, 3) := by decide +kernel
theorem dM_way_16 : decode cM_way 16 = .ok (.ifCond .ne 5, 3) := by decide +kernel
theorem dM_way_19 : decode cM_way 19 = .ok (.iconst 0, 1) := by decide +kernel
theorem dM_way_20 : decode cM_way 20 = .ok (.ireturn, 1) := by decide +kernel
theorem dM_way_21 : decode cM_way 21 = .ok (.iconst 0, 1) := by decide +kernel
theorem dM_way_22 : decode cM_way 22 = .ok (.istore 4, 2) := by decide +kernel
theorem dM_way_24 : decode cM_way 24 = .ok (.iload 4, 2) := by decide +kernel
theorem dM_way_26 : decode cM_way 26 = .ok (.aload_n 0, 1) := by decide +kernel
theorem dM_way_27 : decode cM_way 27 = .ok (.getfield 22, 3) := by decide +kernel
theorem dM_way_30 : decode cM_way 30 = .ok (.iload_n 1, 1) := by decide +kernel
theorem dM_way_31 : decode cM_way 31 = .ok (.iaload, 1) := by decide +kernel
theorem dM_way_32 : decode cM_way 32 = .ok (.if_icmp .ge 24, 3) := by decide +kernel
theorem dM_way_35 : decode cM_way 35 = .ok (.aload_n 0, 1) := by decide +kernel
theorem dM_way_36 : decode cM_way 36 = .ok (.getfield 25, 3) := by decide +kernel
theorem dM_way_39 : decode cM_way 39 = .ok (.iconst 3, 1) := by decide +kernel
theorem dM_way_40 : decode cM_way 40 = .ok (.iload_n 1, 1) := by decide +kernel
theorem dM_way_41 : decode cM_way 41 = .ok (.imul, 1) := by decide +kernel
theorem dM_way_42 : decode cM_way 42 = .ok (.iload 4, 2) := by decide +kernel
theorem dM_way_44 : decode cM_way 44 = .ok (.iadd, 1) := by decide +kernel
theorem dM_way_45 : decode cM_way 45 = .ok (.iaload, 1) := by decide +kernel
theorem dM_way_46 : decode cM_way 46 = .ok (.iload_n 2, 1) := by decide +kernel
theorem dM_way_47 : decode cM_way 47 = .ok (.if_icmp .eq 9, 3) := by decide +kernel
theorem dM_way_50 : decode cM_way 50 = .ok (.iinc 4 1, 3) := by decide +kernel
theorem dM_way_53 : decode cM_way 53 = .ok (.goto (-29), 3) := by decide +kernel
theorem dM_way_56 : decode cM_way 56 = .ok (.aload_n 0, 1) := by decide +kernel
theorem dM_way_57 : decode cM_way 57 = .ok (.getfield 25, 3) := by decide +kernel
theorem dM_way_60 : decode cM_way 60 = .ok (.iconst 3, 1) := by decide +kernel
theorem dM_way_61 : decode cM_way 61 = .ok (.iload_n 1, 1) := by decide +kernel
theorem dM_way_62 : decode cM_way 62 = .ok (.imul, 1) := by decide +kernel
theorem dM_way_63 : decode cM_way 63 = .ok (.iload 4, 2) := by decide +kernel
theorem dM_way_65 : decode cM_way 65 = .ok (.iadd, 1) := by decide +kernel
theorem dM_way_66 : decode cM_way 66 = .ok (.iload_n 2, 1) := by decide +kernel
theorem dM_way_67 : decode cM_way 67 = .ok (.iastore, 1) := by decide +kernel
theorem dM_way_68 : decode cM_way 68 = .ok (.aload_n 0, 1) := by decide +kernel
theorem dM_way_69 : decode cM_way 69 = .ok (.getfield 28, 3) := by decide +kernel
theorem dM_way_72 : decode cM_way 72 = .ok (.iconst 3, 1) := by decide +kernel
theorem dM_way_73 : decode cM_way 73 = .ok (.iload_n 1, 1) := by decide +kernel
theorem dM_way_74 : decode cM_way 74 = .ok (.imul, 1) := by decide +kernel
theorem dM_way_75 : decode cM_way 75 = .ok (.iload 4, 2) := by decide +kernel
theorem dM_way_77 : decode cM_way 77 = .ok (.iadd, 1) := by decide +kernel
theorem dM_way_78 : decode cM_way 78 = .ok (.iload_n 3, 1) := by decide +kernel
theorem dM_way_79 : decode cM_way 79 = .ok (.bastore, 1) := by decide +kernel
theorem dM_way_80 : decode cM_way 80 = .ok (.iload 4, 2) := by decide +kernel
theorem dM_way_82 : decode cM_way 82 = .ok (.aload_n 0, 1) := by decide +kernel
theorem dM_way_83 : decode cM_way 83 = .ok (.getfield 22, 3) := by decide +kernel
theorem dM_way_86 : decode cM_way 86 = .ok (.iload_n 1, 1) := by decide +kernel
theorem dM_way_87 : decode cM_way 87 = .ok (.iaload, 1) := by decide +kernel
theorem dM_way_88 : decode cM_way 88 = .ok (.if_icmp .ne 13, 3) := by decide +kernel
theorem dM_way_91 : decode cM_way 91 = .ok (.aload_n 0, 1) := by decide +kernel
theorem dM_way_92 : decode cM_way 92 = .ok (.getfield 22, 3) := by decide +kernel
theorem dM_way_95 : decode cM_way 95 = .ok (.iload_n 1, 1) := by decide +kernel
theorem dM_way_96 : decode cM_way 96 = .ok (.dup2, 1) := by decide +kernel
theorem dM_way_97 : decode cM_way 97 = .ok (.iaload, 1) := by decide +kernel
theorem dM_way_98 : decode cM_way 98 = .ok (.iconst 1, 1) := by decide +kernel
theorem dM_way_99 : decode cM_way 99 = .ok (.iadd, 1) := by decide +kernel
theorem dM_way_100 : decode cM_way 100 = .ok (.iastore, 1) := by decide +kernel
theorem dM_way_101 : decode cM_way 101 = .ok (.aload_n 0, 1) := by decide +kernel
theorem dM_way_102 : decode cM_way 102 = .ok (.getfield 22, 3) := by decide +kernel
theorem dM_way_105 : decode cM_way 105 = .ok (.iload_n 1, 1) := by decide +kernel
theorem dM_way_106 : decode cM_way 106 = .ok (.iaload, 1) := by decide +kernel
theorem dM_way_107 : decode cM_way 107 = .ok (.ireturn, 1) := by decide +kernel
theorem dM_is_0 : decode cM_is 0 = .ok (.aload_n 0, 1) := by decide +kernel
theorem dM_is_1 : decode cM_is 1 = .ok (.aload_n 0, 1) := by decide +kernel
theorem dM_is_2 : decode cM_is 2 = .ok (.iload_n 1, 1) := by decide +kernel
theorem dM_is_3 : decode cM_is 3 = .ok (.invokevirtual 87, 3) := by decide +kernel
theorem dM_is_6 : decode cM_is 6 = .ok (.iload_n 2, 1) := by decide +kernel
theorem dM_is_7 : decode cM_is 7 = .ok (.iconst 0, 1) := by decide +kernel
theorem dM_is_8 : decode cM_is 8 = .ok (.iconst 2, 1) := by decide +kernel
theorem dM_is_9 : decode cM_is 9 = .ok (.invokestatic 69, 3) := by decide +kernel
theorem dM_is_12 : decode cM_is 12 = .ok (.iconst 1, 1) := by decide +kernel
theorem dM_is_13 : decode cM_is 13 = .ok (.invokevirtual 79, 3) := by decide +kernel
theorem dM_is_16 : decode cM_is 16 = .ok (.ifCond .eq 10, 3) := by decide +kernel
theorem dM_is_19 : decode cM_is 19 = .ok (.aload_n 0, 1) := by decide +kernel
theorem dM_is_20 : decode cM_is 20 = .ok (.getfield 32, 3) := by decide +kernel
theorem dM_is_23 : decode cM_is 23 = .ok (.iload_n 1, 1) := by decide +kernel
theorem dM_is_24 : decode cM_is 24 = .ok (.iload_n 2, 1) := by decide +kernel
theorem dM_is_25 : decode cM_is 25 = .ok (.iastore, 1) := by decide +kernel
theorem dM_is_26 : decode cM_is 26 = .ok (.return_, 1) := by decide +kernel
theorem dM_asks_0 : decode cM_asks 0 = .ok (.aload_n 0, 1) := by decide +kernel
theorem dM_asks_1 : decode cM_asks 1 = .ok (.getfield 19, 3) := by decide +kernel
theorem dM_asks_4 : decode cM_asks 4 = .ok (.iload_n 3, 1) := by decide +kernel
theorem dM_asks_5 : decode cM_asks 5 = .ok (.iaload, 1) := by decide +kernel
theorem dM_asks_6 : decode cM_asks 6 = .ok (.iload_n 1, 1) := by decide +kernel
theorem dM_asks_7 : decode cM_asks 7 = .ok (.if_icmp .ne 30, 3) := by decide +kernel
theorem dM_asks_10 : decode cM_asks 10 = .ok (.aload_n 0, 1) := by decide +kernel
theorem dM_asks_11 : decode cM_asks 11 = .ok (.getfield 32, 3) := by decide +kernel
theorem dM_asks_14 : decode cM_asks 14 = .ok (.iload_n 3, 1) := by decide +kernel
theorem dM_asks_15 : decode cM_asks 15 = .ok (.iaload, 1) := by decide +kernel
theorem dM_asks_16 : decode cM_asks 16 = .ok (.ifCond .eq 17, 3) := by decide +kernel
theorem dM_asks_19 : decode cM_asks 19 = .ok (.iload_n 2, 1) := by decide +kernel
theorem dM_asks_20 : decode cM_asks 20 = .ok (.ifCond .eq 17, 3) := by decide +kernel
theorem dM_asks_23 : decode cM_asks 23 = .ok (.aload_n 0, 1) := by decide +kernel
theorem dM_asks_24 : decode cM_asks 24 = .ok (.getfield 32, 3) := by decide +kernel
theorem dM_asks_27 : decode cM_asks 27 = .ok (.iload_n 3, 1) := by decide +kernel
theorem dM_asks_28 : decode cM_asks 28 = .ok (.iaload, 1) := by decide +kernel
theorem dM_asks_29 : decode cM_asks 29 = .ok (.iconst 1, 1) := by decide +kernel
theorem dM_asks_30 : decode cM_asks 30 = .ok (.if_icmp .ne 7, 3) := by decide +kernel
theorem dM_asks_33 : decode cM_asks 33 = .ok (.iconst 1, 1) := by decide +kernel
theorem dM_asks_34 : decode cM_asks 34 = .ok (.goto 4, 3) := by decide +kernel
theorem dM_asks_37 : decode cM_asks 37 = .ok (.iconst 0, 1) := by decide +kernel
theorem dM_asks_38 : decode cM_asks 38 = .ok (.ireturn, 1) := by decide +kernel
theorem dM_asksAny_0 : decode cM_asksAny 0 = .ok (.iconst 0, 1) := by decide +kernel
theorem dM_asksAny_1 : decode cM_asksAny 1 = .ok (.istore_n 3, 1) := by decide +kernel
theorem dM_asksAny_2 : decode cM_asksAny 2 = .ok (.iload_n 3, 1) := by decide +kernel
theorem dM_asksAny_3 : decode cM_asksAny 3 = .ok (.aload_n 0, 1) := by decide +kernel
theorem dM_asksAny_4 : decode cM_asksAny 4 = .ok (.getfield 73, 3) := by decide +kernel
theorem dM_asksAny_7 : decode cM_asksAny 7 = .ok (.if_icmp .ge 21, 3) := by decide +kernel
theorem dM_asksAny_10 : decode cM_asksAny 10 = .ok (.aload_n 0, 1) := by decide +kernel
theorem dM_asksAny_11 : decode cM_asksAny 11 = .ok (.iload_n 1, 1) := by decide +kernel
theorem dM_asksAny_12 : decode cM_asksAny 12 = .ok (.iload_n 2, 1) := by decide +kernel
theorem dM_asksAny_13 : decode cM_asksAny 13 = .ok (.iload_n 3, 1) := by decide +kernel
theorem dM_asksAny_14 : decode cM_asksAny 14 = .ok (.invokevirtual 90, 3) := by decide +kernel
theorem dM_asksAny_17 : decode cM_asksAny 17 = .ok (.ifCond .eq 5, 3) := by decide +kernel
theorem dM_asksAny_20 : decode cM_asksAny 20 = .ok (.iconst 1, 1) := by decide +kernel
theorem dM_asksAny_21 : decode cM_asksAny 21 = .ok (.ireturn, 1) := by decide +kernel
theorem dM_asksAny_22 : decode cM_asksAny 22 = .ok (.iinc 3 1, 3) := by decide +kernel
theorem dM_asksAny_25 : decode cM_asksAny 25 = .ok (.goto (-23), 3) := by decide +kernel
theorem dM_asksAny_28 : decode cM_asksAny 28 = .ok (.iconst 0, 1) := by decide +kernel
theorem dM_asksAny_29 : decode cM_asksAny 29 = .ok (.ireturn, 1) := by decide +kernel
theorem dM_begin_0 : decode cM_begin 0 = .ok (.aload_n 0, 1) := by decide +kernel
theorem dM_begin_1 : decode cM_begin 1 = .ok (.getfield 35, 3) := by decide +kernel
theorem dM_begin_4 : decode cM_begin 4 = .ok (.aload_n 0, 1) := by decide +kernel
theorem dM_begin_5 : decode cM_begin 5 = .ok (.getfield 76, 3) := by decide +kernel
theorem dM_begin_8 : decode cM_begin 8 = .ok (.iload_n 1, 1) := by decide +kernel
theorem dM_begin_9 : decode cM_begin 9 = .ok (.iastore, 1) := by decide +kernel
theorem dM_begin_10 : decode cM_begin 10 = .ok (.aload_n 0, 1) := by decide +kernel
theorem dM_begin_11 : decode cM_begin 11 = .ok (.getfield 38, 3) := by decide +kernel
theorem dM_begin_14 : decode cM_begin 14 = .ok (.aload_n 0, 1) := by decide +kernel
theorem dM_begin_15 : decode cM_begin 15 = .ok (.getfield 76, 3) := by decide +kernel
theorem dM_begin_18 : decode cM_begin 18 = .ok (.iload_n 2, 1) := by decide +kernel
theorem dM_begin_19 : decode cM_begin 19 = .ok (.bastore, 1) := by decide +kernel
theorem dM_begin_20 : decode cM_begin 20 = .ok (.aload_n 0, 1) := by decide +kernel
theorem dM_begin_21 : decode cM_begin 21 = .ok (.getfield 41, 3) := by decide +kernel
theorem dM_begin_24 : decode cM_begin 24 = .ok (.aload_n 0, 1) := by decide +kernel
theorem dM_begin_25 : decode cM_begin 25 = .ok (.getfield 76, 3) := by decide +kernel
theorem dM_begin_28 : decode cM_begin 28 = .ok (.aload_n 0, 1) := by decide +kernel
theorem dM_begin_29 : decode cM_begin 29 = .ok (.getfield 94, 3) := by decide +kernel
theorem dM_begin_32 : decode cM_begin 32 = .ok (.iastore, 1) := by decide +kernel
theorem dM_begin_33 : decode cM_begin 33 = .ok (.aload_n 0, 1) := by decide +kernel
theorem dM_begin_34 : decode cM_begin 34 = .ok (.getfield 44, 3) := by decide +kernel
theorem dM_begin_37 : decode cM_begin 37 = .ok (.aload_n 0, 1) := by decide +kernel
theorem dM_begin_38 : decode cM_begin 38 = .ok (.getfield 76, 3) := by decide +kernel
theorem dM_begin_41 : decode cM_begin 41 = .ok (.iload_n 3, 1) := by decide +kernel
theorem dM_begin_42 : decode cM_begin 42 = .ok (.iastore, 1) := by decide +kernel
theorem dM_begin_43 : decode cM_begin 43 = .ok (.aload_n 0, 1) := by decide +kernel
theorem dM_begin_44 : decode cM_begin 44 = .ok (.getfield 47, 3) := by decide +kernel
theorem dM_begin_47 : decode cM_begin 47 = .ok (.aload_n 0, 1) := by decide +kernel
theorem dM_begin_48 : decode cM_begin 48 = .ok (.getfield 76, 3) := by decide +kernel
theorem dM_begin_51 : decode cM_begin 51 = .ok (.iconst 0, 1) := by decide +kernel
theorem dM_begin_52 : decode cM_begin 52 = .ok (.iastore, 1) := by decide +kernel
theorem dM_begin_53 : decode cM_begin 53 = .ok (.iconst 0, 1) := by decide +kernel
theorem dM_begin_54 : decode cM_begin 54 = .ok (.istore 4, 2) := by decide +kernel
theorem dM_begin_56 : decode cM_begin 56 = .ok (.iload 4, 2) := by decide +kernel
theorem dM_begin_58 : decode cM_begin 58 = .ok (.aload_n 0, 1) := by decide +kernel
theorem dM_begin_59 : decode cM_begin 59 = .ok (.getfield 73, 3) := by decide +kernel
theorem dM_begin_62 : decode cM_begin 62 = .ok (.if_icmp .ge 128, 3) := by decide +kernel
theorem dM_begin_65 : decode cM_begin 65 = .ok (.aload_n 0, 1) := by decide +kernel
theorem dM_begin_66 : decode cM_begin 66 = .ok (.getfield 76, 3) := by decide +kernel
theorem dM_begin_69 : decode cM_begin 69 = .ok (.bipush 60, 2) := by decide +kernel
theorem dM_begin_71 : decode cM_begin 71 = .ok (.imul, 1) := by decide +kernel
theorem dM_begin_72 : decode cM_begin 72 = .ok (.iload 4, 2) := by decide +kernel
theorem dM_begin_74 : decode cM_begin 74 = .ok (.iadd, 1) := by decide +kernel
theorem dM_begin_75 : decode cM_begin 75 = .ok (.istore 5, 2) := by decide +kernel
theorem dM_begin_77 : decode cM_begin 77 = .ok (.aload_n 0, 1) := by decide +kernel
theorem dM_begin_78 : decode cM_begin 78 = .ok (.getfield 50, 3) := by decide +kernel
theorem dM_begin_81 : decode cM_begin 81 = .ok (.iload 5, 2) := by decide +kernel
theorem dM_begin_83 : decode cM_begin 83 = .ok (.aload_n 0, 1) := by decide +kernel
theorem dM_begin_84 : decode cM_begin 84 = .ok (.iload_n 1, 1) := by decide +kernel
theorem dM_begin_85 : decode cM_begin 85 = .ok (.iload_n 2, 1) := by decide +kernel
theorem dM_begin_86 : decode cM_begin 86 = .ok (.iload 4, 2) := by decide +kernel
theorem dM_begin_88 : decode cM_begin 88 = .ok (.invokevirtual 90, 3) := by decide +kernel
theorem dM_begin_91 : decode cM_begin 91 = .ok (.bastore, 1) := by decide +kernel
theorem dM_begin_92 : decode cM_begin 92 = .ok (.iconst 0, 1) := by decide +kernel
theorem dM_begin_93 : decode cM_begin 93 = .ok (.istore 6, 2) := by decide +kernel
theorem dM_begin_95 : decode cM_begin 95 = .ok (.iload 6, 2) := by decide +kernel
theorem dM_begin_97 : decode cM_begin 97 = .ok (.aload_n 0, 1) := by decide +kernel
theorem dM_begin_98 : decode cM_begin 98 = .ok (.getfield 22, 3) := by decide +kernel
theorem dM_begin_101 : decode cM_begin 101 = .ok (.iload 4, 2) := by decide +kernel
theorem dM_begin_103 : decode cM_begin 103 = .ok (.iaload, 1) := by decide +kernel
theorem dM_begin_104 : decode cM_begin 104 = .ok (.if_icmp .ge 24, 3) := by decide +kernel
theorem dM_begin_107 : decode cM_begin 107 = .ok (.aload_n 0, 1) := by decide +kernel
theorem dM_begin_108 : decode cM_begin 108 = .ok (.getfield 28, 3) := by decide +kernel
theorem dM_begin_111 : decode cM_begin 111 = .ok (.iconst 3, 1) := by decide +kernel
theorem dM_begin_112 : decode cM_begin 112 = .ok (.iload 4, 2) := by decide +kernel
theorem dM_begin_114 : decode cM_begin 114 = .ok (.imul, 1) := by decide +kernel
theorem dM_begin_115 : decode cM_begin 115 = .ok (.iload 6, 2) := by decide +kernel
theorem dM_begin_117 : decode cM_begin 117 = .ok (.iadd, 1) := by decide +kernel
theorem dM_begin_118 : decode cM_begin 118 = .ok (.baload, 1) := by decide +kernel
theorem dM_begin_119 : decode cM_begin 119 = .ok (.ifCond .ne 9, 3) := by decide +kernel
theorem dM_begin_122 : decode cM_begin 122 = .ok (.iinc 6 1, 3) := by decide +kernel
theorem dM_begin_125 : decode cM_begin 125 = .ok (.goto (-30), 3) := by decide +kernel
theorem dM_begin_128 : decode cM_begin 128 = .ok (.aload_n 0, 1) := by decide +kernel
theorem dM_begin_129 : decode cM_begin 129 = .ok (.getfield 53, 3) := by decide +kernel
theorem dM_begin_132 : decode cM_begin 132 = .ok (.iload 5, 2) := by decide +kernel
theorem dM_begin_134 : decode cM_begin 134 = .ok (.iload 6, 2) := by decide +kernel
theorem dM_begin_136 : decode cM_begin 136 = .ok (.aload_n 0, 1) := by decide +kernel
theorem dM_begin_137 : decode cM_begin 137 = .ok (.getfield 22, 3) := by decide +kernel
theorem dM_begin_140 : decode cM_begin 140 = .ok (.iload 4, 2) := by decide +kernel
theorem dM_begin_142 : decode cM_begin 142 = .ok (.iaload, 1) := by decide +kernel
theorem dM_begin_143 : decode cM_begin 143 = .ok (.if_icmp .ge 18, 3) := by decide +kernel
theorem dM_begin_146 : decode cM_begin 146 = .ok (.aload_n 0, 1) := by decide +kernel
theorem dM_begin_147 : decode cM_begin 147 = .ok (.getfield 25, 3) := by decide +kernel
theorem dM_begin_150 : decode cM_begin 150 = .ok (.iconst 3, 1) := by decide +kernel
theorem dM_begin_151 : decode cM_begin 151 = .ok (.iload 4, 2) := by decide +kernel
theorem dM_begin_153 : decode cM_begin 153 = .ok (.imul, 1) := by decide +kernel
theorem dM_begin_154 : decode cM_begin 154 = .ok (.iload 6, 2) := by decide +kernel
theorem dM_begin_156 : decode cM_begin 156 = .ok (.iadd, 1) := by decide +kernel
theorem dM_begin_157 : decode cM_begin 157 = .ok (.iaload, 1) := by decide +kernel
theorem dM_begin_158 : decode cM_begin 158 = .ok (.goto 4, 3) := by decide +kernel
theorem dM_begin_161 : decode cM_begin 161 = .ok (.iconst (-1), 1) := by decide +kernel
theorem dM_begin_162 : decode cM_begin 162 = .ok (.iastore, 1) := by decide +kernel
theorem dM_begin_163 : decode cM_begin 163 = .ok (.aload_n 0, 1) := by decide +kernel
theorem dM_begin_164 : decode cM_begin 164 = .ok (.getfield 56, 3) := by decide +kernel
theorem dM_begin_167 : decode cM_begin 167 = .ok (.iload 5, 2) := by decide +kernel
theorem dM_begin_169 : decode cM_begin 169 = .ok (.bipush 20, 2) := by decide +kernel
theorem dM_begin_171 : decode cM_begin 171 = .ok (.iload 6, 2) := by decide +kernel
theorem dM_begin_173 : decode cM_begin 173 = .ok (.imul, 1) := by decide +kernel
theorem dM_begin_174 : decode cM_begin 174 = .ok (.iastore, 1) := by decide +kernel
theorem dM_begin_175 : decode cM_begin 175 = .ok (.aload_n 0, 1) := by decide +kernel
theorem dM_begin_176 : decode cM_begin 176 = .ok (.getfield 59, 3) := by decide +kernel
theorem dM_begin_179 : decode cM_begin 179 = .ok (.iload 5, 2) := by decide +kernel
theorem dM_begin_181 : decode cM_begin 181 = .ok (.bipush (-2), 2) := by decide +kernel
theorem dM_begin_183 : decode cM_begin 183 = .ok (.iastore, 1) := by decide +kernel
theorem dM_begin_184 : decode cM_begin 184 = .ok (.iinc 4 1, 3) := by decide +kernel
theorem dM_begin_187 : decode cM_begin 187 = .ok (.goto (-131), 3) := by decide +kernel
theorem dM_begin_190 : decode cM_begin 190 = .ok (.aload_n 0, 1) := by decide +kernel
theorem dM_begin_191 : decode cM_begin 191 = .ok (.getfield 73, 3) := by decide +kernel
theorem dM_begin_194 : decode cM_begin 194 = .ok (.istore 4, 2) := by decide +kernel
theorem dM_begin_196 : decode cM_begin 196 = .ok (.iload 4, 2) := by decide +kernel
theorem dM_begin_198 : decode cM_begin 198 = .ok (.bipush 60, 2) := by decide +kernel
theorem dM_begin_200 : decode cM_begin 200 = .ok (.if_icmp .ge 25, 3) := by decide +kernel
theorem dM_begin_203 : decode cM_begin 203 = .ok (.aload_n 0, 1) := by decide +kernel
theorem dM_begin_204 : decode cM_begin 204 = .ok (.getfield 50, 3) := by decide +kernel
theorem dM_begin_207 : decode cM_begin 207 = .ok (.aload_n 0, 1) := by decide +kernel
theorem dM_begin_208 : decode cM_begin 208 = .ok (.getfield 76, 3) := by decide +kernel
theorem dM_begin_211 : decode cM_begin 211 = .ok (.bipush 60, 2) := by decide +kernel
theorem dM_begin_213 : decode cM_begin 213 = .ok (.imul, 1) := by decide +kernel
theorem dM_begin_214 : decode cM_begin 214 = .ok (.iload 4, 2) := by decide +kernel
theorem dM_begin_216 : decode cM_begin 216 = .ok (.iadd, 1) := by decide +kernel
theorem dM_begin_217 : decode cM_begin 217 = .ok (.iconst 0, 1) := by decide +kernel
theorem dM_begin_218 : decode cM_begin 218 = .ok (.bastore, 1) := by decide +kernel
theorem dM_begin_219 : decode cM_begin 219 = .ok (.iinc 4 1, 3) := by decide +kernel
theorem dM_begin_222 : decode cM_begin 222 = .ok (.goto (-26), 3) := by decide +kernel
theorem dM_begin_225 : decode cM_begin 225 = .ok (.aload_n 0, 1) := by decide +kernel
theorem dM_begin_226 : decode cM_begin 226 = .ok (.dup, 1) := by decide +kernel
theorem dM_begin_227 : decode cM_begin 227 = .ok (.getfield 76, 3) := by decide +kernel
theorem dM_begin_230 : decode cM_begin 230 = .ok (.iconst 1, 1) := by decide +kernel
theorem dM_begin_231 : decode cM_begin 231 = .ok (.iadd, 1) := by decide +kernel
theorem dM_begin_232 : decode cM_begin 232 = .ok (.putfield 76, 3) := by decide +kernel
theorem dM_begin_235 : decode cM_begin 235 = .ok (.return_, 1) := by decide +kernel
theorem dM_alarm_0 : decode cM_alarm 0 = .ok (.aload_n 0, 1) := by decide +kernel
theorem dM_alarm_1 : decode cM_alarm 1 = .ok (.aload_n 0, 1) := by decide +kernel
theorem dM_alarm_2 : decode cM_alarm 2 = .ok (.iload_n 1, 1) := by decide +kernel
theorem dM_alarm_3 : decode cM_alarm 3 = .ok (.invokevirtual 83, 3) := by decide +kernel
theorem dM_alarm_6 : decode cM_alarm 6 = .ok (.aload_n 0, 1) := by decide +kernel
theorem dM_alarm_7 : decode cM_alarm 7 = .ok (.iload_n 1, 1) := by decide +kernel
theorem dM_alarm_8 : decode cM_alarm 8 = .ok (.invokevirtual 83, 3) := by decide +kernel
theorem dM_alarm_11 : decode cM_alarm 11 = .ok (.ifCond .eq 16, 3) := by decide +kernel
theorem dM_alarm_14 : decode cM_alarm 14 = .ok (.aload_n 0, 1) := by decide +kernel
theorem dM_alarm_15 : decode cM_alarm 15 = .ok (.iload_n 1, 1) := by decide +kernel
theorem dM_alarm_16 : decode cM_alarm 16 = .ok (.iload_n 2, 1) := by decide +kernel
theorem dM_alarm_17 : decode cM_alarm 17 = .ok (.invokevirtual 97, 3) := by decide +kernel
theorem dM_alarm_20 : decode cM_alarm 20 = .ok (.ifCond .eq 7, 3) := by decide +kernel
theorem dM_alarm_23 : decode cM_alarm 23 = .ok (.iconst 1, 1) := by decide +kernel
theorem dM_alarm_24 : decode cM_alarm 24 = .ok (.goto 4, 3) := by decide +kernel
theorem dM_alarm_27 : decode cM_alarm 27 = .ok (.iconst 0, 1) := by decide +kernel
theorem dM_alarm_28 : decode cM_alarm 28 = .ok (.aload_n 0, 1) := by decide +kernel
theorem dM_alarm_29 : decode cM_alarm 29 = .ok (.getfield 76, 3) := by decide +kernel
theorem dM_alarm_32 : decode cM_alarm 32 = .ok (.bipush 60, 2) := by decide +kernel
theorem dM_alarm_34 : decode cM_alarm 34 = .ok (.if_icmp .ge 7, 3) := by decide +kernel
theorem dM_alarm_37 : decode cM_alarm 37 = .ok (.iconst 1, 1) := by decide +kernel
theorem dM_alarm_38 : decode cM_alarm 38 = .ok (.goto 4, 3) := by decide +kernel
theorem dM_alarm_41 : decode cM_alarm 41 = .ok (.iconst 0, 1) := by decide +kernel
theorem dM_alarm_42 : decode cM_alarm 42 = .ok (.invokevirtual 79, 3) := by decide +kernel
theorem dM_alarm_45 : decode cM_alarm 45 = .ok (.ifCond .ne 5, 3) := by decide +kernel
theorem dM_alarm_48 : decode cM_alarm 48 = .ok (.iconst 0, 1) := by decide +kernel
theorem dM_alarm_49 : decode cM_alarm 49 = .ok (.ireturn, 1) := by decide +kernel
theorem dM_alarm_50 : decode cM_alarm 50 = .ok (.aload_n 0, 1) := by decide +kernel
theorem dM_alarm_51 : decode cM_alarm 51 = .ok (.iload_n 1, 1) := by decide +kernel
theorem dM_alarm_52 : decode cM_alarm 52 = .ok (.iload_n 2, 1) := by decide +kernel
theorem dM_alarm_53 : decode cM_alarm 53 = .ok (.iconst (-1), 1) := by decide +kernel
theorem dM_alarm_54 : decode cM_alarm 54 = .ok (.invokevirtual 101, 3) := by decide +kernel
theorem dM_alarm_57 : decode cM_alarm 57 = .ok (.aload_n 0, 1) := by decide +kernel
theorem dM_alarm_58 : decode cM_alarm 58 = .ok (.getfield 76, 3) := by decide +kernel
theorem dM_alarm_61 : decode cM_alarm 61 = .ok (.iconst 1, 1) := by decide +kernel
theorem dM_alarm_62 : decode cM_alarm 62 = .ok (.isub, 1) := by decide +kernel
theorem dM_alarm_63 : decode cM_alarm 63 = .ok (.ireturn, 1) := by decide +kernel
theorem dM_isAlarm_0 : decode cM_isAlarm 0 = .ok (.iload_n 1, 1) := by decide +kernel
theorem dM_isAlarm_1 : decode cM_isAlarm 1 = .ok (.iconst 0, 1) := by decide +kernel
theorem dM_isAlarm_2 : decode cM_isAlarm 2 = .ok (.aload_n 0, 1) := by decide +kernel
theorem dM_isAlarm_3 : decode cM_isAlarm 3 = .ok (.getfield 76, 3) := by decide +kernel
theorem dM_isAlarm_6 : decode cM_isAlarm 6 = .ok (.iconst 1, 1) := by decide +kernel
theorem dM_isAlarm_7 : decode cM_isAlarm 7 = .ok (.isub, 1) := by decide +kernel
theorem dM_isAlarm_8 : decode cM_isAlarm 8 = .ok (.invokestatic 69, 3) := by decide +kernel
theorem dM_isAlarm_11 : decode cM_isAlarm 11 = .ok (.ireturn, 1) := by decide +kernel
theorem dM_isReached_0 : decode cM_isReached 0 = .ok (.aload_n 0, 1) := by decide +kernel
theorem dM_isReached_1 : decode cM_isReached 1 = .ok (.getfield 50, 3) := by decide +kernel
theorem dM_isReached_4 : decode cM_isReached 4 = .ok (.iload_n 1, 1) := by decide +kernel
theorem dM_isReached_5 : decode cM_isReached 5 = .ok (.bipush 60, 2) := by decide +kernel
theorem dM_isReached_7 : decode cM_isReached 7 = .ok (.imul, 1) := by decide +kernel
theorem dM_isReached_8 : decode cM_isReached 8 = .ok (.iload_n 2, 1) := by decide +kernel
theorem dM_isReached_9 : decode cM_isReached 9 = .ok (.iadd, 1) := by decide +kernel
theorem dM_isReached_10 : decode cM_isReached 10 = .ok (.baload, 1) := by decide +kernel
theorem dM_isReached_11 : decode cM_isReached 11 = .ok (.ifCond .eq 21, 3) := by decide +kernel
theorem dM_isReached_14 : decode cM_isReached 14 = .ok (.aload_n 0, 1) := by decide +kernel
theorem dM_isReached_15 : decode cM_isReached 15 = .ok (.getfield 53, 3) := by decide +kernel
theorem dM_isReached_18 : decode cM_isReached 18 = .ok (.iload_n 1, 1) := by decide +kernel
theorem dM_isReached_19 : decode cM_isReached 19 = .ok (.bipush 60, 2) := by decide +kernel
theorem dM_isReached_21 : decode cM_isReached 21 = .ok (.imul, 1) := by decide +kernel
theorem dM_isReached_22 : decode cM_isReached 22 = .ok (.iload_n 2, 1) := by decide +kernel
theorem dM_isReached_23 : decode cM_isReached 23 = .ok (.iadd, 1) := by decide +kernel
theorem dM_isReached_24 : decode cM_isReached 24 = .ok (.iaload, 1) := by decide +kernel
theorem dM_isReached_25 : decode cM_isReached 25 = .ok (.ifCond .lt 7, 3) := by decide +kernel
theorem dM_isReached_28 : decode cM_isReached 28 = .ok (.iconst 1, 1) := by decide +kernel
theorem dM_isReached_29 : decode cM_isReached 29 = .ok (.goto 4, 3) := by decide +kernel
theorem dM_isReached_32 : decode cM_isReached 32 = .ok (.iconst 0, 1) := by decide +kernel
theorem dM_isReached_33 : decode cM_isReached 33 = .ok (.ireturn, 1) := by decide +kernel
theorem dM_isThere_0 : decode cM_isThere 0 = .ok (.aload_n 0, 1) := by decide +kernel
theorem dM_isThere_1 : decode cM_isThere 1 = .ok (.iload_n 1, 1) := by decide +kernel
theorem dM_isThere_2 : decode cM_isThere 2 = .ok (.iload_n 2, 1) := by decide +kernel
theorem dM_isThere_3 : decode cM_isThere 3 = .ok (.invokevirtual 105, 3) := by decide +kernel
theorem dM_isThere_6 : decode cM_isThere 6 = .ok (.ifCond .eq 32, 3) := by decide +kernel
theorem dM_isThere_9 : decode cM_isThere 9 = .ok (.aload_n 0, 1) := by decide +kernel
theorem dM_isThere_10 : decode cM_isThere 10 = .ok (.getfield 94, 3) := by decide +kernel
theorem dM_isThere_13 : decode cM_isThere 13 = .ok (.aload_n 0, 1) := by decide +kernel
theorem dM_isThere_14 : decode cM_isThere 14 = .ok (.getfield 41, 3) := by decide +kernel
theorem dM_isThere_17 : decode cM_isThere 17 = .ok (.iload_n 1, 1) := by decide +kernel
theorem dM_isThere_18 : decode cM_isThere 18 = .ok (.iaload, 1) := by decide +kernel
theorem dM_isThere_19 : decode cM_isThere 19 = .ok (.aload_n 0, 1) := by decide +kernel
theorem dM_isThere_20 : decode cM_isThere 20 = .ok (.getfield 56, 3) := by decide +kernel
theorem dM_isThere_23 : decode cM_isThere 23 = .ok (.iload_n 1, 1) := by decide +kernel
theorem dM_isThere_24 : decode cM_isThere 24 = .ok (.bipush 60, 2) := by decide +kernel
theorem dM_isThere_26 : decode cM_isThere 26 = .ok (.imul, 1) := by decide +kernel
theorem dM_isThere_27 : decode cM_isThere 27 = .ok (.iload_n 2, 1) := by decide +kernel
theorem dM_isThere_28 : decode cM_isThere 28 = .ok (.iadd, 1) := by decide +kernel
theorem dM_isThere_29 : decode cM_isThere 29 = .ok (.iaload, 1) := by decide +kernel
theorem dM_isThere_30 : decode cM_isThere 30 = .ok (.iadd, 1) := by decide +kernel
theorem dM_isThere_31 : decode cM_isThere 31 = .ok (.if_icmp .lt 7, 3) := by decide +kernel
theorem dM_isThere_34 : decode cM_isThere 34 = .ok (.iconst 1, 1) := by decide +kernel
theorem dM_isThere_35 : decode cM_isThere 35 = .ok (.goto 4, 3) := by decide +kernel
theorem dM_isThere_38 : decode cM_isThere 38 = .ok (.iconst 0, 1) := by decide +kernel
theorem dM_isThere_39 : decode cM_isThere 39 = .ok (.ireturn, 1) := by decide +kernel
theorem dM_answer_0 : decode cM_answer 0 = .ok (.aload_n 0, 1) := by decide +kernel
theorem dM_answer_1 : decode cM_answer 1 = .ok (.iload_n 1, 1) := by decide +kernel
theorem dM_answer_2 : decode cM_answer 2 = .ok (.invokevirtual 109, 3) := by decide +kernel
theorem dM_answer_5 : decode cM_answer 5 = .ok (.ifCond .eq 15, 3) := by decide +kernel
theorem dM_answer_8 : decode cM_answer 8 = .ok (.aload_n 0, 1) := by decide +kernel
theorem dM_answer_9 : decode cM_answer 9 = .ok (.iload_n 2, 1) := by decide +kernel
theorem dM_answer_10 : decode cM_answer 10 = .ok (.invokevirtual 87, 3) := by decide +kernel
theorem dM_answer_13 : decode cM_answer 13 = .ok (.ifCond .eq 7, 3) := by decide +kernel
theorem dM_answer_16 : decode cM_answer 16 = .ok (.iconst 1, 1) := by decide +kernel
theorem dM_answer_17 : decode cM_answer 17 = .ok (.goto 4, 3) := by decide +kernel
theorem dM_answer_20 : decode cM_answer 20 = .ok (.iconst 0, 1) := by decide +kernel
theorem dM_answer_21 : decode cM_answer 21 = .ok (.istore 4, 2) := by decide +kernel
theorem dM_answer_23 : decode cM_answer 23 = .ok (.aload_n 0, 1) := by decide +kernel
theorem dM_answer_24 : decode cM_answer 24 = .ok (.iload 4, 2) := by decide +kernel
theorem dM_answer_26 : decode cM_answer 26 = .ok (.iload_n 3, 1) := by decide +kernel
theorem dM_answer_27 : decode cM_answer 27 = .ok (.iconst (-1), 1) := by decide +kernel
theorem dM_answer_28 : decode cM_answer 28 = .ok (.bipush 120, 2) := by decide +kernel
theorem dM_answer_30 : decode cM_answer 30 = .ok (.invokestatic 69, 3) := by decide +kernel
theorem dM_answer_33 : decode cM_answer 33 = .ok (.iload 4, 2) := by decide +kernel
theorem dM_answer_35 : decode cM_answer 35 = .ok (.ifCond .eq 16, 3) := by decide +kernel
theorem dM_answer_38 : decode cM_answer 38 = .ok (.aload_n 0, 1) := by decide +kernel
theorem dM_answer_39 : decode cM_answer 39 = .ok (.iload_n 1, 1) := by decide +kernel
theorem dM_answer_40 : decode cM_answer 40 = .ok (.iload_n 2, 1) := by decide +kernel
theorem dM_answer_41 : decode cM_answer 41 = .ok (.invokevirtual 105, 3) := by decide +kernel
theorem dM_answer_44 : decode cM_answer 44 = .ok (.ifCond .eq 7, 3) := by decide +kernel
theorem dM_answer_47 : decode cM_answer 47 = .ok (.iconst 1, 1) := by decide +kernel
theorem dM_answer_48 : decode cM_answer 48 = .ok (.goto 4, 3) := by decide +kernel
theorem dM_answer_51 : decode cM_answer 51 = .ok (.iconst 0, 1) := by decide +kernel
theorem dM_answer_52 : decode cM_answer 52 = .ok (.invokevirtual 79, 3) := by decide +kernel
theorem dM_answer_55 : decode cM_answer 55 = .ok (.ifCond .ne 5, 3) := by decide +kernel
theorem dM_answer_58 : decode cM_answer 58 = .ok (.iconst 0, 1) := by decide +kernel
theorem dM_answer_59 : decode cM_answer 59 = .ok (.ireturn, 1) := by decide +kernel
theorem dM_answer_60 : decode cM_answer 60 = .ok (.aload_n 0, 1) := by decide +kernel
theorem dM_answer_61 : decode cM_answer 61 = .ok (.iload_n 1, 1) := by decide +kernel
theorem dM_answer_62 : decode cM_answer 62 = .ok (.iload_n 2, 1) := by decide +kernel
theorem dM_answer_63 : decode cM_answer 63 = .ok (.invokevirtual 112, 3) := by decide +kernel
theorem dM_answer_66 : decode cM_answer 66 = .ok (.ifCond .ne 15, 3) := by decide +kernel
theorem dM_answer_69 : decode cM_answer 69 = .ok (.aload_n 0, 1) := by decide +kernel
theorem dM_answer_70 : decode cM_answer 70 = .ok (.dup, 1) := by decide +kernel
theorem dM_answer_71 : decode cM_answer 71 = .ok (.getfield 115, 3) := by decide +kernel
theorem dM_answer_74 : decode cM_answer 74 = .ok (.iconst 1, 1) := by decide +kernel
theorem dM_answer_75 : decode cM_answer 75 = .ok (.iadd, 1) := by decide +kernel
theorem dM_answer_76 : decode cM_answer 76 = .ok (.putfield 115, 3) := by decide +kernel
theorem dM_answer_79 : decode cM_answer 79 = .ok (.iconst 4, 1) := by decide +kernel
theorem dM_answer_80 : decode cM_answer 80 = .ok (.ireturn, 1) := by decide +kernel
theorem dM_answer_81 : decode cM_answer 81 = .ok (.aload_n 0, 1) := by decide +kernel
theorem dM_answer_82 : decode cM_answer 82 = .ok (.getfield 47, 3) := by decide +kernel
theorem dM_answer_85 : decode cM_answer 85 = .ok (.iload_n 1, 1) := by decide +kernel
theorem dM_answer_86 : decode cM_answer 86 = .ok (.iaload, 1) := by decide +kernel
theorem dM_answer_87 : decode cM_answer 87 = .ok (.ifCond .ne 17, 3) := by decide +kernel
theorem dM_answer_90 : decode cM_answer 90 = .ok (.aload_n 0, 1) := by decide +kernel
theorem dM_answer_91 : decode cM_answer 91 = .ok (.getfield 59, 3) := by decide +kernel
theorem dM_answer_94 : decode cM_answer 94 = .ok (.iload_n 1, 1) := by decide +kernel
theorem dM_answer_95 : decode cM_answer 95 = .ok (.bipush 60, 2) := by decide +kernel
theorem dM_answer_97 : decode cM_answer 97 = .ok (.imul, 1) := by decide +kernel
theorem dM_answer_98 : decode cM_answer 98 = .ok (.iload_n 2, 1) := by decide +kernel
theorem dM_answer_99 : decode cM_answer 99 = .ok (.iadd, 1) := by decide +kernel
theorem dM_answer_100 : decode cM_answer 100 = .ok (.iload_n 3, 1) := by decide +kernel
theorem dM_answer_101 : decode cM_answer 101 = .ok (.iastore, 1) := by decide +kernel
theorem dM_answer_102 : decode cM_answer 102 = .ok (.iconst 1, 1) := by decide +kernel
theorem dM_answer_103 : decode cM_answer 103 = .ok (.ireturn, 1) := by decide +kernel
theorem dM_answer_104 : decode cM_answer 104 = .ok (.aload_n 0, 1) := by decide +kernel
theorem dM_answer_105 : decode cM_answer 105 = .ok (.dup, 1) := by decide +kernel
theorem dM_answer_106 : decode cM_answer 106 = .ok (.getfield 118, 3) := by decide +kernel
theorem dM_answer_109 : decode cM_answer 109 = .ok (.iconst 1, 1) := by decide +kernel
theorem dM_answer_110 : decode cM_answer 110 = .ok (.iadd, 1) := by decide +kernel
theorem dM_answer_111 : decode cM_answer 111 = .ok (.putfield 118, 3) := by decide +kernel
theorem dM_answer_114 : decode cM_answer 114 = .ok (.iconst (-1), 1) := by decide +kernel
theorem dM_answer_115 : decode cM_answer 115 = .ok (.istore 5, 2) := by decide +kernel
theorem dM_answer_117 : decode cM_answer 117 = .ok (.iconst 0, 1) := by decide +kernel
theorem dM_answer_118 : decode cM_answer 118 = .ok (.istore 6, 2) := by decide +kernel
theorem dM_answer_120 : decode cM_answer 120 = .ok (.iload 6, 2) := by decide +kernel
theorem dM_answer_122 : decode cM_answer 122 = .ok (.aload_n 0, 1) := by decide +kernel
theorem dM_answer_123 : decode cM_answer 123 = .ok (.getfield 76, 3) := by decide +kernel
theorem dM_answer_126 : decode cM_answer 126 = .ok (.if_icmp .ge 38, 3) := by decide +kernel
theorem dM_answer_129 : decode cM_answer 129 = .ok (.aload_n 0, 1) := by decide +kernel
theorem dM_answer_130 : decode cM_answer 130 = .ok (.getfield 47, 3) := by decide +kernel
theorem dM_answer_133 : decode cM_answer 133 = .ok (.iload 6, 2) := by decide +kernel
theorem dM_answer_135 : decode cM_answer 135 = .ok (.iaload, 1) := by decide +kernel
theorem dM_answer_136 : decode cM_answer 136 = .ok (.ifCond .ne 22, 3) := by decide +kernel
theorem dM_answer_139 : decode cM_answer 139 = .ok (.aload_n 0, 1) := by decide +kernel
theorem dM_answer_140 : decode cM_answer 140 = .ok (.getfield 50, 3) := by decide +kernel
theorem dM_answer_143 : decode cM_answer 143 = .ok (.iload 6, 2) := by decide +kernel
theorem dM_answer_145 : decode cM_answer 145 = .ok (.bipush 60, 2) := by decide +kernel
theorem dM_answer_147 : decode cM_answer 147 = .ok (.imul, 1) := by decide +kernel
theorem dM_answer_148 : decode cM_answer 148 = .ok (.iload_n 2, 1) := by decide +kernel
theorem dM_answer_149 : decode cM_answer 149 = .ok (.iadd, 1) := by decide +kernel
theorem dM_answer_150 : decode cM_answer 150 = .ok (.baload, 1) := by decide +kernel
theorem dM_answer_151 : decode cM_answer 151 = .ok (.ifCond .eq 7, 3) := by decide +kernel
theorem dM_answer_154 : decode cM_answer 154 = .ok (.iload 6, 2) := by decide +kernel
theorem dM_answer_156 : decode cM_answer 156 = .ok (.istore 5, 2) := by decide +kernel
theorem dM_answer_158 : decode cM_answer 158 = .ok (.iinc 6 1, 3) := by decide +kernel
theorem dM_answer_161 : decode cM_answer 161 = .ok (.goto (-41), 3) := by decide +kernel
theorem dM_answer_164 : decode cM_answer 164 = .ok (.iload 5, 2) := by decide +kernel
theorem dM_answer_166 : decode cM_answer 166 = .ok (.ifCond .lt 13, 3) := by decide +kernel
theorem dM_answer_169 : decode cM_answer 169 = .ok (.aload_n 0, 1) := by decide +kernel
theorem dM_answer_170 : decode cM_answer 170 = .ok (.iload 5, 2) := by decide +kernel
theorem dM_answer_172 : decode cM_answer 172 = .ok (.iload_n 2, 1) := by decide +kernel
theorem dM_answer_173 : decode cM_answer 173 = .ok (.invokevirtual 112, 3) := by decide +kernel
theorem dM_answer_176 : decode cM_answer 176 = .ok (.ifCond .ne 5, 3) := by decide +kernel
theorem dM_answer_179 : decode cM_answer 179 = .ok (.iconst 3, 1) := by decide +kernel
theorem dM_answer_180 : decode cM_answer 180 = .ok (.ireturn, 1) := by decide +kernel
theorem dM_answer_181 : decode cM_answer 181 = .ok (.aload_n 0, 1) := by decide +kernel
theorem dM_answer_182 : decode cM_answer 182 = .ok (.getfield 59, 3) := by decide +kernel
theorem dM_answer_185 : decode cM_answer 185 = .ok (.iload 5, 2) := by decide +kernel
theorem dM_answer_187 : decode cM_answer 187 = .ok (.bipush 60, 2) := by decide +kernel
theorem dM_answer_189 : decode cM_answer 189 = .ok (.imul, 1) := by decide +kernel
theorem dM_answer_190 : decode cM_answer 190 = .ok (.iload_n 2, 1) := by decide +kernel
theorem dM_answer_191 : decode cM_answer 191 = .ok (.iadd, 1) := by decide +kernel
theorem dM_answer_192 : decode cM_answer 192 = .ok (.iload_n 3, 1) := by decide +kernel
theorem dM_answer_193 : decode cM_answer 193 = .ok (.iastore, 1) := by decide +kernel
theorem dM_answer_194 : decode cM_answer 194 = .ok (.iconst 2, 1) := by decide +kernel
theorem dM_answer_195 : decode cM_answer 195 = .ok (.ireturn, 1) := by decide +kernel
theorem dM_many_0 : decode cM_many 0 = .ok (.iconst 0, 1) := by decide +kernel
theorem dM_many_1 : decode cM_many 1 = .ok (.istore_n 3, 1) := by decide +kernel
theorem dM_many_2 : decode cM_many 2 = .ok (.iconst 0, 1) := by decide +kernel
theorem dM_many_3 : decode cM_many 3 = .ok (.istore 4, 2) := by decide +kernel
theorem dM_many_5 : decode cM_many 5 = .ok (.iload 4, 2) := by decide +kernel
theorem dM_many_7 : decode cM_many 7 = .ok (.bipush 60, 2) := by decide +kernel
theorem dM_many_9 : decode cM_many 9 = .ok (.if_icmp .ge 86, 3) := by decide +kernel
theorem dM_many_12 : decode cM_many 12 = .ok (.iload_n 1, 1) := by decide +kernel
theorem dM_many_13 : decode cM_many 13 = .ok (.bipush 60, 2) := by decide +kernel
theorem dM_many_15 : decode cM_many 15 = .ok (.imul, 1) := by decide +kernel
theorem dM_many_16 : decode cM_many 16 = .ok (.iload 4, 2) := by decide +kernel
theorem dM_many_18 : decode cM_many 18 = .ok (.iadd, 1) := by decide +kernel
theorem dM_many_19 : decode cM_many 19 = .ok (.istore 5, 2) := by decide +kernel
theorem dM_many_21 : decode cM_many 21 = .ok (.aload_n 0, 1) := by decide +kernel
theorem dM_many_22 : decode cM_many 22 = .ok (.getfield 50, 3) := by decide +kernel
theorem dM_many_25 : decode cM_many 25 = .ok (.iload 5, 2) := by decide +kernel
theorem dM_many_27 : decode cM_many 27 = .ok (.baload, 1) := by decide +kernel
theorem dM_many_28 : decode cM_many 28 = .ok (.ifCond .ne 6, 3) := by decide +kernel
theorem dM_many_31 : decode cM_many 31 = .ok (.goto 58, 3) := by decide +kernel
theorem dM_many_34 : decode cM_many 34 = .ok (.iload_n 2, 1) := by decide +kernel
theorem dM_many_35 : decode cM_many 35 = .ok (.iconst 1, 1) := by decide +kernel
theorem dM_many_36 : decode cM_many 36 = .ok (.if_icmp .eq 50, 3) := by decide +kernel
theorem dM_many_39 : decode cM_many 39 = .ok (.iload_n 2, 1) := by decide +kernel
theorem dM_many_40 : decode cM_many 40 = .ok (.iconst 2, 1) := by decide +kernel
theorem dM_many_41 : decode cM_many 41 = .ok (.if_icmp .ne 13, 3) := by decide +kernel
theorem dM_many_44 : decode cM_many 44 = .ok (.aload_n 0, 1) := by decide +kernel
theorem dM_many_45 : decode cM_many 45 = .ok (.getfield 53, 3) := by decide +kernel
theorem dM_many_48 : decode cM_many 48 = .ok (.iload 5, 2) := by decide +kernel
theorem dM_many_50 : decode cM_many 50 = .ok (.iaload, 1) := by decide +kernel
theorem dM_many_51 : decode cM_many 51 = .ok (.ifCond .ge 35, 3) := by decide +kernel
theorem dM_many_54 : decode cM_many 54 = .ok (.iload_n 2, 1) := by decide +kernel
theorem dM_many_55 : decode cM_many 55 = .ok (.iconst 3, 1) := by decide +kernel
theorem dM_many_56 : decode cM_many 56 = .ok (.if_icmp .ne 15, 3) := by decide +kernel
theorem dM_many_59 : decode cM_many 59 = .ok (.aload_n 0, 1) := by decide +kernel
theorem dM_many_60 : decode cM_many 60 = .ok (.getfield 59, 3) := by decide +kernel
theorem dM_many_63 : decode cM_many 63 = .ok (.iload 5, 2) := by decide +kernel
theorem dM_many_65 : decode cM_many 65 = .ok (.iaload, 1) := by decide +kernel
theorem dM_many_66 : decode cM_many 66 = .ok (.bipush (-2), 2) := by decide +kernel
theorem dM_many_68 : decode cM_many 68 = .ok (.if_icmp .ne 18, 3) := by decide +kernel
theorem dM_many_71 : decode cM_many 71 = .ok (.iload_n 2, 1) := by decide +kernel
theorem dM_many_72 : decode cM_many 72 = .ok (.iconst 4, 1) := by decide +kernel
theorem dM_many_73 : decode cM_many 73 = .ok (.if_icmp .ne 16, 3) := by decide +kernel
theorem dM_many_76 : decode cM_many 76 = .ok (.aload_n 0, 1) := by decide +kernel
theorem dM_many_77 : decode cM_many 77 = .ok (.getfield 59, 3) := by decide +kernel
theorem dM_many_80 : decode cM_many 80 = .ok (.iload 5, 2) := by decide +kernel
theorem dM_many_82 : decode cM_many 82 = .ok (.iaload, 1) := by decide +kernel
theorem dM_many_83 : decode cM_many 83 = .ok (.ifCond .lt 6, 3) := by decide +kernel
theorem dM_many_86 : decode cM_many 86 = .ok (.iinc 3 1, 3) := by decide +kernel
theorem dM_many_89 : decode cM_many 89 = .ok (.iinc 4 1, 3) := by decide +kernel
theorem dM_many_92 : decode cM_many 92 = .ok (.goto (-87), 3) := by decide +kernel
theorem dM_many_95 : decode cM_many 95 = .ok (.iload_n 3, 1) := by decide +kernel
theorem dM_many_96 : decode cM_many 96 = .ok (.ireturn, 1) := by decide +kernel
theorem dM_tick_0 : decode cM_tick 0 = .ok (.aload_n 0, 1) := by decide +kernel
theorem dM_tick_1 : decode cM_tick 1 = .ok (.iload_n 1, 1) := by decide +kernel
theorem dM_tick_2 : decode cM_tick 2 = .ok (.iconst 1, 1) := by decide +kernel
theorem dM_tick_3 : decode cM_tick 3 = .ok (.sipush 5000, 3) := by decide +kernel
theorem dM_tick_6 : decode cM_tick 6 = .ok (.invokestatic 69, 3) := by decide +kernel
theorem dM_tick_9 : decode cM_tick 9 = .ok (.ifCond .eq 18, 3) := by decide +kernel
theorem dM_tick_12 : decode cM_tick 12 = .ok (.iload_n 1, 1) := by decide +kernel
theorem dM_tick_13 : decode cM_tick 13 = .ok (.ldc 121, 2) := by decide +kernel
theorem dM_tick_15 : decode cM_tick 15 = .ok (.aload_n 0, 1) := by decide +kernel
theorem dM_tick_16 : decode cM_tick 16 = .ok (.getfield 94, 3) := by decide +kernel
theorem dM_tick_19 : decode cM_tick 19 = .ok (.isub, 1) := by decide +kernel
theorem dM_tick_20 : decode cM_tick 20 = .ok (.if_icmp .gt 7, 3) := by decide +kernel
theorem dM_tick_23 : decode cM_tick 23 = .ok (.iconst 1, 1) := by decide +kernel
theorem dM_tick_24 : decode cM_tick 24 = .ok (.goto 4, 3) := by decide +kernel
theorem dM_tick_27 : decode cM_tick 27 = .ok (.iconst 0, 1) := by decide +kernel
theorem dM_tick_28 : decode cM_tick 28 = .ok (.iconst 1, 1) := by decide +kernel
theorem dM_tick_29 : decode cM_tick 29 = .ok (.iconst 1, 1) := by decide +kernel
theorem dM_tick_30 : decode cM_tick 30 = .ok (.invokevirtual 79, 3) := by decide +kernel
theorem dM_tick_33 : decode cM_tick 33 = .ok (.ifCond .ne 5, 3) := by decide +kernel
theorem dM_tick_36 : decode cM_tick 36 = .ok (.iconst 0, 1) := by decide +kernel
theorem dM_tick_37 : decode cM_tick 37 = .ok (.ireturn, 1) := by decide +kernel
theorem dM_tick_38 : decode cM_tick 38 = .ok (.aload_n 0, 1) := by decide +kernel
theorem dM_tick_39 : decode cM_tick 39 = .ok (.getfield 122, 3) := by decide +kernel
theorem dM_tick_42 : decode cM_tick 42 = .ok (.istore_n 2, 1) := by decide +kernel
theorem dM_tick_43 : decode cM_tick 43 = .ok (.iconst 0, 1) := by decide +kernel
theorem dM_tick_44 : decode cM_tick 44 = .ok (.istore_n 3, 1) := by decide +kernel
theorem dM_tick_45 : decode cM_tick 45 = .ok (.iload_n 3, 1) := by decide +kernel
theorem dM_tick_46 : decode cM_tick 46 = .ok (.iload_n 1, 1) := by decide +kernel
theorem dM_tick_47 : decode cM_tick 47 = .ok (.if_icmp .ge 192, 3) := by decide +kernel
theorem dM_tick_50 : decode cM_tick 50 = .ok (.aload_n 0, 1) := by decide +kernel
theorem dM_tick_51 : decode cM_tick 51 = .ok (.dup, 1) := by decide +kernel
theorem dM_tick_52 : decode cM_tick 52 = .ok (.getfield 94, 3) := by decide +kernel
theorem dM_tick_55 : decode cM_tick 55 = .ok (.iconst 1, 1) := by decide +kernel
theorem dM_tick_56 : decode cM_tick 56 = .ok (.iadd, 1) := by decide +kernel
theorem dM_tick_57 : decode cM_tick 57 = .ok (.putfield 94, 3) := by decide +kernel
theorem dM_tick_60 : decode cM_tick 60 = .ok (.iconst 0, 1) := by decide +kernel
theorem dM_tick_61 : decode cM_tick 61 = .ok (.istore 4, 2) := by decide +kernel
theorem dM_tick_63 : decode cM_tick 63 = .ok (.iload 4, 2) := by decide +kernel
theorem dM_tick_65 : decode cM_tick 65 = .ok (.aload_n 0, 1) := by decide +kernel
theorem dM_tick_66 : decode cM_tick 66 = .ok (.getfield 76, 3) := by decide +kernel
theorem dM_tick_69 : decode cM_tick 69 = .ok (.if_icmp .ge 164, 3) := by decide +kernel
theorem dM_tick_72 : decode cM_tick 72 = .ok (.aload_n 0, 1) := by decide +kernel
theorem dM_tick_73 : decode cM_tick 73 = .ok (.getfield 47, 3) := by decide +kernel
theorem dM_tick_76 : decode cM_tick 76 = .ok (.iload 4, 2) := by decide +kernel
theorem dM_tick_78 : decode cM_tick 78 = .ok (.iaload, 1) := by decide +kernel
theorem dM_tick_79 : decode cM_tick 79 = .ok (.ifCond .ne 148, 3) := by decide +kernel
theorem dM_tick_82 : decode cM_tick 82 = .ok (.aload_n 0, 1) := by decide +kernel
theorem dM_tick_83 : decode cM_tick 83 = .ok (.getfield 94, 3) := by decide +kernel
theorem dM_tick_86 : decode cM_tick 86 = .ok (.aload_n 0, 1) := by decide +kernel
theorem dM_tick_87 : decode cM_tick 87 = .ok (.getfield 41, 3) := by decide +kernel
theorem dM_tick_90 : decode cM_tick 90 = .ok (.iload 4, 2) := by decide +kernel
theorem dM_tick_92 : decode cM_tick 92 = .ok (.iaload, 1) := by decide +kernel
theorem dM_tick_93 : decode cM_tick 93 = .ok (.aload_n 0, 1) := by decide +kernel
theorem dM_tick_94 : decode cM_tick 94 = .ok (.getfield 13, 3) := by decide +kernel
theorem dM_tick_97 : decode cM_tick 97 = .ok (.aload_n 0, 1) := by decide +kernel
theorem dM_tick_98 : decode cM_tick 98 = .ok (.getfield 35, 3) := by decide +kernel
theorem dM_tick_101 : decode cM_tick 101 = .ok (.iload 4, 2) := by decide +kernel
theorem dM_tick_103 : decode cM_tick 103 = .ok (.iaload, 1) := by decide +kernel
theorem dM_tick_104 : decode cM_tick 104 = .ok (.iaload, 1) := by decide +kernel
theorem dM_tick_105 : decode cM_tick 105 = .ok (.iadd, 1) := by decide +kernel
theorem dM_tick_106 : decode cM_tick 106 = .ok (.if_icmp .ge 6, 3) := by decide +kernel
theorem dM_tick_109 : decode cM_tick 109 = .ok (.goto 118, 3) := by decide +kernel
theorem dM_tick_112 : decode cM_tick 112 = .ok (.aload_n 0, 1) := by decide +kernel
theorem dM_tick_113 : decode cM_tick 113 = .ok (.getfield 47, 3) := by decide +kernel
theorem dM_tick_116 : decode cM_tick 116 = .ok (.iload 4, 2) := by decide +kernel
theorem dM_tick_118 : decode cM_tick 118 = .ok (.aload_n 0, 1) := by decide +kernel
theorem dM_tick_119 : decode cM_tick 119 = .ok (.iload 4, 2) := by decide +kernel
theorem dM_tick_121 : decode cM_tick 121 = .ok (.iconst 4, 1) := by decide +kernel
theorem dM_tick_122 : decode cM_tick 122 = .ok (.invokevirtual 125, 3) := by decide +kernel
theorem dM_tick_125 : decode cM_tick 125 = .ok (.aload_n 0, 1) := by decide +kernel
theorem dM_tick_126 : decode cM_tick 126 = .ok (.getfield 7, 3) := by decide +kernel
theorem dM_tick_129 : decode cM_tick 129 = .ok (.aload_n 0, 1) := by decide +kernel
theorem dM_tick_130 : decode cM_tick 130 = .ok (.getfield 35, 3) := by decide +kernel
theorem dM_tick_133 : decode cM_tick 133 = .ok (.iload 4, 2) := by decide +kernel
theorem dM_tick_135 : decode cM_tick 135 = .ok (.iaload, 1) := by decide +kernel
theorem dM_tick_136 : decode cM_tick 136 = .ok (.iaload, 1) := by decide +kernel
theorem dM_tick_137 : decode cM_tick 137 = .ok (.if_icmp .lt 7, 3) := by decide +kernel
theorem dM_tick_140 : decode cM_tick 140 = .ok (.iconst 1, 1) := by decide +kernel
theorem dM_tick_141 : decode cM_tick 141 = .ok (.goto 4, 3) := by decide +kernel
theorem dM_tick_144 : decode cM_tick 144 = .ok (.iconst 2, 1) := by decide +kernel
theorem dM_tick_145 : decode cM_tick 145 = .ok (.iastore, 1) := by decide +kernel
theorem dM_tick_146 : decode cM_tick 146 = .ok (.aload_n 0, 1) := by decide +kernel
theorem dM_tick_147 : decode cM_tick 147 = .ok (.getfield 16, 3) := by decide +kernel
theorem dM_tick_150 : decode cM_tick 150 = .ok (.aload_n 0, 1) := by decide +kernel
theorem dM_tick_151 : decode cM_tick 151 = .ok (.getfield 35, 3) := by decide +kernel
theorem dM_tick_154 : decode cM_tick 154 = .ok (.iload 4, 2) := by decide +kernel
theorem dM_tick_156 : decode cM_tick 156 = .ok (.iaload, 1) := by decide +kernel
theorem dM_tick_157 : decode cM_tick 157 = .ok (.iaload, 1) := by decide +kernel
theorem dM_tick_158 : decode cM_tick 158 = .ok (.istore 5, 2) := by decide +kernel
theorem dM_tick_160 : decode cM_tick 160 = .ok (.aload_n 0, 1) := by decide +kernel
theorem dM_tick_161 : decode cM_tick 161 = .ok (.getfield 47, 3) := by decide +kernel
theorem dM_tick_164 : decode cM_tick 164 = .ok (.iload 4, 2) := by decide +kernel
theorem dM_tick_166 : decode cM_tick 166 = .ok (.iaload, 1) := by decide +kernel
theorem dM_tick_167 : decode cM_tick 167 = .ok (.iconst 1, 1) := by decide +kernel
theorem dM_tick_168 : decode cM_tick 168 = .ok (.if_icmp .eq 59, 3) := by decide +kernel
theorem dM_tick_171 : decode cM_tick 171 = .ok (.aload_n 0, 1) := by decide +kernel
theorem dM_tick_172 : decode cM_tick 172 = .ok (.getfield 38, 3) := by decide +kernel
theorem dM_tick_175 : decode cM_tick 175 = .ok (.iload 4, 2) := by decide +kernel
theorem dM_tick_177 : decode cM_tick 177 = .ok (.baload, 1) := by decide +kernel
theorem dM_tick_178 : decode cM_tick 178 = .ok (.ifCond .ne 49, 3) := by decide +kernel
theorem dM_tick_181 : decode cM_tick 181 = .ok (.iload 5, 2) := by decide +kernel
theorem dM_tick_183 : decode cM_tick 183 = .ok (.ifCond .lt 44, 3) := by decide +kernel
theorem dM_tick_186 : decode cM_tick 186 = .ok (.aload_n 0, 1) := by decide +kernel
theorem dM_tick_187 : decode cM_tick 187 = .ok (.getfield 76, 3) := by decide +kernel
theorem dM_tick_190 : decode cM_tick 190 = .ok (.bipush 60, 2) := by decide +kernel
theorem dM_tick_192 : decode cM_tick 192 = .ok (.if_icmp .eq 35, 3) := by decide +kernel
theorem dM_tick_195 : decode cM_tick 195 = .ok (.aload_n 0, 1) := by decide +kernel
theorem dM_tick_196 : decode cM_tick 196 = .ok (.iload 5, 2) := by decide +kernel
theorem dM_tick_198 : decode cM_tick 198 = .ok (.iconst 0, 1) := by decide +kernel
theorem dM_tick_199 : decode cM_tick 199 = .ok (.invokevirtual 97, 3) := by decide +kernel
theorem dM_tick_202 : decode cM_tick 202 = .ok (.ifCond .ne 6, 3) := by decide +kernel
theorem dM_tick_205 : decode cM_tick 205 = .ok (.goto 22, 3) := by decide +kernel
theorem dM_tick_208 : decode cM_tick 208 = .ok (.aload_n 0, 1) := by decide +kernel
theorem dM_tick_209 : decode cM_tick 209 = .ok (.iload 5, 2) := by decide +kernel
theorem dM_tick_211 : decode cM_tick 211 = .ok (.iconst 0, 1) := by decide +kernel
theorem dM_tick_212 : decode cM_tick 212 = .ok (.iload 4, 2) := by decide +kernel
theorem dM_tick_214 : decode cM_tick 214 = .ok (.invokevirtual 101, 3) := by decide +kernel
theorem dM_tick_217 : decode cM_tick 217 = .ok (.aload_n 0, 1) := by decide +kernel
theorem dM_tick_218 : decode cM_tick 218 = .ok (.dup, 1) := by decide +kernel
theorem dM_tick_219 : decode cM_tick 219 = .ok (.getfield 122, 3) := by decide +kernel
theorem dM_tick_222 : decode cM_tick 222 = .ok (.iconst 1, 1) := by decide +kernel
theorem dM_tick_223 : decode cM_tick 223 = .ok (.iadd, 1) := by decide +kernel
theorem dM_tick_224 : decode cM_tick 224 = .ok (.putfield 122, 3) := by decide +kernel
theorem dM_tick_227 : decode cM_tick 227 = .ok (.iinc 4 1, 3) := by decide +kernel
theorem dM_tick_230 : decode cM_tick 230 = .ok (.goto (-167), 3) := by decide +kernel
theorem dM_tick_233 : decode cM_tick 233 = .ok (.iinc 3 1, 3) := by decide +kernel
theorem dM_tick_236 : decode cM_tick 236 = .ok (.goto (-191), 3) := by decide +kernel
theorem dM_tick_239 : decode cM_tick 239 = .ok (.aload_n 0, 1) := by decide +kernel
theorem dM_tick_240 : decode cM_tick 240 = .ok (.getfield 122, 3) := by decide +kernel
theorem dM_tick_243 : decode cM_tick 243 = .ok (.iload_n 2, 1) := by decide +kernel
theorem dM_tick_244 : decode cM_tick 244 = .ok (.isub, 1) := by decide +kernel
theorem dM_tick_245 : decode cM_tick 245 = .ok (.ireturn, 1) := by decide +kernel
theorem dM_alarmAt_0 : decode cM_alarmAt 0 = .ok (.aload_n 0, 1) := by decide +kernel
theorem dM_alarmAt_1 : decode cM_alarmAt 1 = .ok (.aload_n 0, 1) := by decide +kernel
theorem dM_alarmAt_2 : decode cM_alarmAt 2 = .ok (.iload_n 1, 1) := by decide +kernel
theorem dM_alarmAt_3 : decode cM_alarmAt 3 = .ok (.invokevirtual 109, 3) := by decide +kernel
theorem dM_alarmAt_6 : decode cM_alarmAt 6 = .ok (.ifCond .eq 17, 3) := by decide +kernel
theorem dM_alarmAt_9 : decode cM_alarmAt 9 = .ok (.iload_n 2, 1) := by decide +kernel
theorem dM_alarmAt_10 : decode cM_alarmAt 10 = .ok (.iconst 0, 1) := by decide +kernel
theorem dM_alarmAt_11 : decode cM_alarmAt 11 = .ok (.bipush 6, 2) := by decide +kernel
theorem dM_alarmAt_13 : decode cM_alarmAt 13 = .ok (.invokestatic 69, 3) := by decide +kernel
theorem dM_alarmAt_16 : decode cM_alarmAt 16 = .ok (.ifCond .eq 7, 3) := by decide +kernel
theorem dM_alarmAt_19 : decode cM_alarmAt 19 = .ok (.iconst 1, 1) := by decide +kernel
theorem dM_alarmAt_20 : decode cM_alarmAt 20 = .ok (.goto 4, 3) := by decide +kernel
theorem dM_alarmAt_23 : decode cM_alarmAt 23 = .ok (.iconst 0, 1) := by decide +kernel
theorem dM_alarmAt_24 : decode cM_alarmAt 24 = .ok (.iconst 1, 1) := by decide +kernel
theorem dM_alarmAt_25 : decode cM_alarmAt 25 = .ok (.iconst 1, 1) := by decide +kernel
theorem dM_alarmAt_26 : decode cM_alarmAt 26 = .ok (.invokevirtual 79, 3) := by decide +kernel
theorem dM_alarmAt_29 : decode cM_alarmAt 29 = .ok (.ifCond .ne 5, 3) := by decide +kernel
theorem dM_alarmAt_32 : decode cM_alarmAt 32 = .ok (.iconst 0, 1) := by decide +kernel
theorem dM_alarmAt_33 : decode cM_alarmAt 33 = .ok (.ireturn, 1) := by decide +kernel
theorem dM_alarmAt_34 : decode cM_alarmAt 34 = .ok (.iload_n 2, 1) := by decide +kernel
theorem dM_alarmAt_35 : decode cM_alarmAt 35 = .ok (.ifCond .ne 12, 3) := by decide +kernel
theorem dM_alarmAt_38 : decode cM_alarmAt 38 = .ok (.aload_n 0, 1) := by decide +kernel
theorem dM_alarmAt_39 : decode cM_alarmAt 39 = .ok (.getfield 47, 3) := by decide +kernel
theorem dM_alarmAt_42 : decode cM_alarmAt 42 = .ok (.iload_n 1, 1) := by decide +kernel
theorem dM_alarmAt_43 : decode cM_alarmAt 43 = .ok (.iaload, 1) := by decide +kernel
theorem dM_alarmAt_44 : decode cM_alarmAt 44 = .ok (.goto 37, 3) := by decide +kernel
theorem dM_alarmAt_47 : decode cM_alarmAt 47 = .ok (.iload_n 2, 1) := by decide +kernel
theorem dM_alarmAt_48 : decode cM_alarmAt 48 = .ok (.iconst 5, 1) := by decide +kernel
theorem dM_alarmAt_49 : decode cM_alarmAt 49 = .ok (.if_icmp .ge 12, 3) := by decide +kernel
theorem dM_alarmAt_52 : decode cM_alarmAt 52 = .ok (.aload_n 0, 1) := by decide +kernel
theorem dM_alarmAt_53 : decode cM_alarmAt 53 = .ok (.iload_n 1, 1) := by decide +kernel
theorem dM_alarmAt_54 : decode cM_alarmAt 54 = .ok (.iload_n 2, 1) := by decide +kernel
theorem dM_alarmAt_55 : decode cM_alarmAt 55 = .ok (.invokevirtual 125, 3) := by decide +kernel
theorem dM_alarmAt_58 : decode cM_alarmAt 58 = .ok (.goto 23, 3) := by decide +kernel
theorem dM_alarmAt_61 : decode cM_alarmAt 61 = .ok (.iload_n 2, 1) := by decide +kernel
theorem dM_alarmAt_62 : decode cM_alarmAt 62 = .ok (.iconst 5, 1) := by decide +kernel
theorem dM_alarmAt_63 : decode cM_alarmAt 63 = .ok (.if_icmp .ne 12, 3) := by decide +kernel
theorem dM_alarmAt_66 : decode cM_alarmAt 66 = .ok (.aload_n 0, 1) := by decide +kernel
theorem dM_alarmAt_67 : decode cM_alarmAt 67 = .ok (.getfield 44, 3) := by decide +kernel
theorem dM_alarmAt_70 : decode cM_alarmAt 70 = .ok (.iload_n 1, 1) := by decide +kernel
theorem dM_alarmAt_71 : decode cM_alarmAt 71 = .ok (.iaload, 1) := by decide +kernel
theorem dM_alarmAt_72 : decode cM_alarmAt 72 = .ok (.goto 9, 3) := by decide +kernel
theorem dM_alarmAt_75 : decode cM_alarmAt 75 = .ok (.aload_n 0, 1) := by decide +kernel
theorem dM_alarmAt_76 : decode cM_alarmAt 76 = .ok (.getfield 41, 3) := by decide +kernel
theorem dM_alarmAt_79 : decode cM_alarmAt 79 = .ok (.iload_n 1, 1) := by decide +kernel
theorem dM_alarmAt_80 : decode cM_alarmAt 80 = .ok (.iaload, 1) := by decide +kernel
theorem dM_alarmAt_81 : decode cM_alarmAt 81 = .ok (.ireturn, 1) := by decide +kernel
theorem dM_comes_0 : decode cM_comes 0 = .ok (.aload_n 0, 1) := by decide +kernel
theorem dM_comes_1 : decode cM_comes 1 = .ok (.aload_n 0, 1) := by decide +kernel
theorem dM_comes_2 : decode cM_comes 2 = .ok (.iload_n 1, 1) := by decide +kernel
theorem dM_comes_3 : decode cM_comes 3 = .ok (.invokevirtual 109, 3) := by decide +kernel
theorem dM_comes_6 : decode cM_comes 6 = .ok (.iload_n 2, 1) := by decide +kernel
theorem dM_comes_7 : decode cM_comes 7 = .ok (.ifCond .lt 7, 3) := by decide +kernel
theorem dM_comes_10 : decode cM_comes 10 = .ok (.iconst 1, 1) := by decide +kernel
theorem dM_comes_11 : decode cM_comes 11 = .ok (.goto 4, 3) := by decide +kernel
theorem dM_comes_14 : decode cM_comes 14 = .ok (.iconst 0, 1) := by decide +kernel
theorem dM_comes_15 : decode cM_comes 15 = .ok (.iconst 1, 1) := by decide +kernel
theorem dM_comes_16 : decode cM_comes 16 = .ok (.invokevirtual 79, 3) := by decide +kernel
theorem dM_comes_19 : decode cM_comes 19 = .ok (.ifCond .ne 5, 3) := by decide +kernel
theorem dM_comes_22 : decode cM_comes 22 = .ok (.iconst 0, 1) := by decide +kernel
theorem dM_comes_23 : decode cM_comes 23 = .ok (.ireturn, 1) := by decide +kernel
theorem dM_comes_24 : decode cM_comes 24 = .ok (.iconst (-1), 1) := by decide +kernel
theorem dM_comes_25 : decode cM_comes 25 = .ok (.istore_n 3, 1) := by decide +kernel
theorem dM_comes_26 : decode cM_comes 26 = .ok (.iconst 0, 1) := by decide +kernel
theorem dM_comes_27 : decode cM_comes 27 = .ok (.istore 4, 2) := by decide +kernel
theorem dM_comes_29 : decode cM_comes 29 = .ok (.iload 4, 2) := by decide +kernel
theorem dM_comes_31 : decode cM_comes 31 = .ok (.iload_n 2, 1) := by decide +kernel
theorem dM_comes_32 : decode cM_comes 32 = .ok (.if_icmp .gt 114, 3) := by decide +kernel
theorem dM_comes_35 : decode cM_comes 35 = .ok (.iconst (-1), 1) := by decide +kernel
theorem dM_comes_36 : decode cM_comes 36 = .ok (.istore 5, 2) := by decide +kernel
theorem dM_comes_38 : decode cM_comes 38 = .ok (.iconst 0, 1) := by decide +kernel
theorem dM_comes_39 : decode cM_comes 39 = .ok (.istore 6, 2) := by decide +kernel
theorem dM_comes_41 : decode cM_comes 41 = .ok (.iload 6, 2) := by decide +kernel
theorem dM_comes_43 : decode cM_comes 43 = .ok (.aload_n 0, 1) := by decide +kernel
theorem dM_comes_44 : decode cM_comes 44 = .ok (.getfield 73, 3) := by decide +kernel
theorem dM_comes_47 : decode cM_comes 47 = .ok (.if_icmp .ge 83, 3) := by decide +kernel
theorem dM_comes_50 : decode cM_comes 50 = .ok (.aload_n 0, 1) := by decide +kernel
theorem dM_comes_51 : decode cM_comes 51 = .ok (.getfield 50, 3) := by decide +kernel
theorem dM_comes_54 : decode cM_comes 54 = .ok (.iload_n 1, 1) := by decide +kernel
theorem dM_comes_55 : decode cM_comes 55 = .ok (.bipush 60, 2) := by decide +kernel
theorem dM_comes_57 : decode cM_comes 57 = .ok (.imul, 1) := by decide +kernel
theorem dM_comes_58 : decode cM_comes 58 = .ok (.iload 6, 2) := by decide +kernel
theorem dM_comes_60 : decode cM_comes 60 = .ok (.iadd, 1) := by decide +kernel
theorem dM_comes_61 : decode cM_comes 61 = .ok (.baload, 1) := by decide +kernel
theorem dM_comes_62 : decode cM_comes 62 = .ok (.ifCond .eq 18, 3) := by decide +kernel
theorem dM_comes_65 : decode cM_comes 65 = .ok (.aload_n 0, 1) := by decide +kernel
theorem dM_comes_66 : decode cM_comes 66 = .ok (.getfield 59, 3) := by decide +kernel
theorem dM_comes_69 : decode cM_comes 69 = .ok (.iload_n 1, 1) := by decide +kernel
theorem dM_comes_70 : decode cM_comes 70 = .ok (.bipush 60, 2) := by decide +kernel
theorem dM_comes_72 : decode cM_comes 72 = .ok (.imul, 1) := by decide +kernel
theorem dM_comes_73 : decode cM_comes 73 = .ok (.iload 6, 2) := by decide +kernel
theorem dM_comes_75 : decode cM_comes 75 = .ok (.iadd, 1) := by decide +kernel
theorem dM_comes_76 : decode cM_comes 76 = .ok (.iaload, 1) := by decide +kernel
theorem dM_comes_77 : decode cM_comes 77 = .ok (.goto 4, 3) := by decide +kernel
theorem dM_comes_80 : decode cM_comes 80 = .ok (.iconst (-1), 1) := by decide +kernel
theorem dM_comes_81 : decode cM_comes 81 = .ok (.istore 7, 2) := by decide +kernel
theorem dM_comes_83 : decode cM_comes 83 = .ok (.iload 7, 2) := by decide +kernel
theorem dM_comes_85 : decode cM_comes 85 = .ok (.ifCond .ge 6, 3) := by decide +kernel
theorem dM_comes_88 : decode cM_comes 88 = .ok (.goto 36, 3) := by decide +kernel
theorem dM_comes_91 : decode cM_comes 91 = .ok (.sipush 1000, 3) := by decide +kernel
theorem dM_comes_94 : decode cM_comes 94 = .ok (.iload 7, 2) := by decide +kernel
theorem dM_comes_96 : decode cM_comes 96 = .ok (.imul, 1) := by decide +kernel
theorem dM_comes_97 : decode cM_comes 97 = .ok (.iload 6, 2) := by decide +kernel
theorem dM_comes_99 : decode cM_comes 99 = .ok (.iadd, 1) := by decide +kernel
theorem dM_comes_100 : decode cM_comes 100 = .ok (.istore 8, 2) := by decide +kernel
theorem dM_comes_102 : decode cM_comes 102 = .ok (.iload 8, 2) := by decide +kernel
theorem dM_comes_104 : decode cM_comes 104 = .ok (.iload_n 3, 1) := by decide +kernel
theorem dM_comes_105 : decode cM_comes 105 = .ok (.if_icmp .le 19, 3) := by decide +kernel
theorem dM_comes_108 : decode cM_comes 108 = .ok (.iload 5, 2) := by decide +kernel
theorem dM_comes_110 : decode cM_comes 110 = .ok (.ifCond .lt 10, 3) := by decide +kernel
theorem dM_comes_113 : decode cM_comes 113 = .ok (.iload 8, 2) := by decide +kernel
theorem dM_comes_115 : decode cM_comes 115 = .ok (.iload 5, 2) := by decide +kernel
theorem dM_comes_117 : decode cM_comes 117 = .ok (.if_icmp .ge 7, 3) := by decide +kernel
theorem dM_comes_120 : decode cM_comes 120 = .ok (.iload 8, 2) := by decide +kernel
theorem dM_comes_122 : decode cM_comes 122 = .ok (.istore 5, 2) := by decide +kernel
theorem dM_comes_124 : decode cM_comes 124 = .ok (.iinc 6 1, 3) := by decide +kernel
theorem dM_comes_127 : decode cM_comes 127 = .ok (.goto (-86), 3) := by decide +kernel
theorem dM_comes_130 : decode cM_comes 130 = .ok (.iload 5, 2) := by decide +kernel
theorem dM_comes_132 : decode cM_comes 132 = .ok (.ifCond .ge 5, 3) := by decide +kernel
theorem dM_comes_135 : decode cM_comes 135 = .ok (.iconst (-1), 1) := by decide +kernel
theorem dM_comes_136 : decode cM_comes 136 = .ok (.ireturn, 1) := by decide +kernel
theorem dM_comes_137 : decode cM_comes 137 = .ok (.iload 5, 2) := by decide +kernel
theorem dM_comes_139 : decode cM_comes 139 = .ok (.istore_n 3, 1) := by decide +kernel
theorem dM_comes_140 : decode cM_comes 140 = .ok (.iinc 4 1, 3) := by decide +kernel
theorem dM_comes_143 : decode cM_comes 143 = .ok (.goto (-114), 3) := by decide +kernel
theorem dM_comes_146 : decode cM_comes 146 = .ok (.sipush 1000, 3) := by decide +kernel
theorem dM_comes_149 : decode cM_comes 149 = .ok (.iload_n 3, 1) := by decide +kernel
theorem dM_comes_150 : decode cM_comes 150 = .ok (.sipush 1000, 3) := by decide +kernel
theorem dM_comes_153 : decode cM_comes 153 = .ok (.irem, 1) := by decide +kernel
theorem dM_comes_154 : decode cM_comes 154 = .ok (.imul, 1) := by decide +kernel
theorem dM_comes_155 : decode cM_comes 155 = .ok (.iload_n 3, 1) := by decide +kernel
theorem dM_comes_156 : decode cM_comes 156 = .ok (.sipush 1000, 3) := by decide +kernel
theorem dM_comes_159 : decode cM_comes 159 = .ok (.idiv, 1) := by decide +kernel
theorem dM_comes_160 : decode cM_comes 160 = .ok (.iadd, 1) := by decide +kernel
theorem dM_comes_161 : decode cM_comes 161 = .ok (.ireturn, 1) := by decide +kernel
theorem dM_reached_0 : decode cM_reached 0 = .ok (.aload_n 0, 1) := by decide +kernel
theorem dM_reached_1 : decode cM_reached 1 = .ok (.aload_n 0, 1) := by decide +kernel
theorem dM_reached_2 : decode cM_reached 2 = .ok (.iload_n 1, 1) := by decide +kernel
theorem dM_reached_3 : decode cM_reached 3 = .ok (.invokevirtual 109, 3) := by decide +kernel
theorem dM_reached_6 : decode cM_reached 6 = .ok (.ifCond .eq 15, 3) := by decide +kernel
theorem dM_reached_9 : decode cM_reached 9 = .ok (.aload_n 0, 1) := by decide +kernel
theorem dM_reached_10 : decode cM_reached 10 = .ok (.iload_n 2, 1) := by decide +kernel
theorem dM_reached_11 : decode cM_reached 11 = .ok (.invokevirtual 87, 3) := by decide +kernel
theorem dM_reached_14 : decode cM_reached 14 = .ok (.ifCond .eq 7, 3) := by decide +kernel
theorem dM_reached_17 : decode cM_reached 17 = .ok (.iconst 1, 1) := by decide +kernel
theorem dM_reached_18 : decode cM_reached 18 = .ok (.goto 4, 3) := by decide +kernel
theorem dM_reached_21 : decode cM_reached 21 = .ok (.iconst 0, 1) := by decide +kernel
theorem dM_reached_22 : decode cM_reached 22 = .ok (.iconst 1, 1) := by decide +kernel
theorem dM_reached_23 : decode cM_reached 23 = .ok (.iconst 1, 1) := by decide +kernel
theorem dM_reached_24 : decode cM_reached 24 = .ok (.invokevirtual 79, 3) := by decide +kernel
theorem dM_reached_27 : decode cM_reached 27 = .ok (.ifCond .ne 5, 3) := by decide +kernel
theorem dM_reached_30 : decode cM_reached 30 = .ok (.iconst 0, 1) := by decide +kernel
theorem dM_reached_31 : decode cM_reached 31 = .ok (.ireturn, 1) := by decide +kernel
theorem dM_reached_32 : decode cM_reached 32 = .ok (.aload_n 0, 1) := by decide +kernel
theorem dM_reached_33 : decode cM_reached 33 = .ok (.iload_n 1, 1) := by decide +kernel
theorem dM_reached_34 : decode cM_reached 34 = .ok (.iload_n 2, 1) := by decide +kernel
theorem dM_reached_35 : decode cM_reached 35 = .ok (.invokevirtual 105, 3) := by decide +kernel
theorem dM_reached_38 : decode cM_reached 38 = .ok (.ifCond .eq 32, 3) := by decide +kernel
theorem dM_reached_41 : decode cM_reached 41 = .ok (.bipush 10, 2) := by decide +kernel
theorem dM_reached_43 : decode cM_reached 43 = .ok (.aload_n 0, 1) := by decide +kernel
theorem dM_reached_44 : decode cM_reached 44 = .ok (.getfield 56, 3) := by decide +kernel
theorem dM_reached_47 : decode cM_reached 47 = .ok (.iload_n 1, 1) := by decide +kernel
theorem dM_reached_48 : decode cM_reached 48 = .ok (.bipush 60, 2) := by decide +kernel
theorem dM_reached_50 : decode cM_reached 50 = .ok (.imul, 1) := by decide +kernel
theorem dM_reached_51 : decode cM_reached 51 = .ok (.iload_n 2, 1) := by decide +kernel
theorem dM_reached_52 : decode cM_reached 52 = .ok (.iadd, 1) := by decide +kernel
theorem dM_reached_53 : decode cM_reached 53 = .ok (.iaload, 1) := by decide +kernel
theorem dM_reached_54 : decode cM_reached 54 = .ok (.imul, 1) := by decide +kernel
theorem dM_reached_55 : decode cM_reached 55 = .ok (.aload_n 0, 1) := by decide +kernel
theorem dM_reached_56 : decode cM_reached 56 = .ok (.getfield 53, 3) := by decide +kernel
theorem dM_reached_59 : decode cM_reached 59 = .ok (.iload_n 1, 1) := by decide +kernel
theorem dM_reached_60 : decode cM_reached 60 = .ok (.bipush 60, 2) := by decide +kernel
theorem dM_reached_62 : decode cM_reached 62 = .ok (.imul, 1) := by decide +kernel
theorem dM_reached_63 : decode cM_reached 63 = .ok (.iload_n 2, 1) := by decide +kernel
theorem dM_reached_64 : decode cM_reached 64 = .ok (.iadd, 1) := by decide +kernel
theorem dM_reached_65 : decode cM_reached 65 = .ok (.iaload, 1) := by decide +kernel
theorem dM_reached_66 : decode cM_reached 66 = .ok (.iadd, 1) := by decide +kernel
theorem dM_reached_67 : decode cM_reached 67 = .ok (.goto 4, 3) := by decide +kernel
theorem dM_reached_70 : decode cM_reached 70 = .ok (.iconst (-1), 1) := by decide +kernel
theorem dM_reached_71 : decode cM_reached 71 = .ok (.ireturn, 1) := by decide +kernel
theorem dM_share_0 : decode cM_share 0 = .ok (.iconst 0, 1) := by decide +kernel
theorem dM_share_1 : decode cM_share 1 = .ok (.istore_n 3, 1) := by decide +kernel
theorem dM_share_2 : decode cM_share 2 = .ok (.iconst 0, 1) := by decide +kernel
theorem dM_share_3 : decode cM_share 3 = .ok (.istore 4, 2) := by decide +kernel
theorem dM_share_5 : decode cM_share 5 = .ok (.iconst 0, 1) := by decide +kernel
theorem dM_share_6 : decode cM_share 6 = .ok (.istore 5, 2) := by decide +kernel
theorem dM_share_8 : decode cM_share 8 = .ok (.iload 5, 2) := by decide +kernel
theorem dM_share_10 : decode cM_share 10 = .ok (.aload_n 0, 1) := by decide +kernel
theorem dM_share_11 : decode cM_share 11 = .ok (.getfield 76, 3) := by decide +kernel
theorem dM_share_14 : decode cM_share 14 = .ok (.if_icmp .ge 55, 3) := by decide +kernel
theorem dM_share_17 : decode cM_share 17 = .ok (.aload_n 0, 1) := by decide +kernel
theorem dM_share_18 : decode cM_share 18 = .ok (.getfield 35, 3) := by decide +kernel
theorem dM_share_21 : decode cM_share 21 = .ok (.iload 5, 2) := by decide +kernel
theorem dM_share_23 : decode cM_share 23 = .ok (.iaload, 1) := by decide +kernel
theorem dM_share_24 : decode cM_share 24 = .ok (.iload_n 1, 1) := by decide +kernel
theorem dM_share_25 : decode cM_share 25 = .ok (.if_icmp .ne 38, 3) := by decide +kernel
theorem dM_share_28 : decode cM_share 28 = .ok (.aload_n 0, 1) := by decide +kernel
theorem dM_share_29 : decode cM_share 29 = .ok (.getfield 47, 3) := by decide +kernel
theorem dM_share_32 : decode cM_share 32 = .ok (.iload 5, 2) := by decide +kernel
theorem dM_share_34 : decode cM_share 34 = .ok (.iaload, 1) := by decide +kernel
theorem dM_share_35 : decode cM_share 35 = .ok (.ifCond .ne 6, 3) := by decide +kernel
theorem dM_share_38 : decode cM_share 38 = .ok (.goto 25, 3) := by decide +kernel
theorem dM_share_41 : decode cM_share 41 = .ok (.iload_n 3, 1) := by decide +kernel
theorem dM_share_42 : decode cM_share 42 = .ok (.aload_n 0, 1) := by decide +kernel
theorem dM_share_43 : decode cM_share 43 = .ok (.iload 5, 2) := by decide +kernel
theorem dM_share_45 : decode cM_share 45 = .ok (.iconst 1, 1) := by decide +kernel
theorem dM_share_46 : decode cM_share 46 = .ok (.invokevirtual 125, 3) := by decide +kernel
theorem dM_share_49 : decode cM_share 49 = .ok (.iadd, 1) := by decide +kernel
theorem dM_share_50 : decode cM_share 50 = .ok (.istore_n 3, 1) := by decide +kernel
theorem dM_share_51 : decode cM_share 51 = .ok (.iload 4, 2) := by decide +kernel
theorem dM_share_53 : decode cM_share 53 = .ok (.aload_n 0, 1) := by decide +kernel
theorem dM_share_54 : decode cM_share 54 = .ok (.iload 5, 2) := by decide +kernel
theorem dM_share_56 : decode cM_share 56 = .ok (.iconst 3, 1) := by decide +kernel
theorem dM_share_57 : decode cM_share 57 = .ok (.invokevirtual 125, 3) := by decide +kernel
theorem dM_share_60 : decode cM_share 60 = .ok (.iadd, 1) := by decide +kernel
theorem dM_share_61 : decode cM_share 61 = .ok (.istore 4, 2) := by decide +kernel
theorem dM_share_63 : decode cM_share 63 = .ok (.iinc 5 1, 3) := by decide +kernel
theorem dM_share_66 : decode cM_share 66 = .ok (.goto (-58), 3) := by decide +kernel
theorem dM_share_69 : decode cM_share 69 = .ok (.aload_n 0, 1) := by decide +kernel
theorem dM_share_70 : decode cM_share 70 = .ok (.aload_n 0, 1) := by decide +kernel
theorem dM_share_71 : decode cM_share 71 = .ok (.iload_n 1, 1) := by decide +kernel
theorem dM_share_72 : decode cM_share 72 = .ok (.invokevirtual 83, 3) := by decide +kernel
theorem dM_share_75 : decode cM_share 75 = .ok (.ifCond .eq 16, 3) := by decide +kernel
theorem dM_share_78 : decode cM_share 78 = .ok (.iload_n 2, 1) := by decide +kernel
theorem dM_share_79 : decode cM_share 79 = .ok (.iconst 0, 1) := by decide +kernel
theorem dM_share_80 : decode cM_share 80 = .ok (.iconst 1, 1) := by decide +kernel
theorem dM_share_81 : decode cM_share 81 = .ok (.invokestatic 69, 3) := by decide +kernel
theorem dM_share_84 : decode cM_share 84 = .ok (.ifCond .eq 7, 3) := by decide +kernel
theorem dM_share_87 : decode cM_share 87 = .ok (.iconst 1, 1) := by decide +kernel
theorem dM_share_88 : decode cM_share 88 = .ok (.goto 4, 3) := by decide +kernel
theorem dM_share_91 : decode cM_share 91 = .ok (.iconst 0, 1) := by decide +kernel
theorem dM_share_92 : decode cM_share 92 = .ok (.iload_n 3, 1) := by decide +kernel
theorem dM_share_93 : decode cM_share 93 = .ok (.ifCond .le 7, 3) := by decide +kernel
theorem dM_share_96 : decode cM_share 96 = .ok (.iconst 1, 1) := by decide +kernel
theorem dM_share_97 : decode cM_share 97 = .ok (.goto 4, 3) := by decide +kernel
theorem dM_share_100 : decode cM_share 100 = .ok (.iconst 0, 1) := by decide +kernel
theorem dM_share_101 : decode cM_share 101 = .ok (.iconst 1, 1) := by decide +kernel
theorem dM_share_102 : decode cM_share 102 = .ok (.invokevirtual 79, 3) := by decide +kernel
theorem dM_share_105 : decode cM_share 105 = .ok (.ifCond .ne 5, 3) := by decide +kernel
theorem dM_share_108 : decode cM_share 108 = .ok (.iconst 0, 1) := by decide +kernel
theorem dM_share_109 : decode cM_share 109 = .ok (.ireturn, 1) := by decide +kernel
theorem dM_share_110 : decode cM_share 110 = .ok (.iload_n 3, 1) := by decide +kernel
theorem dM_share_111 : decode cM_share 111 = .ok (.istore 5, 2) := by decide +kernel
theorem dM_share_113 : decode cM_share 113 = .ok (.iload 4, 2) := by decide +kernel
theorem dM_share_115 : decode cM_share 115 = .ok (.istore 6, 2) := by decide +kernel
theorem dM_share_117 : decode cM_share 117 = .ok (.iload 6, 2) := by decide +kernel
theorem dM_share_119 : decode cM_share 119 = .ok (.ifCond .le 21, 3) := by decide +kernel
theorem dM_share_122 : decode cM_share 122 = .ok (.iload 5, 2) := by decide +kernel
theorem dM_share_124 : decode cM_share 124 = .ok (.iload 6, 2) := by decide +kernel
theorem dM_share_126 : decode cM_share 126 = .ok (.irem, 1) := by decide +kernel
theorem dM_share_127 : decode cM_share 127 = .ok (.istore 7, 2) := by decide +kernel
theorem dM_share_129 : decode cM_share 129 = .ok (.iload 6, 2) := by decide +kernel
theorem dM_share_131 : decode cM_share 131 = .ok (.istore 5, 2) := by decide +kernel
theorem dM_share_133 : decode cM_share 133 = .ok (.iload 7, 2) := by decide +kernel
theorem dM_share_135 : decode cM_share 135 = .ok (.istore 6, 2) := by decide +kernel
theorem dM_share_137 : decode cM_share 137 = .ok (.goto (-20), 3) := by decide +kernel
theorem dM_share_140 : decode cM_share 140 = .ok (.iload_n 2, 1) := by decide +kernel
theorem dM_share_141 : decode cM_share 141 = .ok (.ifCond .ne 8, 3) := by decide +kernel
theorem dM_share_144 : decode cM_share 144 = .ok (.iload 4, 2) := by decide +kernel
theorem dM_share_146 : decode cM_share 146 = .ok (.goto 4, 3) := by decide +kernel
theorem dM_share_149 : decode cM_share 149 = .ok (.iload_n 3, 1) := by decide +kernel
theorem dM_share_150 : decode cM_share 150 = .ok (.iload 5, 2) := by decide +kernel
theorem dM_share_152 : decode cM_share 152 = .ok (.idiv, 1) := by decide +kernel
theorem dM_share_153 : decode cM_share 153 = .ok (.ireturn, 1) := by decide +kernel
theorem dM_isSilent_0 : decode cM_isSilent 0 = .ok (.iconst 0, 1) := by decide +kernel
theorem dM_isSilent_1 : decode cM_isSilent 1 = .ok (.istore_n 2, 1) := by decide +kernel
theorem dM_isSilent_2 : decode cM_isSilent 2 = .ok (.iconst 0, 1) := by decide +kernel
theorem dM_isSilent_3 : decode cM_isSilent 3 = .ok (.istore_n 3, 1) := by decide +kernel
theorem dM_isSilent_4 : decode cM_isSilent 4 = .ok (.iload_n 3, 1) := by decide +kernel
theorem dM_isSilent_5 : decode cM_isSilent 5 = .ok (.aload_n 0, 1) := by decide +kernel
theorem dM_isSilent_6 : decode cM_isSilent 6 = .ok (.getfield 76, 3) := by decide +kernel
theorem dM_isSilent_9 : decode cM_isSilent 9 = .ok (.if_icmp .ge 56, 3) := by decide +kernel
theorem dM_isSilent_12 : decode cM_isSilent 12 = .ok (.aload_n 0, 1) := by decide +kernel
theorem dM_isSilent_13 : decode cM_isSilent 13 = .ok (.getfield 47, 3) := by decide +kernel
theorem dM_isSilent_16 : decode cM_isSilent 16 = .ok (.iload_n 3, 1) := by decide +kernel
theorem dM_isSilent_17 : decode cM_isSilent 17 = .ok (.iaload, 1) := by decide +kernel
theorem dM_isSilent_18 : decode cM_isSilent 18 = .ok (.ifCond .eq 41, 3) := by decide +kernel
theorem dM_isSilent_21 : decode cM_isSilent 21 = .ok (.aload_n 0, 1) := by decide +kernel
theorem dM_isSilent_22 : decode cM_isSilent 22 = .ok (.getfield 50, 3) := by decide +kernel
theorem dM_isSilent_25 : decode cM_isSilent 25 = .ok (.iload_n 3, 1) := by decide +kernel
theorem dM_isSilent_26 : decode cM_isSilent 26 = .ok (.bipush 60, 2) := by decide +kernel
theorem dM_isSilent_28 : decode cM_isSilent 28 = .ok (.imul, 1) := by decide +kernel
theorem dM_isSilent_29 : decode cM_isSilent 29 = .ok (.iload_n 1, 1) := by decide +kernel
theorem dM_isSilent_30 : decode cM_isSilent 30 = .ok (.iadd, 1) := by decide +kernel
theorem dM_isSilent_31 : decode cM_isSilent 31 = .ok (.baload, 1) := by decide +kernel
theorem dM_isSilent_32 : decode cM_isSilent 32 = .ok (.ifCond .ne 6, 3) := by decide +kernel
theorem dM_isSilent_35 : decode cM_isSilent 35 = .ok (.goto 24, 3) := by decide +kernel
theorem dM_isSilent_38 : decode cM_isSilent 38 = .ok (.aload_n 0, 1) := by decide +kernel
theorem dM_isSilent_39 : decode cM_isSilent 39 = .ok (.getfield 59, 3) := by decide +kernel
theorem dM_isSilent_42 : decode cM_isSilent 42 = .ok (.iload_n 3, 1) := by decide +kernel
theorem dM_isSilent_43 : decode cM_isSilent 43 = .ok (.bipush 60, 2) := by decide +kernel
theorem dM_isSilent_45 : decode cM_isSilent 45 = .ok (.imul, 1) := by decide +kernel
theorem dM_isSilent_46 : decode cM_isSilent 46 = .ok (.iload_n 1, 1) := by decide +kernel
theorem dM_isSilent_47 : decode cM_isSilent 47 = .ok (.iadd, 1) := by decide +kernel
theorem dM_isSilent_48 : decode cM_isSilent 48 = .ok (.iaload, 1) := by decide +kernel
theorem dM_isSilent_49 : decode cM_isSilent 49 = .ok (.bipush (-2), 2) := by decide +kernel
theorem dM_isSilent_51 : decode cM_isSilent 51 = .ok (.if_icmp .eq 5, 3) := by decide +kernel
theorem dM_isSilent_54 : decode cM_isSilent 54 = .ok (.iconst 0, 1) := by decide +kernel
theorem dM_isSilent_55 : decode cM_isSilent 55 = .ok (.ireturn, 1) := by decide +kernel
theorem dM_isSilent_56 : decode cM_isSilent 56 = .ok (.iinc 2 1, 3) := by decide +kernel
theorem dM_isSilent_59 : decode cM_isSilent 59 = .ok (.iinc 3 1, 3) := by decide +kernel
theorem dM_isSilent_62 : decode cM_isSilent 62 = .ok (.goto (-58), 3) := by decide +kernel
theorem dM_isSilent_65 : decode cM_isSilent 65 = .ok (.iload_n 2, 1) := by decide +kernel
theorem dM_isSilent_66 : decode cM_isSilent 66 = .ok (.iconst 2, 1) := by decide +kernel
theorem dM_isSilent_67 : decode cM_isSilent 67 = .ok (.if_icmp .le 7, 3) := by decide +kernel
theorem dM_isSilent_70 : decode cM_isSilent 70 = .ok (.iconst 1, 1) := by decide +kernel
theorem dM_isSilent_71 : decode cM_isSilent 71 = .ok (.goto 4, 3) := by decide +kernel
theorem dM_isSilent_74 : decode cM_isSilent 74 = .ok (.iconst 0, 1) := by decide +kernel
theorem dM_isSilent_75 : decode cM_isSilent 75 = .ok (.ireturn, 1) := by decide +kernel
theorem dM_never_0 : decode cM_never 0 = .ok (.aload_n 0, 1) := by decide +kernel
theorem dM_never_1 : decode cM_never 1 = .ok (.iload_n 1, 1) := by decide +kernel
theorem dM_never_2 : decode cM_never 2 = .ok (.ifCond .lt 7, 3) := by decide +kernel
theorem dM_never_5 : decode cM_never 5 = .ok (.iconst 1, 1) := by decide +kernel
theorem dM_never_6 : decode cM_never 6 = .ok (.goto 4, 3) := by decide +kernel
theorem dM_never_9 : decode cM_never 9 = .ok (.iconst 0, 1) := by decide +kernel
theorem dM_never_10 : decode cM_never 10 = .ok (.iconst 1, 1) := by decide +kernel
theorem dM_never_11 : decode cM_never 11 = .ok (.iconst 1, 1) := by decide +kernel
theorem dM_never_12 : decode cM_never 12 = .ok (.invokevirtual 79, 3) := by decide +kernel
theorem dM_never_15 : decode cM_never 15 = .ok (.ifCond .ne 5, 3) := by decide +kernel
theorem dM_never_18 : decode cM_never 18 = .ok (.iconst 0, 1) := by decide +kernel
theorem dM_never_19 : decode cM_never 19 = .ok (.ireturn, 1) := by decide +kernel
theorem dM_never_20 : decode cM_never 20 = .ok (.iload_n 1, 1) := by decide +kernel
theorem dM_never_21 : decode cM_never 21 = .ok (.istore_n 2, 1) := by decide +kernel
theorem dM_never_22 : decode cM_never 22 = .ok (.iconst 0, 1) := by decide +kernel
theorem dM_never_23 : decode cM_never 23 = .ok (.istore_n 3, 1) := by decide +kernel
theorem dM_never_24 : decode cM_never 24 = .ok (.iload_n 3, 1) := by decide +kernel
theorem dM_never_25 : decode cM_never 25 = .ok (.aload_n 0, 1) := by decide +kernel
theorem dM_never_26 : decode cM_never 26 = .ok (.getfield 73, 3) := by decide +kernel
theorem dM_never_29 : decode cM_never 29 = .ok (.if_icmp .ge 29, 3) := by decide +kernel
theorem dM_never_32 : decode cM_never 32 = .ok (.aload_n 0, 1) := by decide +kernel
theorem dM_never_33 : decode cM_never 33 = .ok (.iload_n 3, 1) := by decide +kernel
theorem dM_never_34 : decode cM_never 34 = .ok (.invokevirtual 129, 3) := by decide +kernel
theorem dM_never_37 : decode cM_never 37 = .ok (.ifCond .ne 6, 3) := by decide +kernel
theorem dM_never_40 : decode cM_never 40 = .ok (.goto 12, 3) := by decide +kernel
theorem dM_never_43 : decode cM_never 43 = .ok (.iload_n 2, 1) := by decide +kernel
theorem dM_never_44 : decode cM_never 44 = .ok (.ifCond .ne 5, 3) := by decide +kernel
theorem dM_never_47 : decode cM_never 47 = .ok (.iload_n 3, 1) := by decide +kernel
theorem dM_never_48 : decode cM_never 48 = .ok (.ireturn, 1) := by decide +kernel
theorem dM_never_49 : decode cM_never 49 = .ok (.iinc 2 (-1), 3) := by decide +kernel
theorem dM_never_52 : decode cM_never 52 = .ok (.iinc 3 1, 3) := by decide +kernel
theorem dM_never_55 : decode cM_never 55 = .ok (.goto (-31), 3) := by decide +kernel
theorem dM_never_58 : decode cM_never 58 = .ok (.iconst (-1), 1) := by decide +kernel
theorem dM_never_59 : decode cM_never 59 = .ok (.ireturn, 1) := by decide +kernel
theorem dM_count_0 : decode cM_count 0 = .ok (.aload_n 0, 1) := by decide +kernel
theorem dM_count_1 : decode cM_count 1 = .ok (.iload_n 1, 1) := by decide +kernel
theorem dM_count_2 : decode cM_count 2 = .ok (.iconst 0, 1) := by decide +kernel
theorem dM_count_3 : decode cM_count 3 = .ok (.iconst 4, 1) := by decide +kernel
theorem dM_count_4 : decode cM_count 4 = .ok (.invokestatic 69, 3) := by decide +kernel
theorem dM_count_7 : decode cM_count 7 = .ok (.iconst 1, 1) := by decide +kernel
theorem dM_count_8 : decode cM_count 8 = .ok (.iconst 1, 1) := by decide +kernel
theorem dM_count_9 : decode cM_count 9 = .ok (.invokevirtual 79, 3) := by decide +kernel
theorem dM_count_12 : decode cM_count 12 = .ok (.ifCond .ne 5, 3) := by decide +kernel
theorem dM_count_15 : decode cM_count 15 = .ok (.iconst 0, 1) := by decide +kernel
theorem dM_count_16 : decode cM_count 16 = .ok (.ireturn, 1) := by decide +kernel
theorem dM_count_17 : decode cM_count 17 = .ok (.iconst 0, 1) := by decide +kernel
theorem dM_count_18 : decode cM_count 18 = .ok (.istore_n 2, 1) := by decide +kernel
theorem dM_count_19 : decode cM_count 19 = .ok (.iconst 0, 1) := by decide +kernel
theorem dM_count_20 : decode cM_count 20 = .ok (.istore_n 3, 1) := by decide +kernel
theorem dM_count_21 : decode cM_count 21 = .ok (.iload_n 3, 1) := by decide +kernel
theorem dM_count_22 : decode cM_count 22 = .ok (.aload_n 0, 1) := by decide +kernel
theorem dM_count_23 : decode cM_count 23 = .ok (.getfield 76, 3) := by decide +kernel
theorem dM_count_26 : decode cM_count 26 = .ok (.if_icmp .ge 21, 3) := by decide +kernel
theorem dM_count_29 : decode cM_count 29 = .ok (.aload_n 0, 1) := by decide +kernel
theorem dM_count_30 : decode cM_count 30 = .ok (.getfield 47, 3) := by decide +kernel
theorem dM_count_33 : decode cM_count 33 = .ok (.iload_n 3, 1) := by decide +kernel
theorem dM_count_34 : decode cM_count 34 = .ok (.iaload, 1) := by decide +kernel
theorem dM_count_35 : decode cM_count 35 = .ok (.ifCond .ne 6, 3) := by decide +kernel
theorem dM_count_38 : decode cM_count 38 = .ok (.iinc 2 1, 3) := by decide +kernel
theorem dM_count_41 : decode cM_count 41 = .ok (.iinc 3 1, 3) := by decide +kernel
theorem dM_count_44 : decode cM_count 44 = .ok (.goto (-23), 3) := by decide +kernel
theorem dM_count_47 : decode cM_count 47 = .ok (.iload_n 1, 1) := by decide +kernel
theorem dM_count_48 : decode cM_count 48 = .ok (.ifCond .ne 10, 3) := by decide +kernel
theorem dM_count_51 : decode cM_count 51 = .ok (.aload_n 0, 1) := by decide +kernel
theorem dM_count_52 : decode cM_count 52 = .ok (.getfield 94, 3) := by decide +kernel
theorem dM_count_55 : decode cM_count 55 = .ok (.goto 40, 3) := by decide +kernel
theorem dM_count_58 : decode cM_count 58 = .ok (.iload_n 1, 1) := by decide +kernel
theorem dM_count_59 : decode cM_count 59 = .ok (.iconst 1, 1) := by decide +kernel
theorem dM_count_60 : decode cM_count 60 = .ok (.if_icmp .ne 7, 3) := by decide +kernel
theorem dM_count_63 : decode cM_count 63 = .ok (.iload_n 2, 1) := by decide +kernel
theorem dM_count_64 : decode cM_count 64 = .ok (.goto 31, 3) := by decide +kernel
theorem dM_count_67 : decode cM_count 67 = .ok (.iload_n 1, 1) := by decide +kernel
theorem dM_count_68 : decode cM_count 68 = .ok (.iconst 2, 1) := by decide +kernel
theorem dM_count_69 : decode cM_count 69 = .ok (.if_icmp .ne 10, 3) := by decide +kernel
theorem dM_count_72 : decode cM_count 72 = .ok (.aload_n 0, 1) := by decide +kernel
theorem dM_count_73 : decode cM_count 73 = .ok (.getfield 118, 3) := by decide +kernel
theorem dM_count_76 : decode cM_count 76 = .ok (.goto 19, 3) := by decide +kernel
theorem dM_count_79 : decode cM_count 79 = .ok (.iload_n 1, 1) := by decide +kernel
theorem dM_count_80 : decode cM_count 80 = .ok (.iconst 3, 1) := by decide +kernel
theorem dM_count_81 : decode cM_count 81 = .ok (.if_icmp .ne 10, 3) := by decide +kernel
theorem dM_count_84 : decode cM_count 84 = .ok (.aload_n 0, 1) := by decide +kernel
theorem dM_count_85 : decode cM_count 85 = .ok (.getfield 115, 3) := by decide +kernel
theorem dM_count_88 : decode cM_count 88 = .ok (.goto 7, 3) := by decide +kernel
theorem dM_count_91 : decode cM_count 91 = .ok (.aload_n 0, 1) := by decide +kernel
theorem dM_count_92 : decode cM_count 92 = .ok (.getfield 122, 3) := by decide +kernel
theorem dM_count_95 : decode cM_count 95 = .ok (.ireturn, 1) := by decide +kernel
