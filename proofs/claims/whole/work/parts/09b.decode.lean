theorem dYC_init_0 : decode cYC_init 0 = .ok (.aload_n 0, 1) := by decide +kernel
theorem dYC_init_1 : decode cYC_init 1 = .ok (.invokespecial 1, 3) := by decide +kernel
theorem dYC_init_4 : decode cYC_init 4 = .ok (.return_, 1) := by decide +kernel
theorem dYL_init_0 : decode cYL_init 0 = .ok (.aload_n 0, 1) := by decide +kernel
theorem dYL_init_1 : decode cYL_init 1 = .ok (.invokespecial 1, 3) := by decide +kernel
theorem dYL_init_4 : decode cYL_init 4 = .ok (.aload_n 0, 1) := by decide +kernel
theorem dYL_init_5 : decode cYL_init 5 = .ok (.iconst 0, 1) := by decide +kernel
theorem dYL_init_6 : decode cYL_init 6 = .ok (.putfield 7, 3) := by decide +kernel
theorem dYL_init_9 : decode cYL_init 9 = .ok (.return_, 1) := by decide +kernel
theorem dY_init_0 : decode cY_init 0 = .ok (.aload_n 0, 1) := by decide +kernel
theorem dY_init_1 : decode cY_init 1 = .ok (.invokespecial 1, 3) := by decide +kernel
theorem dY_init_4 : decode cY_init 4 = .ok (.aload_n 0, 1) := by decide +kernel
theorem dY_init_5 : decode cY_init 5 = .ok (.getstatic 39, 3) := by decide +kernel
theorem dY_init_8 : decode cY_init 8 = .ok (.putfield 9, 3) := by decide +kernel
theorem dY_init_11 : decode cY_init 11 = .ok (.return_, 1) := by decide +kernel
theorem dY_size_0 : decode cY_size 0 = .ok (.aload_n 0, 1) := by decide +kernel
theorem dY_size_1 : decode cY_size 1 = .ok (.getfield 48, 3) := by decide +kernel
theorem dY_size_4 : decode cY_size 4 = .ok (.ireturn, 1) := by decide +kernel
theorem dG_init_0 : decode cG_init 0 = .ok (.aload_n 0, 1) := by decide +kernel
theorem dG_init_1 : decode cG_init 1 = .ok (.invokespecial 3, 3) := by decide +kernel
theorem dG_init_4 : decode cG_init 4 = .ok (.aload_n 0, 1) := by decide +kernel
theorem dG_init_5 : decode cG_init 5 = .ok (.iload_n 1, 1) := by decide +kernel
theorem dG_init_6 : decode cG_init 6 = .ok (.putfield 9, 3) := by decide +kernel
theorem dG_init_9 : decode cG_init 9 = .ok (.aload_n 0, 1) := by decide +kernel
theorem dG_init_10 : decode cG_init 10 = .ok (.iload_n 2, 1) := by decide +kernel
theorem dG_init_11 : decode cG_init 11 = .ok (.putfield 15, 3) := by decide +kernel
theorem dG_init_14 : decode cG_init 14 = .ok (.aload_n 0, 1) := by decide +kernel
theorem dG_init_15 : decode cG_init 15 = .ok (.iconst (-1), 1) := by decide +kernel
theorem dG_init_16 : decode cG_init 16 = .ok (.putfield 18, 3) := by decide +kernel
theorem dG_init_19 : decode cG_init 19 = .ok (.return_, 1) := by decide +kernel
theorem dYM_max_0 : decode cYM_max 0 = .ok (.iload_n 0, 1) := by decide +kernel
theorem dYM_max_1 : decode cYM_max 1 = .ok (.iload_n 1, 1) := by decide +kernel
theorem dYM_max_2 : decode cYM_max 2 = .ok (.if_icmp .lt 7, 3) := by decide +kernel
theorem dYM_max_5 : decode cYM_max 5 = .ok (.iload_n 0, 1) := by decide +kernel
theorem dYM_max_6 : decode cYM_max 6 = .ok (.goto 4, 3) := by decide +kernel
theorem dYM_max_9 : decode cYM_max 9 = .ok (.iload_n 1, 1) := by decide +kernel
theorem dYM_max_10 : decode cYM_max 10 = .ok (.ireturn, 1) := by decide +kernel
theorem dYS_newLength_0 : decode cYS_newLength 0 = .ok (.iload_n 0, 1) := by decide +kernel
theorem dYS_newLength_1 : decode cYS_newLength 1 = .ok (.iload_n 1, 1) := by decide +kernel
theorem dYS_newLength_2 : decode cYS_newLength 2 = .ok (.iload_n 2, 1) := by decide +kernel
theorem dYS_newLength_3 : decode cYS_newLength 3 = .ok (.invokestatic 194, 3) := by decide +kernel
theorem dYS_newLength_6 : decode cYS_newLength 6 = .ok (.iadd, 1) := by decide +kernel
theorem dYS_newLength_7 : decode cYS_newLength 7 = .ok (.istore_n 3, 1) := by decide +kernel
theorem dYS_newLength_8 : decode cYS_newLength 8 = .ok (.iconst 0, 1) := by decide +kernel
theorem dYS_newLength_9 : decode cYS_newLength 9 = .ok (.iload_n 3, 1) := by decide +kernel
theorem dYS_newLength_10 : decode cYS_newLength 10 = .ok (.if_icmp .ge 11, 3) := by decide +kernel
theorem dYS_newLength_13 : decode cYS_newLength 13 = .ok (.iload_n 3, 1) := by decide +kernel
theorem dYS_newLength_14 : decode cYS_newLength 14 = .ok (.ldc 200, 2) := by decide +kernel
theorem dYS_newLength_16 : decode cYS_newLength 16 = .ok (.if_icmp .gt 5, 3) := by decide +kernel
theorem dYS_newLength_19 : decode cYS_newLength 19 = .ok (.iload_n 3, 1) := by decide +kernel
theorem dYS_newLength_20 : decode cYS_newLength 20 = .ok (.ireturn, 1) := by decide +kernel
theorem dYM_min_0 : decode cYM_min 0 = .ok (.iload_n 0, 1) := by decide +kernel
theorem dYM_min_1 : decode cYM_min 1 = .ok (.iload_n 1, 1) := by decide +kernel
theorem dYM_min_2 : decode cYM_min 2 = .ok (.if_icmp .gt 7, 3) := by decide +kernel
theorem dYM_min_5 : decode cYM_min 5 = .ok (.iload_n 0, 1) := by decide +kernel
theorem dYM_min_6 : decode cYM_min 6 = .ok (.goto 4, 3) := by decide +kernel
theorem dYM_min_9 : decode cYM_min 9 = .ok (.iload_n 1, 1) := by decide +kernel
theorem dYM_min_10 : decode cYM_min 10 = .ok (.ireturn, 1) := by decide +kernel
theorem dYA_copyOf3_0 : decode cYA_copyOf3 0 = .ok (.aload_n 2, 1) := by decide +kernel
theorem dYA_copyOf3_1 : decode cYA_copyOf3 1 = .ok (.ldc 110, 2) := by decide +kernel
theorem dYA_copyOf3_3 : decode cYA_copyOf3 3 = .ok (.if_acmp .ne 10, 3) := by decide +kernel
theorem dYA_copyOf3_6 : decode cYA_copyOf3 6 = .ok (.iload_n 1, 1) := by decide +kernel
theorem dYA_copyOf3_7 : decode cYA_copyOf3 7 = .ok (.anewarray 2, 3) := by decide +kernel
theorem dYA_copyOf3_10 : decode cYA_copyOf3 10 = .ok (.goto 14, 3) := by decide +kernel
theorem dYA_copyOf3_24 : decode cYA_copyOf3 24 = .ok (.astore_n 3, 1) := by decide +kernel
theorem dYA_copyOf3_25 : decode cYA_copyOf3 25 = .ok (.aload_n 0, 1) := by decide +kernel
theorem dYA_copyOf3_26 : decode cYA_copyOf3 26 = .ok (.iconst 0, 1) := by decide +kernel
theorem dYA_copyOf3_27 : decode cYA_copyOf3 27 = .ok (.aload_n 3, 1) := by decide +kernel
theorem dYA_copyOf3_28 : decode cYA_copyOf3 28 = .ok (.iconst 0, 1) := by decide +kernel
theorem dYA_copyOf3_29 : decode cYA_copyOf3 29 = .ok (.aload_n 0, 1) := by decide +kernel
theorem dYA_copyOf3_30 : decode cYA_copyOf3 30 = .ok (.arraylength, 1) := by decide +kernel
theorem dYA_copyOf3_31 : decode cYA_copyOf3 31 = .ok (.iload_n 1, 1) := by decide +kernel
theorem dYA_copyOf3_32 : decode cYA_copyOf3 32 = .ok (.invokestatic 304, 3) := by decide +kernel
theorem dYA_copyOf3_35 : decode cYA_copyOf3 35 = .ok (.invokestatic 150, 3) := by decide +kernel
theorem dYA_copyOf3_38 : decode cYA_copyOf3 38 = .ok (.aload_n 3, 1) := by decide +kernel
theorem dYA_copyOf3_39 : decode cYA_copyOf3 39 = .ok (.areturn, 1) := by decide +kernel
theorem dYA_copyOf2_0 : decode cYA_copyOf2 0 = .ok (.aload_n 0, 1) := by decide +kernel
theorem dYA_copyOf2_1 : decode cYA_copyOf2 1 = .ok (.iload_n 1, 1) := by decide +kernel
theorem dYA_copyOf2_2 : decode cYA_copyOf2 2 = .ok (.aload_n 0, 1) := by decide +kernel
theorem dYA_copyOf2_3 : decode cYA_copyOf2 3 = .ok (.invokevirtual 86, 3) := by decide +kernel
theorem dYA_copyOf2_6 : decode cYA_copyOf2 6 = .ok (.invokestatic 300, 3) := by decide +kernel
theorem dYA_copyOf2_9 : decode cYA_copyOf2 9 = .ok (.areturn, 1) := by decide +kernel
theorem dY_grow1_0 : decode cY_grow1 0 = .ok (.aload_n 0, 1) := by decide +kernel
theorem dY_grow1_1 : decode cY_grow1 1 = .ok (.getfield 9, 3) := by decide +kernel
theorem dY_grow1_4 : decode cY_grow1 4 = .ok (.arraylength, 1) := by decide +kernel
theorem dY_grow1_5 : decode cY_grow1 5 = .ok (.istore_n 2, 1) := by decide +kernel
theorem dY_grow1_6 : decode cY_grow1 6 = .ok (.iload_n 2, 1) := by decide +kernel
theorem dY_grow1_7 : decode cY_grow1 7 = .ok (.ifCond .gt 13, 3) := by decide +kernel
theorem dY_grow1_10 : decode cY_grow1 10 = .ok (.aload_n 0, 1) := by decide +kernel
theorem dY_grow1_11 : decode cY_grow1 11 = .ok (.getfield 9, 3) := by decide +kernel
theorem dY_grow1_14 : decode cY_grow1 14 = .ok (.getstatic 39, 3) := by decide +kernel
theorem dY_grow1_17 : decode cY_grow1 17 = .ok (.if_acmp .eq 28, 3) := by decide +kernel
theorem dY_grow1_20 : decode cY_grow1 20 = .ok (.iload_n 2, 1) := by decide +kernel
theorem dY_grow1_21 : decode cY_grow1 21 = .ok (.iload_n 1, 1) := by decide +kernel
theorem dY_grow1_22 : decode cY_grow1 22 = .ok (.iload_n 2, 1) := by decide +kernel
theorem dY_grow1_23 : decode cY_grow1 23 = .ok (.isub, 1) := by decide +kernel
theorem dY_grow1_24 : decode cY_grow1 24 = .ok (.iload_n 2, 1) := by decide +kernel
theorem dY_grow1_25 : decode cY_grow1 25 = .ok (.iconst 1, 1) := by decide +kernel
theorem dY_grow1_26 : decode cY_grow1 26 = .ok (.ishr, 1) := by decide +kernel
theorem dY_grow1_27 : decode cY_grow1 27 = .ok (.invokestatic 73, 3) := by decide +kernel
theorem dY_grow1_30 : decode cY_grow1 30 = .ok (.istore_n 3, 1) := by decide +kernel
theorem dY_grow1_31 : decode cY_grow1 31 = .ok (.aload_n 0, 1) := by decide +kernel
theorem dY_grow1_32 : decode cY_grow1 32 = .ok (.aload_n 0, 1) := by decide +kernel
theorem dY_grow1_33 : decode cY_grow1 33 = .ok (.getfield 9, 3) := by decide +kernel
theorem dY_grow1_36 : decode cY_grow1 36 = .ok (.iload_n 3, 1) := by decide +kernel
theorem dY_grow1_37 : decode cY_grow1 37 = .ok (.invokestatic 66, 3) := by decide +kernel
theorem dY_grow1_40 : decode cY_grow1 40 = .ok (.dup_x1, 1) := by decide +kernel
theorem dY_grow1_41 : decode cY_grow1 41 = .ok (.putfield 9, 3) := by decide +kernel
theorem dY_grow1_44 : decode cY_grow1 44 = .ok (.areturn, 1) := by decide +kernel
theorem dY_grow1_45 : decode cY_grow1 45 = .ok (.aload_n 0, 1) := by decide +kernel
theorem dY_grow1_46 : decode cY_grow1 46 = .ok (.bipush 10, 2) := by decide +kernel
theorem dY_grow1_48 : decode cY_grow1 48 = .ok (.iload_n 1, 1) := by decide +kernel
theorem dY_grow1_49 : decode cY_grow1 49 = .ok (.invokestatic 79, 3) := by decide +kernel
theorem dY_grow1_52 : decode cY_grow1 52 = .ok (.anewarray 7, 3) := by decide +kernel
theorem dY_grow1_55 : decode cY_grow1 55 = .ok (.dup_x1, 1) := by decide +kernel
theorem dY_grow1_56 : decode cY_grow1 56 = .ok (.putfield 9, 3) := by decide +kernel
theorem dY_grow1_59 : decode cY_grow1 59 = .ok (.areturn, 1) := by decide +kernel
theorem dY_grow0_0 : decode cY_grow0 0 = .ok (.aload_n 0, 1) := by decide +kernel
theorem dY_grow0_1 : decode cY_grow0 1 = .ok (.aload_n 0, 1) := by decide +kernel
theorem dY_grow0_2 : decode cY_grow0 2 = .ok (.getfield 48, 3) := by decide +kernel
theorem dY_grow0_5 : decode cY_grow0 5 = .ok (.iconst 1, 1) := by decide +kernel
theorem dY_grow0_6 : decode cY_grow0 6 = .ok (.iadd, 1) := by decide +kernel
theorem dY_grow0_7 : decode cY_grow0 7 = .ok (.invokevirtual 69, 3) := by decide +kernel
theorem dY_grow0_10 : decode cY_grow0 10 = .ok (.areturn, 1) := by decide +kernel
theorem dY_add3_0 : decode cY_add3 0 = .ok (.iload_n 3, 1) := by decide +kernel
theorem dY_add3_1 : decode cY_add3 1 = .ok (.aload_n 2, 1) := by decide +kernel
theorem dY_add3_2 : decode cY_add3 2 = .ok (.arraylength, 1) := by decide +kernel
theorem dY_add3_3 : decode cY_add3 3 = .ok (.if_icmp .ne 8, 3) := by decide +kernel
theorem dY_add3_6 : decode cY_add3 6 = .ok (.aload_n 0, 1) := by decide +kernel
theorem dY_add3_7 : decode cY_add3 7 = .ok (.invokevirtual 129, 3) := by decide +kernel
theorem dY_add3_10 : decode cY_add3 10 = .ok (.astore_n 2, 1) := by decide +kernel
theorem dY_add3_11 : decode cY_add3 11 = .ok (.aload_n 2, 1) := by decide +kernel
theorem dY_add3_12 : decode cY_add3 12 = .ok (.iload_n 3, 1) := by decide +kernel
theorem dY_add3_13 : decode cY_add3 13 = .ok (.aload_n 1, 1) := by decide +kernel
theorem dY_add3_14 : decode cY_add3 14 = .ok (.aastore, 1) := by decide +kernel
theorem dY_add3_15 : decode cY_add3 15 = .ok (.aload_n 0, 1) := by decide +kernel
theorem dY_add3_16 : decode cY_add3 16 = .ok (.iload_n 3, 1) := by decide +kernel
theorem dY_add3_17 : decode cY_add3 17 = .ok (.iconst 1, 1) := by decide +kernel
theorem dY_add3_18 : decode cY_add3 18 = .ok (.iadd, 1) := by decide +kernel
theorem dY_add3_19 : decode cY_add3 19 = .ok (.putfield 48, 3) := by decide +kernel
theorem dY_add3_22 : decode cY_add3 22 = .ok (.return_, 1) := by decide +kernel
theorem dY_add1_0 : decode cY_add1 0 = .ok (.aload_n 0, 1) := by decide +kernel
theorem dY_add1_1 : decode cY_add1 1 = .ok (.dup, 1) := by decide +kernel
theorem dY_add1_2 : decode cY_add1 2 = .ok (.getfield 63, 3) := by decide +kernel
theorem dY_add1_5 : decode cY_add1 5 = .ok (.iconst 1, 1) := by decide +kernel
theorem dY_add1_6 : decode cY_add1 6 = .ok (.iadd, 1) := by decide +kernel
theorem dY_add1_7 : decode cY_add1 7 = .ok (.putfield 63, 3) := by decide +kernel
theorem dY_add1_10 : decode cY_add1 10 = .ok (.aload_n 0, 1) := by decide +kernel
theorem dY_add1_11 : decode cY_add1 11 = .ok (.aload_n 1, 1) := by decide +kernel
theorem dY_add1_12 : decode cY_add1 12 = .ok (.aload_n 0, 1) := by decide +kernel
theorem dY_add1_13 : decode cY_add1 13 = .ok (.getfield 9, 3) := by decide +kernel
theorem dY_add1_16 : decode cY_add1 16 = .ok (.aload_n 0, 1) := by decide +kernel
theorem dY_add1_17 : decode cY_add1 17 = .ok (.getfield 48, 3) := by decide +kernel
theorem dY_add1_20 : decode cY_add1 20 = .ok (.invokevirtual 131, 3) := by decide +kernel
theorem dY_add1_23 : decode cY_add1 23 = .ok (.iconst 1, 1) := by decide +kernel
theorem dY_add1_24 : decode cY_add1 24 = .ok (.ireturn, 1) := by decide +kernel
theorem dYP_checkIndex_0 : decode cYP_checkIndex 0 = .ok (.iload_n 0, 1) := by decide +kernel
theorem dYP_checkIndex_1 : decode cYP_checkIndex 1 = .ok (.ifCond .lt 8, 3) := by decide +kernel
theorem dYP_checkIndex_4 : decode cYP_checkIndex 4 = .ok (.iload_n 0, 1) := by decide +kernel
theorem dYP_checkIndex_5 : decode cYP_checkIndex 5 = .ok (.iload_n 1, 1) := by decide +kernel
theorem dYP_checkIndex_6 : decode cYP_checkIndex 6 = .ok (.if_icmp .lt 10, 3) := by decide +kernel
theorem dYP_checkIndex_16 : decode cYP_checkIndex 16 = .ok (.iload_n 0, 1) := by decide +kernel
theorem dYP_checkIndex_17 : decode cYP_checkIndex 17 = .ok (.ireturn, 1) := by decide +kernel
theorem dYO_checkIndex_0 : decode cYO_checkIndex 0 = .ok (.iload_n 0, 1) := by decide +kernel
theorem dYO_checkIndex_1 : decode cYO_checkIndex 1 = .ok (.iload_n 1, 1) := by decide +kernel
theorem dYO_checkIndex_2 : decode cYO_checkIndex 2 = .ok (.aconst_null, 1) := by decide +kernel
theorem dYO_checkIndex_3 : decode cYO_checkIndex 3 = .ok (.invokestatic 105, 3) := by decide +kernel
theorem dYO_checkIndex_6 : decode cYO_checkIndex 6 = .ok (.ireturn, 1) := by decide +kernel
theorem dY_elementData_0 : decode cY_elementData 0 = .ok (.aload_n 0, 1) := by decide +kernel
theorem dY_elementData_1 : decode cY_elementData 1 = .ok (.getfield 9, 3) := by decide +kernel
theorem dY_elementData_4 : decode cY_elementData 4 = .ok (.iload_n 1, 1) := by decide +kernel
theorem dY_elementData_5 : decode cY_elementData 5 = .ok (.aaload, 1) := by decide +kernel
theorem dY_elementData_6 : decode cY_elementData 6 = .ok (.areturn, 1) := by decide +kernel
theorem dY_get_0 : decode cY_get 0 = .ok (.iload_n 1, 1) := by decide +kernel
theorem dY_get_1 : decode cY_get 1 = .ok (.aload_n 0, 1) := by decide +kernel
theorem dY_get_2 : decode cY_get 2 = .ok (.getfield 48, 3) := by decide +kernel
theorem dY_get_5 : decode cY_get 5 = .ok (.invokestatic 118, 3) := by decide +kernel
theorem dY_get_8 : decode cY_get 8 = .ok (.pop, 1) := by decide +kernel
theorem dY_get_9 : decode cY_get 9 = .ok (.aload_n 0, 1) := by decide +kernel
theorem dY_get_10 : decode cY_get 10 = .ok (.iload_n 1, 1) := by decide +kernel
theorem dY_get_11 : decode cY_get 11 = .ok (.invokevirtual 123, 3) := by decide +kernel
theorem dY_get_14 : decode cY_get 14 = .ok (.areturn, 1) := by decide +kernel
theorem dP_init_0 : decode cP_init 0 = .ok (.aload_n 0, 1) := by decide +kernel
theorem dP_init_1 : decode cP_init 1 = .ok (.invokespecial 3, 3) := by decide +kernel
theorem dP_init_4 : decode cP_init 4 = .ok (.aload_n 0, 1) := by decide +kernel
theorem dP_init_5 : decode cP_init 5 = .ok (.iload_n 1, 1) := by decide +kernel
theorem dP_init_6 : decode cP_init 6 = .ok (.putfield 9, 3) := by decide +kernel
theorem dP_init_9 : decode cP_init 9 = .ok (.aload_n 0, 1) := by decide +kernel
theorem dP_init_10 : decode cP_init 10 = .ok (.iconst 3, 1) := by decide +kernel
theorem dP_init_11 : decode cP_init 11 = .ok (.newarray .int, 2) := by decide +kernel
theorem dP_init_13 : decode cP_init 13 = .ok (.putfield 15, 3) := by decide +kernel
theorem dP_init_16 : decode cP_init 16 = .ok (.aload_n 0, 1) := by decide +kernel
theorem dP_init_17 : decode cP_init 17 = .ok (.iconst 3, 1) := by decide +kernel
theorem dP_init_18 : decode cP_init 18 = .ok (.newarray .boolean, 2) := by decide +kernel
theorem dP_init_20 : decode cP_init 20 = .ok (.putfield 19, 3) := by decide +kernel
theorem dP_init_23 : decode cP_init 23 = .ok (.aload_n 0, 1) := by decide +kernel
theorem dP_init_24 : decode cP_init 24 = .ok (.iconst 0, 1) := by decide +kernel
theorem dP_init_25 : decode cP_init 25 = .ok (.putfield 23, 3) := by decide +kernel
theorem dP_init_28 : decode cP_init 28 = .ok (.return_, 1) := by decide +kernel
theorem dP_setWay_0 : decode cP_setWay 0 = .ok (.iconst 0, 1) := by decide +kernel
theorem dP_setWay_1 : decode cP_setWay 1 = .ok (.istore_n 3, 1) := by decide +kernel
theorem dP_setWay_2 : decode cP_setWay 2 = .ok (.iload_n 3, 1) := by decide +kernel
theorem dP_setWay_3 : decode cP_setWay 3 = .ok (.aload_n 0, 1) := by decide +kernel
theorem dP_setWay_4 : decode cP_setWay 4 = .ok (.getfield 26, 3) := by decide +kernel
theorem dP_setWay_7 : decode cP_setWay 7 = .ok (.if_icmp .ge 24, 3) := by decide +kernel
theorem dP_setWay_10 : decode cP_setWay 10 = .ok (.iload_n 3, 1) := by decide +kernel
theorem dP_setWay_11 : decode cP_setWay 11 = .ok (.iconst 3, 1) := by decide +kernel
theorem dP_setWay_12 : decode cP_setWay 12 = .ok (.if_icmp .ge 19, 3) := by decide +kernel
theorem dP_setWay_15 : decode cP_setWay 15 = .ok (.aload_n 0, 1) := by decide +kernel
theorem dP_setWay_16 : decode cP_setWay 16 = .ok (.getfield 15, 3) := by decide +kernel
theorem dP_setWay_19 : decode cP_setWay 19 = .ok (.iload_n 3, 1) := by decide +kernel
theorem dP_setWay_20 : decode cP_setWay 20 = .ok (.iaload, 1) := by decide +kernel
theorem dP_setWay_21 : decode cP_setWay 21 = .ok (.iload_n 1, 1) := by decide +kernel
theorem dP_setWay_22 : decode cP_setWay 22 = .ok (.if_icmp .eq 9, 3) := by decide +kernel
theorem dP_setWay_25 : decode cP_setWay 25 = .ok (.iinc 3 1, 3) := by decide +kernel
theorem dP_setWay_28 : decode cP_setWay 28 = .ok (.goto (-26), 3) := by decide +kernel
theorem dP_setWay_31 : decode cP_setWay 31 = .ok (.iload_n 3, 1) := by decide +kernel
theorem dP_setWay_32 : decode cP_setWay 32 = .ok (.iconst 3, 1) := by decide +kernel
theorem dP_setWay_33 : decode cP_setWay 33 = .ok (.if_icmp .lt 4, 3) := by decide +kernel
theorem dP_setWay_36 : decode cP_setWay 36 = .ok (.return_, 1) := by decide +kernel
theorem dP_setWay_37 : decode cP_setWay 37 = .ok (.aload_n 0, 1) := by decide +kernel
theorem dP_setWay_38 : decode cP_setWay 38 = .ok (.getfield 15, 3) := by decide +kernel
theorem dP_setWay_41 : decode cP_setWay 41 = .ok (.iload_n 3, 1) := by decide +kernel
theorem dP_setWay_42 : decode cP_setWay 42 = .ok (.iload_n 1, 1) := by decide +kernel
theorem dP_setWay_43 : decode cP_setWay 43 = .ok (.iastore, 1) := by decide +kernel
theorem dP_setWay_44 : decode cP_setWay 44 = .ok (.aload_n 0, 1) := by decide +kernel
theorem dP_setWay_45 : decode cP_setWay 45 = .ok (.getfield 19, 3) := by decide +kernel
theorem dP_setWay_48 : decode cP_setWay 48 = .ok (.iload_n 3, 1) := by decide +kernel
theorem dP_setWay_49 : decode cP_setWay 49 = .ok (.iload_n 2, 1) := by decide +kernel
theorem dP_setWay_50 : decode cP_setWay 50 = .ok (.bastore, 1) := by decide +kernel
theorem dP_setWay_51 : decode cP_setWay 51 = .ok (.iload_n 3, 1) := by decide +kernel
theorem dP_setWay_52 : decode cP_setWay 52 = .ok (.aload_n 0, 1) := by decide +kernel
theorem dP_setWay_53 : decode cP_setWay 53 = .ok (.getfield 26, 3) := by decide +kernel
theorem dP_setWay_56 : decode cP_setWay 56 = .ok (.if_icmp .ne 13, 3) := by decide +kernel
theorem dP_setWay_59 : decode cP_setWay 59 = .ok (.aload_n 0, 1) := by decide +kernel
theorem dP_setWay_60 : decode cP_setWay 60 = .ok (.dup, 1) := by decide +kernel
theorem dP_setWay_61 : decode cP_setWay 61 = .ok (.getfield 26, 3) := by decide +kernel
theorem dP_setWay_64 : decode cP_setWay 64 = .ok (.iconst 1, 1) := by decide +kernel
theorem dP_setWay_65 : decode cP_setWay 65 = .ok (.iadd, 1) := by decide +kernel
theorem dP_setWay_66 : decode cP_setWay 66 = .ok (.putfield 26, 3) := by decide +kernel
theorem dP_setWay_69 : decode cP_setWay 69 = .ok (.return_, 1) := by decide +kernel
theorem dP_wouldBeAsked_0 : decode cP_wouldBeAsked 0 = .ok (.aload_n 0, 1) := by decide +kernel
theorem dP_wouldBeAsked_1 : decode cP_wouldBeAsked 1 = .ok (.getfield 9, 3) := by decide +kernel
theorem dP_wouldBeAsked_4 : decode cP_wouldBeAsked 4 = .ok (.iload_n 1, 1) := by decide +kernel
theorem dP_wouldBeAsked_5 : decode cP_wouldBeAsked 5 = .ok (.if_icmp .ne 26, 3) := by decide +kernel
theorem dP_wouldBeAsked_8 : decode cP_wouldBeAsked 8 = .ok (.aload_n 0, 1) := by decide +kernel
theorem dP_wouldBeAsked_9 : decode cP_wouldBeAsked 9 = .ok (.getfield 23, 3) := by decide +kernel
theorem dP_wouldBeAsked_12 : decode cP_wouldBeAsked 12 = .ok (.ifCond .eq 15, 3) := by decide +kernel
theorem dP_wouldBeAsked_15 : decode cP_wouldBeAsked 15 = .ok (.iload_n 2, 1) := by decide +kernel
theorem dP_wouldBeAsked_16 : decode cP_wouldBeAsked 16 = .ok (.ifCond .eq 15, 3) := by decide +kernel
theorem dP_wouldBeAsked_19 : decode cP_wouldBeAsked 19 = .ok (.aload_n 0, 1) := by decide +kernel
theorem dP_wouldBeAsked_20 : decode cP_wouldBeAsked 20 = .ok (.getfield 23, 3) := by decide +kernel
theorem dP_wouldBeAsked_23 : decode cP_wouldBeAsked 23 = .ok (.iconst 1, 1) := by decide +kernel
theorem dP_wouldBeAsked_24 : decode cP_wouldBeAsked 24 = .ok (.if_icmp .ne 7, 3) := by decide +kernel
theorem dP_wouldBeAsked_27 : decode cP_wouldBeAsked 27 = .ok (.iconst 1, 1) := by decide +kernel
theorem dP_wouldBeAsked_28 : decode cP_wouldBeAsked 28 = .ok (.goto 4, 3) := by decide +kernel
theorem dP_wouldBeAsked_31 : decode cP_wouldBeAsked 31 = .ok (.iconst 0, 1) := by decide +kernel
theorem dP_wouldBeAsked_32 : decode cP_wouldBeAsked 32 = .ok (.ireturn, 1) := by decide +kernel
theorem dYA_fill_0 : decode cYA_fill 0 = .ok (.iconst 0, 1) := by decide +kernel
theorem dYA_fill_1 : decode cYA_fill 1 = .ok (.istore_n 2, 1) := by decide +kernel
theorem dYA_fill_2 : decode cYA_fill 2 = .ok (.aload_n 0, 1) := by decide +kernel
theorem dYA_fill_3 : decode cYA_fill 3 = .ok (.arraylength, 1) := by decide +kernel
theorem dYA_fill_4 : decode cYA_fill 4 = .ok (.istore_n 3, 1) := by decide +kernel
theorem dYA_fill_5 : decode cYA_fill 5 = .ok (.iload_n 2, 1) := by decide +kernel
theorem dYA_fill_6 : decode cYA_fill 6 = .ok (.iload_n 3, 1) := by decide +kernel
theorem dYA_fill_7 : decode cYA_fill 7 = .ok (.if_icmp .ge 13, 3) := by decide +kernel
theorem dYA_fill_10 : decode cYA_fill 10 = .ok (.aload_n 0, 1) := by decide +kernel
theorem dYA_fill_11 : decode cYA_fill 11 = .ok (.iload_n 2, 1) := by decide +kernel
theorem dYA_fill_12 : decode cYA_fill 12 = .ok (.iload_n 1, 1) := by decide +kernel
theorem dYA_fill_13 : decode cYA_fill 13 = .ok (.iastore, 1) := by decide +kernel
theorem dYA_fill_14 : decode cYA_fill 14 = .ok (.iinc 2 1, 3) := by decide +kernel
theorem dYA_fill_17 : decode cYA_fill 17 = .ok (.goto (-12), 3) := by decide +kernel
theorem dYA_fill_20 : decode cYA_fill 20 = .ok (.return_, 1) := by decide +kernel
theorem dL_init_0 : decode cL_init 0 = .ok (.aload_n 0, 1) := by decide +kernel
theorem dL_init_1 : decode cL_init 1 = .ok (.invokespecial 3, 3) := by decide +kernel
theorem dL_init_4 : decode cL_init 4 = .ok (.aload_n 0, 1) := by decide +kernel
theorem dL_init_5 : decode cL_init 5 = .ok (.iload_n 1, 1) := by decide +kernel
theorem dL_init_6 : decode cL_init 6 = .ok (.putfield 9, 3) := by decide +kernel
theorem dL_init_9 : decode cL_init 9 = .ok (.aload_n 0, 1) := by decide +kernel
theorem dL_init_10 : decode cL_init 10 = .ok (.iload_n 2, 1) := by decide +kernel
theorem dL_init_11 : decode cL_init 11 = .ok (.putfield 15, 3) := by decide +kernel
theorem dL_init_14 : decode cL_init 14 = .ok (.aload_n 0, 1) := by decide +kernel
theorem dL_init_15 : decode cL_init 15 = .ok (.iload_n 3, 1) := by decide +kernel
theorem dL_init_16 : decode cL_init 16 = .ok (.putfield 19, 3) := by decide +kernel
theorem dL_init_19 : decode cL_init 19 = .ok (.aload_n 0, 1) := by decide +kernel
theorem dL_init_20 : decode cL_init 20 = .ok (.iload 4, 2) := by decide +kernel
theorem dL_init_22 : decode cL_init 22 = .ok (.putfield 22, 3) := by decide +kernel
theorem dL_init_25 : decode cL_init 25 = .ok (.aload_n 0, 1) := by decide +kernel
theorem dL_init_26 : decode cL_init 26 = .ok (.iload 5, 2) := by decide +kernel
theorem dL_init_28 : decode cL_init 28 = .ok (.putfield 25, 3) := by decide +kernel
theorem dL_init_31 : decode cL_init 31 = .ok (.aload_n 0, 1) := by decide +kernel
theorem dL_init_32 : decode cL_init 32 = .ok (.iconst 0, 1) := by decide +kernel
theorem dL_init_33 : decode cL_init 33 = .ok (.putfield 28, 3) := by decide +kernel
theorem dL_init_36 : decode cL_init 36 = .ok (.aload_n 0, 1) := by decide +kernel
theorem dL_init_37 : decode cL_init 37 = .ok (.bipush 60, 2) := by decide +kernel
theorem dL_init_39 : decode cL_init 39 = .ok (.newarray .int, 2) := by decide +kernel
theorem dL_init_41 : decode cL_init 41 = .ok (.putfield 31, 3) := by decide +kernel
theorem dL_init_44 : decode cL_init 44 = .ok (.aload_n 0, 1) := by decide +kernel
theorem dL_init_45 : decode cL_init 45 = .ok (.bipush 60, 2) := by decide +kernel
theorem dL_init_47 : decode cL_init 47 = .ok (.newarray .int, 2) := by decide +kernel
theorem dL_init_49 : decode cL_init 49 = .ok (.putfield 35, 3) := by decide +kernel
theorem dL_init_52 : decode cL_init 52 = .ok (.aload_n 0, 1) := by decide +kernel
theorem dL_init_53 : decode cL_init 53 = .ok (.getfield 31, 3) := by decide +kernel
theorem dL_init_56 : decode cL_init 56 = .ok (.bipush (-2), 2) := by decide +kernel
theorem dL_init_58 : decode cL_init 58 = .ok (.invokestatic 38, 3) := by decide +kernel
theorem dL_init_61 : decode cL_init 61 = .ok (.aload_n 0, 1) := by decide +kernel
theorem dL_init_62 : decode cL_init 62 = .ok (.getfield 35, 3) := by decide +kernel
theorem dL_init_65 : decode cL_init 65 = .ok (.bipush (-2), 2) := by decide +kernel
theorem dL_init_67 : decode cL_init 67 = .ok (.invokestatic 38, 3) := by decide +kernel
theorem dL_init_70 : decode cL_init 70 = .ok (.return_, 1) := by decide +kernel
theorem dP_reachNow_0 : decode cP_reachNow 0 = .ok (.iconst 0, 1) := by decide +kernel
theorem dP_reachNow_1 : decode cP_reachNow 1 = .ok (.istore_n 1, 1) := by decide +kernel
theorem dP_reachNow_2 : decode cP_reachNow 2 = .ok (.iload_n 1, 1) := by decide +kernel
theorem dP_reachNow_3 : decode cP_reachNow 3 = .ok (.aload_n 0, 1) := by decide +kernel
theorem dP_reachNow_4 : decode cP_reachNow 4 = .ok (.getfield 26, 3) := by decide +kernel
theorem dP_reachNow_7 : decode cP_reachNow 7 = .ok (.if_icmp .ge 36, 3) := by decide +kernel
theorem dP_reachNow_10 : decode cP_reachNow 10 = .ok (.iload_n 1, 1) := by decide +kernel
theorem dP_reachNow_11 : decode cP_reachNow 11 = .ok (.iconst 3, 1) := by decide +kernel
theorem dP_reachNow_12 : decode cP_reachNow 12 = .ok (.if_icmp .ge 31, 3) := by decide +kernel
theorem dP_reachNow_15 : decode cP_reachNow 15 = .ok (.aload_n 0, 1) := by decide +kernel
theorem dP_reachNow_16 : decode cP_reachNow 16 = .ok (.getfield 19, 3) := by decide +kernel
theorem dP_reachNow_19 : decode cP_reachNow 19 = .ok (.iload_n 1, 1) := by decide +kernel
theorem dP_reachNow_20 : decode cP_reachNow 20 = .ok (.baload, 1) := by decide +kernel
theorem dP_reachNow_21 : decode cP_reachNow 21 = .ok (.ifCond .eq 16, 3) := by decide +kernel
theorem dP_reachNow_24 : decode cP_reachNow 24 = .ok (.sipush 200, 3) := by decide +kernel
theorem dP_reachNow_27 : decode cP_reachNow 27 = .ok (.iload_n 1, 1) := by decide +kernel
theorem dP_reachNow_28 : decode cP_reachNow 28 = .ok (.imul, 1) := by decide +kernel
theorem dP_reachNow_29 : decode cP_reachNow 29 = .ok (.aload_n 0, 1) := by decide +kernel
theorem dP_reachNow_30 : decode cP_reachNow 30 = .ok (.getfield 15, 3) := by decide +kernel
theorem dP_reachNow_33 : decode cP_reachNow 33 = .ok (.iload_n 1, 1) := by decide +kernel
theorem dP_reachNow_34 : decode cP_reachNow 34 = .ok (.iaload, 1) := by decide +kernel
theorem dP_reachNow_35 : decode cP_reachNow 35 = .ok (.iadd, 1) := by decide +kernel
theorem dP_reachNow_36 : decode cP_reachNow 36 = .ok (.ireturn, 1) := by decide +kernel
theorem dP_reachNow_37 : decode cP_reachNow 37 = .ok (.iinc 1 1, 3) := by decide +kernel
theorem dP_reachNow_40 : decode cP_reachNow 40 = .ok (.goto (-38), 3) := by decide +kernel
theorem dP_reachNow_43 : decode cP_reachNow 43 = .ok (.iconst (-1), 1) := by decide +kernel
theorem dP_reachNow_44 : decode cP_reachNow 44 = .ok (.ireturn, 1) := by decide +kernel
theorem dL_ask_0 : decode cL_ask 0 = .ok (.iload_n 1, 1) := by decide +kernel
theorem dL_ask_1 : decode cL_ask 1 = .ok (.ifCond .lt 19, 3) := by decide +kernel
theorem dL_ask_4 : decode cL_ask 4 = .ok (.iload_n 1, 1) := by decide +kernel
theorem dL_ask_5 : decode cL_ask 5 = .ok (.aload_n 0, 1) := by decide +kernel
theorem dL_ask_6 : decode cL_ask 6 = .ok (.getfield 31, 3) := by decide +kernel
theorem dL_ask_9 : decode cL_ask 9 = .ok (.arraylength, 1) := by decide +kernel
theorem dL_ask_10 : decode cL_ask 10 = .ok (.if_icmp .ge 10, 3) := by decide +kernel
theorem dL_ask_13 : decode cL_ask 13 = .ok (.aload_n 0, 1) := by decide +kernel
theorem dL_ask_14 : decode cL_ask 14 = .ok (.getfield 31, 3) := by decide +kernel
theorem dL_ask_17 : decode cL_ask 17 = .ok (.iload_n 1, 1) := by decide +kernel
theorem dL_ask_18 : decode cL_ask 18 = .ok (.iload_n 2, 1) := by decide +kernel
theorem dL_ask_19 : decode cL_ask 19 = .ok (.iastore, 1) := by decide +kernel
theorem dL_ask_20 : decode cL_ask 20 = .ok (.return_, 1) := by decide +kernel
theorem dL_reachOf_0 : decode cL_reachOf 0 = .ok (.iload_n 1, 1) := by decide +kernel
theorem dL_reachOf_1 : decode cL_reachOf 1 = .ok (.ifCond .lt 21, 3) := by decide +kernel
theorem dL_reachOf_4 : decode cL_reachOf 4 = .ok (.iload_n 1, 1) := by decide +kernel
theorem dL_reachOf_5 : decode cL_reachOf 5 = .ok (.aload_n 0, 1) := by decide +kernel
theorem dL_reachOf_6 : decode cL_reachOf 6 = .ok (.getfield 31, 3) := by decide +kernel
theorem dL_reachOf_9 : decode cL_reachOf 9 = .ok (.arraylength, 1) := by decide +kernel
theorem dL_reachOf_10 : decode cL_reachOf 10 = .ok (.if_icmp .ge 12, 3) := by decide +kernel
theorem dL_reachOf_13 : decode cL_reachOf 13 = .ok (.aload_n 0, 1) := by decide +kernel
theorem dL_reachOf_14 : decode cL_reachOf 14 = .ok (.getfield 31, 3) := by decide +kernel
theorem dL_reachOf_17 : decode cL_reachOf 17 = .ok (.iload_n 1, 1) := by decide +kernel
theorem dL_reachOf_18 : decode cL_reachOf 18 = .ok (.iaload, 1) := by decide +kernel
theorem dL_reachOf_19 : decode cL_reachOf 19 = .ok (.goto 5, 3) := by decide +kernel
theorem dL_reachOf_22 : decode cL_reachOf 22 = .ok (.bipush (-2), 2) := by decide +kernel
theorem dL_reachOf_24 : decode cL_reachOf 24 = .ok (.ireturn, 1) := by decide +kernel
theorem dL_hasReached_0 : decode cL_hasReached 0 = .ok (.aload_n 0, 1) := by decide +kernel
theorem dL_hasReached_1 : decode cL_hasReached 1 = .ok (.iload_n 1, 1) := by decide +kernel
theorem dL_hasReached_2 : decode cL_hasReached 2 = .ok (.invokevirtual 44, 3) := by decide +kernel
theorem dL_hasReached_5 : decode cL_hasReached 5 = .ok (.ifCond .lt 7, 3) := by decide +kernel
theorem dL_hasReached_8 : decode cL_hasReached 8 = .ok (.iconst 1, 1) := by decide +kernel
theorem dL_hasReached_9 : decode cL_hasReached 9 = .ok (.goto 4, 3) := by decide +kernel
theorem dL_hasReached_12 : decode cL_hasReached 12 = .ok (.iconst 0, 1) := by decide +kernel
theorem dL_hasReached_13 : decode cL_hasReached 13 = .ok (.ireturn, 1) := by decide +kernel
theorem dL_hasReachedBy_0 : decode cL_hasReachedBy 0 = .ok (.aload_n 0, 1) := by decide +kernel
theorem dL_hasReachedBy_1 : decode cL_hasReachedBy 1 = .ok (.iload_n 2, 1) := by decide +kernel
theorem dL_hasReachedBy_2 : decode cL_hasReachedBy 2 = .ok (.invokevirtual 48, 3) := by decide +kernel
theorem dL_hasReachedBy_5 : decode cL_hasReachedBy 5 = .ok (.ifCond .eq 24, 3) := by decide +kernel
theorem dL_hasReachedBy_8 : decode cL_hasReachedBy 8 = .ok (.iload_n 1, 1) := by decide +kernel
theorem dL_hasReachedBy_9 : decode cL_hasReachedBy 9 = .ok (.aload_n 0, 1) := by decide +kernel
theorem dL_hasReachedBy_10 : decode cL_hasReachedBy 10 = .ok (.getfield 19, 3) := by decide +kernel
theorem dL_hasReachedBy_13 : decode cL_hasReachedBy 13 = .ok (.isub, 1) := by decide +kernel
theorem dL_hasReachedBy_14 : decode cL_hasReachedBy 14 = .ok (.aload_n 0, 1) := by decide +kernel
theorem dL_hasReachedBy_15 : decode cL_hasReachedBy 15 = .ok (.iload_n 2, 1) := by decide +kernel
theorem dL_hasReachedBy_16 : decode cL_hasReachedBy 16 = .ok (.invokevirtual 44, 3) := by decide +kernel
theorem dL_hasReachedBy_19 : decode cL_hasReachedBy 19 = .ok (.bipush 10, 2) := by decide +kernel
theorem dL_hasReachedBy_21 : decode cL_hasReachedBy 21 = .ok (.idiv, 1) := by decide +kernel
theorem dL_hasReachedBy_22 : decode cL_hasReachedBy 22 = .ok (.if_icmp .lt 7, 3) := by decide +kernel
theorem dL_hasReachedBy_25 : decode cL_hasReachedBy 25 = .ok (.iconst 1, 1) := by decide +kernel
theorem dL_hasReachedBy_26 : decode cL_hasReachedBy 26 = .ok (.goto 4, 3) := by decide +kernel
theorem dL_hasReachedBy_29 : decode cL_hasReachedBy 29 = .ok (.iconst 0, 1) := by decide +kernel
theorem dL_hasReachedBy_30 : decode cL_hasReachedBy 30 = .ok (.ireturn, 1) := by decide +kernel
theorem dL_note_0 : decode cL_note 0 = .ok (.iload_n 1, 1) := by decide +kernel
theorem dL_note_1 : decode cL_note 1 = .ok (.ifCond .lt 19, 3) := by decide +kernel
theorem dL_note_4 : decode cL_note 4 = .ok (.iload_n 1, 1) := by decide +kernel
theorem dL_note_5 : decode cL_note 5 = .ok (.aload_n 0, 1) := by decide +kernel
theorem dL_note_6 : decode cL_note 6 = .ok (.getfield 35, 3) := by decide +kernel
theorem dL_note_9 : decode cL_note 9 = .ok (.arraylength, 1) := by decide +kernel
theorem dL_note_10 : decode cL_note 10 = .ok (.if_icmp .ge 10, 3) := by decide +kernel
theorem dL_note_13 : decode cL_note 13 = .ok (.aload_n 0, 1) := by decide +kernel
theorem dL_note_14 : decode cL_note 14 = .ok (.getfield 35, 3) := by decide +kernel
theorem dL_note_17 : decode cL_note 17 = .ok (.iload_n 1, 1) := by decide +kernel
theorem dL_note_18 : decode cL_note 18 = .ok (.iload_n 2, 1) := by decide +kernel
theorem dL_note_19 : decode cL_note 19 = .ok (.iastore, 1) := by decide +kernel
theorem dL_note_20 : decode cL_note 20 = .ok (.return_, 1) := by decide +kernel
theorem dL_hasAsked_0 : decode cL_hasAsked 0 = .ok (.aload_n 0, 1) := by decide +kernel
theorem dL_hasAsked_1 : decode cL_hasAsked 1 = .ok (.iload_n 1, 1) := by decide +kernel
theorem dL_hasAsked_2 : decode cL_hasAsked 2 = .ok (.invokevirtual 44, 3) := by decide +kernel
theorem dL_hasAsked_5 : decode cL_hasAsked 5 = .ok (.bipush (-2), 2) := by decide +kernel
theorem dL_hasAsked_7 : decode cL_hasAsked 7 = .ok (.if_icmp .eq 7, 3) := by decide +kernel
theorem dL_hasAsked_10 : decode cL_hasAsked 10 = .ok (.iconst 1, 1) := by decide +kernel
theorem dL_hasAsked_11 : decode cL_hasAsked 11 = .ok (.goto 4, 3) := by decide +kernel
theorem dL_hasAsked_14 : decode cL_hasAsked 14 = .ok (.iconst 0, 1) := by decide +kernel
theorem dL_hasAsked_15 : decode cL_hasAsked 15 = .ok (.ireturn, 1) := by decide +kernel
theorem dL_countFrom_0 : decode cL_countFrom 0 = .ok (.iconst 0, 1) := by decide +kernel
theorem dL_countFrom_1 : decode cL_countFrom 1 = .ok (.istore_n 2, 1) := by decide +kernel
theorem dL_countFrom_2 : decode cL_countFrom 2 = .ok (.aload_n 0, 1) := by decide +kernel
theorem dL_countFrom_3 : decode cL_countFrom 3 = .ok (.astore_n 3, 1) := by decide +kernel
theorem dL_countFrom_4 : decode cL_countFrom 4 = .ok (.aload_n 3, 1) := by decide +kernel
theorem dL_countFrom_5 : decode cL_countFrom 5 = .ok (.arraylength, 1) := by decide +kernel
theorem dL_countFrom_6 : decode cL_countFrom 6 = .ok (.istore 4, 2) := by decide +kernel
theorem dL_countFrom_8 : decode cL_countFrom 8 = .ok (.iconst 0, 1) := by decide +kernel
theorem dL_countFrom_9 : decode cL_countFrom 9 = .ok (.istore 5, 2) := by decide +kernel
theorem dL_countFrom_11 : decode cL_countFrom 11 = .ok (.iload 5, 2) := by decide +kernel
theorem dL_countFrom_13 : decode cL_countFrom 13 = .ok (.iload 4, 2) := by decide +kernel
theorem dL_countFrom_15 : decode cL_countFrom 15 = .ok (.if_icmp .ge 24, 3) := by decide +kernel
theorem dL_countFrom_18 : decode cL_countFrom 18 = .ok (.aload_n 3, 1) := by decide +kernel
theorem dL_countFrom_19 : decode cL_countFrom 19 = .ok (.iload 5, 2) := by decide +kernel
theorem dL_countFrom_21 : decode cL_countFrom 21 = .ok (.iaload, 1) := by decide +kernel
theorem dL_countFrom_22 : decode cL_countFrom 22 = .ok (.istore 6, 2) := by decide +kernel
theorem dL_countFrom_24 : decode cL_countFrom 24 = .ok (.iload 6, 2) := by decide +kernel
theorem dL_countFrom_26 : decode cL_countFrom 26 = .ok (.iload_n 1, 1) := by decide +kernel
theorem dL_countFrom_27 : decode cL_countFrom 27 = .ok (.if_icmp .lt 6, 3) := by decide +kernel
theorem dL_countFrom_30 : decode cL_countFrom 30 = .ok (.iinc 2 1, 3) := by decide +kernel
theorem dL_countFrom_33 : decode cL_countFrom 33 = .ok (.iinc 5 1, 3) := by decide +kernel
theorem dL_countFrom_36 : decode cL_countFrom 36 = .ok (.goto (-25), 3) := by decide +kernel
theorem dL_countFrom_39 : decode cL_countFrom 39 = .ok (.iload_n 2, 1) := by decide +kernel
theorem dL_countFrom_40 : decode cL_countFrom 40 = .ok (.ireturn, 1) := by decide +kernel
theorem dL_comingPersons_0 : decode cL_comingPersons 0 = .ok (.aload_n 0, 1) := by decide +kernel
theorem dL_comingPersons_1 : decode cL_comingPersons 1 = .ok (.getfield 35, 3) := by decide +kernel
theorem dL_comingPersons_4 : decode cL_comingPersons 4 = .ok (.iconst 0, 1) := by decide +kernel
theorem dL_comingPersons_5 : decode cL_comingPersons 5 = .ok (.invokestatic 52, 3) := by decide +kernel
theorem dL_comingPersons_8 : decode cL_comingPersons 8 = .ok (.ireturn, 1) := by decide +kernel
theorem dL_askedPersons_0 : decode cL_askedPersons 0 = .ok (.aload_n 0, 1) := by decide +kernel
theorem dL_askedPersons_1 : decode cL_askedPersons 1 = .ok (.getfield 31, 3) := by decide +kernel
theorem dL_askedPersons_4 : decode cL_askedPersons 4 = .ok (.iconst (-1), 1) := by decide +kernel
theorem dL_askedPersons_5 : decode cL_askedPersons 5 = .ok (.invokestatic 52, 3) := by decide +kernel
theorem dL_askedPersons_8 : decode cL_askedPersons 8 = .ok (.ireturn, 1) := by decide +kernel
theorem dL_answeredPersons_0 : decode cL_answeredPersons 0 = .ok (.aload_n 0, 1) := by decide +kernel
theorem dL_answeredPersons_1 : decode cL_answeredPersons 1 = .ok (.getfield 35, 3) := by decide +kernel
theorem dL_answeredPersons_4 : decode cL_answeredPersons 4 = .ok (.iconst (-1), 1) := by decide +kernel
theorem dL_answeredPersons_5 : decode cL_answeredPersons 5 = .ok (.invokestatic 52, 3) := by decide +kernel
theorem dL_answeredPersons_8 : decode cL_answeredPersons 8 = .ok (.ireturn, 1) := by decide +kernel
theorem dL_hasAnswer_0 : decode cL_hasAnswer 0 = .ok (.iload_n 1, 1) := by decide +kernel
theorem dL_hasAnswer_1 : decode cL_hasAnswer 1 = .ok (.ifCond .lt 27, 3) := by decide +kernel
theorem dL_hasAnswer_4 : decode cL_hasAnswer 4 = .ok (.iload_n 1, 1) := by decide +kernel
theorem dL_hasAnswer_5 : decode cL_hasAnswer 5 = .ok (.aload_n 0, 1) := by decide +kernel
theorem dL_hasAnswer_6 : decode cL_hasAnswer 6 = .ok (.getfield 35, 3) := by decide +kernel
theorem dL_hasAnswer_9 : decode cL_hasAnswer 9 = .ok (.arraylength, 1) := by decide +kernel
theorem dL_hasAnswer_10 : decode cL_hasAnswer 10 = .ok (.if_icmp .ge 18, 3) := by decide +kernel
theorem dL_hasAnswer_13 : decode cL_hasAnswer 13 = .ok (.aload_n 0, 1) := by decide +kernel
theorem dL_hasAnswer_14 : decode cL_hasAnswer 14 = .ok (.getfield 35, 3) := by decide +kernel
theorem dL_hasAnswer_17 : decode cL_hasAnswer 17 = .ok (.iload_n 1, 1) := by decide +kernel
theorem dL_hasAnswer_18 : decode cL_hasAnswer 18 = .ok (.iaload, 1) := by decide +kernel
theorem dL_hasAnswer_19 : decode cL_hasAnswer 19 = .ok (.bipush (-2), 2) := by decide +kernel
theorem dL_hasAnswer_21 : decode cL_hasAnswer 21 = .ok (.if_icmp .eq 7, 3) := by decide +kernel
theorem dL_hasAnswer_24 : decode cL_hasAnswer 24 = .ok (.iconst 1, 1) := by decide +kernel
theorem dL_hasAnswer_25 : decode cL_hasAnswer 25 = .ok (.goto 4, 3) := by decide +kernel
theorem dL_hasAnswer_28 : decode cL_hasAnswer 28 = .ok (.iconst 0, 1) := by decide +kernel
theorem dL_hasAnswer_29 : decode cL_hasAnswer 29 = .ok (.ireturn, 1) := by decide +kernel
theorem dP_addClosed_0 : decode cP_addClosed 0 = .ok (.aload_n 0, 1) := by decide +kernel
theorem dP_addClosed_1 : decode cP_addClosed 1 = .ok (.dup, 1) := by decide +kernel
theorem dP_addClosed_2 : decode cP_addClosed 2 = .ok (.getfield 29, 3) := by decide +kernel
theorem dP_addClosed_5 : decode cP_addClosed 5 = .ok (.iconst 1, 1) := by decide +kernel
theorem dP_addClosed_6 : decode cP_addClosed 6 = .ok (.iadd, 1) := by decide +kernel
theorem dP_addClosed_7 : decode cP_addClosed 7 = .ok (.putfield 29, 3) := by decide +kernel
theorem dP_addClosed_10 : decode cP_addClosed 10 = .ok (.iload_n 1, 1) := by decide +kernel
theorem dP_addClosed_11 : decode cP_addClosed 11 = .ok (.ifCond .eq 13, 3) := by decide +kernel
theorem dP_addClosed_14 : decode cP_addClosed 14 = .ok (.aload_n 0, 1) := by decide +kernel
theorem dP_addClosed_15 : decode cP_addClosed 15 = .ok (.dup, 1) := by decide +kernel
theorem dP_addClosed_16 : decode cP_addClosed 16 = .ok (.getfield 32, 3) := by decide +kernel
theorem dP_addClosed_19 : decode cP_addClosed 19 = .ok (.iconst 1, 1) := by decide +kernel
theorem dP_addClosed_20 : decode cP_addClosed 20 = .ok (.iadd, 1) := by decide +kernel
theorem dP_addClosed_21 : decode cP_addClosed 21 = .ok (.putfield 32, 3) := by decide +kernel
theorem dP_addClosed_24 : decode cP_addClosed 24 = .ok (.return_, 1) := by decide +kernel
theorem dL_reachedPersons_0 : decode cL_reachedPersons 0 = .ok (.aload_n 0, 1) := by decide +kernel
theorem dL_reachedPersons_1 : decode cL_reachedPersons 1 = .ok (.getfield 31, 3) := by decide +kernel
theorem dL_reachedPersons_4 : decode cL_reachedPersons 4 = .ok (.iconst 0, 1) := by decide +kernel
theorem dL_reachedPersons_5 : decode cL_reachedPersons 5 = .ok (.invokestatic 52, 3) := by decide +kernel
theorem dL_reachedPersons_8 : decode cL_reachedPersons 8 = .ok (.ireturn, 1) := by decide +kernel
theorem dL_comersBefore_0 : decode cL_comersBefore 0 = .ok (.iconst 0, 1) := by decide +kernel
theorem dL_comersBefore_1 : decode cL_comersBefore 1 = .ok (.istore_n 3, 1) := by decide +kernel
theorem dL_comersBefore_2 : decode cL_comersBefore 2 = .ok (.iconst 0, 1) := by decide +kernel
theorem dL_comersBefore_3 : decode cL_comersBefore 3 = .ok (.istore 4, 2) := by decide +kernel
theorem dL_comersBefore_5 : decode cL_comersBefore 5 = .ok (.iload 4, 2) := by decide +kernel
theorem dL_comersBefore_7 : decode cL_comersBefore 7 = .ok (.aload_n 0, 1) := by decide +kernel
theorem dL_comersBefore_8 : decode cL_comersBefore 8 = .ok (.getfield 35, 3) := by decide +kernel
theorem dL_comersBefore_11 : decode cL_comersBefore 11 = .ok (.arraylength, 1) := by decide +kernel
theorem dL_comersBefore_12 : decode cL_comersBefore 12 = .ok (.if_icmp .ge 44, 3) := by decide +kernel
theorem dL_comersBefore_15 : decode cL_comersBefore 15 = .ok (.aload_n 0, 1) := by decide +kernel
theorem dL_comersBefore_16 : decode cL_comersBefore 16 = .ok (.getfield 35, 3) := by decide +kernel
theorem dL_comersBefore_19 : decode cL_comersBefore 19 = .ok (.iload 4, 2) := by decide +kernel
theorem dL_comersBefore_21 : decode cL_comersBefore 21 = .ok (.iaload, 1) := by decide +kernel
theorem dL_comersBefore_22 : decode cL_comersBefore 22 = .ok (.istore 5, 2) := by decide +kernel
theorem dL_comersBefore_24 : decode cL_comersBefore 24 = .ok (.iload 5, 2) := by decide +kernel
theorem dL_comersBefore_26 : decode cL_comersBefore 26 = .ok (.ifCond .lt 24, 3) := by decide +kernel
theorem dL_comersBefore_29 : decode cL_comersBefore 29 = .ok (.iload 5, 2) := by decide +kernel
theorem dL_comersBefore_31 : decode cL_comersBefore 31 = .ok (.iload_n 2, 1) := by decide +kernel
theorem dL_comersBefore_32 : decode cL_comersBefore 32 = .ok (.if_icmp .lt 15, 3) := by decide +kernel
theorem dL_comersBefore_35 : decode cL_comersBefore 35 = .ok (.iload 5, 2) := by decide +kernel
theorem dL_comersBefore_37 : decode cL_comersBefore 37 = .ok (.iload_n 2, 1) := by decide +kernel
theorem dL_comersBefore_38 : decode cL_comersBefore 38 = .ok (.if_icmp .ne 12, 3) := by decide +kernel
theorem dL_comersBefore_41 : decode cL_comersBefore 41 = .ok (.iload 4, 2) := by decide +kernel
theorem dL_comersBefore_43 : decode cL_comersBefore 43 = .ok (.iload_n 1, 1) := by decide +kernel
theorem dL_comersBefore_44 : decode cL_comersBefore 44 = .ok (.if_icmp .ge 6, 3) := by decide +kernel
theorem dL_comersBefore_47 : decode cL_comersBefore 47 = .ok (.iinc 3 1, 3) := by decide +kernel
theorem dL_comersBefore_50 : decode cL_comersBefore 50 = .ok (.iinc 4 1, 3) := by decide +kernel
theorem dL_comersBefore_53 : decode cL_comersBefore 53 = .ok (.goto (-48), 3) := by decide +kernel
theorem dL_comersBefore_56 : decode cL_comersBefore 56 = .ok (.iload_n 3, 1) := by decide +kernel
theorem dL_comersBefore_57 : decode cL_comersBefore 57 = .ok (.ireturn, 1) := by decide +kernel
theorem dL_comerAt_0 : decode cL_comerAt 0 = .ok (.iconst 0, 1) := by decide +kernel
theorem dL_comerAt_1 : decode cL_comerAt 1 = .ok (.istore_n 2, 1) := by decide +kernel
theorem dL_comerAt_2 : decode cL_comerAt 2 = .ok (.iload_n 2, 1) := by decide +kernel
theorem dL_comerAt_3 : decode cL_comerAt 3 = .ok (.aload_n 0, 1) := by decide +kernel
theorem dL_comerAt_4 : decode cL_comerAt 4 = .ok (.getfield 35, 3) := by decide +kernel
theorem dL_comerAt_7 : decode cL_comerAt 7 = .ok (.arraylength, 1) := by decide +kernel
theorem dL_comerAt_8 : decode cL_comerAt 8 = .ok (.if_icmp .ge 38, 3) := by decide +kernel
theorem dL_comerAt_11 : decode cL_comerAt 11 = .ok (.aload_n 0, 1) := by decide +kernel
theorem dL_comerAt_12 : decode cL_comerAt 12 = .ok (.getfield 35, 3) := by decide +kernel
theorem dL_comerAt_15 : decode cL_comerAt 15 = .ok (.iload_n 2, 1) := by decide +kernel
theorem dL_comerAt_16 : decode cL_comerAt 16 = .ok (.iaload, 1) := by decide +kernel
theorem dL_comerAt_17 : decode cL_comerAt 17 = .ok (.istore_n 3, 1) := by decide +kernel
theorem dL_comerAt_18 : decode cL_comerAt 18 = .ok (.iload_n 3, 1) := by decide +kernel
theorem dL_comerAt_19 : decode cL_comerAt 19 = .ok (.ifCond .lt 21, 3) := by decide +kernel
theorem dL_comerAt_22 : decode cL_comerAt 22 = .ok (.aload_n 0, 1) := by decide +kernel
theorem dL_comerAt_23 : decode cL_comerAt 23 = .ok (.iload_n 2, 1) := by decide +kernel
theorem dL_comerAt_24 : decode cL_comerAt 24 = .ok (.iload_n 3, 1) := by decide +kernel
theorem dL_comerAt_25 : decode cL_comerAt 25 = .ok (.invokevirtual 56, 3) := by decide +kernel
theorem dL_comerAt_28 : decode cL_comerAt 28 = .ok (.iload_n 1, 1) := by decide +kernel
theorem dL_comerAt_29 : decode cL_comerAt 29 = .ok (.if_icmp .ne 11, 3) := by decide +kernel
theorem dL_comerAt_32 : decode cL_comerAt 32 = .ok (.sipush 1000, 3) := by decide +kernel
theorem dL_comerAt_35 : decode cL_comerAt 35 = .ok (.iload_n 2, 1) := by decide +kernel
theorem dL_comerAt_36 : decode cL_comerAt 36 = .ok (.imul, 1) := by decide +kernel
theorem dL_comerAt_37 : decode cL_comerAt 37 = .ok (.iload_n 3, 1) := by decide +kernel
theorem dL_comerAt_38 : decode cL_comerAt 38 = .ok (.iadd, 1) := by decide +kernel
theorem dL_comerAt_39 : decode cL_comerAt 39 = .ok (.ireturn, 1) := by decide +kernel
theorem dL_comerAt_40 : decode cL_comerAt 40 = .ok (.iinc 2 1, 3) := by decide +kernel
theorem dL_comerAt_43 : decode cL_comerAt 43 = .ok (.goto (-41), 3) := by decide +kernel
theorem dL_comerAt_46 : decode cL_comerAt 46 = .ok (.iconst (-1), 1) := by decide +kernel
theorem dL_comerAt_47 : decode cL_comerAt 47 = .ok (.ireturn, 1) := by decide +kernel
theorem dP_neverAnswers_0 : decode cP_neverAnswers 0 = .ok (.aload_n 0, 1) := by decide +kernel
theorem dP_neverAnswers_1 : decode cP_neverAnswers 1 = .ok (.getfield 29, 3) := by decide +kernel
theorem dP_neverAnswers_4 : decode cP_neverAnswers 4 = .ok (.iconst 3, 1) := by decide +kernel
theorem dP_neverAnswers_5 : decode cP_neverAnswers 5 = .ok (.if_icmp .lt 14, 3) := by decide +kernel
theorem dP_neverAnswers_8 : decode cP_neverAnswers 8 = .ok (.aload_n 0, 1) := by decide +kernel
theorem dP_neverAnswers_9 : decode cP_neverAnswers 9 = .ok (.getfield 32, 3) := by decide +kernel
theorem dP_neverAnswers_12 : decode cP_neverAnswers 12 = .ok (.ifCond .ne 7, 3) := by decide +kernel
theorem dP_neverAnswers_15 : decode cP_neverAnswers 15 = .ok (.iconst 1, 1) := by decide +kernel
theorem dP_neverAnswers_16 : decode cP_neverAnswers 16 = .ok (.goto 4, 3) := by decide +kernel
theorem dP_neverAnswers_19 : decode cP_neverAnswers 19 = .ok (.iconst 0, 1) := by decide +kernel
theorem dP_neverAnswers_20 : decode cP_neverAnswers 20 = .ok (.ireturn, 1) := by decide +kernel
