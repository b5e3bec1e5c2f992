theorem dA_init_0 : decode bA_init 0 = .ok (.aload_n 0, 1) := by decide +kernel
theorem dA_init_1 : decode bA_init 1 = .ok (.invokespecial 1, 3) := by decide +kernel
theorem dA_init_4 : decode bA_init 4 = .ok (.aload_n 0, 1) := by decide +kernel
theorem dA_init_5 : decode bA_init 5 = .ok (.getstatic 39, 3) := by decide +kernel
theorem dA_init_8 : decode bA_init 8 = .ok (.putfield 9, 3) := by decide +kernel
theorem dA_init_11 : decode bA_init 11 = .ok (.return_, 1) := by decide +kernel
theorem dA_size_0 : decode bA_size 0 = .ok (.aload_n 0, 1) := by decide +kernel
theorem dA_size_1 : decode bA_size 1 = .ok (.getfield 48, 3) := by decide +kernel
theorem dA_size_4 : decode bA_size 4 = .ok (.ireturn, 1) := by decide +kernel
theorem dA_add_0 : decode bA_add 0 = .ok (.aload_n 0, 1) := by decide +kernel
theorem dA_add_1 : decode bA_add 1 = .ok (.dup, 1) := by decide +kernel
theorem dA_add_2 : decode bA_add 2 = .ok (.getfield 63, 3) := by decide +kernel
theorem dA_add_5 : decode bA_add 5 = .ok (.iconst 1, 1) := by decide +kernel
theorem dA_add_6 : decode bA_add 6 = .ok (.iadd, 1) := by decide +kernel
theorem dA_add_7 : decode bA_add 7 = .ok (.putfield 63, 3) := by decide +kernel
theorem dA_add_10 : decode bA_add 10 = .ok (.aload_n 0, 1) := by decide +kernel
theorem dA_add_11 : decode bA_add 11 = .ok (.aload_n 1, 1) := by decide +kernel
theorem dA_add_12 : decode bA_add 12 = .ok (.aload_n 0, 1) := by decide +kernel
theorem dA_add_13 : decode bA_add 13 = .ok (.getfield 9, 3) := by decide +kernel
theorem dA_add_16 : decode bA_add 16 = .ok (.aload_n 0, 1) := by decide +kernel
theorem dA_add_17 : decode bA_add 17 = .ok (.getfield 48, 3) := by decide +kernel
theorem dA_add_20 : decode bA_add 20 = .ok (.invokevirtual 131, 3) := by decide +kernel
theorem dA_add_23 : decode bA_add 23 = .ok (.iconst 1, 1) := by decide +kernel
theorem dA_add_24 : decode bA_add 24 = .ok (.ireturn, 1) := by decide +kernel
theorem dA_addH_0 : decode bA_addH 0 = .ok (.iload_n 3, 1) := by decide +kernel
theorem dA_addH_1 : decode bA_addH 1 = .ok (.aload_n 2, 1) := by decide +kernel
theorem dA_addH_2 : decode bA_addH 2 = .ok (.arraylength, 1) := by decide +kernel
theorem dA_addH_3 : decode bA_addH 3 = .ok (.if_icmp .ne 8, 3) := by decide +kernel
theorem dA_addH_6 : decode bA_addH 6 = .ok (.aload_n 0, 1) := by decide +kernel
theorem dA_addH_7 : decode bA_addH 7 = .ok (.invokevirtual 129, 3) := by decide +kernel
theorem dA_addH_10 : decode bA_addH 10 = .ok (.astore_n 2, 1) := by decide +kernel
theorem dA_addH_11 : decode bA_addH 11 = .ok (.aload_n 2, 1) := by decide +kernel
theorem dA_addH_12 : decode bA_addH 12 = .ok (.iload_n 3, 1) := by decide +kernel
theorem dA_addH_13 : decode bA_addH 13 = .ok (.aload_n 1, 1) := by decide +kernel
theorem dA_addH_14 : decode bA_addH 14 = .ok (.aastore, 1) := by decide +kernel
theorem dA_addH_15 : decode bA_addH 15 = .ok (.aload_n 0, 1) := by decide +kernel
theorem dA_addH_16 : decode bA_addH 16 = .ok (.iload_n 3, 1) := by decide +kernel
theorem dA_addH_17 : decode bA_addH 17 = .ok (.iconst 1, 1) := by decide +kernel
theorem dA_addH_18 : decode bA_addH 18 = .ok (.iadd, 1) := by decide +kernel
theorem dA_addH_19 : decode bA_addH 19 = .ok (.putfield 48, 3) := by decide +kernel
theorem dA_addH_22 : decode bA_addH 22 = .ok (.return_, 1) := by decide +kernel
theorem dA_grow0_0 : decode bA_grow0 0 = .ok (.aload_n 0, 1) := by decide +kernel
theorem dA_grow0_1 : decode bA_grow0 1 = .ok (.aload_n 0, 1) := by decide +kernel
theorem dA_grow0_2 : decode bA_grow0 2 = .ok (.getfield 48, 3) := by decide +kernel
theorem dA_grow0_5 : decode bA_grow0 5 = .ok (.iconst 1, 1) := by decide +kernel
theorem dA_grow0_6 : decode bA_grow0 6 = .ok (.iadd, 1) := by decide +kernel
theorem dA_grow0_7 : decode bA_grow0 7 = .ok (.invokevirtual 69, 3) := by decide +kernel
theorem dA_grow0_10 : decode bA_grow0 10 = .ok (.areturn, 1) := by decide +kernel
theorem dA_grow1_0 : decode bA_grow1 0 = .ok (.aload_n 0, 1) := by decide +kernel
theorem dA_grow1_1 : decode bA_grow1 1 = .ok (.getfield 9, 3) := by decide +kernel
theorem dA_grow1_4 : decode bA_grow1 4 = .ok (.arraylength, 1) := by decide +kernel
theorem dA_grow1_5 : decode bA_grow1 5 = .ok (.istore_n 2, 1) := by decide +kernel
theorem dA_grow1_6 : decode bA_grow1 6 = .ok (.iload_n 2, 1) := by decide +kernel
theorem dA_grow1_7 : decode bA_grow1 7 = .ok (.ifCond .gt 13, 3) := by decide +kernel
theorem dA_grow1_10 : decode bA_grow1 10 = .ok (.aload_n 0, 1) := by decide +kernel
theorem dA_grow1_11 : decode bA_grow1 11 = .ok (.getfield 9, 3) := by decide +kernel
theorem dA_grow1_14 : decode bA_grow1 14 = .ok (.getstatic 39, 3) := by decide +kernel
theorem dA_grow1_17 : decode bA_grow1 17 = .ok (.if_acmp .eq 28, 3) := by decide +kernel
theorem dA_grow1_45 : decode bA_grow1 45 = .ok (.aload_n 0, 1) := by decide +kernel
theorem dA_grow1_46 : decode bA_grow1 46 = .ok (.bipush 10, 2) := by decide +kernel
theorem dA_grow1_48 : decode bA_grow1 48 = .ok (.iload_n 1, 1) := by decide +kernel
theorem dA_grow1_49 : decode bA_grow1 49 = .ok (.invokestatic 79, 3) := by decide +kernel
theorem dA_grow1_52 : decode bA_grow1 52 = .ok (.anewarray 7, 3) := by decide +kernel
theorem dA_grow1_55 : decode bA_grow1 55 = .ok (.dup_x1, 1) := by decide +kernel
theorem dA_grow1_56 : decode bA_grow1 56 = .ok (.putfield 9, 3) := by decide +kernel
theorem dA_grow1_59 : decode bA_grow1 59 = .ok (.areturn, 1) := by decide +kernel
theorem dA_get_0 : decode bA_get 0 = .ok (.iload_n 1, 1) := by decide +kernel
theorem dA_get_1 : decode bA_get 1 = .ok (.aload_n 0, 1) := by decide +kernel
theorem dA_get_2 : decode bA_get 2 = .ok (.getfield 48, 3) := by decide +kernel
theorem dA_get_5 : decode bA_get 5 = .ok (.invokestatic 118, 3) := by decide +kernel
theorem dA_get_8 : decode bA_get 8 = .ok (.pop, 1) := by decide +kernel
theorem dA_get_9 : decode bA_get 9 = .ok (.aload_n 0, 1) := by decide +kernel
theorem dA_get_10 : decode bA_get 10 = .ok (.iload_n 1, 1) := by decide +kernel
theorem dA_get_11 : decode bA_get 11 = .ok (.invokevirtual 123, 3) := by decide +kernel
theorem dA_get_14 : decode bA_get 14 = .ok (.areturn, 1) := by decide +kernel
theorem dA_elementData_0 : decode bA_elementData 0 = .ok (.aload_n 0, 1) := by decide +kernel
theorem dA_elementData_1 : decode bA_elementData 1 = .ok (.getfield 9, 3) := by decide +kernel
theorem dA_elementData_4 : decode bA_elementData 4 = .ok (.iload_n 1, 1) := by decide +kernel
theorem dA_elementData_5 : decode bA_elementData 5 = .ok (.aaload, 1) := by decide +kernel
theorem dA_elementData_6 : decode bA_elementData 6 = .ok (.areturn, 1) := by decide +kernel
theorem dAL_init_0 : decode bAL_init 0 = .ok (.aload_n 0, 1) := by decide +kernel
theorem dAL_init_1 : decode bAL_init 1 = .ok (.invokespecial 1, 3) := by decide +kernel
theorem dAL_init_4 : decode bAL_init 4 = .ok (.aload_n 0, 1) := by decide +kernel
theorem dAL_init_5 : decode bAL_init 5 = .ok (.iconst 0, 1) := by decide +kernel
theorem dAL_init_6 : decode bAL_init 6 = .ok (.putfield 7, 3) := by decide +kernel
theorem dAL_init_9 : decode bAL_init 9 = .ok (.return_, 1) := by decide +kernel
theorem dAC_init_0 : decode bAC_init 0 = .ok (.aload_n 0, 1) := by decide +kernel
theorem dAC_init_1 : decode bAC_init 1 = .ok (.invokespecial 1, 3) := by decide +kernel
theorem dAC_init_4 : decode bAC_init 4 = .ok (.return_, 1) := by decide +kernel
theorem dO_checkIndex_0 : decode bO_checkIndex 0 = .ok (.iload_n 0, 1) := by decide +kernel
theorem dO_checkIndex_1 : decode bO_checkIndex 1 = .ok (.iload_n 1, 1) := by decide +kernel
theorem dO_checkIndex_2 : decode bO_checkIndex 2 = .ok (.aconst_null, 1) := by decide +kernel
theorem dO_checkIndex_3 : decode bO_checkIndex 3 = .ok (.invokestatic 105, 3) := by decide +kernel
theorem dO_checkIndex_6 : decode bO_checkIndex 6 = .ok (.ireturn, 1) := by decide +kernel
theorem dP_checkIndex_0 : decode bP_checkIndex 0 = .ok (.iload_n 0, 1) := by decide +kernel
theorem dP_checkIndex_1 : decode bP_checkIndex 1 = .ok (.ifCond .lt 8, 3) := by decide +kernel
theorem dP_checkIndex_4 : decode bP_checkIndex 4 = .ok (.iload_n 0, 1) := by decide +kernel
theorem dP_checkIndex_5 : decode bP_checkIndex 5 = .ok (.iload_n 1, 1) := by decide +kernel
theorem dP_checkIndex_6 : decode bP_checkIndex 6 = .ok (.if_icmp .lt 10, 3) := by decide +kernel
theorem dP_checkIndex_16 : decode bP_checkIndex 16 = .ok (.iload_n 0, 1) := by decide +kernel
theorem dP_checkIndex_17 : decode bP_checkIndex 17 = .ok (.ireturn, 1) := by decide +kernel
theorem dS_length_0 : decode bS_length 0 = .ok (.aload_n 0, 1) := by decide +kernel
theorem dS_length_1 : decode bS_length 1 = .ok (.getfield 9, 3) := by decide +kernel
theorem dS_length_4 : decode bS_length 4 = .ok (.arraylength, 1) := by decide +kernel
theorem dS_length_5 : decode bS_length 5 = .ok (.aload_n 0, 1) := by decide +kernel
theorem dS_length_6 : decode bS_length 6 = .ok (.invokevirtual 335, 3) := by decide +kernel
theorem dS_length_9 : decode bS_length 9 = .ok (.ishr, 1) := by decide +kernel
theorem dS_length_10 : decode bS_length 10 = .ok (.ireturn, 1) := by decide +kernel
theorem dS_coder_0 : decode bS_coder 0 = .ok (.getstatic 38, 3) := by decide +kernel
theorem dS_coder_3 : decode bS_coder 3 = .ok (.ifCond .eq 10, 3) := by decide +kernel
theorem dS_coder_6 : decode bS_coder 6 = .ok (.aload_n 0, 1) := by decide +kernel
theorem dS_coder_7 : decode bS_coder 7 = .ok (.getfield 15, 3) := by decide +kernel
theorem dS_coder_10 : decode bS_coder 10 = .ok (.goto 4, 3) := by decide +kernel
theorem dS_coder_13 : decode bS_coder 13 = .ok (.iconst 1, 1) := by decide +kernel
theorem dS_coder_14 : decode bS_coder 14 = .ok (.ireturn, 1) := by decide +kernel
theorem dS_charAt_0 : decode bS_charAt 0 = .ok (.aload_n 0, 1) := by decide +kernel
theorem dS_charAt_1 : decode bS_charAt 1 = .ok (.invokevirtual 492, 3) := by decide +kernel
theorem dS_charAt_4 : decode bS_charAt 4 = .ok (.ifCond .eq 12, 3) := by decide +kernel
theorem dS_charAt_7 : decode bS_charAt 7 = .ok (.aload_n 0, 1) := by decide +kernel
theorem dS_charAt_8 : decode bS_charAt 8 = .ok (.getfield 9, 3) := by decide +kernel
theorem dS_charAt_11 : decode bS_charAt 11 = .ok (.iload_n 1, 1) := by decide +kernel
theorem dS_charAt_12 : decode bS_charAt 12 = .ok (.invokestatic 495, 3) := by decide +kernel
theorem dS_charAt_15 : decode bS_charAt 15 = .ok (.ireturn, 1) := by decide +kernel
theorem dS_isLatin1_0 : decode bS_isLatin1 0 = .ok (.getstatic 38, 3) := by decide +kernel
theorem dS_isLatin1_3 : decode bS_isLatin1 3 = .ok (.ifCond .eq 14, 3) := by decide +kernel
theorem dS_isLatin1_6 : decode bS_isLatin1 6 = .ok (.aload_n 0, 1) := by decide +kernel
theorem dS_isLatin1_7 : decode bS_isLatin1 7 = .ok (.getfield 15, 3) := by decide +kernel
theorem dS_isLatin1_10 : decode bS_isLatin1 10 = .ok (.ifCond .ne 7, 3) := by decide +kernel
theorem dS_isLatin1_13 : decode bS_isLatin1 13 = .ok (.iconst 1, 1) := by decide +kernel
theorem dS_isLatin1_14 : decode bS_isLatin1 14 = .ok (.goto 4, 3) := by decide +kernel
theorem dS_isLatin1_17 : decode bS_isLatin1 17 = .ok (.iconst 0, 1) := by decide +kernel
theorem dS_isLatin1_18 : decode bS_isLatin1 18 = .ok (.ireturn, 1) := by decide +kernel
theorem dS_checkIndex_0 : decode bS_checkIndex 0 = .ok (.iload_n 0, 1) := by decide +kernel
theorem dS_checkIndex_1 : decode bS_checkIndex 1 = .ok (.iload_n 1, 1) := by decide +kernel
theorem dS_checkIndex_2 : decode bS_checkIndex 2 = .ok (.getstatic 1053, 3) := by decide +kernel
theorem dS_checkIndex_5 : decode bS_checkIndex 5 = .ok (.invokestatic 1059, 3) := by decide +kernel
theorem dS_checkIndex_8 : decode bS_checkIndex 8 = .ok (.pop, 1) := by decide +kernel
theorem dS_checkIndex_9 : decode bS_checkIndex 9 = .ok (.return_, 1) := by decide +kernel
theorem dSL_charAt_0 : decode bSL_charAt 0 = .ok (.iload_n 1, 1) := by decide +kernel
theorem dSL_charAt_1 : decode bSL_charAt 1 = .ok (.aload_n 0, 1) := by decide +kernel
theorem dSL_charAt_2 : decode bSL_charAt 2 = .ok (.arraylength, 1) := by decide +kernel
theorem dSL_charAt_3 : decode bSL_charAt 3 = .ok (.invokestatic 9, 3) := by decide +kernel
theorem dSL_charAt_6 : decode bSL_charAt 6 = .ok (.aload_n 0, 1) := by decide +kernel
theorem dSL_charAt_7 : decode bSL_charAt 7 = .ok (.iload_n 1, 1) := by decide +kernel
theorem dSL_charAt_8 : decode bSL_charAt 8 = .ok (.baload, 1) := by decide +kernel
theorem dSL_charAt_9 : decode bSL_charAt 9 = .ok (.sipush 255, 3) := by decide +kernel
theorem dSL_charAt_12 : decode bSL_charAt 12 = .ok (.iand, 1) := by decide +kernel
theorem dSL_charAt_13 : decode bSL_charAt 13 = .ok (.i2c, 1) := by decide +kernel
theorem dSL_charAt_14 : decode bSL_charAt 14 = .ok (.ireturn, 1) := by decide +kernel
