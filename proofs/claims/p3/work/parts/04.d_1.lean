theorem dT_init_0 : decode bT_init 0 = .ok (.aload_n 0, 1) := by decide +kernel
theorem dT_init_1 : decode bT_init 1 = .ok (.invokespecial 3, 3) := by decide +kernel
theorem dT_init_4 : decode bT_init 4 = .ok (.aload_n 0, 1) := by decide +kernel
theorem dT_init_5 : decode bT_init 5 = .ok (.sipush 200, 3) := by decide +kernel
theorem dT_init_8 : decode bT_init 8 = .ok (.newarray .char, 2) := by decide +kernel
theorem dT_init_10 : decode bT_init 10 = .ok (.putfield 11, 3) := by decide +kernel
theorem dT_init_13 : decode bT_init 13 = .ok (.aload_n 0, 1) := by decide +kernel
theorem dT_init_14 : decode bT_init 14 = .ok (.iconst 0, 1) := by decide +kernel
theorem dT_init_15 : decode bT_init 15 = .ok (.putfield 15, 3) := by decide +kernel
theorem dT_init_18 : decode bT_init 18 = .ok (.aload_n 0, 1) := by decide +kernel
theorem dT_init_19 : decode bT_init 19 = .ok (.iconst 0, 1) := by decide +kernel
theorem dT_init_20 : decode bT_init 20 = .ok (.putfield 19, 3) := by decide +kernel
theorem dT_init_23 : decode bT_init 23 = .ok (.return_, 1) := by decide +kernel
theorem dT_append_0 : decode bT_append 0 = .ok (.aload_n 0, 1) := by decide +kernel
theorem dT_append_1 : decode bT_append 1 = .ok (.getfield 15, 3) := by decide +kernel
theorem dT_append_4 : decode bT_append 4 = .ok (.sipush 200, 3) := by decide +kernel
theorem dT_append_7 : decode bT_append 7 = .ok (.if_icmp .ge 15, 3) := by decide +kernel
theorem dT_append_10 : decode bT_append 10 = .ok (.iload_n 1, 1) := by decide +kernel
theorem dT_append_11 : decode bT_append 11 = .ok (.bipush 32, 2) := by decide +kernel
theorem dT_append_13 : decode bT_append 13 = .ok (.if_icmp .lt 9, 3) := by decide +kernel
theorem dT_append_16 : decode bT_append 16 = .ok (.iload_n 1, 1) := by decide +kernel
theorem dT_append_17 : decode bT_append 17 = .ok (.bipush 126, 2) := by decide +kernel
theorem dT_append_19 : decode bT_append 19 = .ok (.if_icmp .le 5, 3) := by decide +kernel
theorem dT_append_22 : decode bT_append 22 = .ok (.iconst 0, 1) := by decide +kernel
theorem dT_append_23 : decode bT_append 23 = .ok (.ireturn, 1) := by decide +kernel
theorem dT_append_24 : decode bT_append 24 = .ok (.aload_n 0, 1) := by decide +kernel
theorem dT_append_25 : decode bT_append 25 = .ok (.getfield 11, 3) := by decide +kernel
theorem dT_append_28 : decode bT_append 28 = .ok (.aload_n 0, 1) := by decide +kernel
theorem dT_append_29 : decode bT_append 29 = .ok (.getfield 15, 3) := by decide +kernel
theorem dT_append_32 : decode bT_append 32 = .ok (.iload_n 1, 1) := by decide +kernel
theorem dT_append_33 : decode bT_append 33 = .ok (.i2c, 1) := by decide +kernel
theorem dT_append_34 : decode bT_append 34 = .ok (.castore, 1) := by decide +kernel
theorem dT_append_35 : decode bT_append 35 = .ok (.aload_n 0, 1) := by decide +kernel
theorem dT_append_36 : decode bT_append 36 = .ok (.dup, 1) := by decide +kernel
theorem dT_append_37 : decode bT_append 37 = .ok (.getfield 15, 3) := by decide +kernel
theorem dT_append_40 : decode bT_append 40 = .ok (.iconst 1, 1) := by decide +kernel
theorem dT_append_41 : decode bT_append 41 = .ok (.iadd, 1) := by decide +kernel
theorem dT_append_42 : decode bT_append 42 = .ok (.putfield 15, 3) := by decide +kernel
theorem dT_append_45 : decode bT_append 45 = .ok (.iconst 1, 1) := by decide +kernel
theorem dT_append_46 : decode bT_append 46 = .ok (.ireturn, 1) := by decide +kernel
theorem dT_empty_0 : decode bT_empty 0 = .ok (.aload_n 0, 1) := by decide +kernel
theorem dT_empty_1 : decode bT_empty 1 = .ok (.iconst 0, 1) := by decide +kernel
theorem dT_empty_2 : decode bT_empty 2 = .ok (.putfield 15, 3) := by decide +kernel
theorem dT_empty_5 : decode bT_empty 5 = .ok (.return_, 1) := by decide +kernel
theorem dT_rewind_0 : decode bT_rewind 0 = .ok (.aload_n 0, 1) := by decide +kernel
theorem dT_rewind_1 : decode bT_rewind 1 = .ok (.iconst 0, 1) := by decide +kernel
theorem dT_rewind_2 : decode bT_rewind 2 = .ok (.putfield 19, 3) := by decide +kernel
theorem dT_rewind_5 : decode bT_rewind 5 = .ok (.return_, 1) := by decide +kernel
theorem dT_ended_0 : decode bT_ended 0 = .ok (.aload_n 0, 1) := by decide +kernel
theorem dT_ended_1 : decode bT_ended 1 = .ok (.getfield 19, 3) := by decide +kernel
theorem dT_ended_4 : decode bT_ended 4 = .ok (.aload_n 0, 1) := by decide +kernel
theorem dT_ended_5 : decode bT_ended 5 = .ok (.getfield 15, 3) := by decide +kernel
theorem dT_ended_8 : decode bT_ended 8 = .ok (.if_icmp .lt 7, 3) := by decide +kernel
theorem dT_ended_11 : decode bT_ended 11 = .ok (.iconst 1, 1) := by decide +kernel
theorem dT_ended_12 : decode bT_ended 12 = .ok (.goto 4, 3) := by decide +kernel
theorem dT_ended_15 : decode bT_ended 15 = .ok (.iconst 0, 1) := by decide +kernel
theorem dT_ended_16 : decode bT_ended 16 = .ok (.ireturn, 1) := by decide +kernel
theorem dT_fault_0 : decode bT_fault 0 = .ok (.iconst (-1), 1) := by decide +kernel
theorem dT_fault_1 : decode bT_fault 1 = .ok (.aload_n 0, 1) := by decide +kernel
theorem dT_fault_2 : decode bT_fault 2 = .ok (.getfield 19, 3) := by decide +kernel
theorem dT_fault_5 : decode bT_fault 5 = .ok (.isub, 1) := by decide +kernel
theorem dT_fault_6 : decode bT_fault 6 = .ok (.ireturn, 1) := by decide +kernel
theorem dT_look_0 : decode bT_look 0 = .ok (.iload_n 1, 1) := by decide +kernel
theorem dT_look_1 : decode bT_look 1 = .ok (.ifCond .lt 20, 3) := by decide +kernel
theorem dT_look_4 : decode bT_look 4 = .ok (.iload_n 1, 1) := by decide +kernel
theorem dT_look_5 : decode bT_look 5 = .ok (.aload_n 0, 1) := by decide +kernel
theorem dT_look_6 : decode bT_look 6 = .ok (.getfield 15, 3) := by decide +kernel
theorem dT_look_9 : decode bT_look 9 = .ok (.if_icmp .ge 12, 3) := by decide +kernel
theorem dT_look_12 : decode bT_look 12 = .ok (.aload_n 0, 1) := by decide +kernel
theorem dT_look_13 : decode bT_look 13 = .ok (.getfield 11, 3) := by decide +kernel
theorem dT_look_16 : decode bT_look 16 = .ok (.iload_n 1, 1) := by decide +kernel
theorem dT_look_17 : decode bT_look 17 = .ok (.caload, 1) := by decide +kernel
theorem dT_look_18 : decode bT_look 18 = .ok (.goto 4, 3) := by decide +kernel
theorem dT_look_21 : decode bT_look 21 = .ok (.iconst (-1), 1) := by decide +kernel
theorem dT_look_22 : decode bT_look 22 = .ok (.ireturn, 1) := by decide +kernel
theorem dT_take_0 : decode bT_take 0 = .ok (.aload_n 0, 1) := by decide +kernel
theorem dT_take_1 : decode bT_take 1 = .ok (.aload_n 0, 1) := by decide +kernel
theorem dT_take_2 : decode bT_take 2 = .ok (.getfield 19, 3) := by decide +kernel
theorem dT_take_5 : decode bT_take 5 = .ok (.invokevirtual 22, 3) := by decide +kernel
theorem dT_take_8 : decode bT_take 8 = .ok (.iload_n 1, 1) := by decide +kernel
theorem dT_take_9 : decode bT_take 9 = .ok (.if_icmp .eq 5, 3) := by decide +kernel
theorem dT_take_12 : decode bT_take 12 = .ok (.iconst 0, 1) := by decide +kernel
theorem dT_take_13 : decode bT_take 13 = .ok (.ireturn, 1) := by decide +kernel
theorem dT_take_14 : decode bT_take 14 = .ok (.aload_n 0, 1) := by decide +kernel
theorem dT_take_15 : decode bT_take 15 = .ok (.dup, 1) := by decide +kernel
theorem dT_take_16 : decode bT_take 16 = .ok (.getfield 19, 3) := by decide +kernel
theorem dT_take_19 : decode bT_take 19 = .ok (.iconst 1, 1) := by decide +kernel
theorem dT_take_20 : decode bT_take 20 = .ok (.iadd, 1) := by decide +kernel
theorem dT_take_21 : decode bT_take 21 = .ok (.putfield 19, 3) := by decide +kernel
theorem dT_take_24 : decode bT_take 24 = .ok (.iconst 1, 1) := by decide +kernel
theorem dT_take_25 : decode bT_take 25 = .ok (.ireturn, 1) := by decide +kernel
theorem dT_takeKind_0 : decode bT_takeKind 0 = .ok (.aload_n 0, 1) := by decide +kernel
theorem dT_takeKind_1 : decode bT_takeKind 1 = .ok (.aload_n 0, 1) := by decide +kernel
theorem dT_takeKind_2 : decode bT_takeKind 2 = .ok (.getfield 19, 3) := by decide +kernel
theorem dT_takeKind_5 : decode bT_takeKind 5 = .ok (.invokevirtual 22, 3) := by decide +kernel
theorem dT_takeKind_8 : decode bT_takeKind 8 = .ok (.invokestatic 26, 3) := by decide +kernel
theorem dT_takeKind_11 : decode bT_takeKind 11 = .ok (.istore_n 1, 1) := by decide +kernel
theorem dT_takeKind_12 : decode bT_takeKind 12 = .ok (.iload_n 1, 1) := by decide +kernel
theorem dT_takeKind_13 : decode bT_takeKind 13 = .ok (.iconst (-1), 1) := by decide +kernel
theorem dT_takeKind_14 : decode bT_takeKind 14 = .ok (.if_icmp .eq 13, 3) := by decide +kernel
theorem dT_takeKind_17 : decode bT_takeKind 17 = .ok (.aload_n 0, 1) := by decide +kernel
theorem dT_takeKind_18 : decode bT_takeKind 18 = .ok (.dup, 1) := by decide +kernel
theorem dT_takeKind_19 : decode bT_takeKind 19 = .ok (.getfield 19, 3) := by decide +kernel
theorem dT_takeKind_22 : decode bT_takeKind 22 = .ok (.iconst 1, 1) := by decide +kernel
theorem dT_takeKind_23 : decode bT_takeKind 23 = .ok (.iadd, 1) := by decide +kernel
theorem dT_takeKind_24 : decode bT_takeKind 24 = .ok (.putfield 19, 3) := by decide +kernel
theorem dT_takeKind_27 : decode bT_takeKind 27 = .ok (.iload_n 1, 1) := by decide +kernel
theorem dT_takeKind_28 : decode bT_takeKind 28 = .ok (.ireturn, 1) := by decide +kernel
theorem dT_kindOf_0 : decode bT_kindOf 0 = .ok (.iload_n 0, 1) := by decide +kernel
theorem dT_kindOf_1 : decode bT_kindOf 1 = .ok (.lookupswitch 51 #[(98, 47), (100, 49), (110, 43), (115, 45)], 43) := by decide +kernel
theorem dT_kindOf_44 : decode bT_kindOf 44 = .ok (.iconst 0, 1) := by decide +kernel
theorem dT_kindOf_45 : decode bT_kindOf 45 = .ok (.ireturn, 1) := by decide +kernel
theorem dT_kindOf_46 : decode bT_kindOf 46 = .ok (.iconst 1, 1) := by decide +kernel
theorem dT_kindOf_47 : decode bT_kindOf 47 = .ok (.ireturn, 1) := by decide +kernel
theorem dT_kindOf_48 : decode bT_kindOf 48 = .ok (.iconst 2, 1) := by decide +kernel
theorem dT_kindOf_49 : decode bT_kindOf 49 = .ok (.ireturn, 1) := by decide +kernel
theorem dT_kindOf_50 : decode bT_kindOf 50 = .ok (.iconst 3, 1) := by decide +kernel
theorem dT_kindOf_51 : decode bT_kindOf 51 = .ok (.ireturn, 1) := by decide +kernel
theorem dT_kindOf_52 : decode bT_kindOf 52 = .ok (.iconst (-1), 1) := by decide +kernel
theorem dT_kindOf_53 : decode bT_kindOf 53 = .ok (.ireturn, 1) := by decide +kernel
theorem dT_takeWord_0 : decode bT_takeWord 0 = .ok (.iconst 0, 1) := by decide +kernel
theorem dT_takeWord_1 : decode bT_takeWord 1 = .ok (.istore_n 1, 1) := by decide +kernel
theorem dT_takeWord_2 : decode bT_takeWord 2 = .ok (.iconst 0, 1) := by decide +kernel
theorem dT_takeWord_3 : decode bT_takeWord 3 = .ok (.istore_n 2, 1) := by decide +kernel
theorem dT_takeWord_4 : decode bT_takeWord 4 = .ok (.iload_n 2, 1) := by decide +kernel
theorem dT_takeWord_5 : decode bT_takeWord 5 = .ok (.bipush 7, 2) := by decide +kernel
theorem dT_takeWord_7 : decode bT_takeWord 7 = .ok (.if_icmp .ge 50, 3) := by decide +kernel
theorem dT_takeWord_10 : decode bT_takeWord 10 = .ok (.iload_n 2, 1) := by decide +kernel
theorem dT_takeWord_11 : decode bT_takeWord 11 = .ok (.invokestatic 29, 3) := by decide +kernel
theorem dT_takeWord_14 : decode bT_takeWord 14 = .ok (.astore_n 3, 1) := by decide +kernel
theorem dT_takeWord_15 : decode bT_takeWord 15 = .ok (.aload_n 0, 1) := by decide +kernel
theorem dT_takeWord_16 : decode bT_takeWord 16 = .ok (.aload_n 3, 1) := by decide +kernel
theorem dT_takeWord_17 : decode bT_takeWord 17 = .ok (.invokevirtual 33, 3) := by decide +kernel
theorem dT_takeWord_20 : decode bT_takeWord 20 = .ok (.istore 4, 2) := by decide +kernel
theorem dT_takeWord_22 : decode bT_takeWord 22 = .ok (.iload 4, 2) := by decide +kernel
theorem dT_takeWord_24 : decode bT_takeWord 24 = .ok (.aload_n 3, 1) := by decide +kernel
theorem dT_takeWord_25 : decode bT_takeWord 25 = .ok (.invokevirtual 37, 3) := by decide +kernel
theorem dT_takeWord_28 : decode bT_takeWord 28 = .ok (.if_icmp .ne 16, 3) := by decide +kernel
theorem dT_takeWord_31 : decode bT_takeWord 31 = .ok (.aload_n 0, 1) := by decide +kernel
theorem dT_takeWord_32 : decode bT_takeWord 32 = .ok (.dup, 1) := by decide +kernel
theorem dT_takeWord_33 : decode bT_takeWord 33 = .ok (.getfield 19, 3) := by decide +kernel
theorem dT_takeWord_36 : decode bT_takeWord 36 = .ok (.iload 4, 2) := by decide +kernel
theorem dT_takeWord_38 : decode bT_takeWord 38 = .ok (.iadd, 1) := by decide +kernel
theorem dT_takeWord_39 : decode bT_takeWord 39 = .ok (.putfield 19, 3) := by decide +kernel
theorem dT_takeWord_42 : decode bT_takeWord 42 = .ok (.iload_n 2, 1) := by decide +kernel
theorem dT_takeWord_43 : decode bT_takeWord 43 = .ok (.ireturn, 1) := by decide +kernel
theorem dT_takeWord_44 : decode bT_takeWord 44 = .ok (.iload_n 1, 1) := by decide +kernel
theorem dT_takeWord_45 : decode bT_takeWord 45 = .ok (.iload 4, 2) := by decide +kernel
theorem dT_takeWord_47 : decode bT_takeWord 47 = .ok (.invokestatic 42, 3) := by decide +kernel
theorem dT_takeWord_50 : decode bT_takeWord 50 = .ok (.istore_n 1, 1) := by decide +kernel
theorem dT_takeWord_51 : decode bT_takeWord 51 = .ok (.iinc 2 1, 3) := by decide +kernel
theorem dT_takeWord_54 : decode bT_takeWord 54 = .ok (.goto (-50), 3) := by decide +kernel
theorem dT_takeWord_57 : decode bT_takeWord 57 = .ok (.aload_n 0, 1) := by decide +kernel
theorem dT_takeWord_58 : decode bT_takeWord 58 = .ok (.dup, 1) := by decide +kernel
theorem dT_takeWord_59 : decode bT_takeWord 59 = .ok (.getfield 19, 3) := by decide +kernel
theorem dT_takeWord_62 : decode bT_takeWord 62 = .ok (.iload_n 1, 1) := by decide +kernel
theorem dT_takeWord_63 : decode bT_takeWord 63 = .ok (.iadd, 1) := by decide +kernel
theorem dT_takeWord_64 : decode bT_takeWord 64 = .ok (.putfield 19, 3) := by decide +kernel
theorem dT_takeWord_67 : decode bT_takeWord 67 = .ok (.iconst (-1), 1) := by decide +kernel
theorem dT_takeWord_68 : decode bT_takeWord 68 = .ok (.ireturn, 1) := by decide +kernel
theorem dT_unitsAlike_0 : decode bT_unitsAlike 0 = .ok (.iconst 0, 1) := by decide +kernel
theorem dT_unitsAlike_1 : decode bT_unitsAlike 1 = .ok (.istore_n 2, 1) := by decide +kernel
theorem dT_unitsAlike_2 : decode bT_unitsAlike 2 = .ok (.iload_n 2, 1) := by decide +kernel
theorem dT_unitsAlike_3 : decode bT_unitsAlike 3 = .ok (.aload_n 1, 1) := by decide +kernel
theorem dT_unitsAlike_4 : decode bT_unitsAlike 4 = .ok (.invokevirtual 37, 3) := by decide +kernel
theorem dT_unitsAlike_7 : decode bT_unitsAlike 7 = .ok (.if_icmp .ge 27, 3) := by decide +kernel
theorem dT_unitsAlike_10 : decode bT_unitsAlike 10 = .ok (.aload_n 0, 1) := by decide +kernel
theorem dT_unitsAlike_11 : decode bT_unitsAlike 11 = .ok (.aload_n 0, 1) := by decide +kernel
theorem dT_unitsAlike_12 : decode bT_unitsAlike 12 = .ok (.getfield 19, 3) := by decide +kernel
theorem dT_unitsAlike_15 : decode bT_unitsAlike 15 = .ok (.iload_n 2, 1) := by decide +kernel
theorem dT_unitsAlike_16 : decode bT_unitsAlike 16 = .ok (.iadd, 1) := by decide +kernel
theorem dT_unitsAlike_17 : decode bT_unitsAlike 17 = .ok (.invokevirtual 22, 3) := by decide +kernel
theorem dT_unitsAlike_20 : decode bT_unitsAlike 20 = .ok (.aload_n 1, 1) := by decide +kernel
theorem dT_unitsAlike_21 : decode bT_unitsAlike 21 = .ok (.iload_n 2, 1) := by decide +kernel
theorem dT_unitsAlike_22 : decode bT_unitsAlike 22 = .ok (.invokevirtual 48, 3) := by decide +kernel
theorem dT_unitsAlike_25 : decode bT_unitsAlike 25 = .ok (.if_icmp .ne 9, 3) := by decide +kernel
theorem dT_unitsAlike_28 : decode bT_unitsAlike 28 = .ok (.iinc 2 1, 3) := by decide +kernel
theorem dT_unitsAlike_31 : decode bT_unitsAlike 31 = .ok (.goto (-29), 3) := by decide +kernel
theorem dT_unitsAlike_34 : decode bT_unitsAlike 34 = .ok (.iload_n 2, 1) := by decide +kernel
theorem dT_unitsAlike_35 : decode bT_unitsAlike 35 = .ok (.ireturn, 1) := by decide +kernel
theorem dT_takeNumber_0 : decode bT_takeNumber 0 = .ok (.iconst 0, 1) := by decide +kernel
theorem dT_takeNumber_1 : decode bT_takeNumber 1 = .ok (.istore_n 1, 1) := by decide +kernel
theorem dT_takeNumber_2 : decode bT_takeNumber 2 = .ok (.iconst 0, 1) := by decide +kernel
theorem dT_takeNumber_3 : decode bT_takeNumber 3 = .ok (.istore_n 2, 1) := by decide +kernel
theorem dT_takeNumber_4 : decode bT_takeNumber 4 = .ok (.iload_n 1, 1) := by decide +kernel
theorem dT_takeNumber_5 : decode bT_takeNumber 5 = .ok (.iconst 4, 1) := by decide +kernel
theorem dT_takeNumber_6 : decode bT_takeNumber 6 = .ok (.if_icmp .ge 44, 3) := by decide +kernel
theorem dT_takeNumber_9 : decode bT_takeNumber 9 = .ok (.aload_n 0, 1) := by decide +kernel
theorem dT_takeNumber_10 : decode bT_takeNumber 10 = .ok (.aload_n 0, 1) := by decide +kernel
theorem dT_takeNumber_11 : decode bT_takeNumber 11 = .ok (.getfield 19, 3) := by decide +kernel
theorem dT_takeNumber_14 : decode bT_takeNumber 14 = .ok (.iload_n 1, 1) := by decide +kernel
theorem dT_takeNumber_15 : decode bT_takeNumber 15 = .ok (.iadd, 1) := by decide +kernel
theorem dT_takeNumber_16 : decode bT_takeNumber 16 = .ok (.invokevirtual 22, 3) := by decide +kernel
theorem dT_takeNumber_19 : decode bT_takeNumber 19 = .ok (.invokestatic 52, 3) := by decide +kernel
theorem dT_takeNumber_22 : decode bT_takeNumber 22 = .ok (.ifCond .eq 28, 3) := by decide +kernel
theorem dT_takeNumber_25 : decode bT_takeNumber 25 = .ok (.iload_n 2, 1) := by decide +kernel
theorem dT_takeNumber_26 : decode bT_takeNumber 26 = .ok (.bipush 10, 2) := by decide +kernel
theorem dT_takeNumber_28 : decode bT_takeNumber 28 = .ok (.imul, 1) := by decide +kernel
theorem dT_takeNumber_29 : decode bT_takeNumber 29 = .ok (.aload_n 0, 1) := by decide +kernel
theorem dT_takeNumber_30 : decode bT_takeNumber 30 = .ok (.aload_n 0, 1) := by decide +kernel
theorem dT_takeNumber_31 : decode bT_takeNumber 31 = .ok (.getfield 19, 3) := by decide +kernel
theorem dT_takeNumber_34 : decode bT_takeNumber 34 = .ok (.iload_n 1, 1) := by decide +kernel
theorem dT_takeNumber_35 : decode bT_takeNumber 35 = .ok (.iadd, 1) := by decide +kernel
theorem dT_takeNumber_36 : decode bT_takeNumber 36 = .ok (.invokevirtual 22, 3) := by decide +kernel
theorem dT_takeNumber_39 : decode bT_takeNumber 39 = .ok (.bipush 48, 2) := by decide +kernel
theorem dT_takeNumber_41 : decode bT_takeNumber 41 = .ok (.isub, 1) := by decide +kernel
theorem dT_takeNumber_42 : decode bT_takeNumber 42 = .ok (.iadd, 1) := by decide +kernel
theorem dT_takeNumber_43 : decode bT_takeNumber 43 = .ok (.istore_n 2, 1) := by decide +kernel
theorem dT_takeNumber_44 : decode bT_takeNumber 44 = .ok (.iinc 1 1, 3) := by decide +kernel
theorem dT_takeNumber_47 : decode bT_takeNumber 47 = .ok (.goto (-43), 3) := by decide +kernel
theorem dT_takeNumber_50 : decode bT_takeNumber 50 = .ok (.iload_n 2, 1) := by decide +kernel
theorem dT_takeNumber_51 : decode bT_takeNumber 51 = .ok (.ifCond .ne 5, 3) := by decide +kernel
theorem dT_takeNumber_54 : decode bT_takeNumber 54 = .ok (.iconst (-1), 1) := by decide +kernel
theorem dT_takeNumber_55 : decode bT_takeNumber 55 = .ok (.ireturn, 1) := by decide +kernel
theorem dT_takeNumber_56 : decode bT_takeNumber 56 = .ok (.aload_n 0, 1) := by decide +kernel
theorem dT_takeNumber_57 : decode bT_takeNumber 57 = .ok (.dup, 1) := by decide +kernel
theorem dT_takeNumber_58 : decode bT_takeNumber 58 = .ok (.getfield 19, 3) := by decide +kernel
theorem dT_takeNumber_61 : decode bT_takeNumber 61 = .ok (.iload_n 1, 1) := by decide +kernel
theorem dT_takeNumber_62 : decode bT_takeNumber 62 = .ok (.iadd, 1) := by decide +kernel
theorem dT_takeNumber_63 : decode bT_takeNumber 63 = .ok (.putfield 19, 3) := by decide +kernel
theorem dT_takeNumber_66 : decode bT_takeNumber 66 = .ok (.iload_n 2, 1) := by decide +kernel
theorem dT_takeNumber_67 : decode bT_takeNumber 67 = .ok (.ireturn, 1) := by decide +kernel
theorem dT_isDigit_0 : decode bT_isDigit 0 = .ok (.iload_n 0, 1) := by decide +kernel
theorem dT_isDigit_1 : decode bT_isDigit 1 = .ok (.bipush 48, 2) := by decide +kernel
theorem dT_isDigit_3 : decode bT_isDigit 3 = .ok (.if_icmp .lt 13, 3) := by decide +kernel
theorem dT_isDigit_6 : decode bT_isDigit 6 = .ok (.iload_n 0, 1) := by decide +kernel
theorem dT_isDigit_7 : decode bT_isDigit 7 = .ok (.bipush 57, 2) := by decide +kernel
theorem dT_isDigit_9 : decode bT_isDigit 9 = .ok (.if_icmp .gt 7, 3) := by decide +kernel
theorem dT_isDigit_12 : decode bT_isDigit 12 = .ok (.iconst 1, 1) := by decide +kernel
theorem dT_isDigit_13 : decode bT_isDigit 13 = .ok (.goto 4, 3) := by decide +kernel
theorem dT_isDigit_16 : decode bT_isDigit 16 = .ok (.iconst 0, 1) := by decide +kernel
theorem dT_isDigit_17 : decode bT_isDigit 17 = .ok (.ireturn, 1) := by decide +kernel
theorem dM_init_0 : decode bM_init 0 = .ok (.aload_n 0, 1) := by decide +kernel
theorem dM_init_1 : decode bM_init 1 = .ok (.invokespecial 1, 3) := by decide +kernel
theorem dM_init_4 : decode bM_init 4 = .ok (.aload_n 0, 1) := by decide +kernel
theorem dM_init_5 : decode bM_init 5 = .ok (.iload_n 1, 1) := by decide +kernel
theorem dM_init_6 : decode bM_init 6 = .ok (.i2l, 1) := by decide +kernel
theorem dM_init_7 : decode bM_init 7 = .ok (.putfield 7, 3) := by decide +kernel
theorem dM_init_10 : decode bM_init 10 = .ok (.aload_n 0, 1) := by decide +kernel
theorem dM_init_11 : decode bM_init 11 = .ok (.iload_n 2, 1) := by decide +kernel
theorem dM_init_12 : decode bM_init 12 = .ok (.i2l, 1) := by decide +kernel
theorem dM_init_13 : decode bM_init 13 = .ok (.putfield 13, 3) := by decide +kernel
theorem dM_init_16 : decode bM_init 16 = .ok (.aload_n 0, 1) := by decide +kernel
theorem dM_init_17 : decode bM_init 17 = .ok (.iload_n 3, 1) := by decide +kernel
theorem dM_init_18 : decode bM_init 18 = .ok (.iload_n 1, 1) := by decide +kernel
theorem dM_init_19 : decode bM_init 19 = .ok (.isub, 1) := by decide +kernel
theorem dM_init_20 : decode bM_init 20 = .ok (.i2l, 1) := by decide +kernel
theorem dM_init_21 : decode bM_init 21 = .ok (.putfield 16, 3) := by decide +kernel
theorem dM_init_24 : decode bM_init 24 = .ok (.aload_n 0, 1) := by decide +kernel
theorem dM_init_25 : decode bM_init 25 = .ok (.iload 4, 2) := by decide +kernel
theorem dM_init_27 : decode bM_init 27 = .ok (.iload_n 2, 1) := by decide +kernel
theorem dM_init_28 : decode bM_init 28 = .ok (.isub, 1) := by decide +kernel
theorem dM_init_29 : decode bM_init 29 = .ok (.i2l, 1) := by decide +kernel
theorem dM_init_30 : decode bM_init 30 = .ok (.putfield 19, 3) := by decide +kernel
theorem dM_init_33 : decode bM_init 33 = .ok (.aload_n 0, 1) := by decide +kernel
theorem dM_init_34 : decode bM_init 34 = .ok (.iload 5, 2) := by decide +kernel
theorem dM_init_36 : decode bM_init 36 = .ok (.i2l, 1) := by decide +kernel
theorem dM_init_37 : decode bM_init 37 = .ok (.putfield 22, 3) := by decide +kernel
theorem dM_init_40 : decode bM_init 40 = .ok (.return_, 1) := by decide +kernel
theorem dM_grips_0 : decode bM_grips 0 = .ok (.iload_n 1, 1) := by decide +kernel
theorem dM_grips_1 : decode bM_grips 1 = .ok (.i2l, 1) := by decide +kernel
theorem dM_grips_2 : decode bM_grips 2 = .ok (.aload_n 0, 1) := by decide +kernel
theorem dM_grips_3 : decode bM_grips 3 = .ok (.getfield 7, 3) := by decide +kernel
theorem dM_grips_6 : decode bM_grips 6 = .ok (.lsub, 1) := by decide +kernel
theorem dM_grips_7 : decode bM_grips 7 = .ok (.lstore_n 3, 1) := by decide +kernel
theorem dM_grips_8 : decode bM_grips 8 = .ok (.iload_n 2, 1) := by decide +kernel
theorem dM_grips_9 : decode bM_grips 9 = .ok (.i2l, 1) := by decide +kernel
theorem dM_grips_10 : decode bM_grips 10 = .ok (.aload_n 0, 1) := by decide +kernel
theorem dM_grips_11 : decode bM_grips 11 = .ok (.getfield 13, 3) := by decide +kernel
theorem dM_grips_14 : decode bM_grips 14 = .ok (.lsub, 1) := by decide +kernel
theorem dM_grips_15 : decode bM_grips 15 = .ok (.lstore 5, 2) := by decide +kernel
theorem dM_grips_17 : decode bM_grips 17 = .ok (.aload_n 0, 1) := by decide +kernel
theorem dM_grips_18 : decode bM_grips 18 = .ok (.getfield 16, 3) := by decide +kernel
theorem dM_grips_21 : decode bM_grips 21 = .ok (.aload_n 0, 1) := by decide +kernel
theorem dM_grips_22 : decode bM_grips 22 = .ok (.getfield 16, 3) := by decide +kernel
theorem dM_grips_25 : decode bM_grips 25 = .ok (.lmul, 1) := by decide +kernel
theorem dM_grips_26 : decode bM_grips 26 = .ok (.aload_n 0, 1) := by decide +kernel
theorem dM_grips_27 : decode bM_grips 27 = .ok (.getfield 19, 3) := by decide +kernel
theorem dM_grips_30 : decode bM_grips 30 = .ok (.aload_n 0, 1) := by decide +kernel
theorem dM_grips_31 : decode bM_grips 31 = .ok (.getfield 19, 3) := by decide +kernel
theorem dM_grips_34 : decode bM_grips 34 = .ok (.lmul, 1) := by decide +kernel
theorem dM_grips_35 : decode bM_grips 35 = .ok (.ladd, 1) := by decide +kernel
theorem dM_grips_36 : decode bM_grips 36 = .ok (.lstore 7, 2) := by decide +kernel
theorem dM_grips_38 : decode bM_grips 38 = .ok (.aload_n 0, 1) := by decide +kernel
theorem dM_grips_39 : decode bM_grips 39 = .ok (.getfield 16, 3) := by decide +kernel
theorem dM_grips_42 : decode bM_grips 42 = .ok (.lload_n 3, 1) := by decide +kernel
theorem dM_grips_43 : decode bM_grips 43 = .ok (.lmul, 1) := by decide +kernel
theorem dM_grips_44 : decode bM_grips 44 = .ok (.aload_n 0, 1) := by decide +kernel
theorem dM_grips_45 : decode bM_grips 45 = .ok (.getfield 19, 3) := by decide +kernel
theorem dM_grips_48 : decode bM_grips 48 = .ok (.lload 5, 2) := by decide +kernel
theorem dM_grips_50 : decode bM_grips 50 = .ok (.lmul, 1) := by decide +kernel
theorem dM_grips_51 : decode bM_grips 51 = .ok (.ladd, 1) := by decide +kernel
theorem dM_grips_52 : decode bM_grips 52 = .ok (.lstore 9, 2) := by decide +kernel
theorem dM_grips_54 : decode bM_grips 54 = .ok (.lload 9, 2) := by decide +kernel
theorem dM_grips_56 : decode bM_grips 56 = .ok (.lconst 0, 1) := by decide +kernel
theorem dM_grips_57 : decode bM_grips 57 = .ok (.lcmp, 1) := by decide +kernel
theorem dM_grips_58 : decode bM_grips 58 = .ok (.ifCond .lt 11, 3) := by decide +kernel
theorem dM_grips_61 : decode bM_grips 61 = .ok (.lload 9, 2) := by decide +kernel
theorem dM_grips_63 : decode bM_grips 63 = .ok (.lload 7, 2) := by decide +kernel
theorem dM_grips_65 : decode bM_grips 65 = .ok (.lcmp, 1) := by decide +kernel
theorem dM_grips_66 : decode bM_grips 66 = .ok (.ifCond .le 5, 3) := by decide +kernel
theorem dM_grips_69 : decode bM_grips 69 = .ok (.iconst 0, 1) := by decide +kernel
theorem dM_grips_70 : decode bM_grips 70 = .ok (.ireturn, 1) := by decide +kernel
theorem dM_grips_71 : decode bM_grips 71 = .ok (.aload_n 0, 1) := by decide +kernel
theorem dM_grips_72 : decode bM_grips 72 = .ok (.getfield 16, 3) := by decide +kernel
theorem dM_grips_75 : decode bM_grips 75 = .ok (.lload 5, 2) := by decide +kernel
theorem dM_grips_77 : decode bM_grips 77 = .ok (.lmul, 1) := by decide +kernel
theorem dM_grips_78 : decode bM_grips 78 = .ok (.aload_n 0, 1) := by decide +kernel
theorem dM_grips_79 : decode bM_grips 79 = .ok (.getfield 19, 3) := by decide +kernel
theorem dM_grips_82 : decode bM_grips 82 = .ok (.lload_n 3, 1) := by decide +kernel
theorem dM_grips_83 : decode bM_grips 83 = .ok (.lmul, 1) := by decide +kernel
theorem dM_grips_84 : decode bM_grips 84 = .ok (.lsub, 1) := by decide +kernel
theorem dM_grips_85 : decode bM_grips 85 = .ok (.lstore 11, 2) := by decide +kernel
theorem dM_grips_87 : decode bM_grips 87 = .ok (.ldc2_w 25, 3) := by decide +kernel
theorem dM_grips_90 : decode bM_grips 90 = .ok (.lload 11, 2) := by decide +kernel
theorem dM_grips_92 : decode bM_grips 92 = .ok (.lmul, 1) := by decide +kernel
theorem dM_grips_93 : decode bM_grips 93 = .ok (.lload 11, 2) := by decide +kernel
theorem dM_grips_95 : decode bM_grips 95 = .ok (.lmul, 1) := by decide +kernel
theorem dM_grips_96 : decode bM_grips 96 = .ok (.aload_n 0, 1) := by decide +kernel
theorem dM_grips_97 : decode bM_grips 97 = .ok (.getfield 22, 3) := by decide +kernel
theorem dM_grips_100 : decode bM_grips 100 = .ok (.aload_n 0, 1) := by decide +kernel
theorem dM_grips_101 : decode bM_grips 101 = .ok (.getfield 22, 3) := by decide +kernel
theorem dM_grips_104 : decode bM_grips 104 = .ok (.lmul, 1) := by decide +kernel
theorem dM_grips_105 : decode bM_grips 105 = .ok (.lload 7, 2) := by decide +kernel
theorem dM_grips_107 : decode bM_grips 107 = .ok (.lmul, 1) := by decide +kernel
theorem dM_grips_108 : decode bM_grips 108 = .ok (.lcmp, 1) := by decide +kernel
theorem dM_grips_109 : decode bM_grips 109 = .ok (.ifCond .gt 7, 3) := by decide +kernel
theorem dM_grips_112 : decode bM_grips 112 = .ok (.iconst 1, 1) := by decide +kernel
theorem dM_grips_113 : decode bM_grips 113 = .ok (.goto 4, 3) := by decide +kernel
theorem dM_grips_116 : decode bM_grips 116 = .ok (.iconst 0, 1) := by decide +kernel
theorem dM_grips_117 : decode bM_grips 117 = .ok (.ireturn, 1) := by decide +kernel
theorem dN_init_0 : decode bN_init 0 = .ok (.aload_n 0, 1) := by decide +kernel
theorem dN_init_1 : decode bN_init 1 = .ok (.invokespecial 1, 3) := by decide +kernel
theorem dN_init_4 : decode bN_init 4 = .ok (.aload_n 0, 1) := by decide +kernel
theorem dN_init_5 : decode bN_init 5 = .ok (.new 7, 3) := by decide +kernel
theorem dN_init_8 : decode bN_init 8 = .ok (.dup, 1) := by decide +kernel
theorem dN_init_9 : decode bN_init 9 = .ok (.invokespecial 9, 3) := by decide +kernel
theorem dN_init_12 : decode bN_init 12 = .ok (.putfield 10, 3) := by decide +kernel
theorem dN_init_15 : decode bN_init 15 = .ok (.aload_n 0, 1) := by decide +kernel
theorem dN_init_16 : decode bN_init 16 = .ok (.bipush 28, 2) := by decide +kernel
theorem dN_init_18 : decode bN_init 18 = .ok (.newarray .int, 2) := by decide +kernel
theorem dN_init_20 : decode bN_init 20 = .ok (.putfield 16, 3) := by decide +kernel
theorem dN_init_23 : decode bN_init 23 = .ok (.iconst 0, 1) := by decide +kernel
theorem dN_init_24 : decode bN_init 24 = .ok (.istore_n 1, 1) := by decide +kernel
theorem dN_init_25 : decode bN_init 25 = .ok (.iload_n 1, 1) := by decide +kernel
theorem dN_init_26 : decode bN_init 26 = .ok (.aload_n 0, 1) := by decide +kernel
theorem dN_init_27 : decode bN_init 27 = .ok (.getfield 16, 3) := by decide +kernel
theorem dN_init_30 : decode bN_init 30 = .ok (.arraylength, 1) := by decide +kernel
theorem dN_init_31 : decode bN_init 31 = .ok (.if_icmp .ge 16, 3) := by decide +kernel
theorem dN_init_34 : decode bN_init 34 = .ok (.aload_n 0, 1) := by decide +kernel
theorem dN_init_35 : decode bN_init 35 = .ok (.getfield 16, 3) := by decide +kernel
theorem dN_init_38 : decode bN_init 38 = .ok (.iload_n 1, 1) := by decide +kernel
theorem dN_init_39 : decode bN_init 39 = .ok (.iconst 1, 1) := by decide +kernel
theorem dN_init_40 : decode bN_init 40 = .ok (.iastore, 1) := by decide +kernel
theorem dN_init_41 : decode bN_init 41 = .ok (.iinc 1 1, 3) := by decide +kernel
theorem dN_init_44 : decode bN_init 44 = .ok (.goto (-19), 3) := by decide +kernel
theorem dN_init_47 : decode bN_init 47 = .ok (.aload_n 0, 1) := by decide +kernel
theorem dN_init_48 : decode bN_init 48 = .ok (.bipush 100, 2) := by decide +kernel
theorem dN_init_50 : decode bN_init 50 = .ok (.putfield 20, 3) := by decide +kernel
theorem dN_init_53 : decode bN_init 53 = .ok (.aload_n 0, 1) := by decide +kernel
theorem dN_init_54 : decode bN_init 54 = .ok (.iconst 2, 1) := by decide +kernel
theorem dN_init_55 : decode bN_init 55 = .ok (.putfield 24, 3) := by decide +kernel
theorem dN_init_58 : decode bN_init 58 = .ok (.aload_n 0, 1) := by decide +kernel
theorem dN_init_59 : decode bN_init 59 = .ok (.bipush 100, 2) := by decide +kernel
theorem dN_init_61 : decode bN_init 61 = .ok (.newarray .int, 2) := by decide +kernel
theorem dN_init_63 : decode bN_init 63 = .ok (.putfield 27, 3) := by decide +kernel
theorem dN_init_66 : decode bN_init 66 = .ok (.aload_n 0, 1) := by decide +kernel
theorem dN_init_67 : decode bN_init 67 = .ok (.bipush 100, 2) := by decide +kernel
theorem dN_init_69 : decode bN_init 69 = .ok (.newarray .int, 2) := by decide +kernel
theorem dN_init_71 : decode bN_init 71 = .ok (.putfield 30, 3) := by decide +kernel
theorem dN_init_74 : decode bN_init 74 = .ok (.aload_n 0, 1) := by decide +kernel
theorem dN_init_75 : decode bN_init 75 = .ok (.iconst 0, 1) := by decide +kernel
theorem dN_init_76 : decode bN_init 76 = .ok (.putfield 33, 3) := by decide +kernel
theorem dN_init_79 : decode bN_init 79 = .ok (.aload_n 0, 1) := by decide +kernel
theorem dN_init_80 : decode bN_init 80 = .ok (.bipush 32, 2) := by decide +kernel
theorem dN_init_82 : decode bN_init 82 = .ok (.newarray .int, 2) := by decide +kernel
theorem dN_init_84 : decode bN_init 84 = .ok (.putfield 36, 3) := by decide +kernel
theorem dN_init_87 : decode bN_init 87 = .ok (.aload_n 0, 1) := by decide +kernel
theorem dN_init_88 : decode bN_init 88 = .ok (.bipush 32, 2) := by decide +kernel
theorem dN_init_90 : decode bN_init 90 = .ok (.newarray .int, 2) := by decide +kernel
theorem dN_init_92 : decode bN_init 92 = .ok (.putfield 39, 3) := by decide +kernel
theorem dN_init_95 : decode bN_init 95 = .ok (.aload_n 0, 1) := by decide +kernel
theorem dN_init_96 : decode bN_init 96 = .ok (.iconst 0, 1) := by decide +kernel
theorem dN_init_97 : decode bN_init 97 = .ok (.putfield 42, 3) := by decide +kernel
theorem dN_init_100 : decode bN_init 100 = .ok (.aload_n 0, 1) := by decide +kernel
theorem dN_init_101 : decode bN_init 101 = .ok (.new 45, 3) := by decide +kernel
theorem dN_init_104 : decode bN_init 104 = .ok (.dup, 1) := by decide +kernel
theorem dN_init_105 : decode bN_init 105 = .ok (.invokespecial 47, 3) := by decide +kernel
theorem dN_init_108 : decode bN_init 108 = .ok (.putfield 48, 3) := by decide +kernel
theorem dN_init_111 : decode bN_init 111 = .ok (.return_, 1) := by decide +kernel
theorem dN_unit_0 : decode bN_unit 0 = .ok (.aload_n 0, 1) := by decide +kernel
theorem dN_unit_1 : decode bN_unit 1 = .ok (.getfield 10, 3) := by decide +kernel
theorem dN_unit_4 : decode bN_unit 4 = .ok (.iload_n 1, 1) := by decide +kernel
theorem dN_unit_5 : decode bN_unit 5 = .ok (.invokevirtual 52, 3) := by decide +kernel
theorem dN_unit_8 : decode bN_unit 8 = .ok (.ireturn, 1) := by decide +kernel
theorem dN_read_0 : decode bN_read 0 = .ok (.aload_n 0, 1) := by decide +kernel
theorem dN_read_1 : decode bN_read 1 = .ok (.invokevirtual 56, 3) := by decide +kernel
theorem dN_read_4 : decode bN_read 4 = .ok (.istore_n 1, 1) := by decide +kernel
theorem dN_read_5 : decode bN_read 5 = .ok (.aload_n 0, 1) := by decide +kernel
theorem dN_read_6 : decode bN_read 6 = .ok (.getfield 10, 3) := by decide +kernel
theorem dN_read_9 : decode bN_read 9 = .ok (.invokevirtual 60, 3) := by decide +kernel
theorem dN_read_12 : decode bN_read 12 = .ok (.iload_n 1, 1) := by decide +kernel
theorem dN_read_13 : decode bN_read 13 = .ok (.ireturn, 1) := by decide +kernel
theorem dN_rule_0 : decode bN_rule 0 = .ok (.iload_n 1, 1) := by decide +kernel
theorem dN_rule_1 : decode bN_rule 1 = .ok (.iconst 4, 1) := by decide +kernel
theorem dN_rule_2 : decode bN_rule 2 = .ok (.invokestatic 63, 3) := by decide +kernel
theorem dN_rule_5 : decode bN_rule 5 = .ok (.iload_n 2, 1) := by decide +kernel
theorem dN_rule_6 : decode bN_rule 6 = .ok (.bipush 7, 2) := by decide +kernel
theorem dN_rule_8 : decode bN_rule 8 = .ok (.invokestatic 63, 3) := by decide +kernel
theorem dN_rule_11 : decode bN_rule 11 = .ok (.aload_n 0, 1) := by decide +kernel
theorem dN_rule_12 : decode bN_rule 12 = .ok (.iload_n 1, 1) := by decide +kernel
theorem dN_rule_13 : decode bN_rule 13 = .ok (.iload_n 2, 1) := by decide +kernel
theorem dN_rule_14 : decode bN_rule 14 = .ok (.invokevirtual 67, 3) := by decide +kernel
theorem dN_rule_17 : decode bN_rule 17 = .ok (.ireturn, 1) := by decide +kernel
theorem dN_set_0 : decode bN_set 0 = .ok (.iload_n 1, 1) := by decide +kernel
theorem dN_set_1 : decode bN_set 1 = .ok (.iconst 2, 1) := by decide +kernel
theorem dN_set_2 : decode bN_set 2 = .ok (.invokestatic 63, 3) := by decide +kernel
theorem dN_set_5 : decode bN_set 5 = .ok (.iload_n 1, 1) := by decide +kernel
theorem dN_set_6 : decode bN_set 6 = .ok (.ifCond .ne 20, 3) := by decide +kernel
theorem dN_set_9 : decode bN_set 9 = .ok (.iload_n 2, 1) := by decide +kernel
theorem dN_set_10 : decode bN_set 10 = .ok (.i2l, 1) := by decide +kernel
theorem dN_set_11 : decode bN_set 11 = .ok (.lconst 1, 1) := by decide +kernel
theorem dN_set_12 : decode bN_set 12 = .ok (.ldc2_w 71, 3) := by decide +kernel
theorem dN_set_15 : decode bN_set 15 = .ok (.invokestatic 73, 3) := by decide +kernel
theorem dN_set_18 : decode bN_set 18 = .ok (.aload_n 0, 1) := by decide +kernel
theorem dN_set_19 : decode bN_set 19 = .ok (.iload_n 2, 1) := by decide +kernel
theorem dN_set_20 : decode bN_set 20 = .ok (.putfield 20, 3) := by decide +kernel
theorem dN_set_23 : decode bN_set 23 = .ok (.goto 17, 3) := by decide +kernel
theorem dN_set_26 : decode bN_set 26 = .ok (.iload_n 2, 1) := by decide +kernel
theorem dN_set_27 : decode bN_set 27 = .ok (.i2l, 1) := by decide +kernel
theorem dN_set_28 : decode bN_set 28 = .ok (.lconst 0, 1) := by decide +kernel
theorem dN_set_29 : decode bN_set 29 = .ok (.ldc2_w 71, 3) := by decide +kernel
theorem dN_set_32 : decode bN_set 32 = .ok (.invokestatic 73, 3) := by decide +kernel
theorem dN_set_35 : decode bN_set 35 = .ok (.aload_n 0, 1) := by decide +kernel
theorem dN_set_36 : decode bN_set 36 = .ok (.iload_n 2, 1) := by decide +kernel
theorem dN_set_37 : decode bN_set 37 = .ok (.putfield 24, 3) := by decide +kernel
theorem dN_set_40 : decode bN_set 40 = .ok (.return_, 1) := by decide +kernel
theorem dN_holds_0 : decode bN_holds 0 = .ok (.iload_n 1, 1) := by decide +kernel
theorem dN_holds_1 : decode bN_holds 1 = .ok (.iconst 4, 1) := by decide +kernel
theorem dN_holds_2 : decode bN_holds 2 = .ok (.invokestatic 63, 3) := by decide +kernel
theorem dN_holds_5 : decode bN_holds 5 = .ok (.iload 5, 2) := by decide +kernel
theorem dN_holds_7 : decode bN_holds 7 = .ok (.iconst 2, 1) := by decide +kernel
theorem dN_holds_8 : decode bN_holds 8 = .ok (.invokestatic 63, 3) := by decide +kernel
theorem dN_holds_11 : decode bN_holds 11 = .ok (.iload_n 2, 1) := by decide +kernel
theorem dN_holds_12 : decode bN_holds 12 = .ok (.i2l, 1) := by decide +kernel
theorem dN_holds_13 : decode bN_holds 13 = .ok (.lconst 1, 1) := by decide +kernel
theorem dN_holds_14 : decode bN_holds 14 = .ok (.ldc2_w 77, 3) := by decide +kernel
theorem dN_holds_17 : decode bN_holds 17 = .ok (.invokestatic 73, 3) := by decide +kernel
theorem dN_holds_20 : decode bN_holds 20 = .ok (.iload_n 3, 1) := by decide +kernel
theorem dN_holds_21 : decode bN_holds 21 = .ok (.i2l, 1) := by decide +kernel
theorem dN_holds_22 : decode bN_holds 22 = .ok (.lconst 1, 1) := by decide +kernel
theorem dN_holds_23 : decode bN_holds 23 = .ok (.ldc2_w 77, 3) := by decide +kernel
theorem dN_holds_26 : decode bN_holds 26 = .ok (.invokestatic 73, 3) := by decide +kernel
theorem dN_holds_29 : decode bN_holds 29 = .ok (.iload 4, 2) := by decide +kernel
theorem dN_holds_31 : decode bN_holds 31 = .ok (.i2l, 1) := by decide +kernel
theorem dN_holds_32 : decode bN_holds 32 = .ok (.lconst 0, 1) := by decide +kernel
theorem dN_holds_33 : decode bN_holds 33 = .ok (.ldc2_w 79, 3) := by decide +kernel
theorem dN_holds_36 : decode bN_holds 36 = .ok (.invokestatic 73, 3) := by decide +kernel
theorem dN_holds_39 : decode bN_holds 39 = .ok (.aload_n 0, 1) := by decide +kernel
theorem dN_holds_40 : decode bN_holds 40 = .ok (.iload_n 1, 1) := by decide +kernel
theorem dN_holds_41 : decode bN_holds 41 = .ok (.iload_n 2, 1) := by decide +kernel
theorem dN_holds_42 : decode bN_holds 42 = .ok (.iload_n 3, 1) := by decide +kernel
theorem dN_holds_43 : decode bN_holds 43 = .ok (.invokevirtual 81, 3) := by decide +kernel
theorem dN_holds_46 : decode bN_holds 46 = .ok (.istore 6, 2) := by decide +kernel
theorem dN_holds_48 : decode bN_holds 48 = .ok (.iload 5, 2) := by decide +kernel
theorem dN_holds_50 : decode bN_holds 50 = .ok (.iconst 1, 1) := by decide +kernel
theorem dN_holds_51 : decode bN_holds 51 = .ok (.if_icmp .ne 7, 3) := by decide +kernel
theorem dN_holds_54 : decode bN_holds 54 = .ok (.iload 6, 2) := by decide +kernel
theorem dN_holds_56 : decode bN_holds 56 = .ok (.i2l, 1) := by decide +kernel
theorem dN_holds_57 : decode bN_holds 57 = .ok (.lreturn, 1) := by decide +kernel
theorem dN_holds_58 : decode bN_holds 58 = .ok (.aload_n 0, 1) := by decide +kernel
theorem dN_holds_59 : decode bN_holds 59 = .ok (.iload 6, 2) := by decide +kernel
theorem dN_holds_61 : decode bN_holds 61 = .ok (.iload_n 1, 1) := by decide +kernel
theorem dN_holds_62 : decode bN_holds 62 = .ok (.iload_n 2, 1) := by decide +kernel
theorem dN_holds_63 : decode bN_holds 63 = .ok (.iload_n 3, 1) := by decide +kernel
theorem dN_holds_64 : decode bN_holds 64 = .ok (.invokevirtual 85, 3) := by decide +kernel
theorem dN_holds_67 : decode bN_holds 67 = .ok (.sipush 200, 3) := by decide +kernel
theorem dN_holds_70 : decode bN_holds 70 = .ok (.iload 4, 2) := by decide +kernel
theorem dN_holds_72 : decode bN_holds 72 = .ok (.isub, 1) := by decide +kernel
theorem dN_holds_73 : decode bN_holds 73 = .ok (.i2l, 1) := by decide +kernel
theorem dN_holds_74 : decode bN_holds 74 = .ok (.lmul, 1) := by decide +kernel
theorem dN_holds_75 : decode bN_holds 75 = .ok (.ldc2_w 89, 3) := by decide +kernel
theorem dN_holds_78 : decode bN_holds 78 = .ok (.ldiv, 1) := by decide +kernel
theorem dN_holds_79 : decode bN_holds 79 = .ok (.lstore 7, 2) := by decide +kernel
theorem dN_holds_81 : decode bN_holds 81 = .ok (.lload 7, 2) := by decide +kernel
theorem dN_holds_83 : decode bN_holds 83 = .ok (.aload_n 0, 1) := by decide +kernel
theorem dN_holds_84 : decode bN_holds 84 = .ok (.getfield 20, 3) := by decide +kernel
theorem dN_holds_87 : decode bN_holds 87 = .ok (.i2l, 1) := by decide +kernel
theorem dN_holds_88 : decode bN_holds 88 = .ok (.lmul, 1) := by decide +kernel
theorem dN_holds_89 : decode bN_holds 89 = .ok (.ldc2_w 71, 3) := by decide +kernel
theorem dN_holds_92 : decode bN_holds 92 = .ok (.ldiv, 1) := by decide +kernel
theorem dN_holds_93 : decode bN_holds 93 = .ok (.lreturn, 1) := by decide +kernel
theorem dN_together_0 : decode bN_together 0 = .ok (.iload_n 1, 1) := by decide +kernel
theorem dN_together_1 : decode bN_together 1 = .ok (.i2l, 1) := by decide +kernel
theorem dN_together_2 : decode bN_together 2 = .ok (.lconst 0, 1) := by decide +kernel
theorem dN_together_3 : decode bN_together 3 = .ok (.ldc2_w 77, 3) := by decide +kernel
theorem dN_together_6 : decode bN_together 6 = .ok (.invokestatic 73, 3) := by decide +kernel
theorem dN_together_9 : decode bN_together 9 = .ok (.lload_n 2, 1) := by decide +kernel
theorem dN_together_10 : decode bN_together 10 = .ok (.lconst 0, 1) := by decide +kernel
theorem dN_together_11 : decode bN_together 11 = .ok (.ldc2_w 91, 3) := by decide +kernel
theorem dN_together_14 : decode bN_together 14 = .ok (.invokestatic 73, 3) := by decide +kernel
theorem dN_together_17 : decode bN_together 17 = .ok (.aload_n 0, 1) := by decide +kernel
theorem dN_together_18 : decode bN_together 18 = .ok (.iload_n 1, 1) := by decide +kernel
theorem dN_together_19 : decode bN_together 19 = .ok (.lload_n 2, 1) := by decide +kernel
theorem dN_together_20 : decode bN_together 20 = .ok (.invokevirtual 93, 3) := by decide +kernel
theorem dN_together_23 : decode bN_together 23 = .ok (.lreturn, 1) := by decide +kernel
theorem dN_count_0 : decode bN_count 0 = .ok (.lload_n 1, 1) := by decide +kernel
theorem dN_count_1 : decode bN_count 1 = .ok (.lconst 0, 1) := by decide +kernel
theorem dN_count_2 : decode bN_count 2 = .ok (.ldc2_w 91, 3) := by decide +kernel
theorem dN_count_5 : decode bN_count 5 = .ok (.invokestatic 73, 3) := by decide +kernel
theorem dN_count_8 : decode bN_count 8 = .ok (.lload_n 3, 1) := by decide +kernel
theorem dN_count_9 : decode bN_count 9 = .ok (.lconst 0, 1) := by decide +kernel
theorem dN_count_10 : decode bN_count 10 = .ok (.ldc2_w 91, 3) := by decide +kernel
theorem dN_count_13 : decode bN_count 13 = .ok (.invokestatic 73, 3) := by decide +kernel
theorem dN_count_16 : decode bN_count 16 = .ok (.iconst 1, 1) := by decide +kernel
theorem dN_count_17 : decode bN_count 17 = .ok (.istore 5, 2) := by decide +kernel
theorem dN_count_19 : decode bN_count 19 = .ok (.iload 5, 2) := by decide +kernel
theorem dN_count_21 : decode bN_count 21 = .ok (.bipush 100, 2) := by decide +kernel
theorem dN_count_23 : decode bN_count 23 = .ok (.if_icmp .gt 24, 3) := by decide +kernel
theorem dN_count_26 : decode bN_count 26 = .ok (.aload_n 0, 1) := by decide +kernel
theorem dN_count_27 : decode bN_count 27 = .ok (.iload 5, 2) := by decide +kernel
theorem dN_count_29 : decode bN_count 29 = .ok (.lload_n 3, 1) := by decide +kernel
theorem dN_count_30 : decode bN_count 30 = .ok (.invokevirtual 93, 3) := by decide +kernel
theorem dN_count_33 : decode bN_count 33 = .ok (.lload_n 1, 1) := by decide +kernel
theorem dN_count_34 : decode bN_count 34 = .ok (.lcmp, 1) := by decide +kernel
theorem dN_count_35 : decode bN_count 35 = .ok (.ifCond .lt 6, 3) := by decide +kernel
theorem dN_count_38 : decode bN_count 38 = .ok (.iload 5, 2) := by decide +kernel
theorem dN_count_40 : decode bN_count 40 = .ok (.ireturn, 1) := by decide +kernel
theorem dN_count_41 : decode bN_count 41 = .ok (.iinc 5 1, 3) := by decide +kernel
theorem dN_count_44 : decode bN_count 44 = .ok (.goto (-25), 3) := by decide +kernel
theorem dN_count_47 : decode bN_count 47 = .ok (.iconst (-1), 1) := by decide +kernel
theorem dN_count_48 : decode bN_count 48 = .ok (.ireturn, 1) := by decide +kernel
theorem dN_pattern_0 : decode bN_pattern 0 = .ok (.iload_n 1, 1) := by decide +kernel
theorem dN_pattern_1 : decode bN_pattern 1 = .ok (.iconst 4, 1) := by decide +kernel
theorem dN_pattern_2 : decode bN_pattern 2 = .ok (.invokestatic 63, 3) := by decide +kernel
theorem dN_pattern_5 : decode bN_pattern 5 = .ok (.iload_n 2, 1) := by decide +kernel
theorem dN_pattern_6 : decode bN_pattern 6 = .ok (.i2l, 1) := by decide +kernel
theorem dN_pattern_7 : decode bN_pattern 7 = .ok (.lconst 1, 1) := by decide +kernel
theorem dN_pattern_8 : decode bN_pattern 8 = .ok (.ldc2_w 97, 3) := by decide +kernel
theorem dN_pattern_11 : decode bN_pattern 11 = .ok (.invokestatic 73, 3) := by decide +kernel
theorem dN_pattern_14 : decode bN_pattern 14 = .ok (.iload_n 3, 1) := by decide +kernel
theorem dN_pattern_15 : decode bN_pattern 15 = .ok (.i2l, 1) := by decide +kernel
theorem dN_pattern_16 : decode bN_pattern 16 = .ok (.lconst 1, 1) := by decide +kernel
theorem dN_pattern_17 : decode bN_pattern 17 = .ok (.ldc2_w 97, 3) := by decide +kernel
theorem dN_pattern_20 : decode bN_pattern 20 = .ok (.invokestatic 73, 3) := by decide +kernel
theorem dN_pattern_23 : decode bN_pattern 23 = .ok (.iload 4, 2) := by decide +kernel
theorem dN_pattern_25 : decode bN_pattern 25 = .ok (.i2l, 1) := by decide +kernel
theorem dN_pattern_26 : decode bN_pattern 26 = .ok (.lconst 1, 1) := by decide +kernel
theorem dN_pattern_27 : decode bN_pattern 27 = .ok (.ldc2_w 71, 3) := by decide +kernel
theorem dN_pattern_30 : decode bN_pattern 30 = .ok (.invokestatic 73, 3) := by decide +kernel
theorem dN_pattern_33 : decode bN_pattern 33 = .ok (.iload_n 2, 1) := by decide +kernel
theorem dN_pattern_34 : decode bN_pattern 34 = .ok (.aload_n 0, 1) := by decide +kernel
theorem dN_pattern_35 : decode bN_pattern 35 = .ok (.iload_n 1, 1) := by decide +kernel
theorem dN_pattern_36 : decode bN_pattern 36 = .ok (.iconst 3, 1) := by decide +kernel
theorem dN_pattern_37 : decode bN_pattern 37 = .ok (.invokevirtual 99, 3) := by decide +kernel
theorem dN_pattern_40 : decode bN_pattern 40 = .ok (.aload_n 0, 1) := by decide +kernel
theorem dN_pattern_41 : decode bN_pattern 41 = .ok (.iload_n 1, 1) := by decide +kernel
theorem dN_pattern_42 : decode bN_pattern 42 = .ok (.iconst 4, 1) := by decide +kernel
theorem dN_pattern_43 : decode bN_pattern 43 = .ok (.invokevirtual 99, 3) := by decide +kernel
theorem dN_pattern_46 : decode bN_pattern 46 = .ok (.invokestatic 102, 3) := by decide +kernel
theorem dN_pattern_49 : decode bN_pattern 49 = .ok (.istore 5, 2) := by decide +kernel
theorem dN_pattern_51 : decode bN_pattern 51 = .ok (.iload_n 3, 1) := by decide +kernel
theorem dN_pattern_52 : decode bN_pattern 52 = .ok (.aload_n 0, 1) := by decide +kernel
theorem dN_pattern_53 : decode bN_pattern 53 = .ok (.iload_n 1, 1) := by decide +kernel
theorem dN_pattern_54 : decode bN_pattern 54 = .ok (.iconst 2, 1) := by decide +kernel
theorem dN_pattern_55 : decode bN_pattern 55 = .ok (.invokevirtual 99, 3) := by decide +kernel
theorem dN_pattern_58 : decode bN_pattern 58 = .ok (.aload_n 0, 1) := by decide +kernel
theorem dN_pattern_59 : decode bN_pattern 59 = .ok (.iload_n 1, 1) := by decide +kernel
theorem dN_pattern_60 : decode bN_pattern 60 = .ok (.iconst 5, 1) := by decide +kernel
theorem dN_pattern_61 : decode bN_pattern 61 = .ok (.invokevirtual 99, 3) := by decide +kernel
theorem dN_pattern_64 : decode bN_pattern 64 = .ok (.invokestatic 102, 3) := by decide +kernel
theorem dN_pattern_67 : decode bN_pattern 67 = .ok (.istore 6, 2) := by decide +kernel
theorem dN_pattern_69 : decode bN_pattern 69 = .ok (.iload 5, 2) := by decide +kernel
theorem dN_pattern_71 : decode bN_pattern 71 = .ok (.i2l, 1) := by decide +kernel
theorem dN_pattern_72 : decode bN_pattern 72 = .ok (.iload 6, 2) := by decide +kernel
theorem dN_pattern_74 : decode bN_pattern 74 = .ok (.i2l, 1) := by decide +kernel
theorem dN_pattern_75 : decode bN_pattern 75 = .ok (.lmul, 1) := by decide +kernel
theorem dN_pattern_76 : decode bN_pattern 76 = .ok (.iload 4, 2) := by decide +kernel
theorem dN_pattern_78 : decode bN_pattern 78 = .ok (.i2l, 1) := by decide +kernel
theorem dN_pattern_79 : decode bN_pattern 79 = .ok (.lcmp, 1) := by decide +kernel
theorem dN_pattern_80 : decode bN_pattern 80 = .ok (.ifCond .ge 5, 3) := by decide +kernel
theorem dN_pattern_83 : decode bN_pattern 83 = .ok (.iconst 0, 1) := by decide +kernel
theorem dN_pattern_84 : decode bN_pattern 84 = .ok (.ireturn, 1) := by decide +kernel
theorem dN_pattern_85 : decode bN_pattern 85 = .ok (.aload_n 0, 1) := by decide +kernel
theorem dN_pattern_86 : decode bN_pattern 86 = .ok (.iload_n 1, 1) := by decide +kernel
theorem dN_pattern_87 : decode bN_pattern 87 = .ok (.iload 5, 2) := by decide +kernel
theorem dN_pattern_89 : decode bN_pattern 89 = .ok (.iload 4, 2) := by decide +kernel
theorem dN_pattern_91 : decode bN_pattern 91 = .ok (.invokevirtual 105, 3) := by decide +kernel
theorem dN_pattern_94 : decode bN_pattern 94 = .ok (.iconst 1, 1) := by decide +kernel
theorem dN_pattern_95 : decode bN_pattern 95 = .ok (.ireturn, 1) := by decide +kernel
theorem dN_at_0 : decode bN_at 0 = .ok (.aload_n 0, 1) := by decide +kernel
theorem dN_at_1 : decode bN_at 1 = .ok (.getfield 33, 3) := by decide +kernel
theorem dN_at_4 : decode bN_at 4 = .ok (.ifCond .ne 13, 3) := by decide +kernel
theorem dN_at_7 : decode bN_at 7 = .ok (.new 109, 3) := by decide +kernel
theorem dN_at_10 : decode bN_at 10 = .ok (.dup, 1) := by decide +kernel
theorem dN_at_11 : decode bN_at 11 = .ok (.ldc 111, 2) := by decide +kernel
theorem dN_at_13 : decode bN_at 13 = .ok (.invokespecial 113, 3) := by decide +kernel
theorem dN_at_16 : decode bN_at 16 = .ok (.athrow, 1) := by decide +kernel
theorem dN_at_17 : decode bN_at 17 = .ok (.iload_n 1, 1) := by decide +kernel
theorem dN_at_18 : decode bN_at 18 = .ok (.aload_n 0, 1) := by decide +kernel
theorem dN_at_19 : decode bN_at 19 = .ok (.getfield 33, 3) := by decide +kernel
theorem dN_at_22 : decode bN_at 22 = .ok (.invokestatic 63, 3) := by decide +kernel
theorem dN_at_25 : decode bN_at 25 = .ok (.iload_n 2, 1) := by decide +kernel
theorem dN_at_26 : decode bN_at 26 = .ok (.iconst 2, 1) := by decide +kernel
theorem dN_at_27 : decode bN_at 27 = .ok (.invokestatic 63, 3) := by decide +kernel
theorem dN_at_30 : decode bN_at 30 = .ok (.iload_n 2, 1) := by decide +kernel
theorem dN_at_31 : decode bN_at 31 = .ok (.ifCond .ne 12, 3) := by decide +kernel
theorem dN_at_34 : decode bN_at 34 = .ok (.aload_n 0, 1) := by decide +kernel
theorem dN_at_35 : decode bN_at 35 = .ok (.getfield 27, 3) := by decide +kernel
theorem dN_at_38 : decode bN_at 38 = .ok (.iload_n 1, 1) := by decide +kernel
theorem dN_at_39 : decode bN_at 39 = .ok (.iaload, 1) := by decide +kernel
theorem dN_at_40 : decode bN_at 40 = .ok (.goto 9, 3) := by decide +kernel
theorem dN_at_43 : decode bN_at 43 = .ok (.aload_n 0, 1) := by decide +kernel
theorem dN_at_44 : decode bN_at 44 = .ok (.getfield 30, 3) := by decide +kernel
theorem dN_at_47 : decode bN_at 47 = .ok (.iload_n 1, 1) := by decide +kernel
theorem dN_at_48 : decode bN_at 48 = .ok (.iaload, 1) := by decide +kernel
theorem dN_at_49 : decode bN_at 49 = .ok (.ireturn, 1) := by decide +kernel
theorem dN_place_0 : decode bN_place 0 = .ok (.iload_n 1, 1) := by decide +kernel
theorem dN_place_1 : decode bN_place 1 = .ok (.i2l, 1) := by decide +kernel
theorem dN_place_2 : decode bN_place 2 = .ok (.lconst 0, 1) := by decide +kernel
theorem dN_place_3 : decode bN_place 3 = .ok (.ldc2_w 97, 3) := by decide +kernel
theorem dN_place_6 : decode bN_place 6 = .ok (.invokestatic 73, 3) := by decide +kernel
theorem dN_place_9 : decode bN_place 9 = .ok (.iload_n 2, 1) := by decide +kernel
theorem dN_place_10 : decode bN_place 10 = .ok (.i2l, 1) := by decide +kernel
theorem dN_place_11 : decode bN_place 11 = .ok (.lconst 0, 1) := by decide +kernel
theorem dN_place_12 : decode bN_place 12 = .ok (.ldc2_w 97, 3) := by decide +kernel
theorem dN_place_15 : decode bN_place 15 = .ok (.invokestatic 73, 3) := by decide +kernel
theorem dN_place_18 : decode bN_place 18 = .ok (.aload_n 0, 1) := by decide +kernel
theorem dN_place_19 : decode bN_place 19 = .ok (.getfield 42, 3) := by decide +kernel
theorem dN_place_22 : decode bN_place 22 = .ok (.bipush 32, 2) := by decide +kernel
theorem dN_place_24 : decode bN_place 24 = .ok (.if_icmp .lt 13, 3) := by decide +kernel
theorem dN_place_27 : decode bN_place 27 = .ok (.new 109, 3) := by decide +kernel
theorem dN_place_30 : decode bN_place 30 = .ok (.dup, 1) := by decide +kernel
theorem dN_place_31 : decode bN_place 31 = .ok (.ldc 116, 2) := by decide +kernel
theorem dN_place_33 : decode bN_place 33 = .ok (.invokespecial 113, 3) := by decide +kernel
theorem dN_place_36 : decode bN_place 36 = .ok (.athrow, 1) := by decide +kernel
theorem dN_place_37 : decode bN_place 37 = .ok (.aload_n 0, 1) := by decide +kernel
theorem dN_place_38 : decode bN_place 38 = .ok (.getfield 36, 3) := by decide +kernel
theorem dN_place_41 : decode bN_place 41 = .ok (.aload_n 0, 1) := by decide +kernel
theorem dN_place_42 : decode bN_place 42 = .ok (.getfield 42, 3) := by decide +kernel
theorem dN_place_45 : decode bN_place 45 = .ok (.iload_n 1, 1) := by decide +kernel
theorem dN_place_46 : decode bN_place 46 = .ok (.iastore, 1) := by decide +kernel
theorem dN_place_47 : decode bN_place 47 = .ok (.aload_n 0, 1) := by decide +kernel
theorem dN_place_48 : decode bN_place 48 = .ok (.getfield 39, 3) := by decide +kernel
theorem dN_place_51 : decode bN_place 51 = .ok (.aload_n 0, 1) := by decide +kernel
theorem dN_place_52 : decode bN_place 52 = .ok (.getfield 42, 3) := by decide +kernel
theorem dN_place_55 : decode bN_place 55 = .ok (.iload_n 2, 1) := by decide +kernel
theorem dN_place_56 : decode bN_place 56 = .ok (.iastore, 1) := by decide +kernel
theorem dN_place_57 : decode bN_place 57 = .ok (.aload_n 0, 1) := by decide +kernel
theorem dN_place_58 : decode bN_place 58 = .ok (.dup, 1) := by decide +kernel
theorem dN_place_59 : decode bN_place 59 = .ok (.getfield 42, 3) := by decide +kernel
theorem dN_place_62 : decode bN_place 62 = .ok (.iconst 1, 1) := by decide +kernel
theorem dN_place_63 : decode bN_place 63 = .ok (.iadd, 1) := by decide +kernel
theorem dN_place_64 : decode bN_place 64 = .ok (.putfield 42, 3) := by decide +kernel
theorem dN_place_67 : decode bN_place 67 = .ok (.aload_n 0, 1) := by decide +kernel
theorem dN_place_68 : decode bN_place 68 = .ok (.getfield 42, 3) := by decide +kernel
theorem dN_place_71 : decode bN_place 71 = .ok (.ireturn, 1) := by decide +kernel
theorem dN_clear_0 : decode bN_clear 0 = .ok (.aload_n 0, 1) := by decide +kernel
theorem dN_clear_1 : decode bN_clear 1 = .ok (.iconst 0, 1) := by decide +kernel
theorem dN_clear_2 : decode bN_clear 2 = .ok (.putfield 42, 3) := by decide +kernel
theorem dN_clear_5 : decode bN_clear 5 = .ok (.return_, 1) := by decide +kernel
theorem dN_keeps_0 : decode bN_keeps 0 = .ok (.iload_n 1, 1) := by decide +kernel
theorem dN_keeps_1 : decode bN_keeps 1 = .ok (.iconst 4, 1) := by decide +kernel
theorem dN_keeps_2 : decode bN_keeps 2 = .ok (.invokestatic 63, 3) := by decide +kernel
theorem dN_keeps_5 : decode bN_keeps 5 = .ok (.iload_n 2, 1) := by decide +kernel
theorem dN_keeps_6 : decode bN_keeps 6 = .ok (.i2l, 1) := by decide +kernel
theorem dN_keeps_7 : decode bN_keeps 7 = .ok (.lconst 1, 1) := by decide +kernel
theorem dN_keeps_8 : decode bN_keeps 8 = .ok (.ldc2_w 97, 3) := by decide +kernel
theorem dN_keeps_11 : decode bN_keeps 11 = .ok (.invokestatic 73, 3) := by decide +kernel
theorem dN_keeps_14 : decode bN_keeps 14 = .ok (.iload_n 3, 1) := by decide +kernel
theorem dN_keeps_15 : decode bN_keeps 15 = .ok (.i2l, 1) := by decide +kernel
theorem dN_keeps_16 : decode bN_keeps 16 = .ok (.lconst 1, 1) := by decide +kernel
theorem dN_keeps_17 : decode bN_keeps 17 = .ok (.ldc2_w 97, 3) := by decide +kernel
theorem dN_keeps_20 : decode bN_keeps 20 = .ok (.invokestatic 73, 3) := by decide +kernel
theorem dN_keeps_23 : decode bN_keeps 23 = .ok (.aload_n 0, 1) := by decide +kernel
theorem dN_keeps_24 : decode bN_keeps 24 = .ok (.iload_n 1, 1) := by decide +kernel
theorem dN_keeps_25 : decode bN_keeps 25 = .ok (.iload_n 2, 1) := by decide +kernel
theorem dN_keeps_26 : decode bN_keeps 26 = .ok (.iload_n 3, 1) := by decide +kernel
theorem dN_keeps_27 : decode bN_keeps 27 = .ok (.invokevirtual 118, 3) := by decide +kernel
theorem dN_keeps_30 : decode bN_keeps 30 = .ok (.istore 4, 2) := by decide +kernel
theorem dN_keeps_32 : decode bN_keeps 32 = .ok (.iload 4, 2) := by decide +kernel
theorem dN_keeps_34 : decode bN_keeps 34 = .ok (.iconst (-1), 1) := by decide +kernel
theorem dN_keeps_35 : decode bN_keeps 35 = .ok (.if_icmp .eq 8, 3) := by decide +kernel
theorem dN_keeps_38 : decode bN_keeps 38 = .ok (.iconst 1, 1) := by decide +kernel
theorem dN_keeps_39 : decode bN_keeps 39 = .ok (.iload 4, 2) := by decide +kernel
theorem dN_keeps_41 : decode bN_keeps 41 = .ok (.iadd, 1) := by decide +kernel
theorem dN_keeps_42 : decode bN_keeps 42 = .ok (.ireturn, 1) := by decide +kernel
theorem dN_keeps_43 : decode bN_keeps 43 = .ok (.aload_n 0, 1) := by decide +kernel
theorem dN_keeps_44 : decode bN_keeps 44 = .ok (.aload_n 0, 1) := by decide +kernel
theorem dN_keeps_45 : decode bN_keeps 45 = .ok (.iload_n 1, 1) := by decide +kernel
theorem dN_keeps_46 : decode bN_keeps 46 = .ok (.iconst 4, 1) := by decide +kernel
theorem dN_keeps_47 : decode bN_keeps 47 = .ok (.invokevirtual 99, 3) := by decide +kernel
theorem dN_keeps_50 : decode bN_keeps 50 = .ok (.i2l, 1) := by decide +kernel
theorem dN_keeps_51 : decode bN_keeps 51 = .ok (.invokevirtual 121, 3) := by decide +kernel
theorem dN_keeps_54 : decode bN_keeps 54 = .ok (.istore 5, 2) := by decide +kernel
theorem dN_keeps_56 : decode bN_keeps 56 = .ok (.iload 5, 2) := by decide +kernel
theorem dN_keeps_58 : decode bN_keeps 58 = .ok (.iconst (-1), 1) := by decide +kernel
theorem dN_keeps_59 : decode bN_keeps 59 = .ok (.if_icmp .ne 7, 3) := by decide +kernel
theorem dN_keeps_62 : decode bN_keeps 62 = .ok (.iconst 0, 1) := by decide +kernel
theorem dN_keeps_63 : decode bN_keeps 63 = .ok (.goto 8, 3) := by decide +kernel
theorem dN_keeps_66 : decode bN_keeps 66 = .ok (.bipush 100, 2) := by decide +kernel
theorem dN_keeps_68 : decode bN_keeps 68 = .ok (.iload 5, 2) := by decide +kernel
theorem dN_keeps_70 : decode bN_keeps 70 = .ok (.iadd, 1) := by decide +kernel
theorem dN_keeps_71 : decode bN_keeps 71 = .ok (.ireturn, 1) := by decide +kernel
theorem dN_member_0 : decode bN_member 0 = .ok (.iload_n 1, 1) := by decide +kernel
theorem dN_member_1 : decode bN_member 1 = .ok (.i2l, 1) := by decide +kernel
theorem dN_member_2 : decode bN_member 2 = .ok (.ldc2_w 125, 3) := by decide +kernel
theorem dN_member_5 : decode bN_member 5 = .ok (.ldc2_w 127, 3) := by decide +kernel
theorem dN_member_8 : decode bN_member 8 = .ok (.invokestatic 73, 3) := by decide +kernel
theorem dN_member_11 : decode bN_member 11 = .ok (.iload_n 2, 1) := by decide +kernel
theorem dN_member_12 : decode bN_member 12 = .ok (.i2l, 1) := by decide +kernel
theorem dN_member_13 : decode bN_member 13 = .ok (.ldc2_w 125, 3) := by decide +kernel
theorem dN_member_16 : decode bN_member 16 = .ok (.ldc2_w 127, 3) := by decide +kernel
theorem dN_member_19 : decode bN_member 19 = .ok (.invokestatic 73, 3) := by decide +kernel
theorem dN_member_22 : decode bN_member 22 = .ok (.iload_n 3, 1) := by decide +kernel
theorem dN_member_23 : decode bN_member 23 = .ok (.i2l, 1) := by decide +kernel
theorem dN_member_24 : decode bN_member 24 = .ok (.ldc2_w 125, 3) := by decide +kernel
theorem dN_member_27 : decode bN_member 27 = .ok (.ldc2_w 127, 3) := by decide +kernel
theorem dN_member_30 : decode bN_member 30 = .ok (.invokestatic 73, 3) := by decide +kernel
theorem dN_member_33 : decode bN_member 33 = .ok (.iload 4, 2) := by decide +kernel
theorem dN_member_35 : decode bN_member 35 = .ok (.i2l, 1) := by decide +kernel
theorem dN_member_36 : decode bN_member 36 = .ok (.ldc2_w 125, 3) := by decide +kernel
theorem dN_member_39 : decode bN_member 39 = .ok (.ldc2_w 127, 3) := by decide +kernel
theorem dN_member_42 : decode bN_member 42 = .ok (.invokestatic 73, 3) := by decide +kernel
theorem dN_member_45 : decode bN_member 45 = .ok (.iload_n 1, 1) := by decide +kernel
theorem dN_member_46 : decode bN_member 46 = .ok (.iload_n 3, 1) := by decide +kernel
theorem dN_member_47 : decode bN_member 47 = .ok (.if_icmp .ne 19, 3) := by decide +kernel
theorem dN_member_50 : decode bN_member 50 = .ok (.iload_n 2, 1) := by decide +kernel
theorem dN_member_51 : decode bN_member 51 = .ok (.iload 4, 2) := by decide +kernel
theorem dN_member_53 : decode bN_member 53 = .ok (.if_icmp .ne 13, 3) := by decide +kernel
theorem dN_member_56 : decode bN_member 56 = .ok (.new 129, 3) := by decide +kernel
theorem dN_member_59 : decode bN_member 59 = .ok (.dup, 1) := by decide +kernel
theorem dN_member_60 : decode bN_member 60 = .ok (.ldc 131, 2) := by decide +kernel
theorem dN_member_62 : decode bN_member 62 = .ok (.invokespecial 133, 3) := by decide +kernel
theorem dN_member_65 : decode bN_member 65 = .ok (.athrow, 1) := by decide +kernel
theorem dN_member_66 : decode bN_member 66 = .ok (.iload 5, 2) := by decide +kernel
theorem dN_member_68 : decode bN_member 68 = .ok (.i2l, 1) := by decide +kernel
theorem dN_member_69 : decode bN_member 69 = .ok (.lconst 1, 1) := by decide +kernel
theorem dN_member_70 : decode bN_member 70 = .ok (.ldc2_w 127, 3) := by decide +kernel
theorem dN_member_73 : decode bN_member 73 = .ok (.invokestatic 73, 3) := by decide +kernel
theorem dN_member_76 : decode bN_member 76 = .ok (.aload_n 0, 1) := by decide +kernel
theorem dN_member_77 : decode bN_member 77 = .ok (.getfield 48, 3) := by decide +kernel
theorem dN_member_80 : decode bN_member 80 = .ok (.invokevirtual 134, 3) := by decide +kernel
theorem dN_member_83 : decode bN_member 83 = .ok (.bipush 6, 2) := by decide +kernel
theorem dN_member_85 : decode bN_member 85 = .ok (.if_icmp .lt 13, 3) := by decide +kernel
theorem dN_member_88 : decode bN_member 88 = .ok (.new 109, 3) := by decide +kernel
theorem dN_member_91 : decode bN_member 91 = .ok (.dup, 1) := by decide +kernel
theorem dN_member_92 : decode bN_member 92 = .ok (.ldc 137, 2) := by decide +kernel
theorem dN_member_94 : decode bN_member 94 = .ok (.invokespecial 113, 3) := by decide +kernel
theorem dN_member_97 : decode bN_member 97 = .ok (.athrow, 1) := by decide +kernel
theorem dN_member_98 : decode bN_member 98 = .ok (.aload_n 0, 1) := by decide +kernel
theorem dN_member_99 : decode bN_member 99 = .ok (.getfield 48, 3) := by decide +kernel
theorem dN_member_102 : decode bN_member 102 = .ok (.new 139, 3) := by decide +kernel
theorem dN_member_105 : decode bN_member 105 = .ok (.dup, 1) := by decide +kernel
theorem dN_member_106 : decode bN_member 106 = .ok (.iload_n 1, 1) := by decide +kernel
theorem dN_member_107 : decode bN_member 107 = .ok (.iload_n 2, 1) := by decide +kernel
theorem dN_member_108 : decode bN_member 108 = .ok (.iload_n 3, 1) := by decide +kernel
theorem dN_member_109 : decode bN_member 109 = .ok (.iload 4, 2) := by decide +kernel
theorem dN_member_111 : decode bN_member 111 = .ok (.iload 5, 2) := by decide +kernel
theorem dN_member_113 : decode bN_member 113 = .ok (.invokespecial 141, 3) := by decide +kernel
theorem dN_member_116 : decode bN_member 116 = .ok (.invokevirtual 144, 3) := by decide +kernel
theorem dN_member_119 : decode bN_member 119 = .ok (.pop, 1) := by decide +kernel
theorem dN_member_120 : decode bN_member 120 = .ok (.aload_n 0, 1) := by decide +kernel
theorem dN_member_121 : decode bN_member 121 = .ok (.getfield 48, 3) := by decide +kernel
theorem dN_member_124 : decode bN_member 124 = .ok (.invokevirtual 134, 3) := by decide +kernel
theorem dN_member_127 : decode bN_member 127 = .ok (.iconst 1, 1) := by decide +kernel
theorem dN_member_128 : decode bN_member 128 = .ok (.isub, 1) := by decide +kernel
theorem dN_member_129 : decode bN_member 129 = .ok (.ireturn, 1) := by decide +kernel
theorem dN_in_0 : decode bN_in 0 = .ok (.iload_n 1, 1) := by decide +kernel
theorem dN_in_1 : decode bN_in 1 = .ok (.aload_n 0, 1) := by decide +kernel
theorem dN_in_2 : decode bN_in 2 = .ok (.getfield 48, 3) := by decide +kernel
theorem dN_in_5 : decode bN_in 5 = .ok (.invokevirtual 134, 3) := by decide +kernel
theorem dN_in_8 : decode bN_in 8 = .ok (.invokestatic 63, 3) := by decide +kernel
theorem dN_in_11 : decode bN_in 11 = .ok (.iload_n 2, 1) := by decide +kernel
theorem dN_in_12 : decode bN_in 12 = .ok (.i2l, 1) := by decide +kernel
theorem dN_in_13 : decode bN_in 13 = .ok (.ldc2_w 125, 3) := by decide +kernel
theorem dN_in_16 : decode bN_in 16 = .ok (.ldc2_w 127, 3) := by decide +kernel
theorem dN_in_19 : decode bN_in 19 = .ok (.invokestatic 73, 3) := by decide +kernel
theorem dN_in_22 : decode bN_in 22 = .ok (.iload_n 3, 1) := by decide +kernel
theorem dN_in_23 : decode bN_in 23 = .ok (.i2l, 1) := by decide +kernel
theorem dN_in_24 : decode bN_in 24 = .ok (.ldc2_w 125, 3) := by decide +kernel
theorem dN_in_27 : decode bN_in 27 = .ok (.ldc2_w 127, 3) := by decide +kernel
theorem dN_in_30 : decode bN_in 30 = .ok (.invokestatic 73, 3) := by decide +kernel
theorem dN_in_33 : decode bN_in 33 = .ok (.aload_n 0, 1) := by decide +kernel
theorem dN_in_34 : decode bN_in 34 = .ok (.getfield 48, 3) := by decide +kernel
theorem dN_in_37 : decode bN_in 37 = .ok (.iload_n 1, 1) := by decide +kernel
theorem dN_in_38 : decode bN_in 38 = .ok (.invokevirtual 148, 3) := by decide +kernel
theorem dN_in_41 : decode bN_in 41 = .ok (.checkcast 139, 3) := by decide +kernel
theorem dN_in_44 : decode bN_in 44 = .ok (.iload_n 2, 1) := by decide +kernel
theorem dN_in_45 : decode bN_in 45 = .ok (.iload_n 3, 1) := by decide +kernel
theorem dN_in_46 : decode bN_in 46 = .ok (.invokevirtual 152, 3) := by decide +kernel
theorem dN_in_49 : decode bN_in 49 = .ok (.ireturn, 1) := by decide +kernel
theorem dN_teeth_0 : decode bN_teeth 0 = .ok (.iload_n 1, 1) := by decide +kernel
theorem dN_teeth_1 : decode bN_teeth 1 = .ok (.aload_n 0, 1) := by decide +kernel
theorem dN_teeth_2 : decode bN_teeth 2 = .ok (.getfield 48, 3) := by decide +kernel
theorem dN_teeth_5 : decode bN_teeth 5 = .ok (.invokevirtual 134, 3) := by decide +kernel
theorem dN_teeth_8 : decode bN_teeth 8 = .ok (.invokestatic 63, 3) := by decide +kernel
theorem dN_teeth_11 : decode bN_teeth 11 = .ok (.iload_n 2, 1) := by decide +kernel
theorem dN_teeth_12 : decode bN_teeth 12 = .ok (.i2l, 1) := by decide +kernel
theorem dN_teeth_13 : decode bN_teeth 13 = .ok (.ldc2_w 125, 3) := by decide +kernel
theorem dN_teeth_16 : decode bN_teeth 16 = .ok (.ldc2_w 127, 3) := by decide +kernel
theorem dN_teeth_19 : decode bN_teeth 19 = .ok (.invokestatic 73, 3) := by decide +kernel
theorem dN_teeth_22 : decode bN_teeth 22 = .ok (.iload_n 3, 1) := by decide +kernel
theorem dN_teeth_23 : decode bN_teeth 23 = .ok (.i2l, 1) := by decide +kernel
theorem dN_teeth_24 : decode bN_teeth 24 = .ok (.ldc2_w 125, 3) := by decide +kernel
theorem dN_teeth_27 : decode bN_teeth 27 = .ok (.ldc2_w 127, 3) := by decide +kernel
theorem dN_teeth_30 : decode bN_teeth 30 = .ok (.invokestatic 73, 3) := by decide +kernel
theorem dN_teeth_33 : decode bN_teeth 33 = .ok (.iload 4, 2) := by decide +kernel
theorem dN_teeth_35 : decode bN_teeth 35 = .ok (.i2l, 1) := by decide +kernel
theorem dN_teeth_36 : decode bN_teeth 36 = .ok (.lconst 0, 1) := by decide +kernel
theorem dN_teeth_37 : decode bN_teeth 37 = .ok (.ldc2_w 77, 3) := by decide +kernel
theorem dN_teeth_40 : decode bN_teeth 40 = .ok (.invokestatic 73, 3) := by decide +kernel
theorem dN_teeth_43 : decode bN_teeth 43 = .ok (.iload 5, 2) := by decide +kernel
theorem dN_teeth_45 : decode bN_teeth 45 = .ok (.i2l, 1) := by decide +kernel
theorem dN_teeth_46 : decode bN_teeth 46 = .ok (.lconst 0, 1) := by decide +kernel
theorem dN_teeth_47 : decode bN_teeth 47 = .ok (.ldc2_w 77, 3) := by decide +kernel
theorem dN_teeth_50 : decode bN_teeth 50 = .ok (.invokestatic 73, 3) := by decide +kernel
theorem dN_teeth_53 : decode bN_teeth 53 = .ok (.iload 6, 2) := by decide +kernel
theorem dN_teeth_55 : decode bN_teeth 55 = .ok (.i2l, 1) := by decide +kernel
theorem dN_teeth_56 : decode bN_teeth 56 = .ok (.ldc2_w 156, 3) := by decide +kernel
theorem dN_teeth_59 : decode bN_teeth 59 = .ok (.ldc2_w 77, 3) := by decide +kernel
theorem dN_teeth_62 : decode bN_teeth 62 = .ok (.invokestatic 73, 3) := by decide +kernel
theorem dN_teeth_65 : decode bN_teeth 65 = .ok (.aload_n 0, 1) := by decide +kernel
theorem dN_teeth_66 : decode bN_teeth 66 = .ok (.getfield 48, 3) := by decide +kernel
theorem dN_teeth_69 : decode bN_teeth 69 = .ok (.iload_n 1, 1) := by decide +kernel
theorem dN_teeth_70 : decode bN_teeth 70 = .ok (.invokevirtual 148, 3) := by decide +kernel
theorem dN_teeth_73 : decode bN_teeth 73 = .ok (.checkcast 139, 3) := by decide +kernel
theorem dN_teeth_76 : decode bN_teeth 76 = .ok (.astore 7, 2) := by decide +kernel
theorem dN_teeth_78 : decode bN_teeth 78 = .ok (.iconst 0, 1) := by decide +kernel
theorem dN_teeth_79 : decode bN_teeth 79 = .ok (.istore 8, 2) := by decide +kernel
theorem dN_teeth_81 : decode bN_teeth 81 = .ok (.iconst 0, 1) := by decide +kernel
theorem dN_teeth_82 : decode bN_teeth 82 = .ok (.istore 9, 2) := by decide +kernel
theorem dN_teeth_84 : decode bN_teeth 84 = .ok (.iload 9, 2) := by decide +kernel
theorem dN_teeth_86 : decode bN_teeth 86 = .ok (.iload 4, 2) := by decide +kernel
theorem dN_teeth_88 : decode bN_teeth 88 = .ok (.if_icmp .gt 52, 3) := by decide +kernel
theorem dN_teeth_91 : decode bN_teeth 91 = .ok (.iconst 0, 1) := by decide +kernel
theorem dN_teeth_92 : decode bN_teeth 92 = .ok (.istore 10, 2) := by decide +kernel
theorem dN_teeth_94 : decode bN_teeth 94 = .ok (.iload 10, 2) := by decide +kernel
theorem dN_teeth_96 : decode bN_teeth 96 = .ok (.iload 5, 2) := by decide +kernel
theorem dN_teeth_98 : decode bN_teeth 98 = .ok (.if_icmp .gt 32, 3) := by decide +kernel
theorem dN_teeth_101 : decode bN_teeth 101 = .ok (.aload 7, 2) := by decide +kernel
theorem dN_teeth_103 : decode bN_teeth 103 = .ok (.iload_n 2, 1) := by decide +kernel
theorem dN_teeth_104 : decode bN_teeth 104 = .ok (.iload 9, 2) := by decide +kernel
theorem dN_teeth_106 : decode bN_teeth 106 = .ok (.iadd, 1) := by decide +kernel
theorem dN_teeth_107 : decode bN_teeth 107 = .ok (.iload_n 3, 1) := by decide +kernel
theorem dN_teeth_108 : decode bN_teeth 108 = .ok (.iload 10, 2) := by decide +kernel
theorem dN_teeth_110 : decode bN_teeth 110 = .ok (.iadd, 1) := by decide +kernel
theorem dN_teeth_111 : decode bN_teeth 111 = .ok (.invokevirtual 152, 3) := by decide +kernel
theorem dN_teeth_114 : decode bN_teeth 114 = .ok (.ifCond .eq 6, 3) := by decide +kernel
theorem dN_teeth_117 : decode bN_teeth 117 = .ok (.iinc 8 1, 3) := by decide +kernel
theorem dN_teeth_120 : decode bN_teeth 120 = .ok (.iload 10, 2) := by decide +kernel
theorem dN_teeth_122 : decode bN_teeth 122 = .ok (.iload 6, 2) := by decide +kernel
theorem dN_teeth_124 : decode bN_teeth 124 = .ok (.iadd, 1) := by decide +kernel
theorem dN_teeth_125 : decode bN_teeth 125 = .ok (.istore 10, 2) := by decide +kernel
theorem dN_teeth_127 : decode bN_teeth 127 = .ok (.goto (-33), 3) := by decide +kernel
theorem dN_teeth_130 : decode bN_teeth 130 = .ok (.iload 9, 2) := by decide +kernel
theorem dN_teeth_132 : decode bN_teeth 132 = .ok (.iload 6, 2) := by decide +kernel
theorem dN_teeth_134 : decode bN_teeth 134 = .ok (.iadd, 1) := by decide +kernel
theorem dN_teeth_135 : decode bN_teeth 135 = .ok (.istore 9, 2) := by decide +kernel
theorem dN_teeth_137 : decode bN_teeth 137 = .ok (.goto (-53), 3) := by decide +kernel
theorem dN_teeth_140 : decode bN_teeth 140 = .ok (.iload 8, 2) := by decide +kernel
theorem dN_teeth_142 : decode bN_teeth 142 = .ok (.ireturn, 1) := by decide +kernel
theorem dN_thick_0 : decode bN_thick 0 = .ok (.iload_n 1, 1) := by decide +kernel
theorem dN_thick_1 : decode bN_thick 1 = .ok (.iconst 4, 1) := by decide +kernel
theorem dN_thick_2 : decode bN_thick 2 = .ok (.invokestatic 63, 3) := by decide +kernel
theorem dN_thick_5 : decode bN_thick 5 = .ok (.iload_n 2, 1) := by decide +kernel
theorem dN_thick_6 : decode bN_thick 6 = .ok (.ifCond .ge 13, 3) := by decide +kernel
theorem dN_thick_9 : decode bN_thick 9 = .ok (.new 129, 3) := by decide +kernel
theorem dN_thick_12 : decode bN_thick 12 = .ok (.dup, 1) := by decide +kernel
theorem dN_thick_13 : decode bN_thick 13 = .ok (.ldc 158, 2) := by decide +kernel
theorem dN_thick_15 : decode bN_thick 15 = .ok (.invokespecial 133, 3) := by decide +kernel
theorem dN_thick_18 : decode bN_thick 18 = .ok (.athrow, 1) := by decide +kernel
theorem dN_thick_19 : decode bN_thick 19 = .ok (.iload_n 2, 1) := by decide +kernel
theorem dN_thick_20 : decode bN_thick 20 = .ok (.aload_n 0, 1) := by decide +kernel
theorem dN_thick_21 : decode bN_thick 21 = .ok (.iload_n 1, 1) := by decide +kernel
theorem dN_thick_22 : decode bN_thick 22 = .ok (.bipush 6, 2) := by decide +kernel
theorem dN_thick_24 : decode bN_thick 24 = .ok (.invokevirtual 99, 3) := by decide +kernel
theorem dN_thick_27 : decode bN_thick 27 = .ok (.if_icmp .lt 7, 3) := by decide +kernel
theorem dN_thick_30 : decode bN_thick 30 = .ok (.iconst 1, 1) := by decide +kernel
theorem dN_thick_31 : decode bN_thick 31 = .ok (.goto 4, 3) := by decide +kernel
theorem dN_thick_34 : decode bN_thick 34 = .ok (.iconst 0, 1) := by decide +kernel
theorem dN_thick_35 : decode bN_thick 35 = .ok (.ireturn, 1) := by decide +kernel
theorem dN_hole_0 : decode bN_hole 0 = .ok (.iload_n 1, 1) := by decide +kernel
theorem dN_hole_1 : decode bN_hole 1 = .ok (.iconst 4, 1) := by decide +kernel
theorem dN_hole_2 : decode bN_hole 2 = .ok (.invokestatic 63, 3) := by decide +kernel
theorem dN_hole_5 : decode bN_hole 5 = .ok (.aload_n 0, 1) := by decide +kernel
theorem dN_hole_6 : decode bN_hole 6 = .ok (.iload_n 1, 1) := by decide +kernel
theorem dN_hole_7 : decode bN_hole 7 = .ok (.iconst 0, 1) := by decide +kernel
theorem dN_hole_8 : decode bN_hole 8 = .ok (.invokevirtual 67, 3) := by decide +kernel
theorem dN_hole_11 : decode bN_hole 11 = .ok (.istore_n 2, 1) := by decide +kernel
theorem dN_hole_12 : decode bN_hole 12 = .ok (.iload_n 1, 1) := by decide +kernel
theorem dN_hole_13 : decode bN_hole 13 = .ok (.tableswitch 58 0 2 #[27, 45, 53], 27) := by decide +kernel
theorem dN_hole_40 : decode bN_hole 40 = .ok (.iload_n 2, 1) := by decide +kernel
theorem dN_hole_41 : decode bN_hole 41 = .ok (.bipush 50, 2) := by decide +kernel
theorem dN_hole_43 : decode bN_hole 43 = .ok (.if_icmp .le 13, 3) := by decide +kernel
theorem dN_hole_46 : decode bN_hole 46 = .ok (.iload_n 2, 1) := by decide +kernel
theorem dN_hole_47 : decode bN_hole 47 = .ok (.bipush 7, 2) := by decide +kernel
theorem dN_hole_49 : decode bN_hole 49 = .ok (.imul, 1) := by decide +kernel
theorem dN_hole_50 : decode bN_hole 50 = .ok (.bipush 10, 2) := by decide +kernel
theorem dN_hole_52 : decode bN_hole 52 = .ok (.idiv, 1) := by decide +kernel
theorem dN_hole_53 : decode bN_hole 53 = .ok (.goto 4, 3) := by decide +kernel
theorem dN_hole_56 : decode bN_hole 56 = .ok (.iconst 0, 1) := by decide +kernel
theorem dN_hole_57 : decode bN_hole 57 = .ok (.ireturn, 1) := by decide +kernel
theorem dN_hole_58 : decode bN_hole 58 = .ok (.iload_n 2, 1) := by decide +kernel
theorem dN_hole_59 : decode bN_hole 59 = .ok (.bipush 7, 2) := by decide +kernel
theorem dN_hole_61 : decode bN_hole 61 = .ok (.imul, 1) := by decide +kernel
theorem dN_hole_62 : decode bN_hole 62 = .ok (.bipush 10, 2) := by decide +kernel
theorem dN_hole_64 : decode bN_hole 64 = .ok (.idiv, 1) := by decide +kernel
theorem dN_hole_65 : decode bN_hole 65 = .ok (.ireturn, 1) := by decide +kernel
theorem dN_hole_66 : decode bN_hole 66 = .ok (.iload_n 2, 1) := by decide +kernel
theorem dN_hole_67 : decode bN_hole 67 = .ok (.bipush 10, 2) := by decide +kernel
theorem dN_hole_69 : decode bN_hole 69 = .ok (.iadd, 1) := by decide +kernel
theorem dN_hole_70 : decode bN_hole 70 = .ok (.ireturn, 1) := by decide +kernel
theorem dN_hole_71 : decode bN_hole 71 = .ok (.iload_n 2, 1) := by decide +kernel
theorem dN_hole_72 : decode bN_hole 72 = .ok (.ireturn, 1) := by decide +kernel
theorem dN_requireIndex_0 : decode bN_requireIndex 0 = .ok (.iload_n 0, 1) := by decide +kernel
theorem dN_requireIndex_1 : decode bN_requireIndex 1 = .ok (.ifCond .lt 8, 3) := by decide +kernel
theorem dN_requireIndex_4 : decode bN_requireIndex 4 = .ok (.iload_n 0, 1) := by decide +kernel
theorem dN_requireIndex_5 : decode bN_requireIndex 5 = .ok (.iload_n 1, 1) := by decide +kernel
theorem dN_requireIndex_6 : decode bN_requireIndex 6 = .ok (.if_icmp .lt 13, 3) := by decide +kernel
theorem dN_requireIndex_9 : decode bN_requireIndex 9 = .ok (.new 160, 3) := by decide +kernel
theorem dN_requireIndex_12 : decode bN_requireIndex 12 = .ok (.dup, 1) := by decide +kernel
theorem dN_requireIndex_13 : decode bN_requireIndex 13 = .ok (.ldc 162, 2) := by decide +kernel
theorem dN_requireIndex_15 : decode bN_requireIndex 15 = .ok (.invokespecial 164, 3) := by decide +kernel
theorem dN_requireIndex_18 : decode bN_requireIndex 18 = .ok (.athrow, 1) := by decide +kernel
theorem dN_requireIndex_19 : decode bN_requireIndex 19 = .ok (.return_, 1) := by decide +kernel
theorem dN_requireWithin_0 : decode bN_requireWithin 0 = .ok (.lload_n 0, 1) := by decide +kernel
theorem dN_requireWithin_1 : decode bN_requireWithin 1 = .ok (.lload_n 2, 1) := by decide +kernel
theorem dN_requireWithin_2 : decode bN_requireWithin 2 = .ok (.lcmp, 1) := by decide +kernel
theorem dN_requireWithin_3 : decode bN_requireWithin 3 = .ok (.ifCond .lt 10, 3) := by decide +kernel
theorem dN_requireWithin_6 : decode bN_requireWithin 6 = .ok (.lload_n 0, 1) := by decide +kernel
theorem dN_requireWithin_7 : decode bN_requireWithin 7 = .ok (.lload 4, 2) := by decide +kernel
theorem dN_requireWithin_9 : decode bN_requireWithin 9 = .ok (.lcmp, 1) := by decide +kernel
theorem dN_requireWithin_10 : decode bN_requireWithin 10 = .ok (.ifCond .le 13, 3) := by decide +kernel
theorem dN_requireWithin_13 : decode bN_requireWithin 13 = .ok (.new 129, 3) := by decide +kernel
theorem dN_requireWithin_16 : decode bN_requireWithin 16 = .ok (.dup, 1) := by decide +kernel
theorem dN_requireWithin_17 : decode bN_requireWithin 17 = .ok (.ldc 165, 2) := by decide +kernel
theorem dN_requireWithin_19 : decode bN_requireWithin 19 = .ok (.invokespecial 133, 3) := by decide +kernel
theorem dN_requireWithin_22 : decode bN_requireWithin 22 = .ok (.athrow, 1) := by decide +kernel
theorem dN_requireWithin_23 : decode bN_requireWithin 23 = .ok (.return_, 1) := by decide +kernel
theorem dN_told_0 : decode bN_told 0 = .ok (.aload_n 0, 1) := by decide +kernel
theorem dN_told_1 : decode bN_told 1 = .ok (.getfield 16, 3) := by decide +kernel
theorem dN_told_4 : decode bN_told 4 = .ok (.iload_n 1, 1) := by decide +kernel
theorem dN_told_5 : decode bN_told 5 = .ok (.bipush 7, 2) := by decide +kernel
theorem dN_told_7 : decode bN_told 7 = .ok (.imul, 1) := by decide +kernel
theorem dN_told_8 : decode bN_told 8 = .ok (.iload_n 2, 1) := by decide +kernel
theorem dN_told_9 : decode bN_told 9 = .ok (.iadd, 1) := by decide +kernel
theorem dN_told_10 : decode bN_told 10 = .ok (.iaload, 1) := by decide +kernel
theorem dN_told_11 : decode bN_told 11 = .ok (.ireturn, 1) := by decide +kernel
theorem dN_space_0 : decode bN_space 0 = .ok (.aload_n 0, 1) := by decide +kernel
theorem dN_space_1 : decode bN_space 1 = .ok (.iload_n 1, 1) := by decide +kernel
theorem dN_space_2 : decode bN_space 2 = .ok (.iload_n 2, 1) := by decide +kernel
theorem dN_space_3 : decode bN_space 3 = .ok (.invokevirtual 67, 3) := by decide +kernel
theorem dN_space_6 : decode bN_space 6 = .ok (.aload_n 0, 1) := by decide +kernel
theorem dN_space_7 : decode bN_space 7 = .ok (.iload_n 1, 1) := by decide +kernel
theorem dN_space_8 : decode bN_space 8 = .ok (.iconst 0, 1) := by decide +kernel
theorem dN_space_9 : decode bN_space 9 = .ok (.invokevirtual 67, 3) := by decide +kernel
theorem dN_space_12 : decode bN_space 12 = .ok (.imul, 1) := by decide +kernel
theorem dN_space_13 : decode bN_space 13 = .ok (.ireturn, 1) := by decide +kernel
theorem dN_readStatements_0 : decode bN_readStatements 0 = .ok (.aload_n 0, 1) := by decide +kernel
theorem dN_readStatements_1 : decode bN_readStatements 1 = .ok (.getfield 10, 3) := by decide +kernel
theorem dN_readStatements_4 : decode bN_readStatements 4 = .ok (.invokevirtual 167, 3) := by decide +kernel
theorem dN_readStatements_7 : decode bN_readStatements 7 = .ok (.iconst 1, 1) := by decide +kernel
theorem dN_readStatements_8 : decode bN_readStatements 8 = .ok (.istore_n 1, 1) := by decide +kernel
theorem dN_readStatements_9 : decode bN_readStatements 9 = .ok (.iload_n 1, 1) := by decide +kernel
theorem dN_readStatements_10 : decode bN_readStatements 10 = .ok (.bipush 16, 2) := by decide +kernel
theorem dN_readStatements_12 : decode bN_readStatements 12 = .ok (.if_icmp .gt 62, 3) := by decide +kernel
theorem dN_readStatements_15 : decode bN_readStatements 15 = .ok (.aload_n 0, 1) := by decide +kernel
theorem dN_readStatements_16 : decode bN_readStatements 16 = .ok (.invokevirtual 170, 3) := by decide +kernel
theorem dN_readStatements_19 : decode bN_readStatements 19 = .ok (.ifCond .ne 11, 3) := by decide +kernel
theorem dN_readStatements_22 : decode bN_readStatements 22 = .ok (.aload_n 0, 1) := by decide +kernel
theorem dN_readStatements_23 : decode bN_readStatements 23 = .ok (.getfield 10, 3) := by decide +kernel
theorem dN_readStatements_26 : decode bN_readStatements 26 = .ok (.invokevirtual 174, 3) := by decide +kernel
theorem dN_readStatements_29 : decode bN_readStatements 29 = .ok (.ireturn, 1) := by decide +kernel
theorem dN_readStatements_30 : decode bN_readStatements 30 = .ok (.aload_n 0, 1) := by decide +kernel
theorem dN_readStatements_31 : decode bN_readStatements 31 = .ok (.getfield 10, 3) := by decide +kernel
theorem dN_readStatements_34 : decode bN_readStatements 34 = .ok (.invokevirtual 177, 3) := by decide +kernel
theorem dN_readStatements_37 : decode bN_readStatements 37 = .ok (.ifCond .eq 5, 3) := by decide +kernel
theorem dN_readStatements_40 : decode bN_readStatements 40 = .ok (.iload_n 1, 1) := by decide +kernel
theorem dN_readStatements_41 : decode bN_readStatements 41 = .ok (.ireturn, 1) := by decide +kernel
theorem dN_readStatements_42 : decode bN_readStatements 42 = .ok (.iload_n 1, 1) := by decide +kernel
theorem dN_readStatements_43 : decode bN_readStatements 43 = .ok (.bipush 16, 2) := by decide +kernel
theorem dN_readStatements_45 : decode bN_readStatements 45 = .ok (.if_icmp .eq 15, 3) := by decide +kernel
theorem dN_readStatements_48 : decode bN_readStatements 48 = .ok (.aload_n 0, 1) := by decide +kernel
theorem dN_readStatements_49 : decode bN_readStatements 49 = .ok (.getfield 10, 3) := by decide +kernel
theorem dN_readStatements_52 : decode bN_readStatements 52 = .ok (.bipush 59, 2) := by decide +kernel
theorem dN_readStatements_54 : decode bN_readStatements 54 = .ok (.invokevirtual 180, 3) := by decide +kernel
theorem dN_readStatements_57 : decode bN_readStatements 57 = .ok (.ifCond .ne 11, 3) := by decide +kernel
theorem dN_readStatements_60 : decode bN_readStatements 60 = .ok (.aload_n 0, 1) := by decide +kernel
theorem dN_readStatements_61 : decode bN_readStatements 61 = .ok (.getfield 10, 3) := by decide +kernel
theorem dN_readStatements_64 : decode bN_readStatements 64 = .ok (.invokevirtual 174, 3) := by decide +kernel
theorem dN_readStatements_67 : decode bN_readStatements 67 = .ok (.ireturn, 1) := by decide +kernel
theorem dN_readStatements_68 : decode bN_readStatements 68 = .ok (.iinc 1 1, 3) := by decide +kernel
theorem dN_readStatements_71 : decode bN_readStatements 71 = .ok (.goto (-62), 3) := by decide +kernel
theorem dN_readStatements_74 : decode bN_readStatements 74 = .ok (.aload_n 0, 1) := by decide +kernel
theorem dN_readStatements_75 : decode bN_readStatements 75 = .ok (.getfield 10, 3) := by decide +kernel
theorem dN_readStatements_78 : decode bN_readStatements 78 = .ok (.invokevirtual 174, 3) := by decide +kernel
theorem dN_readStatements_81 : decode bN_readStatements 81 = .ok (.ireturn, 1) := by decide +kernel
theorem dN_readStatement_0 : decode bN_readStatement 0 = .ok (.aload_n 0, 1) := by decide +kernel
theorem dN_readStatement_1 : decode bN_readStatement 1 = .ok (.getfield 10, 3) := by decide +kernel
theorem dN_readStatement_4 : decode bN_readStatement 4 = .ok (.invokevirtual 184, 3) := by decide +kernel
theorem dN_readStatement_7 : decode bN_readStatement 7 = .ok (.istore_n 1, 1) := by decide +kernel
theorem dN_readStatement_8 : decode bN_readStatement 8 = .ok (.iload_n 1, 1) := by decide +kernel
theorem dN_readStatement_9 : decode bN_readStatement 9 = .ok (.iconst (-1), 1) := by decide +kernel
theorem dN_readStatement_10 : decode bN_readStatement 10 = .ok (.if_icmp .eq 15, 3) := by decide +kernel
theorem dN_readStatement_13 : decode bN_readStatement 13 = .ok (.aload_n 0, 1) := by decide +kernel
theorem dN_readStatement_14 : decode bN_readStatement 14 = .ok (.getfield 10, 3) := by decide +kernel
theorem dN_readStatement_17 : decode bN_readStatement 17 = .ok (.bipush 32, 2) := by decide +kernel
theorem dN_readStatement_19 : decode bN_readStatement 19 = .ok (.invokevirtual 180, 3) := by decide +kernel
theorem dN_readStatement_22 : decode bN_readStatement 22 = .ok (.ifCond .ne 5, 3) := by decide +kernel
theorem dN_readStatement_25 : decode bN_readStatement 25 = .ok (.iconst 0, 1) := by decide +kernel
theorem dN_readStatement_26 : decode bN_readStatement 26 = .ok (.ireturn, 1) := by decide +kernel
theorem dN_readStatement_27 : decode bN_readStatement 27 = .ok (.aload_n 0, 1) := by decide +kernel
theorem dN_readStatement_28 : decode bN_readStatement 28 = .ok (.getfield 10, 3) := by decide +kernel
theorem dN_readStatement_31 : decode bN_readStatement 31 = .ok (.invokevirtual 187, 3) := by decide +kernel
theorem dN_readStatement_34 : decode bN_readStatement 34 = .ok (.istore_n 2, 1) := by decide +kernel
theorem dN_readStatement_35 : decode bN_readStatement 35 = .ok (.iload_n 2, 1) := by decide +kernel
theorem dN_readStatement_36 : decode bN_readStatement 36 = .ok (.iconst (-1), 1) := by decide +kernel
theorem dN_readStatement_37 : decode bN_readStatement 37 = .ok (.if_icmp .eq 15, 3) := by decide +kernel
theorem dN_readStatement_40 : decode bN_readStatement 40 = .ok (.aload_n 0, 1) := by decide +kernel
theorem dN_readStatement_41 : decode bN_readStatement 41 = .ok (.getfield 10, 3) := by decide +kernel
theorem dN_readStatement_44 : decode bN_readStatement 44 = .ok (.bipush 32, 2) := by decide +kernel
theorem dN_readStatement_46 : decode bN_readStatement 46 = .ok (.invokevirtual 180, 3) := by decide +kernel
theorem dN_readStatement_49 : decode bN_readStatement 49 = .ok (.ifCond .ne 5, 3) := by decide +kernel
theorem dN_readStatement_52 : decode bN_readStatement 52 = .ok (.iconst 0, 1) := by decide +kernel
theorem dN_readStatement_53 : decode bN_readStatement 53 = .ok (.ireturn, 1) := by decide +kernel
theorem dN_readStatement_54 : decode bN_readStatement 54 = .ok (.aload_n 0, 1) := by decide +kernel
theorem dN_readStatement_55 : decode bN_readStatement 55 = .ok (.getfield 10, 3) := by decide +kernel
theorem dN_readStatement_58 : decode bN_readStatement 58 = .ok (.invokevirtual 190, 3) := by decide +kernel
theorem dN_readStatement_61 : decode bN_readStatement 61 = .ok (.istore_n 3, 1) := by decide +kernel
theorem dN_readStatement_62 : decode bN_readStatement 62 = .ok (.iload_n 3, 1) := by decide +kernel
theorem dN_readStatement_63 : decode bN_readStatement 63 = .ok (.iconst (-1), 1) := by decide +kernel
theorem dN_readStatement_64 : decode bN_readStatement 64 = .ok (.if_icmp .ne 5, 3) := by decide +kernel
theorem dN_readStatement_67 : decode bN_readStatement 67 = .ok (.iconst 0, 1) := by decide +kernel
theorem dN_readStatement_68 : decode bN_readStatement 68 = .ok (.ireturn, 1) := by decide +kernel
theorem dN_readStatement_69 : decode bN_readStatement 69 = .ok (.aload_n 0, 1) := by decide +kernel
theorem dN_readStatement_70 : decode bN_readStatement 70 = .ok (.getfield 16, 3) := by decide +kernel
theorem dN_readStatement_73 : decode bN_readStatement 73 = .ok (.iload_n 1, 1) := by decide +kernel
theorem dN_readStatement_74 : decode bN_readStatement 74 = .ok (.bipush 7, 2) := by decide +kernel
theorem dN_readStatement_76 : decode bN_readStatement 76 = .ok (.imul, 1) := by decide +kernel
theorem dN_readStatement_77 : decode bN_readStatement 77 = .ok (.iload_n 2, 1) := by decide +kernel
theorem dN_readStatement_78 : decode bN_readStatement 78 = .ok (.iadd, 1) := by decide +kernel
theorem dN_readStatement_79 : decode bN_readStatement 79 = .ok (.iload_n 3, 1) := by decide +kernel
theorem dN_readStatement_80 : decode bN_readStatement 80 = .ok (.iastore, 1) := by decide +kernel
theorem dN_readStatement_81 : decode bN_readStatement 81 = .ok (.iconst 1, 1) := by decide +kernel
theorem dN_readStatement_82 : decode bN_readStatement 82 = .ok (.ireturn, 1) := by decide +kernel
theorem dN_leastFormula_0 : decode bN_leastFormula 0 = .ok (.iconst 0, 1) := by decide +kernel
theorem dN_leastFormula_1 : decode bN_leastFormula 1 = .ok (.istore 4, 2) := by decide +kernel
theorem dN_leastFormula_3 : decode bN_leastFormula 3 = .ok (.iconst 1, 1) := by decide +kernel
theorem dN_leastFormula_4 : decode bN_leastFormula 4 = .ok (.istore 5, 2) := by decide +kernel
theorem dN_leastFormula_6 : decode bN_leastFormula 6 = .ok (.iload 5, 2) := by decide +kernel
theorem dN_leastFormula_8 : decode bN_leastFormula 8 = .ok (.iconst 4, 1) := by decide +kernel
theorem dN_leastFormula_9 : decode bN_leastFormula 9 = .ok (.if_icmp .ge 35, 3) := by decide +kernel
theorem dN_leastFormula_12 : decode bN_leastFormula 12 = .ok (.aload_n 0, 1) := by decide +kernel
theorem dN_leastFormula_13 : decode bN_leastFormula 13 = .ok (.iload 5, 2) := by decide +kernel
theorem dN_leastFormula_15 : decode bN_leastFormula 15 = .ok (.iload_n 1, 1) := by decide +kernel
theorem dN_leastFormula_16 : decode bN_leastFormula 16 = .ok (.iload_n 2, 1) := by decide +kernel
theorem dN_leastFormula_17 : decode bN_leastFormula 17 = .ok (.iload_n 3, 1) := by decide +kernel
theorem dN_leastFormula_18 : decode bN_leastFormula 18 = .ok (.invokevirtual 85, 3) := by decide +kernel
theorem dN_leastFormula_21 : decode bN_leastFormula 21 = .ok (.aload_n 0, 1) := by decide +kernel
theorem dN_leastFormula_22 : decode bN_leastFormula 22 = .ok (.iload 4, 2) := by decide +kernel
theorem dN_leastFormula_24 : decode bN_leastFormula 24 = .ok (.iload_n 1, 1) := by decide +kernel
theorem dN_leastFormula_25 : decode bN_leastFormula 25 = .ok (.iload_n 2, 1) := by decide +kernel
theorem dN_leastFormula_26 : decode bN_leastFormula 26 = .ok (.iload_n 3, 1) := by decide +kernel
theorem dN_leastFormula_27 : decode bN_leastFormula 27 = .ok (.invokevirtual 85, 3) := by decide +kernel
theorem dN_leastFormula_30 : decode bN_leastFormula 30 = .ok (.lcmp, 1) := by decide +kernel
theorem dN_leastFormula_31 : decode bN_leastFormula 31 = .ok (.ifCond .ge 7, 3) := by decide +kernel
theorem dN_leastFormula_34 : decode bN_leastFormula 34 = .ok (.iload 5, 2) := by decide +kernel
theorem dN_leastFormula_36 : decode bN_leastFormula 36 = .ok (.istore 4, 2) := by decide +kernel
theorem dN_leastFormula_38 : decode bN_leastFormula 38 = .ok (.iinc 5 1, 3) := by decide +kernel
theorem dN_leastFormula_41 : decode bN_leastFormula 41 = .ok (.goto (-35), 3) := by decide +kernel
theorem dN_leastFormula_44 : decode bN_leastFormula 44 = .ok (.iload 4, 2) := by decide +kernel
theorem dN_leastFormula_46 : decode bN_leastFormula 46 = .ok (.ireturn, 1) := by decide +kernel
theorem dN_formula_0 : decode bN_formula 0 = .ok (.aload_n 0, 1) := by decide +kernel
theorem dN_formula_1 : decode bN_formula 1 = .ok (.iload_n 2, 1) := by decide +kernel
theorem dN_formula_2 : decode bN_formula 2 = .ok (.iconst 0, 1) := by decide +kernel
theorem dN_formula_3 : decode bN_formula 3 = .ok (.invokevirtual 67, 3) := by decide +kernel
theorem dN_formula_6 : decode bN_formula 6 = .ok (.i2l, 1) := by decide +kernel
theorem dN_formula_7 : decode bN_formula 7 = .ok (.lstore 5, 2) := by decide +kernel
theorem dN_formula_9 : decode bN_formula 9 = .ok (.aload_n 0, 1) := by decide +kernel
theorem dN_formula_10 : decode bN_formula 10 = .ok (.iload_n 2, 1) := by decide +kernel
theorem dN_formula_11 : decode bN_formula 11 = .ok (.iconst 1, 1) := by decide +kernel
theorem dN_formula_12 : decode bN_formula 12 = .ok (.invokevirtual 67, 3) := by decide +kernel
theorem dN_formula_15 : decode bN_formula 15 = .ok (.i2l, 1) := by decide +kernel
theorem dN_formula_16 : decode bN_formula 16 = .ok (.lstore 7, 2) := by decide +kernel
theorem dN_formula_18 : decode bN_formula 18 = .ok (.iload_n 1, 1) := by decide +kernel
theorem dN_formula_19 : decode bN_formula 19 = .ok (.tableswitch 60 0 2 #[25, 34, 44], 25) := by decide +kernel
theorem dN_formula_44 : decode bN_formula 44 = .ok (.lload 7, 2) := by decide +kernel
theorem dN_formula_46 : decode bN_formula 46 = .ok (.iload_n 3, 1) := by decide +kernel
theorem dN_formula_47 : decode bN_formula 47 = .ok (.i2l, 1) := by decide +kernel
theorem dN_formula_48 : decode bN_formula 48 = .ok (.lmul, 1) := by decide +kernel
theorem dN_formula_49 : decode bN_formula 49 = .ok (.lload 5, 2) := by decide +kernel
theorem dN_formula_51 : decode bN_formula 51 = .ok (.lmul, 1) := by decide +kernel
theorem dN_formula_52 : decode bN_formula 52 = .ok (.lreturn, 1) := by decide +kernel
theorem dN_formula_53 : decode bN_formula 53 = .ok (.lload 7, 2) := by decide +kernel
theorem dN_formula_55 : decode bN_formula 55 = .ok (.iload 4, 2) := by decide +kernel
theorem dN_formula_57 : decode bN_formula 57 = .ok (.i2l, 1) := by decide +kernel
theorem dN_formula_58 : decode bN_formula 58 = .ok (.lmul, 1) := by decide +kernel
theorem dN_formula_59 : decode bN_formula 59 = .ok (.lload 5, 2) := by decide +kernel
theorem dN_formula_61 : decode bN_formula 61 = .ok (.lmul, 1) := by decide +kernel
theorem dN_formula_62 : decode bN_formula 62 = .ok (.lreturn, 1) := by decide +kernel
theorem dN_formula_63 : decode bN_formula 63 = .ok (.lload 7, 2) := by decide +kernel
theorem dN_formula_65 : decode bN_formula 65 = .ok (.iload_n 3, 1) := by decide +kernel
theorem dN_formula_66 : decode bN_formula 66 = .ok (.iload 4, 2) := by decide +kernel
theorem dN_formula_68 : decode bN_formula 68 = .ok (.iadd, 1) := by decide +kernel
theorem dN_formula_69 : decode bN_formula 69 = .ok (.i2l, 1) := by decide +kernel
theorem dN_formula_70 : decode bN_formula 70 = .ok (.lmul, 1) := by decide +kernel
theorem dN_formula_71 : decode bN_formula 71 = .ok (.lload 5, 2) := by decide +kernel
theorem dN_formula_73 : decode bN_formula 73 = .ok (.lmul, 1) := by decide +kernel
theorem dN_formula_74 : decode bN_formula 74 = .ok (.ldc2_w 193, 3) := by decide +kernel
theorem dN_formula_77 : decode bN_formula 77 = .ok (.ldiv, 1) := by decide +kernel
theorem dN_formula_78 : decode bN_formula 78 = .ok (.lreturn, 1) := by decide +kernel
theorem dN_formula_79 : decode bN_formula 79 = .ok (.lload 7, 2) := by decide +kernel
theorem dN_formula_81 : decode bN_formula 81 = .ok (.lload 5, 2) := by decide +kernel
theorem dN_formula_83 : decode bN_formula 83 = .ok (.lmul, 1) := by decide +kernel
theorem dN_formula_84 : decode bN_formula 84 = .ok (.lload 5, 2) := by decide +kernel
theorem dN_formula_86 : decode bN_formula 86 = .ok (.lmul, 1) := by decide +kernel
theorem dN_formula_87 : decode bN_formula 87 = .ok (.ldc2_w 195, 3) := by decide +kernel
theorem dN_formula_90 : decode bN_formula 90 = .ok (.lmul, 1) := by decide +kernel
theorem dN_formula_91 : decode bN_formula 91 = .ok (.lreturn, 1) := by decide +kernel
theorem dN_heldByRow_0 : decode bN_heldByRow 0 = .ok (.bipush 50, 2) := by decide +kernel
theorem dN_heldByRow_2 : decode bN_heldByRow 2 = .ok (.bipush 100, 2) := by decide +kernel
theorem dN_heldByRow_4 : decode bN_heldByRow 4 = .ok (.aload_n 0, 1) := by decide +kernel
theorem dN_heldByRow_5 : decode bN_heldByRow 5 = .ok (.getfield 24, 3) := by decide +kernel
theorem dN_heldByRow_8 : decode bN_heldByRow 8 = .ok (.iload_n 1, 1) := by decide +kernel
theorem dN_heldByRow_9 : decode bN_heldByRow 9 = .ok (.iconst 1, 1) := by decide +kernel
theorem dN_heldByRow_10 : decode bN_heldByRow 10 = .ok (.isub, 1) := by decide +kernel
theorem dN_heldByRow_11 : decode bN_heldByRow 11 = .ok (.imul, 1) := by decide +kernel
theorem dN_heldByRow_12 : decode bN_heldByRow 12 = .ok (.isub, 1) := by decide +kernel
theorem dN_heldByRow_13 : decode bN_heldByRow 13 = .ok (.invokestatic 197, 3) := by decide +kernel
theorem dN_heldByRow_16 : decode bN_heldByRow 16 = .ok (.istore 4, 2) := by decide +kernel
theorem dN_heldByRow_18 : decode bN_heldByRow 18 = .ok (.iload_n 1, 1) := by decide +kernel
theorem dN_heldByRow_19 : decode bN_heldByRow 19 = .ok (.i2l, 1) := by decide +kernel
theorem dN_heldByRow_20 : decode bN_heldByRow 20 = .ok (.lload_n 2, 1) := by decide +kernel
theorem dN_heldByRow_21 : decode bN_heldByRow 21 = .ok (.lmul, 1) := by decide +kernel
theorem dN_heldByRow_22 : decode bN_heldByRow 22 = .ok (.iload 4, 2) := by decide +kernel
theorem dN_heldByRow_24 : decode bN_heldByRow 24 = .ok (.i2l, 1) := by decide +kernel
theorem dN_heldByRow_25 : decode bN_heldByRow 25 = .ok (.lmul, 1) := by decide +kernel
theorem dN_heldByRow_26 : decode bN_heldByRow 26 = .ok (.ldc2_w 71, 3) := by decide +kernel
theorem dN_heldByRow_29 : decode bN_heldByRow 29 = .ok (.ldiv, 1) := by decide +kernel
theorem dN_heldByRow_30 : decode bN_heldByRow 30 = .ok (.lreturn, 1) := by decide +kernel
theorem dN_fitting_0 : decode bN_fitting 0 = .ok (.iload_n 0, 1) := by decide +kernel
theorem dN_fitting_1 : decode bN_fitting 1 = .ok (.iconst 2, 1) := by decide +kernel
theorem dN_fitting_2 : decode bN_fitting 2 = .ok (.iload_n 1, 1) := by decide +kernel
theorem dN_fitting_3 : decode bN_fitting 3 = .ok (.imul, 1) := by decide +kernel
theorem dN_fitting_4 : decode bN_fitting 4 = .ok (.isub, 1) := by decide +kernel
theorem dN_fitting_5 : decode bN_fitting 5 = .ok (.istore_n 3, 1) := by decide +kernel
theorem dN_fitting_6 : decode bN_fitting 6 = .ok (.iload_n 3, 1) := by decide +kernel
theorem dN_fitting_7 : decode bN_fitting 7 = .ok (.ifCond .lt 8, 3) := by decide +kernel
theorem dN_fitting_10 : decode bN_fitting 10 = .ok (.iload_n 2, 1) := by decide +kernel
theorem dN_fitting_11 : decode bN_fitting 11 = .ok (.iconst 1, 1) := by decide +kernel
theorem dN_fitting_12 : decode bN_fitting 12 = .ok (.if_icmp .ge 5, 3) := by decide +kernel
theorem dN_fitting_15 : decode bN_fitting 15 = .ok (.iconst 0, 1) := by decide +kernel
theorem dN_fitting_16 : decode bN_fitting 16 = .ok (.ireturn, 1) := by decide +kernel
theorem dN_fitting_17 : decode bN_fitting 17 = .ok (.iload_n 3, 1) := by decide +kernel
theorem dN_fitting_18 : decode bN_fitting 18 = .ok (.iload_n 2, 1) := by decide +kernel
theorem dN_fitting_19 : decode bN_fitting 19 = .ok (.idiv, 1) := by decide +kernel
theorem dN_fitting_20 : decode bN_fitting 20 = .ok (.iconst 1, 1) := by decide +kernel
theorem dN_fitting_21 : decode bN_fitting 21 = .ok (.iadd, 1) := by decide +kernel
theorem dN_fitting_22 : decode bN_fitting 22 = .ok (.ireturn, 1) := by decide +kernel
theorem dN_layOut_0 : decode bN_layOut 0 = .ok (.iconst 0, 1) := by decide +kernel
theorem dN_layOut_1 : decode bN_layOut 1 = .ok (.istore 4, 2) := by decide +kernel
theorem dN_layOut_3 : decode bN_layOut 3 = .ok (.iconst 0, 1) := by decide +kernel
theorem dN_layOut_4 : decode bN_layOut 4 = .ok (.istore 5, 2) := by decide +kernel
theorem dN_layOut_6 : decode bN_layOut 6 = .ok (.iconst 0, 1) := by decide +kernel
theorem dN_layOut_7 : decode bN_layOut 7 = .ok (.istore 6, 2) := by decide +kernel
theorem dN_layOut_9 : decode bN_layOut 9 = .ok (.iload 6, 2) := by decide +kernel
theorem dN_layOut_11 : decode bN_layOut 11 = .ok (.iload_n 3, 1) := by decide +kernel
theorem dN_layOut_12 : decode bN_layOut 12 = .ok (.if_icmp .ge 70, 3) := by decide +kernel
theorem dN_layOut_15 : decode bN_layOut 15 = .ok (.aload_n 0, 1) := by decide +kernel
theorem dN_layOut_16 : decode bN_layOut 16 = .ok (.getfield 27, 3) := by decide +kernel
theorem dN_layOut_19 : decode bN_layOut 19 = .ok (.iload 6, 2) := by decide +kernel
theorem dN_layOut_21 : decode bN_layOut 21 = .ok (.aload_n 0, 1) := by decide +kernel
theorem dN_layOut_22 : decode bN_layOut 22 = .ok (.iload_n 1, 1) := by decide +kernel
theorem dN_layOut_23 : decode bN_layOut 23 = .ok (.iconst 3, 1) := by decide +kernel
theorem dN_layOut_24 : decode bN_layOut 24 = .ok (.invokevirtual 99, 3) := by decide +kernel
theorem dN_layOut_27 : decode bN_layOut 27 = .ok (.iload 4, 2) := by decide +kernel
theorem dN_layOut_29 : decode bN_layOut 29 = .ok (.aload_n 0, 1) := by decide +kernel
theorem dN_layOut_30 : decode bN_layOut 30 = .ok (.iload_n 1, 1) := by decide +kernel
theorem dN_layOut_31 : decode bN_layOut 31 = .ok (.iconst 4, 1) := by decide +kernel
theorem dN_layOut_32 : decode bN_layOut 32 = .ok (.invokevirtual 99, 3) := by decide +kernel
theorem dN_layOut_35 : decode bN_layOut 35 = .ok (.imul, 1) := by decide +kernel
theorem dN_layOut_36 : decode bN_layOut 36 = .ok (.iadd, 1) := by decide +kernel
theorem dN_layOut_37 : decode bN_layOut 37 = .ok (.iastore, 1) := by decide +kernel
theorem dN_layOut_38 : decode bN_layOut 38 = .ok (.aload_n 0, 1) := by decide +kernel
theorem dN_layOut_39 : decode bN_layOut 39 = .ok (.getfield 30, 3) := by decide +kernel
theorem dN_layOut_42 : decode bN_layOut 42 = .ok (.iload 6, 2) := by decide +kernel
theorem dN_layOut_44 : decode bN_layOut 44 = .ok (.aload_n 0, 1) := by decide +kernel
theorem dN_layOut_45 : decode bN_layOut 45 = .ok (.iload_n 1, 1) := by decide +kernel
theorem dN_layOut_46 : decode bN_layOut 46 = .ok (.iconst 2, 1) := by decide +kernel
theorem dN_layOut_47 : decode bN_layOut 47 = .ok (.invokevirtual 99, 3) := by decide +kernel
theorem dN_layOut_50 : decode bN_layOut 50 = .ok (.iload 5, 2) := by decide +kernel
theorem dN_layOut_52 : decode bN_layOut 52 = .ok (.aload_n 0, 1) := by decide +kernel
theorem dN_layOut_53 : decode bN_layOut 53 = .ok (.iload_n 1, 1) := by decide +kernel
theorem dN_layOut_54 : decode bN_layOut 54 = .ok (.iconst 5, 1) := by decide +kernel
theorem dN_layOut_55 : decode bN_layOut 55 = .ok (.invokevirtual 99, 3) := by decide +kernel
theorem dN_layOut_58 : decode bN_layOut 58 = .ok (.imul, 1) := by decide +kernel
theorem dN_layOut_59 : decode bN_layOut 59 = .ok (.iadd, 1) := by decide +kernel
theorem dN_layOut_60 : decode bN_layOut 60 = .ok (.iastore, 1) := by decide +kernel
theorem dN_layOut_61 : decode bN_layOut 61 = .ok (.iinc 4 1, 3) := by decide +kernel
theorem dN_layOut_64 : decode bN_layOut 64 = .ok (.iload 4, 2) := by decide +kernel
theorem dN_layOut_66 : decode bN_layOut 66 = .ok (.iload_n 2, 1) := by decide +kernel
theorem dN_layOut_67 : decode bN_layOut 67 = .ok (.if_icmp .ne 9, 3) := by decide +kernel
theorem dN_layOut_70 : decode bN_layOut 70 = .ok (.iconst 0, 1) := by decide +kernel
theorem dN_layOut_71 : decode bN_layOut 71 = .ok (.istore 4, 2) := by decide +kernel
theorem dN_layOut_73 : decode bN_layOut 73 = .ok (.iinc 5 1, 3) := by decide +kernel
theorem dN_layOut_76 : decode bN_layOut 76 = .ok (.iinc 6 1, 3) := by decide +kernel
theorem dN_layOut_79 : decode bN_layOut 79 = .ok (.goto (-70), 3) := by decide +kernel
theorem dN_layOut_82 : decode bN_layOut 82 = .ok (.aload_n 0, 1) := by decide +kernel
theorem dN_layOut_83 : decode bN_layOut 83 = .ok (.iload_n 3, 1) := by decide +kernel
theorem dN_layOut_84 : decode bN_layOut 84 = .ok (.putfield 33, 3) := by decide +kernel
theorem dN_layOut_87 : decode bN_layOut 87 = .ok (.return_, 1) := by decide +kernel
theorem dN_firstNearSide_0 : decode bN_firstNearSide 0 = .ok (.aload_n 0, 1) := by decide +kernel
theorem dN_firstNearSide_1 : decode bN_firstNearSide 1 = .ok (.iload_n 1, 1) := by decide +kernel
theorem dN_firstNearSide_2 : decode bN_firstNearSide 2 = .ok (.iconst 3, 1) := by decide +kernel
theorem dN_firstNearSide_3 : decode bN_firstNearSide 3 = .ok (.invokevirtual 99, 3) := by decide +kernel
theorem dN_firstNearSide_6 : decode bN_firstNearSide 6 = .ok (.istore 4, 2) := by decide +kernel
theorem dN_firstNearSide_8 : decode bN_firstNearSide 8 = .ok (.aload_n 0, 1) := by decide +kernel
theorem dN_firstNearSide_9 : decode bN_firstNearSide 9 = .ok (.iload_n 1, 1) := by decide +kernel
theorem dN_firstNearSide_10 : decode bN_firstNearSide 10 = .ok (.iconst 2, 1) := by decide +kernel
theorem dN_firstNearSide_11 : decode bN_firstNearSide 11 = .ok (.invokevirtual 99, 3) := by decide +kernel
theorem dN_firstNearSide_14 : decode bN_firstNearSide 14 = .ok (.istore 5, 2) := by decide +kernel
theorem dN_firstNearSide_16 : decode bN_firstNearSide 16 = .ok (.iconst 0, 1) := by decide +kernel
theorem dN_firstNearSide_17 : decode bN_firstNearSide 17 = .ok (.istore 6, 2) := by decide +kernel
theorem dN_firstNearSide_19 : decode bN_firstNearSide 19 = .ok (.iload 6, 2) := by decide +kernel
theorem dN_firstNearSide_21 : decode bN_firstNearSide 21 = .ok (.aload_n 0, 1) := by decide +kernel
theorem dN_firstNearSide_22 : decode bN_firstNearSide 22 = .ok (.getfield 42, 3) := by decide +kernel
theorem dN_firstNearSide_25 : decode bN_firstNearSide 25 = .ok (.if_icmp .ge 68, 3) := by decide +kernel
theorem dN_firstNearSide_28 : decode bN_firstNearSide 28 = .ok (.aload_n 0, 1) := by decide +kernel
theorem dN_firstNearSide_29 : decode bN_firstNearSide 29 = .ok (.getfield 36, 3) := by decide +kernel
theorem dN_firstNearSide_32 : decode bN_firstNearSide 32 = .ok (.iload 6, 2) := by decide +kernel
theorem dN_firstNearSide_34 : decode bN_firstNearSide 34 = .ok (.iaload, 1) := by decide +kernel
theorem dN_firstNearSide_35 : decode bN_firstNearSide 35 = .ok (.iload_n 2, 1) := by decide +kernel
theorem dN_firstNearSide_36 : decode bN_firstNearSide 36 = .ok (.aload_n 0, 1) := by decide +kernel
theorem dN_firstNearSide_37 : decode bN_firstNearSide 37 = .ok (.getfield 36, 3) := by decide +kernel
theorem dN_firstNearSide_40 : decode bN_firstNearSide 40 = .ok (.iload 6, 2) := by decide +kernel
theorem dN_firstNearSide_42 : decode bN_firstNearSide 42 = .ok (.iaload, 1) := by decide +kernel
theorem dN_firstNearSide_43 : decode bN_firstNearSide 43 = .ok (.isub, 1) := by decide +kernel
theorem dN_firstNearSide_44 : decode bN_firstNearSide 44 = .ok (.invokestatic 202, 3) := by decide +kernel
theorem dN_firstNearSide_47 : decode bN_firstNearSide 47 = .ok (.istore 7, 2) := by decide +kernel
theorem dN_firstNearSide_49 : decode bN_firstNearSide 49 = .ok (.aload_n 0, 1) := by decide +kernel
theorem dN_firstNearSide_50 : decode bN_firstNearSide 50 = .ok (.getfield 39, 3) := by decide +kernel
theorem dN_firstNearSide_53 : decode bN_firstNearSide 53 = .ok (.iload 6, 2) := by decide +kernel
theorem dN_firstNearSide_55 : decode bN_firstNearSide 55 = .ok (.iaload, 1) := by decide +kernel
theorem dN_firstNearSide_56 : decode bN_firstNearSide 56 = .ok (.iload_n 3, 1) := by decide +kernel
theorem dN_firstNearSide_57 : decode bN_firstNearSide 57 = .ok (.aload_n 0, 1) := by decide +kernel
theorem dN_firstNearSide_58 : decode bN_firstNearSide 58 = .ok (.getfield 39, 3) := by decide +kernel
theorem dN_firstNearSide_61 : decode bN_firstNearSide 61 = .ok (.iload 6, 2) := by decide +kernel
theorem dN_firstNearSide_63 : decode bN_firstNearSide 63 = .ok (.iaload, 1) := by decide +kernel
theorem dN_firstNearSide_64 : decode bN_firstNearSide 64 = .ok (.isub, 1) := by decide +kernel
theorem dN_firstNearSide_65 : decode bN_firstNearSide 65 = .ok (.invokestatic 202, 3) := by decide +kernel
theorem dN_firstNearSide_68 : decode bN_firstNearSide 68 = .ok (.istore 8, 2) := by decide +kernel
theorem dN_firstNearSide_70 : decode bN_firstNearSide 70 = .ok (.iload 7, 2) := by decide +kernel
theorem dN_firstNearSide_72 : decode bN_firstNearSide 72 = .ok (.iload 4, 2) := by decide +kernel
theorem dN_firstNearSide_74 : decode bN_firstNearSide 74 = .ok (.if_icmp .lt 10, 3) := by decide +kernel
theorem dN_firstNearSide_77 : decode bN_firstNearSide 77 = .ok (.iload 8, 2) := by decide +kernel
theorem dN_firstNearSide_79 : decode bN_firstNearSide 79 = .ok (.iload 5, 2) := by decide +kernel
theorem dN_firstNearSide_81 : decode bN_firstNearSide 81 = .ok (.if_icmp .ge 6, 3) := by decide +kernel
theorem dN_firstNearSide_84 : decode bN_firstNearSide 84 = .ok (.iload 6, 2) := by decide +kernel
theorem dN_firstNearSide_86 : decode bN_firstNearSide 86 = .ok (.ireturn, 1) := by decide +kernel
theorem dN_firstNearSide_87 : decode bN_firstNearSide 87 = .ok (.iinc 6 1, 3) := by decide +kernel
theorem dN_firstNearSide_90 : decode bN_firstNearSide 90 = .ok (.goto (-71), 3) := by decide +kernel
theorem dN_firstNearSide_93 : decode bN_firstNearSide 93 = .ok (.iconst (-1), 1) := by decide +kernel
theorem dN_firstNearSide_94 : decode bN_firstNearSide 94 = .ok (.ireturn, 1) := by decide +kernel
theorem dN_firstNearPair_0 : decode bN_firstNearPair 0 = .ok (.iconst 0, 1) := by decide +kernel
theorem dN_firstNearPair_1 : decode bN_firstNearPair 1 = .ok (.istore_n 3, 1) := by decide +kernel
theorem dN_firstNearPair_2 : decode bN_firstNearPair 2 = .ok (.iload_n 3, 1) := by decide +kernel
theorem dN_firstNearPair_3 : decode bN_firstNearPair 3 = .ok (.aload_n 0, 1) := by decide +kernel
theorem dN_firstNearPair_4 : decode bN_firstNearPair 4 = .ok (.getfield 42, 3) := by decide +kernel
theorem dN_firstNearPair_7 : decode bN_firstNearPair 7 = .ok (.if_icmp .ge 51, 3) := by decide +kernel
theorem dN_firstNearPair_10 : decode bN_firstNearPair 10 = .ok (.iload_n 3, 1) := by decide +kernel
theorem dN_firstNearPair_11 : decode bN_firstNearPair 11 = .ok (.iconst 1, 1) := by decide +kernel
theorem dN_firstNearPair_12 : decode bN_firstNearPair 12 = .ok (.iadd, 1) := by decide +kernel
theorem dN_firstNearPair_13 : decode bN_firstNearPair 13 = .ok (.istore 4, 2) := by decide +kernel
theorem dN_firstNearPair_15 : decode bN_firstNearPair 15 = .ok (.iload 4, 2) := by decide +kernel
theorem dN_firstNearPair_17 : decode bN_firstNearPair 17 = .ok (.aload_n 0, 1) := by decide +kernel
theorem dN_firstNearPair_18 : decode bN_firstNearPair 18 = .ok (.getfield 42, 3) := by decide +kernel
theorem dN_firstNearPair_21 : decode bN_firstNearPair 21 = .ok (.if_icmp .ge 31, 3) := by decide +kernel
theorem dN_firstNearPair_24 : decode bN_firstNearPair 24 = .ok (.aload_n 0, 1) := by decide +kernel
theorem dN_firstNearPair_25 : decode bN_firstNearPair 25 = .ok (.iload_n 3, 1) := by decide +kernel
theorem dN_firstNearPair_26 : decode bN_firstNearPair 26 = .ok (.iload 4, 2) := by decide +kernel
theorem dN_firstNearPair_28 : decode bN_firstNearPair 28 = .ok (.invokevirtual 205, 3) := by decide +kernel
theorem dN_firstNearPair_31 : decode bN_firstNearPair 31 = .ok (.lload_n 1, 1) := by decide +kernel
theorem dN_firstNearPair_32 : decode bN_firstNearPair 32 = .ok (.lload_n 1, 1) := by decide +kernel
theorem dN_firstNearPair_33 : decode bN_firstNearPair 33 = .ok (.lmul, 1) := by decide +kernel
theorem dN_firstNearPair_34 : decode bN_firstNearPair 34 = .ok (.lcmp, 1) := by decide +kernel
theorem dN_firstNearPair_35 : decode bN_firstNearPair 35 = .ok (.ifCond .ge 11, 3) := by decide +kernel
theorem dN_firstNearPair_38 : decode bN_firstNearPair 38 = .ok (.iload_n 3, 1) := by decide +kernel
theorem dN_firstNearPair_39 : decode bN_firstNearPair 39 = .ok (.bipush 32, 2) := by decide +kernel
theorem dN_firstNearPair_41 : decode bN_firstNearPair 41 = .ok (.imul, 1) := by decide +kernel
theorem dN_firstNearPair_42 : decode bN_firstNearPair 42 = .ok (.iload 4, 2) := by decide +kernel
theorem dN_firstNearPair_44 : decode bN_firstNearPair 44 = .ok (.iadd, 1) := by decide +kernel
theorem dN_firstNearPair_45 : decode bN_firstNearPair 45 = .ok (.ireturn, 1) := by decide +kernel
theorem dN_firstNearPair_46 : decode bN_firstNearPair 46 = .ok (.iinc 4 1, 3) := by decide +kernel
theorem dN_firstNearPair_49 : decode bN_firstNearPair 49 = .ok (.goto (-34), 3) := by decide +kernel
theorem dN_firstNearPair_52 : decode bN_firstNearPair 52 = .ok (.iinc 3 1, 3) := by decide +kernel
theorem dN_firstNearPair_55 : decode bN_firstNearPair 55 = .ok (.goto (-53), 3) := by decide +kernel
theorem dN_firstNearPair_58 : decode bN_firstNearPair 58 = .ok (.iconst (-1), 1) := by decide +kernel
theorem dN_firstNearPair_59 : decode bN_firstNearPair 59 = .ok (.ireturn, 1) := by decide +kernel
theorem dN_squareBetween_0 : decode bN_squareBetween 0 = .ok (.aload_n 0, 1) := by decide +kernel
theorem dN_squareBetween_1 : decode bN_squareBetween 1 = .ok (.getfield 36, 3) := by decide +kernel
theorem dN_squareBetween_4 : decode bN_squareBetween 4 = .ok (.iload_n 1, 1) := by decide +kernel
theorem dN_squareBetween_5 : decode bN_squareBetween 5 = .ok (.iaload, 1) := by decide +kernel
theorem dN_squareBetween_6 : decode bN_squareBetween 6 = .ok (.aload_n 0, 1) := by decide +kernel
theorem dN_squareBetween_7 : decode bN_squareBetween 7 = .ok (.getfield 36, 3) := by decide +kernel
theorem dN_squareBetween_10 : decode bN_squareBetween 10 = .ok (.iload_n 2, 1) := by decide +kernel
theorem dN_squareBetween_11 : decode bN_squareBetween 11 = .ok (.iaload, 1) := by decide +kernel
theorem dN_squareBetween_12 : decode bN_squareBetween 12 = .ok (.isub, 1) := by decide +kernel
theorem dN_squareBetween_13 : decode bN_squareBetween 13 = .ok (.i2l, 1) := by decide +kernel
theorem dN_squareBetween_14 : decode bN_squareBetween 14 = .ok (.lstore_n 3, 1) := by decide +kernel
theorem dN_squareBetween_15 : decode bN_squareBetween 15 = .ok (.aload_n 0, 1) := by decide +kernel
theorem dN_squareBetween_16 : decode bN_squareBetween 16 = .ok (.getfield 39, 3) := by decide +kernel
theorem dN_squareBetween_19 : decode bN_squareBetween 19 = .ok (.iload_n 1, 1) := by decide +kernel
theorem dN_squareBetween_20 : decode bN_squareBetween 20 = .ok (.iaload, 1) := by decide +kernel
theorem dN_squareBetween_21 : decode bN_squareBetween 21 = .ok (.aload_n 0, 1) := by decide +kernel
theorem dN_squareBetween_22 : decode bN_squareBetween 22 = .ok (.getfield 39, 3) := by decide +kernel
theorem dN_squareBetween_25 : decode bN_squareBetween 25 = .ok (.iload_n 2, 1) := by decide +kernel
theorem dN_squareBetween_26 : decode bN_squareBetween 26 = .ok (.iaload, 1) := by decide +kernel
theorem dN_squareBetween_27 : decode bN_squareBetween 27 = .ok (.isub, 1) := by decide +kernel
theorem dN_squareBetween_28 : decode bN_squareBetween 28 = .ok (.i2l, 1) := by decide +kernel
theorem dN_squareBetween_29 : decode bN_squareBetween 29 = .ok (.lstore 5, 2) := by decide +kernel
theorem dN_squareBetween_31 : decode bN_squareBetween 31 = .ok (.lload_n 3, 1) := by decide +kernel
theorem dN_squareBetween_32 : decode bN_squareBetween 32 = .ok (.lload_n 3, 1) := by decide +kernel
theorem dN_squareBetween_33 : decode bN_squareBetween 33 = .ok (.lmul, 1) := by decide +kernel
theorem dN_squareBetween_34 : decode bN_squareBetween 34 = .ok (.lload 5, 2) := by decide +kernel
theorem dN_squareBetween_36 : decode bN_squareBetween 36 = .ok (.lload 5, 2) := by decide +kernel
theorem dN_squareBetween_38 : decode bN_squareBetween 38 = .ok (.lmul, 1) := by decide +kernel
theorem dN_squareBetween_39 : decode bN_squareBetween 39 = .ok (.ladd, 1) := by decide +kernel
theorem dN_squareBetween_40 : decode bN_squareBetween 40 = .ok (.lreturn, 1) := by decide +kernel
theorem dN_wordOf_0 : decode bN_wordOf 0 = .ok (.iload_n 0, 1) := by decide +kernel
theorem dN_wordOf_1 : decode bN_wordOf 1 = .ok (.tableswitch 57 0 5 #[39, 42, 45, 48, 51, 54], 39) := by decide +kernel
theorem dN_wordOf_40 : decode bN_wordOf 40 = .ok (.ldc 209, 2) := by decide +kernel
theorem dN_wordOf_42 : decode bN_wordOf 42 = .ok (.areturn, 1) := by decide +kernel
theorem dN_wordOf_43 : decode bN_wordOf 43 = .ok (.ldc 210, 2) := by decide +kernel
theorem dN_wordOf_45 : decode bN_wordOf 45 = .ok (.areturn, 1) := by decide +kernel
theorem dN_wordOf_46 : decode bN_wordOf 46 = .ok (.ldc 212, 2) := by decide +kernel
theorem dN_wordOf_48 : decode bN_wordOf 48 = .ok (.areturn, 1) := by decide +kernel
theorem dN_wordOf_49 : decode bN_wordOf 49 = .ok (.ldc 214, 2) := by decide +kernel
theorem dN_wordOf_51 : decode bN_wordOf 51 = .ok (.areturn, 1) := by decide +kernel
theorem dN_wordOf_52 : decode bN_wordOf 52 = .ok (.ldc 216, 2) := by decide +kernel
theorem dN_wordOf_54 : decode bN_wordOf 54 = .ok (.areturn, 1) := by decide +kernel
theorem dN_wordOf_55 : decode bN_wordOf 55 = .ok (.ldc 218, 2) := by decide +kernel
theorem dN_wordOf_57 : decode bN_wordOf 57 = .ok (.areturn, 1) := by decide +kernel
theorem dN_wordOf_58 : decode bN_wordOf 58 = .ok (.ldc 220, 2) := by decide +kernel
theorem dN_wordOf_60 : decode bN_wordOf 60 = .ok (.areturn, 1) := by decide +kernel
