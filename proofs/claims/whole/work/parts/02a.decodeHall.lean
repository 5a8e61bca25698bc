theorem dc_Worker_init_0 : decode prog_11_method_1_code 0 = .ok (.aload_n 0, 1) := by decide +kernel
theorem dc_Worker_init_1 : decode prog_11_method_1_code 1 = .ok (.invokespecial 3, 3) := by decide +kernel
theorem dc_Worker_init_4 : decode prog_11_method_1_code 4 = .ok (.aload_n 0, 1) := by decide +kernel
theorem dc_Worker_init_5 : decode prog_11_method_1_code 5 = .ok (.iload_n 1, 1) := by decide +kernel
theorem dc_Worker_init_6 : decode prog_11_method_1_code 6 = .ok (.putfield 9, 3) := by decide +kernel
theorem dc_Worker_init_9 : decode prog_11_method_1_code 9 = .ok (.aload_n 0, 1) := by decide +kernel
theorem dc_Worker_init_10 : decode prog_11_method_1_code 10 = .ok (.iconst (-1), 1) := by decide +kernel
theorem dc_Worker_init_11 : decode prog_11_method_1_code 11 = .ok (.putfield 15, 3) := by decide +kernel
theorem dc_Worker_init_14 : decode prog_11_method_1_code 14 = .ok (.return_, 1) := by decide +kernel
theorem dc_LockOrder_init_0 : decode prog_6_method_1_code 0 = .ok (.aload_n 0, 1) := by decide +kernel
theorem dc_LockOrder_init_1 : decode prog_6_method_1_code 1 = .ok (.invokespecial 3, 3) := by decide +kernel
theorem dc_LockOrder_init_4 : decode prog_6_method_1_code 4 = .ok (.aload_n 0, 1) := by decide +kernel
theorem dc_LockOrder_init_5 : decode prog_6_method_1_code 5 = .ok (.bipush 8, 2) := by decide +kernel
theorem dc_LockOrder_init_7 : decode prog_6_method_1_code 7 = .ok (.newarray .int, 2) := by decide +kernel
theorem dc_LockOrder_init_9 : decode prog_6_method_1_code 9 = .ok (.putfield 9, 3) := by decide +kernel
theorem dc_LockOrder_init_12 : decode prog_6_method_1_code 12 = .ok (.aload_n 0, 1) := by decide +kernel
theorem dc_LockOrder_init_13 : decode prog_6_method_1_code 13 = .ok (.iconst 0, 1) := by decide +kernel
theorem dc_LockOrder_init_14 : decode prog_6_method_1_code 14 = .ok (.putfield 15, 3) := by decide +kernel
theorem dc_LockOrder_init_17 : decode prog_6_method_1_code 17 = .ok (.aload_n 0, 1) := by decide +kernel
theorem dc_LockOrder_init_18 : decode prog_6_method_1_code 18 = .ok (.iconst 0, 1) := by decide +kernel
theorem dc_LockOrder_init_19 : decode prog_6_method_1_code 19 = .ok (.putfield 19, 3) := by decide +kernel
theorem dc_LockOrder_init_22 : decode prog_6_method_1_code 22 = .ok (.return_, 1) := by decide +kernel
theorem dc_Hall_init_0 : decode prog_1_method_1_code 0 = .ok (.aload_n 0, 1) := by decide +kernel
theorem dc_Hall_init_1 : decode prog_1_method_1_code 1 = .ok (.invokespecial 1, 3) := by decide +kernel
theorem dc_Hall_init_4 : decode prog_1_method_1_code 4 = .ok (.aload_n 0, 1) := by decide +kernel
theorem dc_Hall_init_5 : decode prog_1_method_1_code 5 = .ok (.bipush 6, 2) := by decide +kernel
theorem dc_Hall_init_7 : decode prog_1_method_1_code 7 = .ok (.anewarray 9, 3) := by decide +kernel
theorem dc_Hall_init_10 : decode prog_1_method_1_code 10 = .ok (.putfield 11, 3) := by decide +kernel
theorem dc_Hall_init_13 : decode prog_1_method_1_code 13 = .ok (.iconst 0, 1) := by decide +kernel
theorem dc_Hall_init_14 : decode prog_1_method_1_code 14 = .ok (.istore_n 1, 1) := by decide +kernel
theorem dc_Hall_init_15 : decode prog_1_method_1_code 15 = .ok (.iload_n 1, 1) := by decide +kernel
theorem dc_Hall_init_16 : decode prog_1_method_1_code 16 = .ok (.bipush 6, 2) := by decide +kernel
theorem dc_Hall_init_18 : decode prog_1_method_1_code 18 = .ok (.if_icmp .ge 23, 3) := by decide +kernel
theorem dc_Hall_init_21 : decode prog_1_method_1_code 21 = .ok (.aload_n 0, 1) := by decide +kernel
theorem dc_Hall_init_22 : decode prog_1_method_1_code 22 = .ok (.getfield 11, 3) := by decide +kernel
theorem dc_Hall_init_25 : decode prog_1_method_1_code 25 = .ok (.iload_n 1, 1) := by decide +kernel
theorem dc_Hall_init_26 : decode prog_1_method_1_code 26 = .ok (.new 9, 3) := by decide +kernel
theorem dc_Hall_init_29 : decode prog_1_method_1_code 29 = .ok (.dup, 1) := by decide +kernel
theorem dc_Hall_init_30 : decode prog_1_method_1_code 30 = .ok (.iload_n 1, 1) := by decide +kernel
theorem dc_Hall_init_31 : decode prog_1_method_1_code 31 = .ok (.invokespecial 15, 3) := by decide +kernel
theorem dc_Hall_init_34 : decode prog_1_method_1_code 34 = .ok (.aastore, 1) := by decide +kernel
theorem dc_Hall_init_35 : decode prog_1_method_1_code 35 = .ok (.iinc 1 1, 3) := by decide +kernel
theorem dc_Hall_init_38 : decode prog_1_method_1_code 38 = .ok (.goto (-23), 3) := by decide +kernel
theorem dc_Hall_init_41 : decode prog_1_method_1_code 41 = .ok (.aload_n 0, 1) := by decide +kernel
theorem dc_Hall_init_42 : decode prog_1_method_1_code 42 = .ok (.bipush 8, 2) := by decide +kernel
theorem dc_Hall_init_44 : decode prog_1_method_1_code 44 = .ok (.anewarray 18, 3) := by decide +kernel
theorem dc_Hall_init_47 : decode prog_1_method_1_code 47 = .ok (.putfield 20, 3) := by decide +kernel
theorem dc_Hall_init_50 : decode prog_1_method_1_code 50 = .ok (.aload_n 0, 1) := by decide +kernel
theorem dc_Hall_init_51 : decode prog_1_method_1_code 51 = .ok (.new 24, 3) := by decide +kernel
theorem dc_Hall_init_54 : decode prog_1_method_1_code 54 = .ok (.dup, 1) := by decide +kernel
theorem dc_Hall_init_55 : decode prog_1_method_1_code 55 = .ok (.invokespecial 26, 3) := by decide +kernel
theorem dc_Hall_init_58 : decode prog_1_method_1_code 58 = .ok (.putfield 27, 3) := by decide +kernel
theorem dc_Hall_init_61 : decode prog_1_method_1_code 61 = .ok (.aload_n 0, 1) := by decide +kernel
theorem dc_Hall_init_62 : decode prog_1_method_1_code 62 = .ok (.iconst 0, 1) := by decide +kernel
theorem dc_Hall_init_63 : decode prog_1_method_1_code 63 = .ok (.putfield 31, 3) := by decide +kernel
theorem dc_Hall_init_66 : decode prog_1_method_1_code 66 = .ok (.aload_n 0, 1) := by decide +kernel
theorem dc_Hall_init_67 : decode prog_1_method_1_code 67 = .ok (.dconst 0, 1) := by decide +kernel
theorem dc_Hall_init_68 : decode prog_1_method_1_code 68 = .ok (.putfield 35, 3) := by decide +kernel
theorem dc_Hall_init_71 : decode prog_1_method_1_code 71 = .ok (.return_, 1) := by decide +kernel
theorem dc_Hall_time_0 : decode prog_1_method_14_code 0 = .ok (.aload_n 0, 1) := by decide +kernel
theorem dc_Hall_time_1 : decode prog_1_method_14_code 1 = .ok (.getfield 35, 3) := by decide +kernel
theorem dc_Hall_time_4 : decode prog_1_method_14_code 4 = .ok (.dreturn, 1) := by decide +kernel
theorem dc_Hall_checkNumber_0 : decode prog_1_method_15_code 0 = .ok (.iload_n 0, 1) := by decide +kernel
theorem dc_Hall_checkNumber_1 : decode prog_1_method_15_code 1 = .ok (.iload_n 1, 1) := by decide +kernel
theorem dc_Hall_checkNumber_2 : decode prog_1_method_15_code 2 = .ok (.if_icmp .lt 8, 3) := by decide +kernel
theorem dc_Hall_checkNumber_5 : decode prog_1_method_15_code 5 = .ok (.iload_n 0, 1) := by decide +kernel
theorem dc_Hall_checkNumber_6 : decode prog_1_method_15_code 6 = .ok (.iload_n 2, 1) := by decide +kernel
theorem dc_Hall_checkNumber_7 : decode prog_1_method_15_code 7 = .ok (.if_icmp .le 13, 3) := by decide +kernel
theorem dc_Hall_checkNumber_10 : decode prog_1_method_15_code 10 = .ok (.new 227, 3) := by decide +kernel
theorem dc_Hall_checkNumber_13 : decode prog_1_method_15_code 13 = .ok (.dup, 1) := by decide +kernel
theorem dc_Hall_checkNumber_14 : decode prog_1_method_15_code 14 = .ok (.ldc 229, 2) := by decide +kernel
theorem dc_Hall_checkNumber_16 : decode prog_1_method_15_code 16 = .ok (.invokespecial 231, 3) := by decide +kernel
theorem dc_Hall_checkNumber_19 : decode prog_1_method_15_code 19 = .ok (.athrow, 1) := by decide +kernel
theorem dc_Hall_checkNumber_20 : decode prog_1_method_15_code 20 = .ok (.return_, 1) := by decide +kernel
theorem dc_Hall_greatestFor_0 : decode prog_1_method_24_code 0 = .ok (.iload_n 0, 1) := by decide +kernel
theorem dc_Hall_greatestFor_1 : decode prog_1_method_24_code 1 = .ok (.tableswitch 40 2 6 #[35, 35, 35, 40, 37], 35) := by decide +kernel
theorem dc_Hall_greatestFor_36 : decode prog_1_method_24_code 36 = .ok (.iconst 5, 1) := by decide +kernel
theorem dc_Hall_greatestFor_37 : decode prog_1_method_24_code 37 = .ok (.ireturn, 1) := by decide +kernel
theorem dc_Hall_greatestFor_38 : decode prog_1_method_24_code 38 = .ok (.bipush 7, 2) := by decide +kernel
theorem dc_Hall_greatestFor_40 : decode prog_1_method_24_code 40 = .ok (.ireturn, 1) := by decide +kernel
theorem dc_Hall_greatestFor_41 : decode prog_1_method_24_code 41 = .ok (.iconst 0, 1) := by decide +kernel
theorem dc_Hall_greatestFor_42 : decode prog_1_method_24_code 42 = .ok (.ireturn, 1) := by decide +kernel
theorem dc_Hall_syncAt_0 : decode prog_1_method_19_code 0 = .ok (.iload_n 1, 1) := by decide +kernel
theorem dc_Hall_syncAt_1 : decode prog_1_method_19_code 1 = .ok (.iconst 0, 1) := by decide +kernel
theorem dc_Hall_syncAt_2 : decode prog_1_method_19_code 2 = .ok (.bipush 7, 2) := by decide +kernel
theorem dc_Hall_syncAt_4 : decode prog_1_method_19_code 4 = .ok (.invokestatic 39, 3) := by decide +kernel
theorem dc_Hall_syncAt_7 : decode prog_1_method_19_code 7 = .ok (.aload_n 0, 1) := by decide +kernel
theorem dc_Hall_syncAt_8 : decode prog_1_method_19_code 8 = .ok (.getfield 20, 3) := by decide +kernel
theorem dc_Hall_syncAt_11 : decode prog_1_method_19_code 11 = .ok (.iload_n 1, 1) := by decide +kernel
theorem dc_Hall_syncAt_12 : decode prog_1_method_19_code 12 = .ok (.aaload, 1) := by decide +kernel
theorem dc_Hall_syncAt_13 : decode prog_1_method_19_code 13 = .ok (.astore_n 2, 1) := by decide +kernel
theorem dc_Hall_syncAt_14 : decode prog_1_method_19_code 14 = .ok (.aload_n 2, 1) := by decide +kernel
theorem dc_Hall_syncAt_15 : decode prog_1_method_19_code 15 = .ok (.ifnonnull 13, 3) := by decide +kernel
theorem dc_Hall_syncAt_18 : decode prog_1_method_19_code 18 = .ok (.new 236, 3) := by decide +kernel
theorem dc_Hall_syncAt_21 : decode prog_1_method_19_code 21 = .ok (.dup, 1) := by decide +kernel
theorem dc_Hall_syncAt_22 : decode prog_1_method_19_code 22 = .ok (.ldc 238, 2) := by decide +kernel
theorem dc_Hall_syncAt_24 : decode prog_1_method_19_code 24 = .ok (.invokespecial 240, 3) := by decide +kernel
theorem dc_Hall_syncAt_27 : decode prog_1_method_19_code 27 = .ok (.athrow, 1) := by decide +kernel
theorem dc_Hall_syncAt_28 : decode prog_1_method_19_code 28 = .ok (.aload_n 2, 1) := by decide +kernel
theorem dc_Hall_syncAt_29 : decode prog_1_method_19_code 29 = .ok (.areturn, 1) := by decide +kernel
theorem dc_Hall_lockAt_0 : decode prog_1_method_20_code 0 = .ok (.aload_n 0, 1) := by decide +kernel
theorem dc_Hall_lockAt_1 : decode prog_1_method_20_code 1 = .ok (.iload_n 1, 1) := by decide +kernel
theorem dc_Hall_lockAt_2 : decode prog_1_method_20_code 2 = .ok (.invokevirtual 73, 3) := by decide +kernel
theorem dc_Hall_lockAt_5 : decode prog_1_method_20_code 5 = .ok (.astore_n 3, 1) := by decide +kernel
theorem dc_Hall_lockAt_6 : decode prog_1_method_20_code 6 = .ok (.aload_n 3, 1) := by decide +kernel
theorem dc_Hall_lockAt_7 : decode prog_1_method_20_code 7 = .ok (.instanceof 158, 3) := by decide +kernel
theorem dc_Hall_lockAt_10 : decode prog_1_method_20_code 10 = .ok (.ifCond .eq 10, 3) := by decide +kernel
theorem dc_Hall_lockAt_13 : decode prog_1_method_20_code 13 = .ok (.aload_n 3, 1) := by decide +kernel
theorem dc_Hall_lockAt_14 : decode prog_1_method_20_code 14 = .ok (.checkcast 158, 3) := by decide +kernel
theorem dc_Hall_lockAt_17 : decode prog_1_method_20_code 17 = .ok (.astore_n 2, 1) := by decide +kernel
theorem dc_Hall_lockAt_18 : decode prog_1_method_20_code 18 = .ok (.aload_n 2, 1) := by decide +kernel
theorem dc_Hall_lockAt_19 : decode prog_1_method_20_code 19 = .ok (.areturn, 1) := by decide +kernel
theorem dc_Hall_lockAt_20 : decode prog_1_method_20_code 20 = .ok (.new 236, 3) := by decide +kernel
theorem dc_Hall_lockAt_23 : decode prog_1_method_20_code 23 = .ok (.dup, 1) := by decide +kernel
theorem dc_Hall_lockAt_24 : decode prog_1_method_20_code 24 = .ok (.ldc 241, 2) := by decide +kernel
theorem dc_Hall_lockAt_26 : decode prog_1_method_20_code 26 = .ok (.invokespecial 240, 3) := by decide +kernel
theorem dc_Hall_lockAt_29 : decode prog_1_method_20_code 29 = .ok (.athrow, 1) := by decide +kernel
theorem dc_Waiters_init_0 : decode prog_10_method_1_code 0 = .ok (.aload_n 0, 1) := by decide +kernel
theorem dc_Waiters_init_1 : decode prog_10_method_1_code 1 = .ok (.invokespecial 3, 3) := by decide +kernel
theorem dc_Waiters_init_4 : decode prog_10_method_1_code 4 = .ok (.aload_n 0, 1) := by decide +kernel
theorem dc_Waiters_init_5 : decode prog_10_method_1_code 5 = .ok (.bipush 6, 2) := by decide +kernel
theorem dc_Waiters_init_7 : decode prog_10_method_1_code 7 = .ok (.anewarray 9, 3) := by decide +kernel
theorem dc_Waiters_init_10 : decode prog_10_method_1_code 10 = .ok (.putfield 11, 3) := by decide +kernel
theorem dc_Waiters_init_13 : decode prog_10_method_1_code 13 = .ok (.aload_n 0, 1) := by decide +kernel
theorem dc_Waiters_init_14 : decode prog_10_method_1_code 14 = .ok (.iconst 0, 1) := by decide +kernel
theorem dc_Waiters_init_15 : decode prog_10_method_1_code 15 = .ok (.putfield 17, 3) := by decide +kernel
theorem dc_Waiters_init_18 : decode prog_10_method_1_code 18 = .ok (.return_, 1) := by decide +kernel
theorem dc_Sync_init_0 : decode prog_9_method_1_code 0 = .ok (.aload_n 0, 1) := by decide +kernel
theorem dc_Sync_init_1 : decode prog_9_method_1_code 1 = .ok (.invokespecial 3, 3) := by decide +kernel
theorem dc_Sync_init_4 : decode prog_9_method_1_code 4 = .ok (.aload_n 0, 1) := by decide +kernel
theorem dc_Sync_init_5 : decode prog_9_method_1_code 5 = .ok (.iload_n 1, 1) := by decide +kernel
theorem dc_Sync_init_6 : decode prog_9_method_1_code 6 = .ok (.putfield 9, 3) := by decide +kernel
theorem dc_Sync_init_9 : decode prog_9_method_1_code 9 = .ok (.aload_n 0, 1) := by decide +kernel
theorem dc_Sync_init_10 : decode prog_9_method_1_code 10 = .ok (.new 15, 3) := by decide +kernel
theorem dc_Sync_init_13 : decode prog_9_method_1_code 13 = .ok (.dup, 1) := by decide +kernel
theorem dc_Sync_init_14 : decode prog_9_method_1_code 14 = .ok (.invokespecial 17, 3) := by decide +kernel
theorem dc_Sync_init_17 : decode prog_9_method_1_code 17 = .ok (.putfield 18, 3) := by decide +kernel
theorem dc_Sync_init_20 : decode prog_9_method_1_code 20 = .ok (.return_, 1) := by decide +kernel
theorem dc_Gate_init_0 : decode prog_3_method_1_code 0 = .ok (.aload_n 0, 1) := by decide +kernel
theorem dc_Gate_init_1 : decode prog_3_method_1_code 1 = .ok (.iload_n 1, 1) := by decide +kernel
theorem dc_Gate_init_2 : decode prog_3_method_1_code 2 = .ok (.invokespecial 1, 3) := by decide +kernel
theorem dc_Gate_init_5 : decode prog_3_method_1_code 5 = .ok (.return_, 1) := by decide +kernel
theorem dc_Lock_init_0 : decode prog_5_method_1_code 0 = .ok (.aload_n 0, 1) := by decide +kernel
theorem dc_Lock_init_1 : decode prog_5_method_1_code 1 = .ok (.iload_n 1, 1) := by decide +kernel
theorem dc_Lock_init_2 : decode prog_5_method_1_code 2 = .ok (.invokespecial 3, 3) := by decide +kernel
theorem dc_Lock_init_5 : decode prog_5_method_1_code 5 = .ok (.return_, 1) := by decide +kernel
theorem dc_Semaphore_init_0 : decode prog_7_method_1_code 0 = .ok (.aload_n 0, 1) := by decide +kernel
theorem dc_Semaphore_init_1 : decode prog_7_method_1_code 1 = .ok (.iload_n 1, 1) := by decide +kernel
theorem dc_Semaphore_init_2 : decode prog_7_method_1_code 2 = .ok (.invokespecial 3, 3) := by decide +kernel
theorem dc_Semaphore_init_5 : decode prog_7_method_1_code 5 = .ok (.aload_n 0, 1) := by decide +kernel
theorem dc_Semaphore_init_6 : decode prog_7_method_1_code 6 = .ok (.iload_n 2, 1) := by decide +kernel
theorem dc_Semaphore_init_7 : decode prog_7_method_1_code 7 = .ok (.putfield 9, 3) := by decide +kernel
theorem dc_Semaphore_init_10 : decode prog_7_method_1_code 10 = .ok (.return_, 1) := by decide +kernel
theorem dc_Latch_init_0 : decode prog_4_method_1_code 0 = .ok (.aload_n 0, 1) := by decide +kernel
theorem dc_Latch_init_1 : decode prog_4_method_1_code 1 = .ok (.iconst 4, 1) := by decide +kernel
theorem dc_Latch_init_2 : decode prog_4_method_1_code 2 = .ok (.invokespecial 3, 3) := by decide +kernel
theorem dc_Latch_init_5 : decode prog_4_method_1_code 5 = .ok (.aload_n 0, 1) := by decide +kernel
theorem dc_Latch_init_6 : decode prog_4_method_1_code 6 = .ok (.iload_n 1, 1) := by decide +kernel
theorem dc_Latch_init_7 : decode prog_4_method_1_code 7 = .ok (.putfield 9, 3) := by decide +kernel
theorem dc_Latch_init_10 : decode prog_4_method_1_code 10 = .ok (.return_, 1) := by decide +kernel
theorem dc_Shared_init_0 : decode prog_8_method_1_code 0 = .ok (.aload_n 0, 1) := by decide +kernel
theorem dc_Shared_init_1 : decode prog_8_method_1_code 1 = .ok (.iconst 5, 1) := by decide +kernel
theorem dc_Shared_init_2 : decode prog_8_method_1_code 2 = .ok (.invokespecial 3, 3) := by decide +kernel
theorem dc_Shared_init_5 : decode prog_8_method_1_code 5 = .ok (.aload_n 0, 1) := by decide +kernel
theorem dc_Shared_init_6 : decode prog_8_method_1_code 6 = .ok (.bipush 6, 2) := by decide +kernel
theorem dc_Shared_init_8 : decode prog_8_method_1_code 8 = .ok (.newarray .int, 2) := by decide +kernel
theorem dc_Shared_init_10 : decode prog_8_method_1_code 10 = .ok (.putfield 9, 3) := by decide +kernel
theorem dc_Shared_init_13 : decode prog_8_method_1_code 13 = .ok (.return_, 1) := by decide +kernel
theorem dc_Condition_init_0 : decode prog_2_method_1_code 0 = .ok (.aload_n 0, 1) := by decide +kernel
theorem dc_Condition_init_1 : decode prog_2_method_1_code 1 = .ok (.bipush 6, 2) := by decide +kernel
theorem dc_Condition_init_3 : decode prog_2_method_1_code 3 = .ok (.invokespecial 3, 3) := by decide +kernel
theorem dc_Condition_init_6 : decode prog_2_method_1_code 6 = .ok (.aload_n 0, 1) := by decide +kernel
theorem dc_Condition_init_7 : decode prog_2_method_1_code 7 = .ok (.aload_n 1, 1) := by decide +kernel
theorem dc_Condition_init_8 : decode prog_2_method_1_code 8 = .ok (.putfield 9, 3) := by decide +kernel
theorem dc_Condition_init_11 : decode prog_2_method_1_code 11 = .ok (.return_, 1) := by decide +kernel
theorem dc_Hall_newSync_0 : decode prog_1_method_25_code 0 = .ok (.iload_n 0, 1) := by decide +kernel
theorem dc_Hall_newSync_1 : decode prog_1_method_25_code 1 = .ok (.tableswitch 75 0 5 #[39, 39, 48, 48, 58, 67], 39) := by decide +kernel
theorem dc_Hall_newSync_40 : decode prog_1_method_25_code 40 = .ok (.new 158, 3) := by decide +kernel
theorem dc_Hall_newSync_43 : decode prog_1_method_25_code 43 = .ok (.dup, 1) := by decide +kernel
theorem dc_Hall_newSync_44 : decode prog_1_method_25_code 44 = .ok (.iload_n 0, 1) := by decide +kernel
theorem dc_Hall_newSync_45 : decode prog_1_method_25_code 45 = .ok (.invokespecial 260, 3) := by decide +kernel
theorem dc_Hall_newSync_48 : decode prog_1_method_25_code 48 = .ok (.areturn, 1) := by decide +kernel
theorem dc_Hall_newSync_49 : decode prog_1_method_25_code 49 = .ok (.new 261, 3) := by decide +kernel
theorem dc_Hall_newSync_52 : decode prog_1_method_25_code 52 = .ok (.dup, 1) := by decide +kernel
theorem dc_Hall_newSync_53 : decode prog_1_method_25_code 53 = .ok (.iload_n 0, 1) := by decide +kernel
theorem dc_Hall_newSync_54 : decode prog_1_method_25_code 54 = .ok (.iload_n 1, 1) := by decide +kernel
theorem dc_Hall_newSync_55 : decode prog_1_method_25_code 55 = .ok (.invokespecial 263, 3) := by decide +kernel
theorem dc_Hall_newSync_58 : decode prog_1_method_25_code 58 = .ok (.areturn, 1) := by decide +kernel
theorem dc_Hall_newSync_59 : decode prog_1_method_25_code 59 = .ok (.new 266, 3) := by decide +kernel
theorem dc_Hall_newSync_62 : decode prog_1_method_25_code 62 = .ok (.dup, 1) := by decide +kernel
theorem dc_Hall_newSync_63 : decode prog_1_method_25_code 63 = .ok (.iload_n 1, 1) := by decide +kernel
theorem dc_Hall_newSync_64 : decode prog_1_method_25_code 64 = .ok (.invokespecial 268, 3) := by decide +kernel
theorem dc_Hall_newSync_67 : decode prog_1_method_25_code 67 = .ok (.areturn, 1) := by decide +kernel
theorem dc_Hall_newSync_68 : decode prog_1_method_25_code 68 = .ok (.new 269, 3) := by decide +kernel
theorem dc_Hall_newSync_71 : decode prog_1_method_25_code 71 = .ok (.dup, 1) := by decide +kernel
theorem dc_Hall_newSync_72 : decode prog_1_method_25_code 72 = .ok (.invokespecial 271, 3) := by decide +kernel
theorem dc_Hall_newSync_75 : decode prog_1_method_25_code 75 = .ok (.areturn, 1) := by decide +kernel
theorem dc_Hall_newSync_76 : decode prog_1_method_25_code 76 = .ok (.new 152, 3) := by decide +kernel
theorem dc_Hall_newSync_79 : decode prog_1_method_25_code 79 = .ok (.dup, 1) := by decide +kernel
theorem dc_Hall_newSync_80 : decode prog_1_method_25_code 80 = .ok (.aload_n 2, 1) := by decide +kernel
theorem dc_Hall_newSync_81 : decode prog_1_method_25_code 81 = .ok (.invokespecial 272, 3) := by decide +kernel
theorem dc_Hall_newSync_84 : decode prog_1_method_25_code 84 = .ok (.areturn, 1) := by decide +kernel
theorem dc_Hall_make_0 : decode prog_1_method_2_code 0 = .ok (.iload_n 1, 1) := by decide +kernel
theorem dc_Hall_make_1 : decode prog_1_method_2_code 1 = .ok (.iconst 0, 1) := by decide +kernel
theorem dc_Hall_make_2 : decode prog_1_method_2_code 2 = .ok (.bipush 7, 2) := by decide +kernel
theorem dc_Hall_make_4 : decode prog_1_method_2_code 4 = .ok (.invokestatic 39, 3) := by decide +kernel
theorem dc_Hall_make_7 : decode prog_1_method_2_code 7 = .ok (.iload_n 2, 1) := by decide +kernel
theorem dc_Hall_make_8 : decode prog_1_method_2_code 8 = .ok (.iconst 0, 1) := by decide +kernel
theorem dc_Hall_make_9 : decode prog_1_method_2_code 9 = .ok (.bipush 6, 2) := by decide +kernel
theorem dc_Hall_make_11 : decode prog_1_method_2_code 11 = .ok (.invokestatic 39, 3) := by decide +kernel
theorem dc_Hall_make_14 : decode prog_1_method_2_code 14 = .ok (.iload_n 3, 1) := by decide +kernel
theorem dc_Hall_make_15 : decode prog_1_method_2_code 15 = .ok (.iconst 0, 1) := by decide +kernel
theorem dc_Hall_make_16 : decode prog_1_method_2_code 16 = .ok (.iload_n 2, 1) := by decide +kernel
theorem dc_Hall_make_17 : decode prog_1_method_2_code 17 = .ok (.invokestatic 43, 3) := by decide +kernel
theorem dc_Hall_make_20 : decode prog_1_method_2_code 20 = .ok (.invokestatic 39, 3) := by decide +kernel
theorem dc_Hall_make_23 : decode prog_1_method_2_code 23 = .ok (.iload_n 2, 1) := by decide +kernel
theorem dc_Hall_make_24 : decode prog_1_method_2_code 24 = .ok (.bipush 6, 2) := by decide +kernel
theorem dc_Hall_make_26 : decode prog_1_method_2_code 26 = .ok (.if_icmp .ne 11, 3) := by decide +kernel
theorem dc_Hall_make_29 : decode prog_1_method_2_code 29 = .ok (.aload_n 0, 1) := by decide +kernel
theorem dc_Hall_make_30 : decode prog_1_method_2_code 30 = .ok (.iload_n 3, 1) := by decide +kernel
theorem dc_Hall_make_31 : decode prog_1_method_2_code 31 = .ok (.invokevirtual 47, 3) := by decide +kernel
theorem dc_Hall_make_34 : decode prog_1_method_2_code 34 = .ok (.goto 4, 3) := by decide +kernel
theorem dc_Hall_make_37 : decode prog_1_method_2_code 37 = .ok (.aconst_null, 1) := by decide +kernel
theorem dc_Hall_make_38 : decode prog_1_method_2_code 38 = .ok (.astore 4, 2) := by decide +kernel
theorem dc_Hall_make_40 : decode prog_1_method_2_code 40 = .ok (.aload_n 0, 1) := by decide +kernel
theorem dc_Hall_make_41 : decode prog_1_method_2_code 41 = .ok (.getfield 20, 3) := by decide +kernel
theorem dc_Hall_make_44 : decode prog_1_method_2_code 44 = .ok (.iload_n 1, 1) := by decide +kernel
theorem dc_Hall_make_45 : decode prog_1_method_2_code 45 = .ok (.aaload, 1) := by decide +kernel
theorem dc_Hall_make_46 : decode prog_1_method_2_code 46 = .ok (.ifnull 13, 3) := by decide +kernel
theorem dc_Hall_make_49 : decode prog_1_method_2_code 49 = .ok (.new 51, 3) := by decide +kernel
theorem dc_Hall_make_52 : decode prog_1_method_2_code 52 = .ok (.dup, 1) := by decide +kernel
theorem dc_Hall_make_53 : decode prog_1_method_2_code 53 = .ok (.ldc 53, 2) := by decide +kernel
theorem dc_Hall_make_55 : decode prog_1_method_2_code 55 = .ok (.invokespecial 55, 3) := by decide +kernel
theorem dc_Hall_make_58 : decode prog_1_method_2_code 58 = .ok (.athrow, 1) := by decide +kernel
theorem dc_Hall_make_59 : decode prog_1_method_2_code 59 = .ok (.aload_n 0, 1) := by decide +kernel
theorem dc_Hall_make_60 : decode prog_1_method_2_code 60 = .ok (.getfield 20, 3) := by decide +kernel
theorem dc_Hall_make_63 : decode prog_1_method_2_code 63 = .ok (.iload_n 1, 1) := by decide +kernel
theorem dc_Hall_make_64 : decode prog_1_method_2_code 64 = .ok (.iload_n 2, 1) := by decide +kernel
theorem dc_Hall_make_65 : decode prog_1_method_2_code 65 = .ok (.iload_n 3, 1) := by decide +kernel
theorem dc_Hall_make_66 : decode prog_1_method_2_code 66 = .ok (.aload 4, 2) := by decide +kernel
theorem dc_Hall_make_68 : decode prog_1_method_2_code 68 = .ok (.invokestatic 58, 3) := by decide +kernel
theorem dc_Hall_make_71 : decode prog_1_method_2_code 71 = .ok (.aastore, 1) := by decide +kernel
theorem dc_Hall_make_72 : decode prog_1_method_2_code 72 = .ok (.aload_n 0, 1) := by decide +kernel
theorem dc_Hall_make_73 : decode prog_1_method_2_code 73 = .ok (.dup, 1) := by decide +kernel
theorem dc_Hall_make_74 : decode prog_1_method_2_code 74 = .ok (.getfield 31, 3) := by decide +kernel
theorem dc_Hall_make_77 : decode prog_1_method_2_code 77 = .ok (.iconst 1, 1) := by decide +kernel
theorem dc_Hall_make_78 : decode prog_1_method_2_code 78 = .ok (.iadd, 1) := by decide +kernel
theorem dc_Hall_make_79 : decode prog_1_method_2_code 79 = .ok (.putfield 31, 3) := by decide +kernel
theorem dc_Hall_make_82 : decode prog_1_method_2_code 82 = .ok (.aload_n 0, 1) := by decide +kernel
theorem dc_Hall_make_83 : decode prog_1_method_2_code 83 = .ok (.getfield 31, 3) := by decide +kernel
theorem dc_Hall_make_86 : decode prog_1_method_2_code 86 = .ok (.ireturn, 1) := by decide +kernel
theorem dc_Hall_workerAt_0 : decode prog_1_method_18_code 0 = .ok (.iload_n 1, 1) := by decide +kernel
theorem dc_Hall_workerAt_1 : decode prog_1_method_18_code 1 = .ok (.iconst 0, 1) := by decide +kernel
theorem dc_Hall_workerAt_2 : decode prog_1_method_18_code 2 = .ok (.iconst 5, 1) := by decide +kernel
theorem dc_Hall_workerAt_3 : decode prog_1_method_18_code 3 = .ok (.invokestatic 39, 3) := by decide +kernel
theorem dc_Hall_workerAt_6 : decode prog_1_method_18_code 6 = .ok (.aload_n 0, 1) := by decide +kernel
theorem dc_Hall_workerAt_7 : decode prog_1_method_18_code 7 = .ok (.getfield 11, 3) := by decide +kernel
theorem dc_Hall_workerAt_10 : decode prog_1_method_18_code 10 = .ok (.iload_n 1, 1) := by decide +kernel
theorem dc_Hall_workerAt_11 : decode prog_1_method_18_code 11 = .ok (.aaload, 1) := by decide +kernel
theorem dc_Hall_workerAt_12 : decode prog_1_method_18_code 12 = .ok (.areturn, 1) := by decide +kernel
theorem dc_Hall_checkAmount_0 : decode prog_1_method_16_code 0 = .ok (.dload_n 0, 1) := by decide +kernel
theorem dc_Hall_checkAmount_1 : decode prog_1_method_16_code 1 = .ok (.iload_n 2, 1) := by decide +kernel
theorem dc_Hall_checkAmount_2 : decode prog_1_method_16_code 2 = .ok (.i2d, 1) := by decide +kernel
theorem dc_Hall_checkAmount_3 : decode prog_1_method_16_code 3 = .ok (.dcmp .l, 1) := by decide +kernel
theorem dc_Hall_checkAmount_4 : decode prog_1_method_16_code 4 = .ok (.ifCond .lt 10, 3) := by decide +kernel
theorem dc_Hall_checkAmount_7 : decode prog_1_method_16_code 7 = .ok (.dload_n 0, 1) := by decide +kernel
theorem dc_Hall_checkAmount_8 : decode prog_1_method_16_code 8 = .ok (.iload_n 3, 1) := by decide +kernel
theorem dc_Hall_checkAmount_9 : decode prog_1_method_16_code 9 = .ok (.i2d, 1) := by decide +kernel
theorem dc_Hall_checkAmount_10 : decode prog_1_method_16_code 10 = .ok (.dcmp .g, 1) := by decide +kernel
theorem dc_Hall_checkAmount_11 : decode prog_1_method_16_code 11 = .ok (.ifCond .le 13, 3) := by decide +kernel
theorem dc_Hall_checkAmount_14 : decode prog_1_method_16_code 14 = .ok (.new 227, 3) := by decide +kernel
theorem dc_Hall_checkAmount_17 : decode prog_1_method_16_code 17 = .ok (.dup, 1) := by decide +kernel
theorem dc_Hall_checkAmount_18 : decode prog_1_method_16_code 18 = .ok (.ldc 232, 2) := by decide +kernel
theorem dc_Hall_checkAmount_20 : decode prog_1_method_16_code 20 = .ok (.invokespecial 231, 3) := by decide +kernel
theorem dc_Hall_checkAmount_23 : decode prog_1_method_16_code 23 = .ok (.athrow, 1) := by decide +kernel
theorem dc_Hall_checkAmount_24 : decode prog_1_method_16_code 24 = .ok (.return_, 1) := by decide +kernel
theorem dc_Hall_rank_0 : decode prog_1_method_3_code 0 = .ok (.aload_n 0, 1) := by decide +kernel
theorem dc_Hall_rank_1 : decode prog_1_method_3_code 1 = .ok (.iload_n 1, 1) := by decide +kernel
theorem dc_Hall_rank_2 : decode prog_1_method_3_code 2 = .ok (.invokevirtual 62, 3) := by decide +kernel
theorem dc_Hall_rank_5 : decode prog_1_method_3_code 5 = .ok (.astore 4, 2) := by decide +kernel
theorem dc_Hall_rank_7 : decode prog_1_method_3_code 7 = .ok (.dload_n 2, 1) := by decide +kernel
theorem dc_Hall_rank_8 : decode prog_1_method_3_code 8 = .ok (.sipush (-1000), 3) := by decide +kernel
theorem dc_Hall_rank_11 : decode prog_1_method_3_code 11 = .ok (.sipush 1000, 3) := by decide +kernel
theorem dc_Hall_rank_14 : decode prog_1_method_3_code 14 = .ok (.invokestatic 66, 3) := by decide +kernel
theorem dc_Hall_rank_17 : decode prog_1_method_3_code 17 = .ok (.aload 4, 2) := by decide +kernel
theorem dc_Hall_rank_19 : decode prog_1_method_3_code 19 = .ok (.dload_n 2, 1) := by decide +kernel
theorem dc_Hall_rank_20 : decode prog_1_method_3_code 20 = .ok (.putfield 70, 3) := by decide +kernel
theorem dc_Hall_rank_23 : decode prog_1_method_3_code 23 = .ok (.return_, 1) := by decide +kernel
theorem dc_Worker_isBlocked_0 : decode prog_11_method_2_code 0 = .ok (.aload_n 0, 1) := by decide +kernel
theorem dc_Worker_isBlocked_1 : decode prog_11_method_2_code 1 = .ok (.getfield 18, 3) := by decide +kernel
theorem dc_Worker_isBlocked_4 : decode prog_11_method_2_code 4 = .ok (.ifnull 7, 3) := by decide +kernel
theorem dc_Worker_isBlocked_7 : decode prog_11_method_2_code 7 = .ok (.iconst 1, 1) := by decide +kernel
theorem dc_Worker_isBlocked_8 : decode prog_11_method_2_code 8 = .ok (.goto 4, 3) := by decide +kernel
theorem dc_Worker_isBlocked_11 : decode prog_11_method_2_code 11 = .ok (.iconst 0, 1) := by decide +kernel
theorem dc_Worker_isBlocked_12 : decode prog_11_method_2_code 12 = .ok (.ireturn, 1) := by decide +kernel
theorem dc_Hall_checkRunning_0 : decode prog_1_method_17_code 0 = .ok (.aload_n 0, 1) := by decide +kernel
theorem dc_Hall_checkRunning_1 : decode prog_1_method_17_code 1 = .ok (.invokevirtual 176, 3) := by decide +kernel
theorem dc_Hall_checkRunning_4 : decode prog_1_method_17_code 4 = .ok (.ifCond .eq 13, 3) := by decide +kernel
theorem dc_Hall_checkRunning_7 : decode prog_1_method_17_code 7 = .ok (.new 51, 3) := by decide +kernel
theorem dc_Hall_checkRunning_10 : decode prog_1_method_17_code 10 = .ok (.dup, 1) := by decide +kernel
theorem dc_Hall_checkRunning_11 : decode prog_1_method_17_code 11 = .ok (.ldc 234, 2) := by decide +kernel
theorem dc_Hall_checkRunning_13 : decode prog_1_method_17_code 13 = .ok (.invokespecial 55, 3) := by decide +kernel
theorem dc_Hall_checkRunning_16 : decode prog_1_method_17_code 16 = .ok (.athrow, 1) := by decide +kernel
theorem dc_Hall_checkRunning_17 : decode prog_1_method_17_code 17 = .ok (.return_, 1) := by decide +kernel
theorem dc_Hall_gateOf_0 : decode prog_1_method_21_code 0 = .ok (.aload_n 0, 1) := by decide +kernel
theorem dc_Hall_gateOf_1 : decode prog_1_method_21_code 1 = .ok (.instanceof 97, 3) := by decide +kernel
theorem dc_Hall_gateOf_4 : decode prog_1_method_21_code 4 = .ok (.ifCond .eq 10, 3) := by decide +kernel
theorem dc_Hall_gateOf_7 : decode prog_1_method_21_code 7 = .ok (.aload_n 0, 1) := by decide +kernel
theorem dc_Hall_gateOf_8 : decode prog_1_method_21_code 8 = .ok (.checkcast 97, 3) := by decide +kernel
theorem dc_Hall_gateOf_11 : decode prog_1_method_21_code 11 = .ok (.astore_n 1, 1) := by decide +kernel
theorem dc_Hall_gateOf_12 : decode prog_1_method_21_code 12 = .ok (.aload_n 1, 1) := by decide +kernel
theorem dc_Hall_gateOf_13 : decode prog_1_method_21_code 13 = .ok (.areturn, 1) := by decide +kernel
theorem dc_Hall_gateOf_14 : decode prog_1_method_21_code 14 = .ok (.new 243, 3) := by decide +kernel
theorem dc_Hall_gateOf_17 : decode prog_1_method_21_code 17 = .ok (.dup, 1) := by decide +kernel
theorem dc_Hall_gateOf_18 : decode prog_1_method_21_code 18 = .ok (.ldc 245, 2) := by decide +kernel
theorem dc_Hall_gateOf_20 : decode prog_1_method_21_code 20 = .ok (.invokespecial 247, 3) := by decide +kernel
theorem dc_Hall_gateOf_23 : decode prog_1_method_21_code 23 = .ok (.athrow, 1) := by decide +kernel
theorem dc_Worker_dropFlag_0 : decode prog_11_method_3_code 0 = .ok (.aload_n 0, 1) := by decide +kernel
theorem dc_Worker_dropFlag_1 : decode prog_11_method_3_code 1 = .ok (.getfield 22, 3) := by decide +kernel
theorem dc_Worker_dropFlag_4 : decode prog_11_method_3_code 4 = .ok (.istore_n 1, 1) := by decide +kernel
theorem dc_Worker_dropFlag_5 : decode prog_11_method_3_code 5 = .ok (.aload_n 0, 1) := by decide +kernel
theorem dc_Worker_dropFlag_6 : decode prog_11_method_3_code 6 = .ok (.iconst 0, 1) := by decide +kernel
theorem dc_Worker_dropFlag_7 : decode prog_11_method_3_code 7 = .ok (.putfield 22, 3) := by decide +kernel
theorem dc_Worker_dropFlag_10 : decode prog_11_method_3_code 10 = .ok (.iload_n 1, 1) := by decide +kernel
theorem dc_Worker_dropFlag_11 : decode prog_11_method_3_code 11 = .ok (.ireturn, 1) := by decide +kernel
theorem dc_Worker_finish_0 : decode prog_11_method_4_code 0 = .ok (.aload_n 0, 1) := by decide +kernel
theorem dc_Worker_finish_1 : decode prog_11_method_4_code 1 = .ok (.iload_n 1, 1) := by decide +kernel
theorem dc_Worker_finish_2 : decode prog_11_method_4_code 2 = .ok (.putfield 15, 3) := by decide +kernel
theorem dc_Worker_finish_5 : decode prog_11_method_4_code 5 = .ok (.aload_n 0, 1) := by decide +kernel
theorem dc_Worker_finish_6 : decode prog_11_method_4_code 6 = .ok (.iconst 0, 1) := by decide +kernel
theorem dc_Worker_finish_7 : decode prog_11_method_4_code 7 = .ok (.putfield 26, 3) := by decide +kernel
theorem dc_Worker_finish_10 : decode prog_11_method_4_code 10 = .ok (.iload_n 1, 1) := by decide +kernel
theorem dc_Worker_finish_11 : decode prog_11_method_4_code 11 = .ok (.ireturn, 1) := by decide +kernel
theorem dc_Shared_holdOf_0 : decode prog_8_method_8_code 0 = .ok (.aload_n 0, 1) := by decide +kernel
theorem dc_Shared_holdOf_1 : decode prog_8_method_8_code 1 = .ok (.getfield 21, 3) := by decide +kernel
theorem dc_Shared_holdOf_4 : decode prog_8_method_8_code 4 = .ok (.aload_n 1, 1) := by decide +kernel
theorem dc_Shared_holdOf_5 : decode prog_8_method_8_code 5 = .ok (.if_acmp .ne 10, 3) := by decide +kernel
theorem dc_Shared_holdOf_8 : decode prog_8_method_8_code 8 = .ok (.aload_n 0, 1) := by decide +kernel
theorem dc_Shared_holdOf_9 : decode prog_8_method_8_code 9 = .ok (.getfield 50, 3) := by decide +kernel
theorem dc_Shared_holdOf_12 : decode prog_8_method_8_code 12 = .ok (.goto 4, 3) := by decide +kernel
theorem dc_Shared_holdOf_15 : decode prog_8_method_8_code 15 = .ok (.iconst 0, 1) := by decide +kernel
theorem dc_Shared_holdOf_16 : decode prog_8_method_8_code 16 = .ok (.aload_n 0, 1) := by decide +kernel
theorem dc_Shared_holdOf_17 : decode prog_8_method_8_code 17 = .ok (.getfield 9, 3) := by decide +kernel
theorem dc_Shared_holdOf_20 : decode prog_8_method_8_code 20 = .ok (.aload_n 1, 1) := by decide +kernel
theorem dc_Shared_holdOf_21 : decode prog_8_method_8_code 21 = .ok (.getfield 15, 3) := by decide +kernel
theorem dc_Shared_holdOf_24 : decode prog_8_method_8_code 24 = .ok (.iaload, 1) := by decide +kernel
theorem dc_Shared_holdOf_25 : decode prog_8_method_8_code 25 = .ok (.iadd, 1) := by decide +kernel
theorem dc_Shared_holdOf_26 : decode prog_8_method_8_code 26 = .ok (.ireturn, 1) := by decide +kernel
theorem dc_Lock_holdOf_0 : decode prog_5_method_6_code 0 = .ok (.aload_n 0, 1) := by decide +kernel
theorem dc_Lock_holdOf_1 : decode prog_5_method_6_code 1 = .ok (.getfield 9, 3) := by decide +kernel
theorem dc_Lock_holdOf_4 : decode prog_5_method_6_code 4 = .ok (.aload_n 1, 1) := by decide +kernel
theorem dc_Lock_holdOf_5 : decode prog_5_method_6_code 5 = .ok (.if_acmp .ne 10, 3) := by decide +kernel
theorem dc_Lock_holdOf_8 : decode prog_5_method_6_code 8 = .ok (.aload_n 0, 1) := by decide +kernel
theorem dc_Lock_holdOf_9 : decode prog_5_method_6_code 9 = .ok (.getfield 29, 3) := by decide +kernel
theorem dc_Lock_holdOf_12 : decode prog_5_method_6_code 12 = .ok (.goto 4, 3) := by decide +kernel
theorem dc_Lock_holdOf_15 : decode prog_5_method_6_code 15 = .ok (.iconst 0, 1) := by decide +kernel
theorem dc_Lock_holdOf_16 : decode prog_5_method_6_code 16 = .ok (.ireturn, 1) := by decide +kernel
theorem dc_Sync_holdOf_0 : decode prog_9_method_3_code 0 = .ok (.iconst 0, 1) := by decide +kernel
theorem dc_Sync_holdOf_1 : decode prog_9_method_3_code 1 = .ok (.ireturn, 1) := by decide +kernel
theorem dc_Hall_locksOwnedBy_0 : decode prog_1_method_27_code 0 = .ok (.iconst 0, 1) := by decide +kernel
theorem dc_Hall_locksOwnedBy_1 : decode prog_1_method_27_code 1 = .ok (.istore_n 2, 1) := by decide +kernel
theorem dc_Hall_locksOwnedBy_2 : decode prog_1_method_27_code 2 = .ok (.iconst 0, 1) := by decide +kernel
theorem dc_Hall_locksOwnedBy_3 : decode prog_1_method_27_code 3 = .ok (.istore_n 3, 1) := by decide +kernel
theorem dc_Hall_locksOwnedBy_4 : decode prog_1_method_27_code 4 = .ok (.iload_n 3, 1) := by decide +kernel
theorem dc_Hall_locksOwnedBy_5 : decode prog_1_method_27_code 5 = .ok (.bipush 8, 2) := by decide +kernel
theorem dc_Hall_locksOwnedBy_7 : decode prog_1_method_27_code 7 = .ok (.if_icmp .ge 47, 3) := by decide +kernel
theorem dc_Hall_locksOwnedBy_10 : decode prog_1_method_27_code 10 = .ok (.aload_n 0, 1) := by decide +kernel
theorem dc_Hall_locksOwnedBy_11 : decode prog_1_method_27_code 11 = .ok (.getfield 20, 3) := by decide +kernel
theorem dc_Hall_locksOwnedBy_14 : decode prog_1_method_27_code 14 = .ok (.iload_n 3, 1) := by decide +kernel
theorem dc_Hall_locksOwnedBy_15 : decode prog_1_method_27_code 15 = .ok (.aaload, 1) := by decide +kernel
theorem dc_Hall_locksOwnedBy_16 : decode prog_1_method_27_code 16 = .ok (.astore 5, 2) := by decide +kernel
theorem dc_Hall_locksOwnedBy_18 : decode prog_1_method_27_code 18 = .ok (.aload 5, 2) := by decide +kernel
theorem dc_Hall_locksOwnedBy_20 : decode prog_1_method_27_code 20 = .ok (.instanceof 158, 3) := by decide +kernel
theorem dc_Hall_locksOwnedBy_23 : decode prog_1_method_27_code 23 = .ok (.ifCond .eq 25, 3) := by decide +kernel
theorem dc_Hall_locksOwnedBy_26 : decode prog_1_method_27_code 26 = .ok (.aload 5, 2) := by decide +kernel
theorem dc_Hall_locksOwnedBy_28 : decode prog_1_method_27_code 28 = .ok (.checkcast 158, 3) := by decide +kernel
theorem dc_Hall_locksOwnedBy_31 : decode prog_1_method_27_code 31 = .ok (.astore 4, 2) := by decide +kernel
theorem dc_Hall_locksOwnedBy_33 : decode prog_1_method_27_code 33 = .ok (.aload 4, 2) := by decide +kernel
theorem dc_Hall_locksOwnedBy_35 : decode prog_1_method_27_code 35 = .ok (.getfield 254, 3) := by decide +kernel
theorem dc_Hall_locksOwnedBy_38 : decode prog_1_method_27_code 38 = .ok (.aload_n 1, 1) := by decide +kernel
theorem dc_Hall_locksOwnedBy_39 : decode prog_1_method_27_code 39 = .ok (.if_acmp .ne 9, 3) := by decide +kernel
theorem dc_Hall_locksOwnedBy_42 : decode prog_1_method_27_code 42 = .ok (.iload_n 2, 1) := by decide +kernel
theorem dc_Hall_locksOwnedBy_43 : decode prog_1_method_27_code 43 = .ok (.iconst 1, 1) := by decide +kernel
theorem dc_Hall_locksOwnedBy_44 : decode prog_1_method_27_code 44 = .ok (.iload_n 3, 1) := by decide +kernel
theorem dc_Hall_locksOwnedBy_45 : decode prog_1_method_27_code 45 = .ok (.ishl, 1) := by decide +kernel
theorem dc_Hall_locksOwnedBy_46 : decode prog_1_method_27_code 46 = .ok (.ior, 1) := by decide +kernel
theorem dc_Hall_locksOwnedBy_47 : decode prog_1_method_27_code 47 = .ok (.istore_n 2, 1) := by decide +kernel
theorem dc_Hall_locksOwnedBy_48 : decode prog_1_method_27_code 48 = .ok (.iinc 3 1, 3) := by decide +kernel
theorem dc_Hall_locksOwnedBy_51 : decode prog_1_method_27_code 51 = .ok (.goto (-47), 3) := by decide +kernel
theorem dc_Hall_locksOwnedBy_54 : decode prog_1_method_27_code 54 = .ok (.iload_n 2, 1) := by decide +kernel
theorem dc_Hall_locksOwnedBy_55 : decode prog_1_method_27_code 55 = .ok (.ireturn, 1) := by decide +kernel
theorem dc_LockOrder_afterAny_0 : decode prog_6_method_3_code 0 = .ok (.iconst 0, 1) := by decide +kernel
theorem dc_LockOrder_afterAny_1 : decode prog_6_method_3_code 1 = .ok (.istore_n 2, 1) := by decide +kernel
theorem dc_LockOrder_afterAny_2 : decode prog_6_method_3_code 2 = .ok (.iconst 0, 1) := by decide +kernel
theorem dc_LockOrder_afterAny_3 : decode prog_6_method_3_code 3 = .ok (.istore_n 3, 1) := by decide +kernel
theorem dc_LockOrder_afterAny_4 : decode prog_6_method_3_code 4 = .ok (.iload_n 3, 1) := by decide +kernel
theorem dc_LockOrder_afterAny_5 : decode prog_6_method_3_code 5 = .ok (.bipush 8, 2) := by decide +kernel
theorem dc_LockOrder_afterAny_7 : decode prog_6_method_3_code 7 = .ok (.if_icmp .ge 26, 3) := by decide +kernel
theorem dc_LockOrder_afterAny_10 : decode prog_6_method_3_code 10 = .ok (.iload_n 1, 1) := by decide +kernel
theorem dc_LockOrder_afterAny_11 : decode prog_6_method_3_code 11 = .ok (.iload_n 3, 1) := by decide +kernel
theorem dc_LockOrder_afterAny_12 : decode prog_6_method_3_code 12 = .ok (.ishr, 1) := by decide +kernel
theorem dc_LockOrder_afterAny_13 : decode prog_6_method_3_code 13 = .ok (.iconst 1, 1) := by decide +kernel
theorem dc_LockOrder_afterAny_14 : decode prog_6_method_3_code 14 = .ok (.iand, 1) := by decide +kernel
theorem dc_LockOrder_afterAny_15 : decode prog_6_method_3_code 15 = .ok (.ifCond .eq 12, 3) := by decide +kernel
theorem dc_LockOrder_afterAny_18 : decode prog_6_method_3_code 18 = .ok (.iload_n 2, 1) := by decide +kernel
theorem dc_LockOrder_afterAny_19 : decode prog_6_method_3_code 19 = .ok (.aload_n 0, 1) := by decide +kernel
theorem dc_LockOrder_afterAny_20 : decode prog_6_method_3_code 20 = .ok (.getfield 9, 3) := by decide +kernel
theorem dc_LockOrder_afterAny_23 : decode prog_6_method_3_code 23 = .ok (.iload_n 3, 1) := by decide +kernel
theorem dc_LockOrder_afterAny_24 : decode prog_6_method_3_code 24 = .ok (.iaload, 1) := by decide +kernel
theorem dc_LockOrder_afterAny_25 : decode prog_6_method_3_code 25 = .ok (.ior, 1) := by decide +kernel
theorem dc_LockOrder_afterAny_26 : decode prog_6_method_3_code 26 = .ok (.istore_n 2, 1) := by decide +kernel
theorem dc_LockOrder_afterAny_27 : decode prog_6_method_3_code 27 = .ok (.iinc 3 1, 3) := by decide +kernel
theorem dc_LockOrder_afterAny_30 : decode prog_6_method_3_code 30 = .ok (.goto (-26), 3) := by decide +kernel
theorem dc_LockOrder_afterAny_33 : decode prog_6_method_3_code 33 = .ok (.iload_n 2, 1) := by decide +kernel
theorem dc_LockOrder_afterAny_34 : decode prog_6_method_3_code 34 = .ok (.ireturn, 1) := by decide +kernel
theorem dc_LockOrder_isBeforeAny_0 : decode prog_6_method_2_code 0 = .ok (.aload_n 0, 1) := by decide +kernel
theorem dc_LockOrder_isBeforeAny_1 : decode prog_6_method_2_code 1 = .ok (.getfield 9, 3) := by decide +kernel
theorem dc_LockOrder_isBeforeAny_4 : decode prog_6_method_2_code 4 = .ok (.iload_n 1, 1) := by decide +kernel
theorem dc_LockOrder_isBeforeAny_5 : decode prog_6_method_2_code 5 = .ok (.iaload, 1) := by decide +kernel
theorem dc_LockOrder_isBeforeAny_6 : decode prog_6_method_2_code 6 = .ok (.istore_n 3, 1) := by decide +kernel
theorem dc_LockOrder_isBeforeAny_7 : decode prog_6_method_2_code 7 = .ok (.iconst 1, 1) := by decide +kernel
theorem dc_LockOrder_isBeforeAny_8 : decode prog_6_method_2_code 8 = .ok (.istore 4, 2) := by decide +kernel
theorem dc_LockOrder_isBeforeAny_10 : decode prog_6_method_2_code 10 = .ok (.iload 4, 2) := by decide +kernel
theorem dc_LockOrder_isBeforeAny_12 : decode prog_6_method_2_code 12 = .ok (.bipush 8, 2) := by decide +kernel
theorem dc_LockOrder_isBeforeAny_14 : decode prog_6_method_2_code 14 = .ok (.if_icmp .ge 17, 3) := by decide +kernel
theorem dc_LockOrder_isBeforeAny_17 : decode prog_6_method_2_code 17 = .ok (.iload_n 3, 1) := by decide +kernel
theorem dc_LockOrder_isBeforeAny_18 : decode prog_6_method_2_code 18 = .ok (.aload_n 0, 1) := by decide +kernel
theorem dc_LockOrder_isBeforeAny_19 : decode prog_6_method_2_code 19 = .ok (.iload_n 3, 1) := by decide +kernel
theorem dc_LockOrder_isBeforeAny_20 : decode prog_6_method_2_code 20 = .ok (.invokevirtual 22, 3) := by decide +kernel
theorem dc_LockOrder_isBeforeAny_23 : decode prog_6_method_2_code 23 = .ok (.ior, 1) := by decide +kernel
theorem dc_LockOrder_isBeforeAny_24 : decode prog_6_method_2_code 24 = .ok (.istore_n 3, 1) := by decide +kernel
theorem dc_LockOrder_isBeforeAny_25 : decode prog_6_method_2_code 25 = .ok (.iinc 4 1, 3) := by decide +kernel
theorem dc_LockOrder_isBeforeAny_28 : decode prog_6_method_2_code 28 = .ok (.goto (-18), 3) := by decide +kernel
theorem dc_LockOrder_isBeforeAny_31 : decode prog_6_method_2_code 31 = .ok (.iload_n 3, 1) := by decide +kernel
theorem dc_LockOrder_isBeforeAny_32 : decode prog_6_method_2_code 32 = .ok (.iload_n 2, 1) := by decide +kernel
theorem dc_LockOrder_isBeforeAny_33 : decode prog_6_method_2_code 33 = .ok (.iand, 1) := by decide +kernel
theorem dc_LockOrder_isBeforeAny_34 : decode prog_6_method_2_code 34 = .ok (.ifCond .eq 7, 3) := by decide +kernel
theorem dc_LockOrder_isBeforeAny_37 : decode prog_6_method_2_code 37 = .ok (.iconst 1, 1) := by decide +kernel
theorem dc_LockOrder_isBeforeAny_38 : decode prog_6_method_2_code 38 = .ok (.goto 4, 3) := by decide +kernel
theorem dc_LockOrder_isBeforeAny_41 : decode prog_6_method_2_code 41 = .ok (.iconst 0, 1) := by decide +kernel
theorem dc_LockOrder_isBeforeAny_42 : decode prog_6_method_2_code 42 = .ok (.ireturn, 1) := by decide +kernel
theorem dc_LockOrder_putBefore_0 : decode prog_6_method_4_code 0 = .ok (.iconst 0, 1) := by decide +kernel
theorem dc_LockOrder_putBefore_1 : decode prog_6_method_4_code 1 = .ok (.istore_n 3, 1) := by decide +kernel
theorem dc_LockOrder_putBefore_2 : decode prog_6_method_4_code 2 = .ok (.iload_n 3, 1) := by decide +kernel
theorem dc_LockOrder_putBefore_3 : decode prog_6_method_4_code 3 = .ok (.bipush 8, 2) := by decide +kernel
theorem dc_LockOrder_putBefore_5 : decode prog_6_method_4_code 5 = .ok (.if_icmp .ge 29, 3) := by decide +kernel
theorem dc_LockOrder_putBefore_8 : decode prog_6_method_4_code 8 = .ok (.iload_n 1, 1) := by decide +kernel
theorem dc_LockOrder_putBefore_9 : decode prog_6_method_4_code 9 = .ok (.iload_n 3, 1) := by decide +kernel
theorem dc_LockOrder_putBefore_10 : decode prog_6_method_4_code 10 = .ok (.ishr, 1) := by decide +kernel
theorem dc_LockOrder_putBefore_11 : decode prog_6_method_4_code 11 = .ok (.iconst 1, 1) := by decide +kernel
theorem dc_LockOrder_putBefore_12 : decode prog_6_method_4_code 12 = .ok (.iand, 1) := by decide +kernel
theorem dc_LockOrder_putBefore_13 : decode prog_6_method_4_code 13 = .ok (.ifCond .eq 15, 3) := by decide +kernel
theorem dc_LockOrder_putBefore_16 : decode prog_6_method_4_code 16 = .ok (.aload_n 0, 1) := by decide +kernel
theorem dc_LockOrder_putBefore_17 : decode prog_6_method_4_code 17 = .ok (.getfield 9, 3) := by decide +kernel
theorem dc_LockOrder_putBefore_20 : decode prog_6_method_4_code 20 = .ok (.iload_n 3, 1) := by decide +kernel
theorem dc_LockOrder_putBefore_21 : decode prog_6_method_4_code 21 = .ok (.dup2, 1) := by decide +kernel
theorem dc_LockOrder_putBefore_22 : decode prog_6_method_4_code 22 = .ok (.iaload, 1) := by decide +kernel
theorem dc_LockOrder_putBefore_23 : decode prog_6_method_4_code 23 = .ok (.iconst 1, 1) := by decide +kernel
theorem dc_LockOrder_putBefore_24 : decode prog_6_method_4_code 24 = .ok (.iload_n 2, 1) := by decide +kernel
theorem dc_LockOrder_putBefore_25 : decode prog_6_method_4_code 25 = .ok (.ishl, 1) := by decide +kernel
theorem dc_LockOrder_putBefore_26 : decode prog_6_method_4_code 26 = .ok (.ior, 1) := by decide +kernel
theorem dc_LockOrder_putBefore_27 : decode prog_6_method_4_code 27 = .ok (.iastore, 1) := by decide +kernel
theorem dc_LockOrder_putBefore_28 : decode prog_6_method_4_code 28 = .ok (.iinc 3 1, 3) := by decide +kernel
theorem dc_LockOrder_putBefore_31 : decode prog_6_method_4_code 31 = .ok (.goto (-29), 3) := by decide +kernel
theorem dc_LockOrder_putBefore_34 : decode prog_6_method_4_code 34 = .ok (.return_, 1) := by decide +kernel
theorem dc_Hall_keepOrder_0 : decode prog_1_method_26_code 0 = .ok (.aload_n 0, 1) := by decide +kernel
theorem dc_Hall_keepOrder_1 : decode prog_1_method_26_code 1 = .ok (.getfield 27, 3) := by decide +kernel
theorem dc_Hall_keepOrder_4 : decode prog_1_method_26_code 4 = .ok (.getfield 193, 3) := by decide +kernel
theorem dc_Hall_keepOrder_7 : decode prog_1_method_26_code 7 = .ok (.ifCond .eq 18, 3) := by decide +kernel
theorem dc_Hall_keepOrder_10 : decode prog_1_method_26_code 10 = .ok (.aload_n 2, 1) := by decide +kernel
theorem dc_Hall_keepOrder_11 : decode prog_1_method_26_code 11 = .ok (.instanceof 158, 3) := by decide +kernel
theorem dc_Hall_keepOrder_14 : decode prog_1_method_26_code 14 = .ok (.ifCond .eq 11, 3) := by decide +kernel
theorem dc_Hall_keepOrder_17 : decode prog_1_method_26_code 17 = .ok (.aload_n 2, 1) := by decide +kernel
theorem dc_Hall_keepOrder_18 : decode prog_1_method_26_code 18 = .ok (.aload_n 1, 1) := by decide +kernel
theorem dc_Hall_keepOrder_19 : decode prog_1_method_26_code 19 = .ok (.invokevirtual 275, 3) := by decide +kernel
theorem dc_Hall_keepOrder_22 : decode prog_1_method_26_code 22 = .ok (.ifCond .le 4, 3) := by decide +kernel
theorem dc_Hall_keepOrder_25 : decode prog_1_method_26_code 25 = .ok (.return_, 1) := by decide +kernel
theorem dc_Hall_keepOrder_26 : decode prog_1_method_26_code 26 = .ok (.aload_n 0, 1) := by decide +kernel
theorem dc_Hall_keepOrder_27 : decode prog_1_method_26_code 27 = .ok (.aload_n 1, 1) := by decide +kernel
theorem dc_Hall_keepOrder_28 : decode prog_1_method_26_code 28 = .ok (.invokevirtual 276, 3) := by decide +kernel
theorem dc_Hall_keepOrder_31 : decode prog_1_method_26_code 31 = .ok (.istore 4, 2) := by decide +kernel
theorem dc_Hall_keepOrder_33 : decode prog_1_method_26_code 33 = .ok (.aload_n 0, 1) := by decide +kernel
theorem dc_Hall_keepOrder_34 : decode prog_1_method_26_code 34 = .ok (.getfield 27, 3) := by decide +kernel
theorem dc_Hall_keepOrder_37 : decode prog_1_method_26_code 37 = .ok (.iload_n 3, 1) := by decide +kernel
theorem dc_Hall_keepOrder_38 : decode prog_1_method_26_code 38 = .ok (.iload 4, 2) := by decide +kernel
theorem dc_Hall_keepOrder_40 : decode prog_1_method_26_code 40 = .ok (.invokevirtual 279, 3) := by decide +kernel
theorem dc_Hall_keepOrder_43 : decode prog_1_method_26_code 43 = .ok (.ifCond .eq 38, 3) := by decide +kernel
theorem dc_Hall_keepOrder_46 : decode prog_1_method_26_code 46 = .ok (.aload_n 0, 1) := by decide +kernel
theorem dc_Hall_keepOrder_47 : decode prog_1_method_26_code 47 = .ok (.getfield 27, 3) := by decide +kernel
theorem dc_Hall_keepOrder_50 : decode prog_1_method_26_code 50 = .ok (.dup, 1) := by decide +kernel
theorem dc_Hall_keepOrder_51 : decode prog_1_method_26_code 51 = .ok (.getfield 196, 3) := by decide +kernel
theorem dc_Hall_keepOrder_54 : decode prog_1_method_26_code 54 = .ok (.iconst 1, 1) := by decide +kernel
theorem dc_Hall_keepOrder_55 : decode prog_1_method_26_code 55 = .ok (.iadd, 1) := by decide +kernel
theorem dc_Hall_keepOrder_56 : decode prog_1_method_26_code 56 = .ok (.putfield 196, 3) := by decide +kernel
theorem dc_Hall_keepOrder_59 : decode prog_1_method_26_code 59 = .ok (.aload_n 0, 1) := by decide +kernel
theorem dc_Hall_keepOrder_60 : decode prog_1_method_26_code 60 = .ok (.getfield 27, 3) := by decide +kernel
theorem dc_Hall_keepOrder_63 : decode prog_1_method_26_code 63 = .ok (.getfield 193, 3) := by decide +kernel
theorem dc_Hall_keepOrder_66 : decode prog_1_method_26_code 66 = .ok (.iconst 2, 1) := by decide +kernel
theorem dc_Hall_keepOrder_67 : decode prog_1_method_26_code 67 = .ok (.if_icmp .ne 14, 3) := by decide +kernel
theorem dc_Hall_keepOrder_70 : decode prog_1_method_26_code 70 = .ok (.new 243, 3) := by decide +kernel
theorem dc_Hall_keepOrder_73 : decode prog_1_method_26_code 73 = .ok (.dup, 1) := by decide +kernel
theorem dc_Hall_keepOrder_74 : decode prog_1_method_26_code 74 = .ok (.ldc_w 283, 3) := by decide +kernel
theorem dc_Hall_keepOrder_77 : decode prog_1_method_26_code 77 = .ok (.invokespecial 247, 3) := by decide +kernel
theorem dc_Hall_keepOrder_80 : decode prog_1_method_26_code 80 = .ok (.athrow, 1) := by decide +kernel
theorem dc_Hall_keepOrder_81 : decode prog_1_method_26_code 81 = .ok (.aload_n 0, 1) := by decide +kernel
theorem dc_Hall_keepOrder_82 : decode prog_1_method_26_code 82 = .ok (.getfield 27, 3) := by decide +kernel
theorem dc_Hall_keepOrder_85 : decode prog_1_method_26_code 85 = .ok (.iload 4, 2) := by decide +kernel
theorem dc_Hall_keepOrder_87 : decode prog_1_method_26_code 87 = .ok (.iload_n 3, 1) := by decide +kernel
theorem dc_Hall_keepOrder_88 : decode prog_1_method_26_code 88 = .ok (.invokevirtual 285, 3) := by decide +kernel
theorem dc_Hall_keepOrder_91 : decode prog_1_method_26_code 91 = .ok (.return_, 1) := by decide +kernel
theorem dc_Gate_checkWish_0 : decode prog_3_method_6_code 0 = .ok (.return_, 1) := by decide +kernel
theorem dc_Shared_checkWish_0 : decode prog_8_method_2_code 0 = .ok (.iload_n 2, 1) := by decide +kernel
theorem dc_Shared_checkWish_1 : decode prog_8_method_2_code 1 = .ok (.iconst 1, 1) := by decide +kernel
theorem dc_Shared_checkWish_2 : decode prog_8_method_2_code 2 = .ok (.if_icmp .ne 33, 3) := by decide +kernel
theorem dc_Shared_checkWish_5 : decode prog_8_method_2_code 5 = .ok (.aload_n 0, 1) := by decide +kernel
theorem dc_Shared_checkWish_6 : decode prog_8_method_2_code 6 = .ok (.getfield 9, 3) := by decide +kernel
theorem dc_Shared_checkWish_9 : decode prog_8_method_2_code 9 = .ok (.aload_n 1, 1) := by decide +kernel
theorem dc_Shared_checkWish_10 : decode prog_8_method_2_code 10 = .ok (.getfield 15, 3) := by decide +kernel
theorem dc_Shared_checkWish_13 : decode prog_8_method_2_code 13 = .ok (.iaload, 1) := by decide +kernel
theorem dc_Shared_checkWish_14 : decode prog_8_method_2_code 14 = .ok (.ifCond .le 21, 3) := by decide +kernel
theorem dc_Shared_checkWish_17 : decode prog_8_method_2_code 17 = .ok (.aload_n 0, 1) := by decide +kernel
theorem dc_Shared_checkWish_18 : decode prog_8_method_2_code 18 = .ok (.getfield 21, 3) := by decide +kernel
theorem dc_Shared_checkWish_21 : decode prog_8_method_2_code 21 = .ok (.aload_n 1, 1) := by decide +kernel
theorem dc_Shared_checkWish_22 : decode prog_8_method_2_code 22 = .ok (.if_acmp .eq 13, 3) := by decide +kernel
theorem dc_Shared_checkWish_25 : decode prog_8_method_2_code 25 = .ok (.new 25, 3) := by decide +kernel
theorem dc_Shared_checkWish_28 : decode prog_8_method_2_code 28 = .ok (.dup, 1) := by decide +kernel
theorem dc_Shared_checkWish_29 : decode prog_8_method_2_code 29 = .ok (.ldc 27, 2) := by decide +kernel
theorem dc_Shared_checkWish_31 : decode prog_8_method_2_code 31 = .ok (.invokespecial 29, 3) := by decide +kernel
theorem dc_Shared_checkWish_34 : decode prog_8_method_2_code 34 = .ok (.athrow, 1) := by decide +kernel
theorem dc_Shared_checkWish_35 : decode prog_8_method_2_code 35 = .ok (.return_, 1) := by decide +kernel
theorem dc_Waiters_size_0 : decode prog_10_method_2_code 0 = .ok (.aload_n 0, 1) := by decide +kernel
theorem dc_Waiters_size_1 : decode prog_10_method_2_code 1 = .ok (.getfield 17, 3) := by decide +kernel
theorem dc_Waiters_size_4 : decode prog_10_method_2_code 4 = .ok (.ireturn, 1) := by decide +kernel
theorem dc_Semaphore_mustQueue_0 : decode prog_7_method_3_code 0 = .ok (.aload_n 0, 1) := by decide +kernel
theorem dc_Semaphore_mustQueue_1 : decode prog_7_method_3_code 1 = .ok (.getfield 15, 3) := by decide +kernel
theorem dc_Semaphore_mustQueue_4 : decode prog_7_method_3_code 4 = .ok (.invokevirtual 19, 3) := by decide +kernel
theorem dc_Semaphore_mustQueue_7 : decode prog_7_method_3_code 7 = .ok (.ifCond .le 7, 3) := by decide +kernel
theorem dc_Semaphore_mustQueue_10 : decode prog_7_method_3_code 10 = .ok (.iconst 1, 1) := by decide +kernel
theorem dc_Semaphore_mustQueue_11 : decode prog_7_method_3_code 11 = .ok (.goto 4, 3) := by decide +kernel
theorem dc_Semaphore_mustQueue_14 : decode prog_7_method_3_code 14 = .ok (.iconst 0, 1) := by decide +kernel
theorem dc_Semaphore_mustQueue_15 : decode prog_7_method_3_code 15 = .ok (.ireturn, 1) := by decide +kernel
theorem dc_Waiters_firstToWrite_0 : decode prog_10_method_6_code 0 = .ok (.iconst 0, 1) := by decide +kernel
theorem dc_Waiters_firstToWrite_1 : decode prog_10_method_6_code 1 = .ok (.istore_n 1, 1) := by decide +kernel
theorem dc_Waiters_firstToWrite_2 : decode prog_10_method_6_code 2 = .ok (.iload_n 1, 1) := by decide +kernel
theorem dc_Waiters_firstToWrite_3 : decode prog_10_method_6_code 3 = .ok (.aload_n 0, 1) := by decide +kernel
theorem dc_Waiters_firstToWrite_4 : decode prog_10_method_6_code 4 = .ok (.getfield 17, 3) := by decide +kernel
theorem dc_Waiters_firstToWrite_7 : decode prog_10_method_6_code 7 = .ok (.if_icmp .ge 29, 3) := by decide +kernel
theorem dc_Waiters_firstToWrite_10 : decode prog_10_method_6_code 10 = .ok (.aload_n 0, 1) := by decide +kernel
theorem dc_Waiters_firstToWrite_11 : decode prog_10_method_6_code 11 = .ok (.getfield 11, 3) := by decide +kernel
theorem dc_Waiters_firstToWrite_14 : decode prog_10_method_6_code 14 = .ok (.iload_n 1, 1) := by decide +kernel
theorem dc_Waiters_firstToWrite_15 : decode prog_10_method_6_code 15 = .ok (.aaload, 1) := by decide +kernel
theorem dc_Waiters_firstToWrite_16 : decode prog_10_method_6_code 16 = .ok (.getfield 21, 3) := by decide +kernel
theorem dc_Waiters_firstToWrite_19 : decode prog_10_method_6_code 19 = .ok (.iconst 1, 1) := by decide +kernel
theorem dc_Waiters_firstToWrite_20 : decode prog_10_method_6_code 20 = .ok (.if_icmp .ne 10, 3) := by decide +kernel
theorem dc_Waiters_firstToWrite_23 : decode prog_10_method_6_code 23 = .ok (.aload_n 0, 1) := by decide +kernel
theorem dc_Waiters_firstToWrite_24 : decode prog_10_method_6_code 24 = .ok (.getfield 11, 3) := by decide +kernel
theorem dc_Waiters_firstToWrite_27 : decode prog_10_method_6_code 27 = .ok (.iload_n 1, 1) := by decide +kernel
theorem dc_Waiters_firstToWrite_28 : decode prog_10_method_6_code 28 = .ok (.aaload, 1) := by decide +kernel
theorem dc_Waiters_firstToWrite_29 : decode prog_10_method_6_code 29 = .ok (.areturn, 1) := by decide +kernel
theorem dc_Waiters_firstToWrite_30 : decode prog_10_method_6_code 30 = .ok (.iinc 1 1, 3) := by decide +kernel
theorem dc_Waiters_firstToWrite_33 : decode prog_10_method_6_code 33 = .ok (.goto (-31), 3) := by decide +kernel
theorem dc_Waiters_firstToWrite_36 : decode prog_10_method_6_code 36 = .ok (.aconst_null, 1) := by decide +kernel
theorem dc_Waiters_firstToWrite_37 : decode prog_10_method_6_code 37 = .ok (.areturn, 1) := by decide +kernel
theorem dc_Shared_mustQueue_0 : decode prog_8_method_4_code 0 = .ok (.aload_n 0, 1) := by decide +kernel
theorem dc_Shared_mustQueue_1 : decode prog_8_method_4_code 1 = .ok (.getfield 9, 3) := by decide +kernel
theorem dc_Shared_mustQueue_4 : decode prog_8_method_4_code 4 = .ok (.aload_n 1, 1) := by decide +kernel
theorem dc_Shared_mustQueue_5 : decode prog_8_method_4_code 5 = .ok (.getfield 15, 3) := by decide +kernel
theorem dc_Shared_mustQueue_8 : decode prog_8_method_4_code 8 = .ok (.iaload, 1) := by decide +kernel
theorem dc_Shared_mustQueue_9 : decode prog_8_method_4_code 9 = .ok (.ifCond .gt 11, 3) := by decide +kernel
theorem dc_Shared_mustQueue_12 : decode prog_8_method_4_code 12 = .ok (.aload_n 0, 1) := by decide +kernel
theorem dc_Shared_mustQueue_13 : decode prog_8_method_4_code 13 = .ok (.getfield 21, 3) := by decide +kernel
theorem dc_Shared_mustQueue_16 : decode prog_8_method_4_code 16 = .ok (.aload_n 1, 1) := by decide +kernel
theorem dc_Shared_mustQueue_17 : decode prog_8_method_4_code 17 = .ok (.if_acmp .ne 5, 3) := by decide +kernel
theorem dc_Shared_mustQueue_20 : decode prog_8_method_4_code 20 = .ok (.iconst 0, 1) := by decide +kernel
theorem dc_Shared_mustQueue_21 : decode prog_8_method_4_code 21 = .ok (.ireturn, 1) := by decide +kernel
theorem dc_Shared_mustQueue_22 : decode prog_8_method_4_code 22 = .ok (.iload_n 2, 1) := by decide +kernel
theorem dc_Shared_mustQueue_23 : decode prog_8_method_4_code 23 = .ok (.ifCond .ne 21, 3) := by decide +kernel
theorem dc_Shared_mustQueue_26 : decode prog_8_method_4_code 26 = .ok (.aload_n 0, 1) := by decide +kernel
theorem dc_Shared_mustQueue_27 : decode prog_8_method_4_code 27 = .ok (.getfield 36, 3) := by decide +kernel
theorem dc_Shared_mustQueue_30 : decode prog_8_method_4_code 30 = .ok (.invokevirtual 40, 3) := by decide +kernel
theorem dc_Shared_mustQueue_33 : decode prog_8_method_4_code 33 = .ok (.ifnull 7, 3) := by decide +kernel
theorem dc_Shared_mustQueue_36 : decode prog_8_method_4_code 36 = .ok (.iconst 1, 1) := by decide +kernel
theorem dc_Shared_mustQueue_37 : decode prog_8_method_4_code 37 = .ok (.goto 22, 3) := by decide +kernel
theorem dc_Shared_mustQueue_40 : decode prog_8_method_4_code 40 = .ok (.iconst 0, 1) := by decide +kernel
theorem dc_Shared_mustQueue_41 : decode prog_8_method_4_code 41 = .ok (.goto 18, 3) := by decide +kernel
theorem dc_Shared_mustQueue_44 : decode prog_8_method_4_code 44 = .ok (.aload_n 0, 1) := by decide +kernel
theorem dc_Shared_mustQueue_45 : decode prog_8_method_4_code 45 = .ok (.getfield 36, 3) := by decide +kernel
theorem dc_Shared_mustQueue_48 : decode prog_8_method_4_code 48 = .ok (.invokevirtual 46, 3) := by decide +kernel
theorem dc_Shared_mustQueue_51 : decode prog_8_method_4_code 51 = .ok (.ifCond .le 7, 3) := by decide +kernel
theorem dc_Shared_mustQueue_54 : decode prog_8_method_4_code 54 = .ok (.iconst 1, 1) := by decide +kernel
theorem dc_Shared_mustQueue_55 : decode prog_8_method_4_code 55 = .ok (.goto 4, 3) := by decide +kernel
theorem dc_Shared_mustQueue_58 : decode prog_8_method_4_code 58 = .ok (.iconst 0, 1) := by decide +kernel
theorem dc_Shared_mustQueue_59 : decode prog_8_method_4_code 59 = .ok (.ireturn, 1) := by decide +kernel
theorem dc_Lock_isAgain_0 : decode prog_5_method_7_code 0 = .ok (.aload_n 0, 1) := by decide +kernel
theorem dc_Lock_isAgain_1 : decode prog_5_method_7_code 1 = .ok (.getfield 41, 3) := by decide +kernel
theorem dc_Lock_isAgain_4 : decode prog_5_method_7_code 4 = .ok (.iconst 1, 1) := by decide +kernel
theorem dc_Lock_isAgain_5 : decode prog_5_method_7_code 5 = .ok (.if_icmp .ne 15, 3) := by decide +kernel
theorem dc_Lock_isAgain_8 : decode prog_5_method_7_code 8 = .ok (.aload_n 0, 1) := by decide +kernel
theorem dc_Lock_isAgain_9 : decode prog_5_method_7_code 9 = .ok (.getfield 9, 3) := by decide +kernel
theorem dc_Lock_isAgain_12 : decode prog_5_method_7_code 12 = .ok (.aload_n 1, 1) := by decide +kernel
theorem dc_Lock_isAgain_13 : decode prog_5_method_7_code 13 = .ok (.if_acmp .ne 7, 3) := by decide +kernel
theorem dc_Lock_isAgain_16 : decode prog_5_method_7_code 16 = .ok (.iconst 1, 1) := by decide +kernel
theorem dc_Lock_isAgain_17 : decode prog_5_method_7_code 17 = .ok (.goto 4, 3) := by decide +kernel
theorem dc_Lock_isAgain_20 : decode prog_5_method_7_code 20 = .ok (.iconst 0, 1) := by decide +kernel
theorem dc_Lock_isAgain_21 : decode prog_5_method_7_code 21 = .ok (.ireturn, 1) := by decide +kernel
theorem dc_Lock_mustQueue_0 : decode prog_5_method_3_code 0 = .ok (.aload_n 0, 1) := by decide +kernel
theorem dc_Lock_mustQueue_1 : decode prog_5_method_3_code 1 = .ok (.getfield 19, 3) := by decide +kernel
theorem dc_Lock_mustQueue_4 : decode prog_5_method_3_code 4 = .ok (.invokevirtual 23, 3) := by decide +kernel
theorem dc_Lock_mustQueue_7 : decode prog_5_method_3_code 7 = .ok (.ifCond .le 15, 3) := by decide +kernel
theorem dc_Lock_mustQueue_10 : decode prog_5_method_3_code 10 = .ok (.aload_n 0, 1) := by decide +kernel
theorem dc_Lock_mustQueue_11 : decode prog_5_method_3_code 11 = .ok (.aload_n 1, 1) := by decide +kernel
theorem dc_Lock_mustQueue_12 : decode prog_5_method_3_code 12 = .ok (.invokevirtual 15, 3) := by decide +kernel
theorem dc_Lock_mustQueue_15 : decode prog_5_method_3_code 15 = .ok (.ifCond .ne 7, 3) := by decide +kernel
theorem dc_Lock_mustQueue_18 : decode prog_5_method_3_code 18 = .ok (.iconst 1, 1) := by decide +kernel
theorem dc_Lock_mustQueue_19 : decode prog_5_method_3_code 19 = .ok (.goto 4, 3) := by decide +kernel
theorem dc_Lock_mustQueue_22 : decode prog_5_method_3_code 22 = .ok (.iconst 0, 1) := by decide +kernel
theorem dc_Lock_mustQueue_23 : decode prog_5_method_3_code 23 = .ok (.ireturn, 1) := by decide +kernel
theorem dc_Latch_mustQueue_0 : decode prog_4_method_3_code 0 = .ok (.iconst 0, 1) := by decide +kernel
theorem dc_Latch_mustQueue_1 : decode prog_4_method_3_code 1 = .ok (.ireturn, 1) := by decide +kernel
theorem dc_Lock_canTake_0 : decode prog_5_method_2_code 0 = .ok (.aload_n 0, 1) := by decide +kernel
theorem dc_Lock_canTake_1 : decode prog_5_method_2_code 1 = .ok (.getfield 9, 3) := by decide +kernel
theorem dc_Lock_canTake_4 : decode prog_5_method_2_code 4 = .ok (.ifnull 11, 3) := by decide +kernel
theorem dc_Lock_canTake_7 : decode prog_5_method_2_code 7 = .ok (.aload_n 0, 1) := by decide +kernel
theorem dc_Lock_canTake_8 : decode prog_5_method_2_code 8 = .ok (.aload_n 1, 1) := by decide +kernel
theorem dc_Lock_canTake_9 : decode prog_5_method_2_code 9 = .ok (.invokevirtual 15, 3) := by decide +kernel
theorem dc_Lock_canTake_12 : decode prog_5_method_2_code 12 = .ok (.ifCond .eq 7, 3) := by decide +kernel
theorem dc_Lock_canTake_15 : decode prog_5_method_2_code 15 = .ok (.iconst 1, 1) := by decide +kernel
theorem dc_Lock_canTake_16 : decode prog_5_method_2_code 16 = .ok (.goto 4, 3) := by decide +kernel
theorem dc_Lock_canTake_19 : decode prog_5_method_2_code 19 = .ok (.iconst 0, 1) := by decide +kernel
theorem dc_Lock_canTake_20 : decode prog_5_method_2_code 20 = .ok (.ireturn, 1) := by decide +kernel
theorem dc_Latch_canTake_0 : decode prog_4_method_2_code 0 = .ok (.aload_n 0, 1) := by decide +kernel
theorem dc_Latch_canTake_1 : decode prog_4_method_2_code 1 = .ok (.getfield 9, 3) := by decide +kernel
theorem dc_Latch_canTake_4 : decode prog_4_method_2_code 4 = .ok (.ifCond .ne 7, 3) := by decide +kernel
theorem dc_Latch_canTake_7 : decode prog_4_method_2_code 7 = .ok (.iconst 1, 1) := by decide +kernel
theorem dc_Latch_canTake_8 : decode prog_4_method_2_code 8 = .ok (.goto 4, 3) := by decide +kernel
theorem dc_Latch_canTake_11 : decode prog_4_method_2_code 11 = .ok (.iconst 0, 1) := by decide +kernel
theorem dc_Latch_canTake_12 : decode prog_4_method_2_code 12 = .ok (.ireturn, 1) := by decide +kernel
theorem dc_Semaphore_canTake_0 : decode prog_7_method_2_code 0 = .ok (.aload_n 0, 1) := by decide +kernel
theorem dc_Semaphore_canTake_1 : decode prog_7_method_2_code 1 = .ok (.getfield 9, 3) := by decide +kernel
theorem dc_Semaphore_canTake_4 : decode prog_7_method_2_code 4 = .ok (.ifCond .le 7, 3) := by decide +kernel
theorem dc_Semaphore_canTake_7 : decode prog_7_method_2_code 7 = .ok (.iconst 1, 1) := by decide +kernel
theorem dc_Semaphore_canTake_8 : decode prog_7_method_2_code 8 = .ok (.goto 4, 3) := by decide +kernel
theorem dc_Semaphore_canTake_11 : decode prog_7_method_2_code 11 = .ok (.iconst 0, 1) := by decide +kernel
theorem dc_Semaphore_canTake_12 : decode prog_7_method_2_code 12 = .ok (.ireturn, 1) := by decide +kernel
theorem dc_Shared_othersRead_0 : decode prog_8_method_11_code 0 = .ok (.iconst 0, 1) := by decide +kernel
theorem dc_Shared_othersRead_1 : decode prog_8_method_11_code 1 = .ok (.istore_n 2, 1) := by decide +kernel
theorem dc_Shared_othersRead_2 : decode prog_8_method_11_code 2 = .ok (.iload_n 2, 1) := by decide +kernel
theorem dc_Shared_othersRead_3 : decode prog_8_method_11_code 3 = .ok (.bipush 6, 2) := by decide +kernel
theorem dc_Shared_othersRead_5 : decode prog_8_method_11_code 5 = .ok (.if_icmp .ge 28, 3) := by decide +kernel
theorem dc_Shared_othersRead_8 : decode prog_8_method_11_code 8 = .ok (.iload_n 2, 1) := by decide +kernel
theorem dc_Shared_othersRead_9 : decode prog_8_method_11_code 9 = .ok (.aload_n 1, 1) := by decide +kernel
theorem dc_Shared_othersRead_10 : decode prog_8_method_11_code 10 = .ok (.getfield 15, 3) := by decide +kernel
theorem dc_Shared_othersRead_13 : decode prog_8_method_11_code 13 = .ok (.if_icmp .eq 14, 3) := by decide +kernel
theorem dc_Shared_othersRead_16 : decode prog_8_method_11_code 16 = .ok (.aload_n 0, 1) := by decide +kernel
theorem dc_Shared_othersRead_17 : decode prog_8_method_11_code 17 = .ok (.getfield 9, 3) := by decide +kernel
theorem dc_Shared_othersRead_20 : decode prog_8_method_11_code 20 = .ok (.iload_n 2, 1) := by decide +kernel
theorem dc_Shared_othersRead_21 : decode prog_8_method_11_code 21 = .ok (.iaload, 1) := by decide +kernel
theorem dc_Shared_othersRead_22 : decode prog_8_method_11_code 22 = .ok (.ifCond .le 5, 3) := by decide +kernel
theorem dc_Shared_othersRead_25 : decode prog_8_method_11_code 25 = .ok (.iconst 1, 1) := by decide +kernel
theorem dc_Shared_othersRead_26 : decode prog_8_method_11_code 26 = .ok (.ireturn, 1) := by decide +kernel
theorem dc_Shared_othersRead_27 : decode prog_8_method_11_code 27 = .ok (.iinc 2 1, 3) := by decide +kernel
theorem dc_Shared_othersRead_30 : decode prog_8_method_11_code 30 = .ok (.goto (-28), 3) := by decide +kernel
theorem dc_Shared_othersRead_33 : decode prog_8_method_11_code 33 = .ok (.iconst 0, 1) := by decide +kernel
theorem dc_Shared_othersRead_34 : decode prog_8_method_11_code 34 = .ok (.ireturn, 1) := by decide +kernel
theorem dc_Shared_canTake_0 : decode prog_8_method_3_code 0 = .ok (.aload_n 0, 1) := by decide +kernel
theorem dc_Shared_canTake_1 : decode prog_8_method_3_code 1 = .ok (.getfield 21, 3) := by decide +kernel
theorem dc_Shared_canTake_4 : decode prog_8_method_3_code 4 = .ok (.ifnull 11, 3) := by decide +kernel
theorem dc_Shared_canTake_7 : decode prog_8_method_3_code 7 = .ok (.aload_n 0, 1) := by decide +kernel
theorem dc_Shared_canTake_8 : decode prog_8_method_3_code 8 = .ok (.getfield 21, 3) := by decide +kernel
theorem dc_Shared_canTake_11 : decode prog_8_method_3_code 11 = .ok (.aload_n 1, 1) := by decide +kernel
theorem dc_Shared_canTake_12 : decode prog_8_method_3_code 12 = .ok (.if_acmp .ne 7, 3) := by decide +kernel
theorem dc_Shared_canTake_15 : decode prog_8_method_3_code 15 = .ok (.iconst 1, 1) := by decide +kernel
theorem dc_Shared_canTake_16 : decode prog_8_method_3_code 16 = .ok (.goto 4, 3) := by decide +kernel
theorem dc_Shared_canTake_19 : decode prog_8_method_3_code 19 = .ok (.iconst 0, 1) := by decide +kernel
theorem dc_Shared_canTake_20 : decode prog_8_method_3_code 20 = .ok (.istore_n 3, 1) := by decide +kernel
theorem dc_Shared_canTake_21 : decode prog_8_method_3_code 21 = .ok (.iload_n 3, 1) := by decide +kernel
theorem dc_Shared_canTake_22 : decode prog_8_method_3_code 22 = .ok (.ifCond .eq 19, 3) := by decide +kernel
theorem dc_Shared_canTake_25 : decode prog_8_method_3_code 25 = .ok (.iload_n 2, 1) := by decide +kernel
theorem dc_Shared_canTake_26 : decode prog_8_method_3_code 26 = .ok (.ifCond .eq 11, 3) := by decide +kernel
theorem dc_Shared_canTake_29 : decode prog_8_method_3_code 29 = .ok (.aload_n 0, 1) := by decide +kernel
theorem dc_Shared_canTake_30 : decode prog_8_method_3_code 30 = .ok (.aload_n 1, 1) := by decide +kernel
theorem dc_Shared_canTake_31 : decode prog_8_method_3_code 31 = .ok (.invokevirtual 32, 3) := by decide +kernel
theorem dc_Shared_canTake_34 : decode prog_8_method_3_code 34 = .ok (.ifCond .ne 7, 3) := by decide +kernel
theorem dc_Shared_canTake_37 : decode prog_8_method_3_code 37 = .ok (.iconst 1, 1) := by decide +kernel
theorem dc_Shared_canTake_38 : decode prog_8_method_3_code 38 = .ok (.goto 4, 3) := by decide +kernel
theorem dc_Shared_canTake_41 : decode prog_8_method_3_code 41 = .ok (.iconst 0, 1) := by decide +kernel
theorem dc_Shared_canTake_42 : decode prog_8_method_3_code 42 = .ok (.ireturn, 1) := by decide +kernel
theorem dc_Lock_take_0 : decode prog_5_method_4_code 0 = .ok (.aload_n 0, 1) := by decide +kernel
theorem dc_Lock_take_1 : decode prog_5_method_4_code 1 = .ok (.aload_n 1, 1) := by decide +kernel
theorem dc_Lock_take_2 : decode prog_5_method_4_code 2 = .ok (.putfield 9, 3) := by decide +kernel
theorem dc_Lock_take_5 : decode prog_5_method_4_code 5 = .ok (.aload_n 0, 1) := by decide +kernel
theorem dc_Lock_take_6 : decode prog_5_method_4_code 6 = .ok (.dup, 1) := by decide +kernel
theorem dc_Lock_take_7 : decode prog_5_method_4_code 7 = .ok (.getfield 29, 3) := by decide +kernel
theorem dc_Lock_take_10 : decode prog_5_method_4_code 10 = .ok (.iload_n 3, 1) := by decide +kernel
theorem dc_Lock_take_11 : decode prog_5_method_4_code 11 = .ok (.iadd, 1) := by decide +kernel
theorem dc_Lock_take_12 : decode prog_5_method_4_code 12 = .ok (.putfield 29, 3) := by decide +kernel
theorem dc_Lock_take_15 : decode prog_5_method_4_code 15 = .ok (.return_, 1) := by decide +kernel
theorem dc_Shared_take_0 : decode prog_8_method_5_code 0 = .ok (.iload_n 2, 1) := by decide +kernel
theorem dc_Shared_take_1 : decode prog_8_method_5_code 1 = .ok (.ifCond .ne 19, 3) := by decide +kernel
theorem dc_Shared_take_4 : decode prog_8_method_5_code 4 = .ok (.aload_n 0, 1) := by decide +kernel
theorem dc_Shared_take_5 : decode prog_8_method_5_code 5 = .ok (.getfield 9, 3) := by decide +kernel
theorem dc_Shared_take_8 : decode prog_8_method_5_code 8 = .ok (.aload_n 1, 1) := by decide +kernel
theorem dc_Shared_take_9 : decode prog_8_method_5_code 9 = .ok (.getfield 15, 3) := by decide +kernel
theorem dc_Shared_take_12 : decode prog_8_method_5_code 12 = .ok (.dup2, 1) := by decide +kernel
theorem dc_Shared_take_13 : decode prog_8_method_5_code 13 = .ok (.iaload, 1) := by decide +kernel
theorem dc_Shared_take_14 : decode prog_8_method_5_code 14 = .ok (.iconst 1, 1) := by decide +kernel
theorem dc_Shared_take_15 : decode prog_8_method_5_code 15 = .ok (.iadd, 1) := by decide +kernel
theorem dc_Shared_take_16 : decode prog_8_method_5_code 16 = .ok (.iastore, 1) := by decide +kernel
theorem dc_Shared_take_17 : decode prog_8_method_5_code 17 = .ok (.goto 18, 3) := by decide +kernel
theorem dc_Shared_take_20 : decode prog_8_method_5_code 20 = .ok (.aload_n 0, 1) := by decide +kernel
theorem dc_Shared_take_21 : decode prog_8_method_5_code 21 = .ok (.aload_n 1, 1) := by decide +kernel
theorem dc_Shared_take_22 : decode prog_8_method_5_code 22 = .ok (.putfield 21, 3) := by decide +kernel
theorem dc_Shared_take_25 : decode prog_8_method_5_code 25 = .ok (.aload_n 0, 1) := by decide +kernel
theorem dc_Shared_take_26 : decode prog_8_method_5_code 26 = .ok (.dup, 1) := by decide +kernel
theorem dc_Shared_take_27 : decode prog_8_method_5_code 27 = .ok (.getfield 50, 3) := by decide +kernel
theorem dc_Shared_take_30 : decode prog_8_method_5_code 30 = .ok (.iconst 1, 1) := by decide +kernel
theorem dc_Shared_take_31 : decode prog_8_method_5_code 31 = .ok (.iadd, 1) := by decide +kernel
theorem dc_Shared_take_32 : decode prog_8_method_5_code 32 = .ok (.putfield 50, 3) := by decide +kernel
theorem dc_Shared_take_35 : decode prog_8_method_5_code 35 = .ok (.return_, 1) := by decide +kernel
theorem dc_Latch_take_0 : decode prog_4_method_4_code 0 = .ok (.return_, 1) := by decide +kernel
theorem dc_Semaphore_take_0 : decode prog_7_method_4_code 0 = .ok (.aload_n 0, 1) := by decide +kernel
theorem dc_Semaphore_take_1 : decode prog_7_method_4_code 1 = .ok (.dup, 1) := by decide +kernel
theorem dc_Semaphore_take_2 : decode prog_7_method_4_code 2 = .ok (.getfield 9, 3) := by decide +kernel
theorem dc_Semaphore_take_5 : decode prog_7_method_4_code 5 = .ok (.iconst 1, 1) := by decide +kernel
theorem dc_Semaphore_take_6 : decode prog_7_method_4_code 6 = .ok (.isub, 1) := by decide +kernel
theorem dc_Semaphore_take_7 : decode prog_7_method_4_code 7 = .ok (.putfield 9, 3) := by decide +kernel
theorem dc_Semaphore_take_10 : decode prog_7_method_4_code 10 = .ok (.return_, 1) := by decide +kernel
theorem dc_Waiters_add_0 : decode prog_10_method_4_code 0 = .ok (.aload_n 0, 1) := by decide +kernel
theorem dc_Waiters_add_1 : decode prog_10_method_4_code 1 = .ok (.getfield 17, 3) := by decide +kernel
theorem dc_Waiters_add_4 : decode prog_10_method_4_code 4 = .ok (.aload_n 0, 1) := by decide +kernel
theorem dc_Waiters_add_5 : decode prog_10_method_4_code 5 = .ok (.getfield 11, 3) := by decide +kernel
theorem dc_Waiters_add_8 : decode prog_10_method_4_code 8 = .ok (.arraylength, 1) := by decide +kernel
theorem dc_Waiters_add_9 : decode prog_10_method_4_code 9 = .ok (.if_icmp .ge 23, 3) := by decide +kernel
theorem dc_Waiters_add_12 : decode prog_10_method_4_code 12 = .ok (.aload_n 0, 1) := by decide +kernel
theorem dc_Waiters_add_13 : decode prog_10_method_4_code 13 = .ok (.getfield 11, 3) := by decide +kernel
theorem dc_Waiters_add_16 : decode prog_10_method_4_code 16 = .ok (.aload_n 0, 1) := by decide +kernel
theorem dc_Waiters_add_17 : decode prog_10_method_4_code 17 = .ok (.getfield 17, 3) := by decide +kernel
theorem dc_Waiters_add_20 : decode prog_10_method_4_code 20 = .ok (.aload_n 1, 1) := by decide +kernel
theorem dc_Waiters_add_21 : decode prog_10_method_4_code 21 = .ok (.aastore, 1) := by decide +kernel
theorem dc_Waiters_add_22 : decode prog_10_method_4_code 22 = .ok (.aload_n 0, 1) := by decide +kernel
theorem dc_Waiters_add_23 : decode prog_10_method_4_code 23 = .ok (.dup, 1) := by decide +kernel
theorem dc_Waiters_add_24 : decode prog_10_method_4_code 24 = .ok (.getfield 17, 3) := by decide +kernel
theorem dc_Waiters_add_27 : decode prog_10_method_4_code 27 = .ok (.iconst 1, 1) := by decide +kernel
theorem dc_Waiters_add_28 : decode prog_10_method_4_code 28 = .ok (.iadd, 1) := by decide +kernel
theorem dc_Waiters_add_29 : decode prog_10_method_4_code 29 = .ok (.putfield 17, 3) := by decide +kernel
theorem dc_Waiters_add_32 : decode prog_10_method_4_code 32 = .ok (.return_, 1) := by decide +kernel
theorem dc_Sync_enqueue_0 : decode prog_9_method_4_code 0 = .ok (.aload_n 0, 1) := by decide +kernel
theorem dc_Sync_enqueue_1 : decode prog_9_method_4_code 1 = .ok (.getfield 18, 3) := by decide +kernel
theorem dc_Sync_enqueue_4 : decode prog_9_method_4_code 4 = .ok (.aload_n 1, 1) := by decide +kernel
theorem dc_Sync_enqueue_5 : decode prog_9_method_4_code 5 = .ok (.invokevirtual 22, 3) := by decide +kernel
theorem dc_Sync_enqueue_8 : decode prog_9_method_4_code 8 = .ok (.aload_n 1, 1) := by decide +kernel
theorem dc_Sync_enqueue_9 : decode prog_9_method_4_code 9 = .ok (.aload_n 0, 1) := by decide +kernel
theorem dc_Sync_enqueue_10 : decode prog_9_method_4_code 10 = .ok (.putfield 26, 3) := by decide +kernel
theorem dc_Sync_enqueue_13 : decode prog_9_method_4_code 13 = .ok (.aload_n 1, 1) := by decide +kernel
theorem dc_Sync_enqueue_14 : decode prog_9_method_4_code 14 = .ok (.iload_n 2, 1) := by decide +kernel
theorem dc_Sync_enqueue_15 : decode prog_9_method_4_code 15 = .ok (.putfield 32, 3) := by decide +kernel
theorem dc_Sync_enqueue_18 : decode prog_9_method_4_code 18 = .ok (.aload_n 1, 1) := by decide +kernel
theorem dc_Sync_enqueue_19 : decode prog_9_method_4_code 19 = .ok (.dload_n 3, 1) := by decide +kernel
theorem dc_Sync_enqueue_20 : decode prog_9_method_4_code 20 = .ok (.putfield 35, 3) := by decide +kernel
theorem dc_Sync_enqueue_23 : decode prog_9_method_4_code 23 = .ok (.aload_n 1, 1) := by decide +kernel
theorem dc_Sync_enqueue_24 : decode prog_9_method_4_code 24 = .ok (.iconst 0, 1) := by decide +kernel
theorem dc_Sync_enqueue_25 : decode prog_9_method_4_code 25 = .ok (.putfield 39, 3) := by decide +kernel
theorem dc_Sync_enqueue_28 : decode prog_9_method_4_code 28 = .ok (.return_, 1) := by decide +kernel
theorem dc_Worker_setEnd_0 : decode prog_11_method_5_code 0 = .ok (.dload_n 3, 1) := by decide +kernel
theorem dc_Worker_setEnd_1 : decode prog_11_method_5_code 1 = .ok (.dconst 0, 1) := by decide +kernel
theorem dc_Worker_setEnd_2 : decode prog_11_method_5_code 2 = .ok (.dcmp .l, 1) := by decide +kernel
theorem dc_Worker_setEnd_3 : decode prog_11_method_5_code 3 = .ok (.ifCond .le 15, 3) := by decide +kernel
theorem dc_Worker_setEnd_6 : decode prog_11_method_5_code 6 = .ok (.aload_n 0, 1) := by decide +kernel
theorem dc_Worker_setEnd_7 : decode prog_11_method_5_code 7 = .ok (.iconst 1, 1) := by decide +kernel
theorem dc_Worker_setEnd_8 : decode prog_11_method_5_code 8 = .ok (.putfield 29, 3) := by decide +kernel
theorem dc_Worker_setEnd_11 : decode prog_11_method_5_code 11 = .ok (.aload_n 0, 1) := by decide +kernel
theorem dc_Worker_setEnd_12 : decode prog_11_method_5_code 12 = .ok (.dload_n 1, 1) := by decide +kernel
theorem dc_Worker_setEnd_13 : decode prog_11_method_5_code 13 = .ok (.dload_n 3, 1) := by decide +kernel
theorem dc_Worker_setEnd_14 : decode prog_11_method_5_code 14 = .ok (.dadd, 1) := by decide +kernel
theorem dc_Worker_setEnd_15 : decode prog_11_method_5_code 15 = .ok (.putfield 32, 3) := by decide +kernel
theorem dc_Worker_setEnd_18 : decode prog_11_method_5_code 18 = .ok (.return_, 1) := by decide +kernel
theorem dc_Hall_acquire_0 : decode prog_1_method_4_code 0 = .ok (.aload_n 0, 1) := by decide +kernel
theorem dc_Hall_acquire_1 : decode prog_1_method_4_code 1 = .ok (.iload_n 1, 1) := by decide +kernel
theorem dc_Hall_acquire_2 : decode prog_1_method_4_code 2 = .ok (.invokevirtual 62, 3) := by decide +kernel
theorem dc_Hall_acquire_5 : decode prog_1_method_4_code 5 = .ok (.astore 6, 2) := by decide +kernel
theorem dc_Hall_acquire_7 : decode prog_1_method_4_code 7 = .ok (.iload_n 3, 1) := by decide +kernel
theorem dc_Hall_acquire_8 : decode prog_1_method_4_code 8 = .ok (.iconst 0, 1) := by decide +kernel
theorem dc_Hall_acquire_9 : decode prog_1_method_4_code 9 = .ok (.iconst 1, 1) := by decide +kernel
theorem dc_Hall_acquire_10 : decode prog_1_method_4_code 10 = .ok (.invokestatic 39, 3) := by decide +kernel
theorem dc_Hall_acquire_13 : decode prog_1_method_4_code 13 = .ok (.dload 4, 2) := by decide +kernel
theorem dc_Hall_acquire_15 : decode prog_1_method_4_code 15 = .ok (.iconst (-1), 1) := by decide +kernel
theorem dc_Hall_acquire_16 : decode prog_1_method_4_code 16 = .ok (.sipush 1000, 3) := by decide +kernel
theorem dc_Hall_acquire_19 : decode prog_1_method_4_code 19 = .ok (.invokestatic 66, 3) := by decide +kernel
theorem dc_Hall_acquire_22 : decode prog_1_method_4_code 22 = .ok (.aload_n 0, 1) := by decide +kernel
theorem dc_Hall_acquire_23 : decode prog_1_method_4_code 23 = .ok (.iload_n 2, 1) := by decide +kernel
theorem dc_Hall_acquire_24 : decode prog_1_method_4_code 24 = .ok (.invokevirtual 73, 3) := by decide +kernel
theorem dc_Hall_acquire_27 : decode prog_1_method_4_code 27 = .ok (.astore 7, 2) := by decide +kernel
theorem dc_Hall_acquire_29 : decode prog_1_method_4_code 29 = .ok (.aload 6, 2) := by decide +kernel
theorem dc_Hall_acquire_31 : decode prog_1_method_4_code 31 = .ok (.invokestatic 77, 3) := by decide +kernel
theorem dc_Hall_acquire_34 : decode prog_1_method_4_code 34 = .ok (.aload 7, 2) := by decide +kernel
theorem dc_Hall_acquire_36 : decode prog_1_method_4_code 36 = .ok (.invokestatic 81, 3) := by decide +kernel
theorem dc_Hall_acquire_39 : decode prog_1_method_4_code 39 = .ok (.astore 8, 2) := by decide +kernel
theorem dc_Hall_acquire_41 : decode prog_1_method_4_code 41 = .ok (.aload 6, 2) := by decide +kernel
theorem dc_Hall_acquire_43 : decode prog_1_method_4_code 43 = .ok (.invokevirtual 85, 3) := by decide +kernel
theorem dc_Hall_acquire_46 : decode prog_1_method_4_code 46 = .ok (.ifCond .eq 10, 3) := by decide +kernel
theorem dc_Hall_acquire_49 : decode prog_1_method_4_code 49 = .ok (.aload 6, 2) := by decide +kernel
theorem dc_Hall_acquire_51 : decode prog_1_method_4_code 51 = .ok (.iconst 3, 1) := by decide +kernel
theorem dc_Hall_acquire_52 : decode prog_1_method_4_code 52 = .ok (.invokevirtual 89, 3) := by decide +kernel
theorem dc_Hall_acquire_55 : decode prog_1_method_4_code 55 = .ok (.ireturn, 1) := by decide +kernel
theorem dc_Hall_acquire_56 : decode prog_1_method_4_code 56 = .ok (.aload_n 0, 1) := by decide +kernel
theorem dc_Hall_acquire_57 : decode prog_1_method_4_code 57 = .ok (.aload 6, 2) := by decide +kernel
theorem dc_Hall_acquire_59 : decode prog_1_method_4_code 59 = .ok (.aload 8, 2) := by decide +kernel
theorem dc_Hall_acquire_61 : decode prog_1_method_4_code 61 = .ok (.iload_n 2, 1) := by decide +kernel
theorem dc_Hall_acquire_62 : decode prog_1_method_4_code 62 = .ok (.invokevirtual 92, 3) := by decide +kernel
theorem dc_Hall_acquire_65 : decode prog_1_method_4_code 65 = .ok (.aload 8, 2) := by decide +kernel
theorem dc_Hall_acquire_67 : decode prog_1_method_4_code 67 = .ok (.aload 6, 2) := by decide +kernel
theorem dc_Hall_acquire_69 : decode prog_1_method_4_code 69 = .ok (.iload_n 3, 1) := by decide +kernel
theorem dc_Hall_acquire_70 : decode prog_1_method_4_code 70 = .ok (.invokevirtual 96, 3) := by decide +kernel
theorem dc_Hall_acquire_73 : decode prog_1_method_4_code 73 = .ok (.aload 8, 2) := by decide +kernel
theorem dc_Hall_acquire_75 : decode prog_1_method_4_code 75 = .ok (.aload 6, 2) := by decide +kernel
theorem dc_Hall_acquire_77 : decode prog_1_method_4_code 77 = .ok (.iload_n 3, 1) := by decide +kernel
theorem dc_Hall_acquire_78 : decode prog_1_method_4_code 78 = .ok (.invokevirtual 102, 3) := by decide +kernel
theorem dc_Hall_acquire_81 : decode prog_1_method_4_code 81 = .ok (.ifCond .ne 30, 3) := by decide +kernel
theorem dc_Hall_acquire_84 : decode prog_1_method_4_code 84 = .ok (.aload 8, 2) := by decide +kernel
theorem dc_Hall_acquire_86 : decode prog_1_method_4_code 86 = .ok (.aload 6, 2) := by decide +kernel
theorem dc_Hall_acquire_88 : decode prog_1_method_4_code 88 = .ok (.iload_n 3, 1) := by decide +kernel
theorem dc_Hall_acquire_89 : decode prog_1_method_4_code 89 = .ok (.invokevirtual 106, 3) := by decide +kernel
theorem dc_Hall_acquire_92 : decode prog_1_method_4_code 92 = .ok (.ifCond .eq 19, 3) := by decide +kernel
theorem dc_Hall_acquire_95 : decode prog_1_method_4_code 95 = .ok (.aload 8, 2) := by decide +kernel
theorem dc_Hall_acquire_97 : decode prog_1_method_4_code 97 = .ok (.aload 6, 2) := by decide +kernel
theorem dc_Hall_acquire_99 : decode prog_1_method_4_code 99 = .ok (.iload_n 3, 1) := by decide +kernel
theorem dc_Hall_acquire_100 : decode prog_1_method_4_code 100 = .ok (.iconst 1, 1) := by decide +kernel
theorem dc_Hall_acquire_101 : decode prog_1_method_4_code 101 = .ok (.invokevirtual 109, 3) := by decide +kernel
theorem dc_Hall_acquire_104 : decode prog_1_method_4_code 104 = .ok (.aload 6, 2) := by decide +kernel
theorem dc_Hall_acquire_106 : decode prog_1_method_4_code 106 = .ok (.iconst 1, 1) := by decide +kernel
theorem dc_Hall_acquire_107 : decode prog_1_method_4_code 107 = .ok (.invokevirtual 89, 3) := by decide +kernel
theorem dc_Hall_acquire_110 : decode prog_1_method_4_code 110 = .ok (.ireturn, 1) := by decide +kernel
theorem dc_Hall_acquire_111 : decode prog_1_method_4_code 111 = .ok (.dload 4, 2) := by decide +kernel
theorem dc_Hall_acquire_113 : decode prog_1_method_4_code 113 = .ok (.dconst 0, 1) := by decide +kernel
theorem dc_Hall_acquire_114 : decode prog_1_method_4_code 114 = .ok (.dcmp .l, 1) := by decide +kernel
theorem dc_Hall_acquire_115 : decode prog_1_method_4_code 115 = .ok (.ifCond .ne 10, 3) := by decide +kernel
theorem dc_Hall_acquire_118 : decode prog_1_method_4_code 118 = .ok (.aload 6, 2) := by decide +kernel
theorem dc_Hall_acquire_120 : decode prog_1_method_4_code 120 = .ok (.iconst 2, 1) := by decide +kernel
theorem dc_Hall_acquire_121 : decode prog_1_method_4_code 121 = .ok (.invokevirtual 89, 3) := by decide +kernel
theorem dc_Hall_acquire_124 : decode prog_1_method_4_code 124 = .ok (.ireturn, 1) := by decide +kernel
theorem dc_Hall_acquire_125 : decode prog_1_method_4_code 125 = .ok (.aload 6, 2) := by decide +kernel
theorem dc_Hall_acquire_127 : decode prog_1_method_4_code 127 = .ok (.iconst 1, 1) := by decide +kernel
theorem dc_Hall_acquire_128 : decode prog_1_method_4_code 128 = .ok (.putfield 113, 3) := by decide +kernel
theorem dc_Hall_acquire_131 : decode prog_1_method_4_code 131 = .ok (.aload 6, 2) := by decide +kernel
theorem dc_Hall_acquire_133 : decode prog_1_method_4_code 133 = .ok (.iconst 1, 1) := by decide +kernel
theorem dc_Hall_acquire_134 : decode prog_1_method_4_code 134 = .ok (.putfield 116, 3) := by decide +kernel
theorem dc_Hall_acquire_137 : decode prog_1_method_4_code 137 = .ok (.aload 8, 2) := by decide +kernel
theorem dc_Hall_acquire_139 : decode prog_1_method_4_code 139 = .ok (.aload 6, 2) := by decide +kernel
theorem dc_Hall_acquire_141 : decode prog_1_method_4_code 141 = .ok (.iload_n 3, 1) := by decide +kernel
theorem dc_Hall_acquire_142 : decode prog_1_method_4_code 142 = .ok (.aload_n 0, 1) := by decide +kernel
theorem dc_Hall_acquire_143 : decode prog_1_method_4_code 143 = .ok (.getfield 35, 3) := by decide +kernel
theorem dc_Hall_acquire_146 : decode prog_1_method_4_code 146 = .ok (.invokevirtual 119, 3) := by decide +kernel
theorem dc_Hall_acquire_149 : decode prog_1_method_4_code 149 = .ok (.aload 6, 2) := by decide +kernel
theorem dc_Hall_acquire_151 : decode prog_1_method_4_code 151 = .ok (.aload_n 0, 1) := by decide +kernel
theorem dc_Hall_acquire_152 : decode prog_1_method_4_code 152 = .ok (.getfield 35, 3) := by decide +kernel
theorem dc_Hall_acquire_155 : decode prog_1_method_4_code 155 = .ok (.dload 4, 2) := by decide +kernel
theorem dc_Hall_acquire_157 : decode prog_1_method_4_code 157 = .ok (.invokevirtual 123, 3) := by decide +kernel
theorem dc_Hall_acquire_160 : decode prog_1_method_4_code 160 = .ok (.aload 6, 2) := by decide +kernel
theorem dc_Hall_acquire_162 : decode prog_1_method_4_code 162 = .ok (.getfield 127, 3) := by decide +kernel
theorem dc_Hall_acquire_165 : decode prog_1_method_4_code 165 = .ok (.ireturn, 1) := by decide +kernel
theorem dc_Semaphore_giveBack_0 : decode prog_7_method_5_code 0 = .ok (.aload_n 0, 1) := by decide +kernel
theorem dc_Semaphore_giveBack_1 : decode prog_7_method_5_code 1 = .ok (.getfield 9, 3) := by decide +kernel
theorem dc_Semaphore_giveBack_4 : decode prog_7_method_5_code 4 = .ok (.bipush 100, 2) := by decide +kernel
theorem dc_Semaphore_giveBack_6 : decode prog_7_method_5_code 6 = .ok (.if_icmp .lt 13, 3) := by decide +kernel
theorem dc_Semaphore_giveBack_9 : decode prog_7_method_5_code 9 = .ok (.new 25, 3) := by decide +kernel
theorem dc_Semaphore_giveBack_12 : decode prog_7_method_5_code 12 = .ok (.dup, 1) := by decide +kernel
theorem dc_Semaphore_giveBack_13 : decode prog_7_method_5_code 13 = .ok (.ldc 27, 2) := by decide +kernel
theorem dc_Semaphore_giveBack_15 : decode prog_7_method_5_code 15 = .ok (.invokespecial 29, 3) := by decide +kernel
theorem dc_Semaphore_giveBack_18 : decode prog_7_method_5_code 18 = .ok (.athrow, 1) := by decide +kernel
theorem dc_Semaphore_giveBack_19 : decode prog_7_method_5_code 19 = .ok (.aload_n 0, 1) := by decide +kernel
theorem dc_Semaphore_giveBack_20 : decode prog_7_method_5_code 20 = .ok (.dup, 1) := by decide +kernel
theorem dc_Semaphore_giveBack_21 : decode prog_7_method_5_code 21 = .ok (.getfield 9, 3) := by decide +kernel
theorem dc_Semaphore_giveBack_24 : decode prog_7_method_5_code 24 = .ok (.iconst 1, 1) := by decide +kernel
theorem dc_Semaphore_giveBack_25 : decode prog_7_method_5_code 25 = .ok (.iadd, 1) := by decide +kernel
theorem dc_Semaphore_giveBack_26 : decode prog_7_method_5_code 26 = .ok (.putfield 9, 3) := by decide +kernel
theorem dc_Semaphore_giveBack_29 : decode prog_7_method_5_code 29 = .ok (.return_, 1) := by decide +kernel
theorem dc_Shared_stopReading_0 : decode prog_8_method_9_code 0 = .ok (.aload_n 0, 1) := by decide +kernel
theorem dc_Shared_stopReading_1 : decode prog_8_method_9_code 1 = .ok (.getfield 9, 3) := by decide +kernel
theorem dc_Shared_stopReading_4 : decode prog_8_method_9_code 4 = .ok (.aload_n 1, 1) := by decide +kernel
theorem dc_Shared_stopReading_5 : decode prog_8_method_9_code 5 = .ok (.getfield 15, 3) := by decide +kernel
theorem dc_Shared_stopReading_8 : decode prog_8_method_9_code 8 = .ok (.iaload, 1) := by decide +kernel
theorem dc_Shared_stopReading_9 : decode prog_8_method_9_code 9 = .ok (.ifCond .gt 13, 3) := by decide +kernel
theorem dc_Shared_stopReading_12 : decode prog_8_method_9_code 12 = .ok (.new 64, 3) := by decide +kernel
theorem dc_Shared_stopReading_15 : decode prog_8_method_9_code 15 = .ok (.dup, 1) := by decide +kernel
theorem dc_Shared_stopReading_16 : decode prog_8_method_9_code 16 = .ok (.ldc 66, 2) := by decide +kernel
theorem dc_Shared_stopReading_18 : decode prog_8_method_9_code 18 = .ok (.invokespecial 68, 3) := by decide +kernel
theorem dc_Shared_stopReading_21 : decode prog_8_method_9_code 21 = .ok (.athrow, 1) := by decide +kernel
theorem dc_Shared_stopReading_22 : decode prog_8_method_9_code 22 = .ok (.aload_n 0, 1) := by decide +kernel
theorem dc_Shared_stopReading_23 : decode prog_8_method_9_code 23 = .ok (.getfield 9, 3) := by decide +kernel
theorem dc_Shared_stopReading_26 : decode prog_8_method_9_code 26 = .ok (.aload_n 1, 1) := by decide +kernel
theorem dc_Shared_stopReading_27 : decode prog_8_method_9_code 27 = .ok (.getfield 15, 3) := by decide +kernel
theorem dc_Shared_stopReading_30 : decode prog_8_method_9_code 30 = .ok (.dup2, 1) := by decide +kernel
theorem dc_Shared_stopReading_31 : decode prog_8_method_9_code 31 = .ok (.iaload, 1) := by decide +kernel
theorem dc_Shared_stopReading_32 : decode prog_8_method_9_code 32 = .ok (.iconst 1, 1) := by decide +kernel
theorem dc_Shared_stopReading_33 : decode prog_8_method_9_code 33 = .ok (.isub, 1) := by decide +kernel
theorem dc_Shared_stopReading_34 : decode prog_8_method_9_code 34 = .ok (.iastore, 1) := by decide +kernel
theorem dc_Shared_stopReading_35 : decode prog_8_method_9_code 35 = .ok (.return_, 1) := by decide +kernel
theorem dc_Shared_stopWriting_0 : decode prog_8_method_10_code 0 = .ok (.aload_n 0, 1) := by decide +kernel
theorem dc_Shared_stopWriting_1 : decode prog_8_method_10_code 1 = .ok (.getfield 21, 3) := by decide +kernel
theorem dc_Shared_stopWriting_4 : decode prog_8_method_10_code 4 = .ok (.aload_n 1, 1) := by decide +kernel
theorem dc_Shared_stopWriting_5 : decode prog_8_method_10_code 5 = .ok (.if_acmp .eq 13, 3) := by decide +kernel
theorem dc_Shared_stopWriting_8 : decode prog_8_method_10_code 8 = .ok (.new 64, 3) := by decide +kernel
theorem dc_Shared_stopWriting_11 : decode prog_8_method_10_code 11 = .ok (.dup, 1) := by decide +kernel
theorem dc_Shared_stopWriting_12 : decode prog_8_method_10_code 12 = .ok (.ldc 69, 2) := by decide +kernel
theorem dc_Shared_stopWriting_14 : decode prog_8_method_10_code 14 = .ok (.invokespecial 68, 3) := by decide +kernel
theorem dc_Shared_stopWriting_17 : decode prog_8_method_10_code 17 = .ok (.athrow, 1) := by decide +kernel
theorem dc_Shared_stopWriting_18 : decode prog_8_method_10_code 18 = .ok (.aload_n 0, 1) := by decide +kernel
theorem dc_Shared_stopWriting_19 : decode prog_8_method_10_code 19 = .ok (.dup, 1) := by decide +kernel
theorem dc_Shared_stopWriting_20 : decode prog_8_method_10_code 20 = .ok (.getfield 50, 3) := by decide +kernel
theorem dc_Shared_stopWriting_23 : decode prog_8_method_10_code 23 = .ok (.iconst 1, 1) := by decide +kernel
theorem dc_Shared_stopWriting_24 : decode prog_8_method_10_code 24 = .ok (.isub, 1) := by decide +kernel
theorem dc_Shared_stopWriting_25 : decode prog_8_method_10_code 25 = .ok (.putfield 50, 3) := by decide +kernel
theorem dc_Shared_stopWriting_28 : decode prog_8_method_10_code 28 = .ok (.aload_n 0, 1) := by decide +kernel
theorem dc_Shared_stopWriting_29 : decode prog_8_method_10_code 29 = .ok (.getfield 50, 3) := by decide +kernel
theorem dc_Shared_stopWriting_32 : decode prog_8_method_10_code 32 = .ok (.ifCond .gt 8, 3) := by decide +kernel
theorem dc_Shared_stopWriting_35 : decode prog_8_method_10_code 35 = .ok (.aload_n 0, 1) := by decide +kernel
theorem dc_Shared_stopWriting_36 : decode prog_8_method_10_code 36 = .ok (.aconst_null, 1) := by decide +kernel
theorem dc_Shared_stopWriting_37 : decode prog_8_method_10_code 37 = .ok (.putfield 21, 3) := by decide +kernel
theorem dc_Shared_stopWriting_40 : decode prog_8_method_10_code 40 = .ok (.return_, 1) := by decide +kernel
theorem dc_Shared_giveBack_0 : decode prog_8_method_6_code 0 = .ok (.iload_n 2, 1) := by decide +kernel
theorem dc_Shared_giveBack_1 : decode prog_8_method_6_code 1 = .ok (.ifCond .ne 11, 3) := by decide +kernel
theorem dc_Shared_giveBack_4 : decode prog_8_method_6_code 4 = .ok (.aload_n 0, 1) := by decide +kernel
theorem dc_Shared_giveBack_5 : decode prog_8_method_6_code 5 = .ok (.aload_n 1, 1) := by decide +kernel
theorem dc_Shared_giveBack_6 : decode prog_8_method_6_code 6 = .ok (.invokevirtual 53, 3) := by decide +kernel
theorem dc_Shared_giveBack_9 : decode prog_8_method_6_code 9 = .ok (.goto 8, 3) := by decide +kernel
theorem dc_Shared_giveBack_12 : decode prog_8_method_6_code 12 = .ok (.aload_n 0, 1) := by decide +kernel
theorem dc_Shared_giveBack_13 : decode prog_8_method_6_code 13 = .ok (.aload_n 1, 1) := by decide +kernel
theorem dc_Shared_giveBack_14 : decode prog_8_method_6_code 14 = .ok (.invokevirtual 57, 3) := by decide +kernel
theorem dc_Shared_giveBack_17 : decode prog_8_method_6_code 17 = .ok (.return_, 1) := by decide +kernel
theorem dc_Hall_checkOwner_0 : decode prog_1_method_23_code 0 = .ok (.aload_n 1, 1) := by decide +kernel
theorem dc_Hall_checkOwner_1 : decode prog_1_method_23_code 1 = .ok (.getfield 254, 3) := by decide +kernel
theorem dc_Hall_checkOwner_4 : decode prog_1_method_23_code 4 = .ok (.aload_n 0, 1) := by decide +kernel
theorem dc_Hall_checkOwner_5 : decode prog_1_method_23_code 5 = .ok (.if_acmp .eq 14, 3) := by decide +kernel
theorem dc_Hall_checkOwner_8 : decode prog_1_method_23_code 8 = .ok (.new 51, 3) := by decide +kernel
theorem dc_Hall_checkOwner_11 : decode prog_1_method_23_code 11 = .ok (.dup, 1) := by decide +kernel
theorem dc_Hall_checkOwner_12 : decode prog_1_method_23_code 12 = .ok (.ldc_w 258, 3) := by decide +kernel
theorem dc_Hall_checkOwner_15 : decode prog_1_method_23_code 15 = .ok (.invokespecial 55, 3) := by decide +kernel
theorem dc_Hall_checkOwner_18 : decode prog_1_method_23_code 18 = .ok (.athrow, 1) := by decide +kernel
theorem dc_Hall_checkOwner_19 : decode prog_1_method_23_code 19 = .ok (.return_, 1) := by decide +kernel
theorem dc_Lock_free_0 : decode prog_5_method_8_code 0 = .ok (.aload_n 0, 1) := by decide +kernel
theorem dc_Lock_free_1 : decode prog_5_method_8_code 1 = .ok (.aconst_null, 1) := by decide +kernel
theorem dc_Lock_free_2 : decode prog_5_method_8_code 2 = .ok (.putfield 9, 3) := by decide +kernel
theorem dc_Lock_free_5 : decode prog_5_method_8_code 5 = .ok (.aload_n 0, 1) := by decide +kernel
theorem dc_Lock_free_6 : decode prog_5_method_8_code 6 = .ok (.iconst 0, 1) := by decide +kernel
theorem dc_Lock_free_7 : decode prog_5_method_8_code 7 = .ok (.putfield 29, 3) := by decide +kernel
theorem dc_Lock_free_10 : decode prog_5_method_8_code 10 = .ok (.return_, 1) := by decide +kernel
theorem dc_Lock_giveBack_0 : decode prog_5_method_5_code 0 = .ok (.aload_n 1, 1) := by decide +kernel
theorem dc_Lock_giveBack_1 : decode prog_5_method_5_code 1 = .ok (.aload_n 0, 1) := by decide +kernel
theorem dc_Lock_giveBack_2 : decode prog_5_method_5_code 2 = .ok (.invokestatic 33, 3) := by decide +kernel
theorem dc_Lock_giveBack_5 : decode prog_5_method_5_code 5 = .ok (.aload_n 0, 1) := by decide +kernel
theorem dc_Lock_giveBack_6 : decode prog_5_method_5_code 6 = .ok (.dup, 1) := by decide +kernel
theorem dc_Lock_giveBack_7 : decode prog_5_method_5_code 7 = .ok (.getfield 29, 3) := by decide +kernel
theorem dc_Lock_giveBack_10 : decode prog_5_method_5_code 10 = .ok (.iconst 1, 1) := by decide +kernel
theorem dc_Lock_giveBack_11 : decode prog_5_method_5_code 11 = .ok (.isub, 1) := by decide +kernel
theorem dc_Lock_giveBack_12 : decode prog_5_method_5_code 12 = .ok (.putfield 29, 3) := by decide +kernel
theorem dc_Lock_giveBack_15 : decode prog_5_method_5_code 15 = .ok (.aload_n 0, 1) := by decide +kernel
theorem dc_Lock_giveBack_16 : decode prog_5_method_5_code 16 = .ok (.getfield 29, 3) := by decide +kernel
theorem dc_Lock_giveBack_19 : decode prog_5_method_5_code 19 = .ok (.ifCond .gt 7, 3) := by decide +kernel
theorem dc_Lock_giveBack_22 : decode prog_5_method_5_code 22 = .ok (.aload_n 0, 1) := by decide +kernel
theorem dc_Lock_giveBack_23 : decode prog_5_method_5_code 23 = .ok (.invokevirtual 37, 3) := by decide +kernel
theorem dc_Lock_giveBack_26 : decode prog_5_method_5_code 26 = .ok (.return_, 1) := by decide +kernel
theorem dc_Latch_giveBack_0 : decode prog_4_method_5_code 0 = .ok (.aload_n 0, 1) := by decide +kernel
theorem dc_Latch_giveBack_1 : decode prog_4_method_5_code 1 = .ok (.getfield 9, 3) := by decide +kernel
theorem dc_Latch_giveBack_4 : decode prog_4_method_5_code 4 = .ok (.ifCond .le 13, 3) := by decide +kernel
theorem dc_Latch_giveBack_7 : decode prog_4_method_5_code 7 = .ok (.aload_n 0, 1) := by decide +kernel
theorem dc_Latch_giveBack_8 : decode prog_4_method_5_code 8 = .ok (.dup, 1) := by decide +kernel
theorem dc_Latch_giveBack_9 : decode prog_4_method_5_code 9 = .ok (.getfield 9, 3) := by decide +kernel
theorem dc_Latch_giveBack_12 : decode prog_4_method_5_code 12 = .ok (.iconst 1, 1) := by decide +kernel
theorem dc_Latch_giveBack_13 : decode prog_4_method_5_code 13 = .ok (.isub, 1) := by decide +kernel
theorem dc_Latch_giveBack_14 : decode prog_4_method_5_code 14 = .ok (.putfield 9, 3) := by decide +kernel
theorem dc_Latch_giveBack_17 : decode prog_4_method_5_code 17 = .ok (.return_, 1) := by decide +kernel
theorem dc_Waiters_at_0 : decode prog_10_method_3_code 0 = .ok (.iload_n 1, 1) := by decide +kernel
theorem dc_Waiters_at_1 : decode prog_10_method_3_code 1 = .ok (.ifCond .lt 20, 3) := by decide +kernel
theorem dc_Waiters_at_4 : decode prog_10_method_3_code 4 = .ok (.iload_n 1, 1) := by decide +kernel
theorem dc_Waiters_at_5 : decode prog_10_method_3_code 5 = .ok (.aload_n 0, 1) := by decide +kernel
theorem dc_Waiters_at_6 : decode prog_10_method_3_code 6 = .ok (.getfield 17, 3) := by decide +kernel
theorem dc_Waiters_at_9 : decode prog_10_method_3_code 9 = .ok (.if_icmp .ge 12, 3) := by decide +kernel
theorem dc_Waiters_at_12 : decode prog_10_method_3_code 12 = .ok (.aload_n 0, 1) := by decide +kernel
theorem dc_Waiters_at_13 : decode prog_10_method_3_code 13 = .ok (.getfield 11, 3) := by decide +kernel
theorem dc_Waiters_at_16 : decode prog_10_method_3_code 16 = .ok (.iload_n 1, 1) := by decide +kernel
theorem dc_Waiters_at_17 : decode prog_10_method_3_code 17 = .ok (.aaload, 1) := by decide +kernel
theorem dc_Waiters_at_18 : decode prog_10_method_3_code 18 = .ok (.goto 4, 3) := by decide +kernel
theorem dc_Waiters_at_21 : decode prog_10_method_3_code 21 = .ok (.aconst_null, 1) := by decide +kernel
theorem dc_Waiters_at_22 : decode prog_10_method_3_code 22 = .ok (.areturn, 1) := by decide +kernel
theorem dc_Shared_next_0 : decode prog_8_method_7_code 0 = .ok (.aload_n 0, 1) := by decide +kernel
theorem dc_Shared_next_1 : decode prog_8_method_7_code 1 = .ok (.getfield 36, 3) := by decide +kernel
theorem dc_Shared_next_4 : decode prog_8_method_7_code 4 = .ok (.invokevirtual 40, 3) := by decide +kernel
theorem dc_Shared_next_7 : decode prog_8_method_7_code 7 = .ok (.astore_n 1, 1) := by decide +kernel
theorem dc_Shared_next_8 : decode prog_8_method_7_code 8 = .ok (.aload_n 1, 1) := by decide +kernel
theorem dc_Shared_next_9 : decode prog_8_method_7_code 9 = .ok (.ifnonnull 14, 3) := by decide +kernel
theorem dc_Shared_next_12 : decode prog_8_method_7_code 12 = .ok (.aload_n 0, 1) := by decide +kernel
theorem dc_Shared_next_13 : decode prog_8_method_7_code 13 = .ok (.getfield 36, 3) := by decide +kernel
theorem dc_Shared_next_16 : decode prog_8_method_7_code 16 = .ok (.iconst 0, 1) := by decide +kernel
theorem dc_Shared_next_17 : decode prog_8_method_7_code 17 = .ok (.invokevirtual 60, 3) := by decide +kernel
theorem dc_Shared_next_20 : decode prog_8_method_7_code 20 = .ok (.goto 4, 3) := by decide +kernel
theorem dc_Shared_next_23 : decode prog_8_method_7_code 23 = .ok (.aload_n 1, 1) := by decide +kernel
theorem dc_Shared_next_24 : decode prog_8_method_7_code 24 = .ok (.areturn, 1) := by decide +kernel
theorem dc_Waiters_firstOfGreatestPriority_0 : decode prog_10_method_7_code 0 = .ok (.aload_n 0, 1) := by decide +kernel
theorem dc_Waiters_firstOfGreatestPriority_1 : decode prog_10_method_7_code 1 = .ok (.iconst 0, 1) := by decide +kernel
theorem dc_Waiters_firstOfGreatestPriority_2 : decode prog_10_method_7_code 2 = .ok (.invokevirtual 24, 3) := by decide +kernel
theorem dc_Waiters_firstOfGreatestPriority_5 : decode prog_10_method_7_code 5 = .ok (.astore_n 1, 1) := by decide +kernel
theorem dc_Waiters_firstOfGreatestPriority_6 : decode prog_10_method_7_code 6 = .ok (.iconst 1, 1) := by decide +kernel
theorem dc_Waiters_firstOfGreatestPriority_7 : decode prog_10_method_7_code 7 = .ok (.istore_n 2, 1) := by decide +kernel
theorem dc_Waiters_firstOfGreatestPriority_8 : decode prog_10_method_7_code 8 = .ok (.iload_n 2, 1) := by decide +kernel
theorem dc_Waiters_firstOfGreatestPriority_9 : decode prog_10_method_7_code 9 = .ok (.aload_n 0, 1) := by decide +kernel
theorem dc_Waiters_firstOfGreatestPriority_10 : decode prog_10_method_7_code 10 = .ok (.getfield 17, 3) := by decide +kernel
theorem dc_Waiters_firstOfGreatestPriority_13 : decode prog_10_method_7_code 13 = .ok (.if_icmp .ge 37, 3) := by decide +kernel
theorem dc_Waiters_firstOfGreatestPriority_16 : decode prog_10_method_7_code 16 = .ok (.aload_n 1, 1) := by decide +kernel
theorem dc_Waiters_firstOfGreatestPriority_17 : decode prog_10_method_7_code 17 = .ok (.ifnull 20, 3) := by decide +kernel
theorem dc_Waiters_firstOfGreatestPriority_20 : decode prog_10_method_7_code 20 = .ok (.aload_n 0, 1) := by decide +kernel
theorem dc_Waiters_firstOfGreatestPriority_21 : decode prog_10_method_7_code 21 = .ok (.getfield 11, 3) := by decide +kernel
theorem dc_Waiters_firstOfGreatestPriority_24 : decode prog_10_method_7_code 24 = .ok (.iload_n 2, 1) := by decide +kernel
theorem dc_Waiters_firstOfGreatestPriority_25 : decode prog_10_method_7_code 25 = .ok (.aaload, 1) := by decide +kernel
theorem dc_Waiters_firstOfGreatestPriority_26 : decode prog_10_method_7_code 26 = .ok (.getfield 28, 3) := by decide +kernel
theorem dc_Waiters_firstOfGreatestPriority_29 : decode prog_10_method_7_code 29 = .ok (.aload_n 1, 1) := by decide +kernel
theorem dc_Waiters_firstOfGreatestPriority_30 : decode prog_10_method_7_code 30 = .ok (.getfield 28, 3) := by decide +kernel
theorem dc_Waiters_firstOfGreatestPriority_33 : decode prog_10_method_7_code 33 = .ok (.dcmp .l, 1) := by decide +kernel
theorem dc_Waiters_firstOfGreatestPriority_34 : decode prog_10_method_7_code 34 = .ok (.ifCond .le 10, 3) := by decide +kernel
theorem dc_Waiters_firstOfGreatestPriority_37 : decode prog_10_method_7_code 37 = .ok (.aload_n 0, 1) := by decide +kernel
theorem dc_Waiters_firstOfGreatestPriority_38 : decode prog_10_method_7_code 38 = .ok (.getfield 11, 3) := by decide +kernel
theorem dc_Waiters_firstOfGreatestPriority_41 : decode prog_10_method_7_code 41 = .ok (.iload_n 2, 1) := by decide +kernel
theorem dc_Waiters_firstOfGreatestPriority_42 : decode prog_10_method_7_code 42 = .ok (.aaload, 1) := by decide +kernel
theorem dc_Waiters_firstOfGreatestPriority_43 : decode prog_10_method_7_code 43 = .ok (.astore_n 1, 1) := by decide +kernel
theorem dc_Waiters_firstOfGreatestPriority_44 : decode prog_10_method_7_code 44 = .ok (.iinc 2 1, 3) := by decide +kernel
theorem dc_Waiters_firstOfGreatestPriority_47 : decode prog_10_method_7_code 47 = .ok (.goto (-39), 3) := by decide +kernel
theorem dc_Waiters_firstOfGreatestPriority_50 : decode prog_10_method_7_code 50 = .ok (.aload_n 1, 1) := by decide +kernel
theorem dc_Waiters_firstOfGreatestPriority_51 : decode prog_10_method_7_code 51 = .ok (.areturn, 1) := by decide +kernel
theorem dc_Semaphore_next_0 : decode prog_7_method_6_code 0 = .ok (.aload_n 0, 1) := by decide +kernel
theorem dc_Semaphore_next_1 : decode prog_7_method_6_code 1 = .ok (.getfield 32, 3) := by decide +kernel
theorem dc_Semaphore_next_4 : decode prog_7_method_6_code 4 = .ok (.iconst 3, 1) := by decide +kernel
theorem dc_Semaphore_next_5 : decode prog_7_method_6_code 5 = .ok (.if_icmp .ne 13, 3) := by decide +kernel
theorem dc_Semaphore_next_8 : decode prog_7_method_6_code 8 = .ok (.aload_n 0, 1) := by decide +kernel
theorem dc_Semaphore_next_9 : decode prog_7_method_6_code 9 = .ok (.getfield 15, 3) := by decide +kernel
theorem dc_Semaphore_next_12 : decode prog_7_method_6_code 12 = .ok (.invokevirtual 35, 3) := by decide +kernel
theorem dc_Semaphore_next_15 : decode prog_7_method_6_code 15 = .ok (.goto 11, 3) := by decide +kernel
theorem dc_Semaphore_next_18 : decode prog_7_method_6_code 18 = .ok (.aload_n 0, 1) := by decide +kernel
theorem dc_Semaphore_next_19 : decode prog_7_method_6_code 19 = .ok (.getfield 15, 3) := by decide +kernel
theorem dc_Semaphore_next_22 : decode prog_7_method_6_code 22 = .ok (.iconst 0, 1) := by decide +kernel
theorem dc_Semaphore_next_23 : decode prog_7_method_6_code 23 = .ok (.invokevirtual 39, 3) := by decide +kernel
theorem dc_Semaphore_next_26 : decode prog_7_method_6_code 26 = .ok (.areturn, 1) := by decide +kernel
theorem dc_Gate_next_0 : decode prog_3_method_7_code 0 = .ok (.aload_n 0, 1) := by decide +kernel
theorem dc_Gate_next_1 : decode prog_3_method_7_code 1 = .ok (.getfield 7, 3) := by decide +kernel
theorem dc_Gate_next_4 : decode prog_3_method_7_code 4 = .ok (.iconst 0, 1) := by decide +kernel
theorem dc_Gate_next_5 : decode prog_3_method_7_code 5 = .ok (.invokevirtual 13, 3) := by decide +kernel
theorem dc_Gate_next_8 : decode prog_3_method_7_code 8 = .ok (.areturn, 1) := by decide +kernel
theorem dc_Waiters_remove_0 : decode prog_10_method_5_code 0 = .ok (.iconst 0, 1) := by decide +kernel
theorem dc_Waiters_remove_1 : decode prog_10_method_5_code 1 = .ok (.istore_n 2, 1) := by decide +kernel
theorem dc_Waiters_remove_2 : decode prog_10_method_5_code 2 = .ok (.iconst 0, 1) := by decide +kernel
theorem dc_Waiters_remove_3 : decode prog_10_method_5_code 3 = .ok (.istore_n 3, 1) := by decide +kernel
theorem dc_Waiters_remove_4 : decode prog_10_method_5_code 4 = .ok (.iload_n 3, 1) := by decide +kernel
theorem dc_Waiters_remove_5 : decode prog_10_method_5_code 5 = .ok (.aload_n 0, 1) := by decide +kernel
theorem dc_Waiters_remove_6 : decode prog_10_method_5_code 6 = .ok (.getfield 17, 3) := by decide +kernel
theorem dc_Waiters_remove_9 : decode prog_10_method_5_code 9 = .ok (.if_icmp .ge 34, 3) := by decide +kernel
theorem dc_Waiters_remove_12 : decode prog_10_method_5_code 12 = .ok (.aload_n 0, 1) := by decide +kernel
theorem dc_Waiters_remove_13 : decode prog_10_method_5_code 13 = .ok (.getfield 11, 3) := by decide +kernel
theorem dc_Waiters_remove_16 : decode prog_10_method_5_code 16 = .ok (.iload_n 3, 1) := by decide +kernel
theorem dc_Waiters_remove_17 : decode prog_10_method_5_code 17 = .ok (.aaload, 1) := by decide +kernel
theorem dc_Waiters_remove_18 : decode prog_10_method_5_code 18 = .ok (.aload_n 1, 1) := by decide +kernel
theorem dc_Waiters_remove_19 : decode prog_10_method_5_code 19 = .ok (.if_acmp .eq 18, 3) := by decide +kernel
theorem dc_Waiters_remove_22 : decode prog_10_method_5_code 22 = .ok (.aload_n 0, 1) := by decide +kernel
theorem dc_Waiters_remove_23 : decode prog_10_method_5_code 23 = .ok (.getfield 11, 3) := by decide +kernel
theorem dc_Waiters_remove_26 : decode prog_10_method_5_code 26 = .ok (.iload_n 2, 1) := by decide +kernel
theorem dc_Waiters_remove_27 : decode prog_10_method_5_code 27 = .ok (.aload_n 0, 1) := by decide +kernel
theorem dc_Waiters_remove_28 : decode prog_10_method_5_code 28 = .ok (.getfield 11, 3) := by decide +kernel
theorem dc_Waiters_remove_31 : decode prog_10_method_5_code 31 = .ok (.iload_n 3, 1) := by decide +kernel
theorem dc_Waiters_remove_32 : decode prog_10_method_5_code 32 = .ok (.aaload, 1) := by decide +kernel
theorem dc_Waiters_remove_33 : decode prog_10_method_5_code 33 = .ok (.aastore, 1) := by decide +kernel
theorem dc_Waiters_remove_34 : decode prog_10_method_5_code 34 = .ok (.iinc 2 1, 3) := by decide +kernel
theorem dc_Waiters_remove_37 : decode prog_10_method_5_code 37 = .ok (.iinc 3 1, 3) := by decide +kernel
theorem dc_Waiters_remove_40 : decode prog_10_method_5_code 40 = .ok (.goto (-36), 3) := by decide +kernel
theorem dc_Waiters_remove_43 : decode prog_10_method_5_code 43 = .ok (.aload_n 0, 1) := by decide +kernel
theorem dc_Waiters_remove_44 : decode prog_10_method_5_code 44 = .ok (.iload_n 2, 1) := by decide +kernel
theorem dc_Waiters_remove_45 : decode prog_10_method_5_code 45 = .ok (.putfield 17, 3) := by decide +kernel
theorem dc_Waiters_remove_48 : decode prog_10_method_5_code 48 = .ok (.return_, 1) := by decide +kernel
theorem dc_Sync_dequeue_0 : decode prog_9_method_5_code 0 = .ok (.aload_n 0, 1) := by decide +kernel
theorem dc_Sync_dequeue_1 : decode prog_9_method_5_code 1 = .ok (.getfield 18, 3) := by decide +kernel
theorem dc_Sync_dequeue_4 : decode prog_9_method_5_code 4 = .ok (.aload_n 1, 1) := by decide +kernel
theorem dc_Sync_dequeue_5 : decode prog_9_method_5_code 5 = .ok (.invokevirtual 42, 3) := by decide +kernel
theorem dc_Sync_dequeue_8 : decode prog_9_method_5_code 8 = .ok (.aload_n 1, 1) := by decide +kernel
theorem dc_Sync_dequeue_9 : decode prog_9_method_5_code 9 = .ok (.aconst_null, 1) := by decide +kernel
theorem dc_Sync_dequeue_10 : decode prog_9_method_5_code 10 = .ok (.putfield 26, 3) := by decide +kernel
theorem dc_Sync_dequeue_13 : decode prog_9_method_5_code 13 = .ok (.aload_n 1, 1) := by decide +kernel
theorem dc_Sync_dequeue_14 : decode prog_9_method_5_code 14 = .ok (.iconst 0, 1) := by decide +kernel
theorem dc_Sync_dequeue_15 : decode prog_9_method_5_code 15 = .ok (.putfield 45, 3) := by decide +kernel
theorem dc_Sync_dequeue_18 : decode prog_9_method_5_code 18 = .ok (.return_, 1) := by decide +kernel
theorem dc_Sync_addWaited_0 : decode prog_9_method_6_code 0 = .ok (.aload_n 0, 1) := by decide +kernel
theorem dc_Sync_addWaited_1 : decode prog_9_method_6_code 1 = .ok (.aload_n 0, 1) := by decide +kernel
theorem dc_Sync_addWaited_2 : decode prog_9_method_6_code 2 = .ok (.getfield 49, 3) := by decide +kernel
theorem dc_Sync_addWaited_5 : decode prog_9_method_6_code 5 = .ok (.dload_n 1, 1) := by decide +kernel
theorem dc_Sync_addWaited_6 : decode prog_9_method_6_code 6 = .ok (.dadd, 1) := by decide +kernel
theorem dc_Sync_addWaited_7 : decode prog_9_method_6_code 7 = .ok (.putfield 49, 3) := by decide +kernel
theorem dc_Sync_addWaited_10 : decode prog_9_method_6_code 10 = .ok (.aload_n 0, 1) := by decide +kernel
theorem dc_Sync_addWaited_11 : decode prog_9_method_6_code 11 = .ok (.dup, 1) := by decide +kernel
theorem dc_Sync_addWaited_12 : decode prog_9_method_6_code 12 = .ok (.getfield 52, 3) := by decide +kernel
theorem dc_Sync_addWaited_15 : decode prog_9_method_6_code 15 = .ok (.iconst 1, 1) := by decide +kernel
theorem dc_Sync_addWaited_16 : decode prog_9_method_6_code 16 = .ok (.iadd, 1) := by decide +kernel
theorem dc_Sync_addWaited_17 : decode prog_9_method_6_code 17 = .ok (.putfield 52, 3) := by decide +kernel
theorem dc_Sync_addWaited_20 : decode prog_9_method_6_code 20 = .ok (.return_, 1) := by decide +kernel
theorem dc_Gate_serve_0 : decode prog_3_method_8_code 0 = .ok (.aload_n 0, 1) := by decide +kernel
theorem dc_Gate_serve_1 : decode prog_3_method_8_code 1 = .ok (.getfield 7, 3) := by decide +kernel
theorem dc_Gate_serve_4 : decode prog_3_method_8_code 4 = .ok (.invokevirtual 19, 3) := by decide +kernel
theorem dc_Gate_serve_7 : decode prog_3_method_8_code 7 = .ok (.istore_n 3, 1) := by decide +kernel
theorem dc_Gate_serve_8 : decode prog_3_method_8_code 8 = .ok (.iconst 0, 1) := by decide +kernel
theorem dc_Gate_serve_9 : decode prog_3_method_8_code 9 = .ok (.istore 4, 2) := by decide +kernel
theorem dc_Gate_serve_11 : decode prog_3_method_8_code 11 = .ok (.iload 4, 2) := by decide +kernel
theorem dc_Gate_serve_13 : decode prog_3_method_8_code 13 = .ok (.iload_n 3, 1) := by decide +kernel
theorem dc_Gate_serve_14 : decode prog_3_method_8_code 14 = .ok (.if_icmp .ge 79, 3) := by decide +kernel
theorem dc_Gate_serve_17 : decode prog_3_method_8_code 17 = .ok (.aload_n 0, 1) := by decide +kernel
theorem dc_Gate_serve_18 : decode prog_3_method_8_code 18 = .ok (.invokevirtual 23, 3) := by decide +kernel
theorem dc_Gate_serve_21 : decode prog_3_method_8_code 21 = .ok (.astore 5, 2) := by decide +kernel
theorem dc_Gate_serve_23 : decode prog_3_method_8_code 23 = .ok (.aload 5, 2) := by decide +kernel
theorem dc_Gate_serve_25 : decode prog_3_method_8_code 25 = .ok (.ifnull 17, 3) := by decide +kernel
theorem dc_Gate_serve_28 : decode prog_3_method_8_code 28 = .ok (.aload_n 0, 1) := by decide +kernel
theorem dc_Gate_serve_29 : decode prog_3_method_8_code 29 = .ok (.aload 5, 2) := by decide +kernel
theorem dc_Gate_serve_31 : decode prog_3_method_8_code 31 = .ok (.aload 5, 2) := by decide +kernel
theorem dc_Gate_serve_33 : decode prog_3_method_8_code 33 = .ok (.getfield 27, 3) := by decide +kernel
theorem dc_Gate_serve_36 : decode prog_3_method_8_code 36 = .ok (.invokevirtual 33, 3) := by decide +kernel
theorem dc_Gate_serve_39 : decode prog_3_method_8_code 39 = .ok (.ifCond .ne 4, 3) := by decide +kernel
theorem dc_Gate_serve_42 : decode prog_3_method_8_code 42 = .ok (.return_, 1) := by decide +kernel
theorem dc_Gate_serve_43 : decode prog_3_method_8_code 43 = .ok (.aload_n 0, 1) := by decide +kernel
theorem dc_Gate_serve_44 : decode prog_3_method_8_code 44 = .ok (.aload 5, 2) := by decide +kernel
theorem dc_Gate_serve_46 : decode prog_3_method_8_code 46 = .ok (.invokevirtual 37, 3) := by decide +kernel
theorem dc_Gate_serve_49 : decode prog_3_method_8_code 49 = .ok (.aload_n 0, 1) := by decide +kernel
theorem dc_Gate_serve_50 : decode prog_3_method_8_code 50 = .ok (.aload 5, 2) := by decide +kernel
theorem dc_Gate_serve_52 : decode prog_3_method_8_code 52 = .ok (.aload 5, 2) := by decide +kernel
theorem dc_Gate_serve_54 : decode prog_3_method_8_code 54 = .ok (.getfield 27, 3) := by decide +kernel
theorem dc_Gate_serve_57 : decode prog_3_method_8_code 57 = .ok (.aload 5, 2) := by decide +kernel
theorem dc_Gate_serve_59 : decode prog_3_method_8_code 59 = .ok (.getfield 41, 3) := by decide +kernel
theorem dc_Gate_serve_62 : decode prog_3_method_8_code 62 = .ok (.invokevirtual 44, 3) := by decide +kernel
theorem dc_Gate_serve_65 : decode prog_3_method_8_code 65 = .ok (.aload 5, 2) := by decide +kernel
theorem dc_Gate_serve_67 : decode prog_3_method_8_code 67 = .ok (.aload 5, 2) := by decide +kernel
theorem dc_Gate_serve_69 : decode prog_3_method_8_code 69 = .ok (.getfield 48, 3) := by decide +kernel
theorem dc_Gate_serve_72 : decode prog_3_method_8_code 72 = .ok (.invokevirtual 51, 3) := by decide +kernel
theorem dc_Gate_serve_75 : decode prog_3_method_8_code 75 = .ok (.pop, 1) := by decide +kernel
theorem dc_Gate_serve_76 : decode prog_3_method_8_code 76 = .ok (.aload_n 0, 1) := by decide +kernel
theorem dc_Gate_serve_77 : decode prog_3_method_8_code 77 = .ok (.dload_n 1, 1) := by decide +kernel
theorem dc_Gate_serve_78 : decode prog_3_method_8_code 78 = .ok (.aload 5, 2) := by decide +kernel
theorem dc_Gate_serve_80 : decode prog_3_method_8_code 80 = .ok (.getfield 55, 3) := by decide +kernel
theorem dc_Gate_serve_83 : decode prog_3_method_8_code 83 = .ok (.dsub, 1) := by decide +kernel
theorem dc_Gate_serve_84 : decode prog_3_method_8_code 84 = .ok (.invokevirtual 59, 3) := by decide +kernel
theorem dc_Gate_serve_87 : decode prog_3_method_8_code 87 = .ok (.iinc 4 1, 3) := by decide +kernel
theorem dc_Gate_serve_90 : decode prog_3_method_8_code 90 = .ok (.goto (-79), 3) := by decide +kernel
theorem dc_Gate_serve_93 : decode prog_3_method_8_code 93 = .ok (.return_, 1) := by decide +kernel
theorem dc_Hall_release_0 : decode prog_1_method_5_code 0 = .ok (.aload_n 0, 1) := by decide +kernel
theorem dc_Hall_release_1 : decode prog_1_method_5_code 1 = .ok (.iload_n 1, 1) := by decide +kernel
theorem dc_Hall_release_2 : decode prog_1_method_5_code 2 = .ok (.invokevirtual 62, 3) := by decide +kernel
theorem dc_Hall_release_5 : decode prog_1_method_5_code 5 = .ok (.astore 4, 2) := by decide +kernel
theorem dc_Hall_release_7 : decode prog_1_method_5_code 7 = .ok (.iload_n 3, 1) := by decide +kernel
theorem dc_Hall_release_8 : decode prog_1_method_5_code 8 = .ok (.iconst 0, 1) := by decide +kernel
theorem dc_Hall_release_9 : decode prog_1_method_5_code 9 = .ok (.iconst 1, 1) := by decide +kernel
theorem dc_Hall_release_10 : decode prog_1_method_5_code 10 = .ok (.invokestatic 39, 3) := by decide +kernel
theorem dc_Hall_release_13 : decode prog_1_method_5_code 13 = .ok (.aload_n 0, 1) := by decide +kernel
theorem dc_Hall_release_14 : decode prog_1_method_5_code 14 = .ok (.iload_n 2, 1) := by decide +kernel
theorem dc_Hall_release_15 : decode prog_1_method_5_code 15 = .ok (.invokevirtual 73, 3) := by decide +kernel
theorem dc_Hall_release_18 : decode prog_1_method_5_code 18 = .ok (.astore 5, 2) := by decide +kernel
theorem dc_Hall_release_20 : decode prog_1_method_5_code 20 = .ok (.aload 4, 2) := by decide +kernel
theorem dc_Hall_release_22 : decode prog_1_method_5_code 22 = .ok (.invokestatic 77, 3) := by decide +kernel
theorem dc_Hall_release_25 : decode prog_1_method_5_code 25 = .ok (.aload 5, 2) := by decide +kernel
theorem dc_Hall_release_27 : decode prog_1_method_5_code 27 = .ok (.invokestatic 81, 3) := by decide +kernel
theorem dc_Hall_release_30 : decode prog_1_method_5_code 30 = .ok (.astore 6, 2) := by decide +kernel
theorem dc_Hall_release_32 : decode prog_1_method_5_code 32 = .ok (.aload 6, 2) := by decide +kernel
theorem dc_Hall_release_34 : decode prog_1_method_5_code 34 = .ok (.getfield 130, 3) := by decide +kernel
theorem dc_Hall_release_37 : decode prog_1_method_5_code 37 = .ok (.invokevirtual 134, 3) := by decide +kernel
theorem dc_Hall_release_40 : decode prog_1_method_5_code 40 = .ok (.istore 7, 2) := by decide +kernel
theorem dc_Hall_release_42 : decode prog_1_method_5_code 42 = .ok (.aload 6, 2) := by decide +kernel
theorem dc_Hall_release_44 : decode prog_1_method_5_code 44 = .ok (.aload 4, 2) := by decide +kernel
theorem dc_Hall_release_46 : decode prog_1_method_5_code 46 = .ok (.iload_n 3, 1) := by decide +kernel
theorem dc_Hall_release_47 : decode prog_1_method_5_code 47 = .ok (.invokevirtual 140, 3) := by decide +kernel
theorem dc_Hall_release_50 : decode prog_1_method_5_code 50 = .ok (.aload 6, 2) := by decide +kernel
theorem dc_Hall_release_52 : decode prog_1_method_5_code 52 = .ok (.aload_n 0, 1) := by decide +kernel
theorem dc_Hall_release_53 : decode prog_1_method_5_code 53 = .ok (.getfield 35, 3) := by decide +kernel
theorem dc_Hall_release_56 : decode prog_1_method_5_code 56 = .ok (.invokevirtual 143, 3) := by decide +kernel
theorem dc_Hall_release_59 : decode prog_1_method_5_code 59 = .ok (.iload 7, 2) := by decide +kernel
theorem dc_Hall_release_61 : decode prog_1_method_5_code 61 = .ok (.ireturn, 1) := by decide +kernel
theorem dc_Hall_conditionFor_0 : decode prog_1_method_22_code 0 = .ok (.aload_n 0, 1) := by decide +kernel
theorem dc_Hall_conditionFor_1 : decode prog_1_method_22_code 1 = .ok (.iload_n 2, 1) := by decide +kernel
theorem dc_Hall_conditionFor_2 : decode prog_1_method_22_code 2 = .ok (.invokevirtual 73, 3) := by decide +kernel
theorem dc_Hall_conditionFor_5 : decode prog_1_method_22_code 5 = .ok (.astore_n 3, 1) := by decide +kernel
theorem dc_Hall_conditionFor_6 : decode prog_1_method_22_code 6 = .ok (.aload_n 1, 1) := by decide +kernel
theorem dc_Hall_conditionFor_7 : decode prog_1_method_22_code 7 = .ok (.invokestatic 77, 3) := by decide +kernel
theorem dc_Hall_conditionFor_10 : decode prog_1_method_22_code 10 = .ok (.aload_n 3, 1) := by decide +kernel
theorem dc_Hall_conditionFor_11 : decode prog_1_method_22_code 11 = .ok (.instanceof 152, 3) := by decide +kernel
theorem dc_Hall_conditionFor_14 : decode prog_1_method_22_code 14 = .ok (.ifCond .eq 21, 3) := by decide +kernel
theorem dc_Hall_conditionFor_17 : decode prog_1_method_22_code 17 = .ok (.aload_n 3, 1) := by decide +kernel
theorem dc_Hall_conditionFor_18 : decode prog_1_method_22_code 18 = .ok (.checkcast 152, 3) := by decide +kernel
theorem dc_Hall_conditionFor_21 : decode prog_1_method_22_code 21 = .ok (.astore 4, 2) := by decide +kernel
theorem dc_Hall_conditionFor_23 : decode prog_1_method_22_code 23 = .ok (.aload_n 1, 1) := by decide +kernel
theorem dc_Hall_conditionFor_24 : decode prog_1_method_22_code 24 = .ok (.aload 4, 2) := by decide +kernel
theorem dc_Hall_conditionFor_26 : decode prog_1_method_22_code 26 = .ok (.getfield 151, 3) := by decide +kernel
theorem dc_Hall_conditionFor_29 : decode prog_1_method_22_code 29 = .ok (.invokestatic 248, 3) := by decide +kernel
theorem dc_Hall_conditionFor_32 : decode prog_1_method_22_code 32 = .ok (.aload 4, 2) := by decide +kernel
theorem dc_Hall_conditionFor_34 : decode prog_1_method_22_code 34 = .ok (.areturn, 1) := by decide +kernel
theorem dc_Hall_conditionFor_35 : decode prog_1_method_22_code 35 = .ok (.new 243, 3) := by decide +kernel
theorem dc_Hall_conditionFor_38 : decode prog_1_method_22_code 38 = .ok (.dup, 1) := by decide +kernel
theorem dc_Hall_conditionFor_39 : decode prog_1_method_22_code 39 = .ok (.ldc 252, 2) := by decide +kernel
theorem dc_Hall_conditionFor_41 : decode prog_1_method_22_code 41 = .ok (.invokespecial 247, 3) := by decide +kernel
theorem dc_Hall_conditionFor_44 : decode prog_1_method_22_code 44 = .ok (.athrow, 1) := by decide +kernel
theorem dc_Hall_queueForLock_0 : decode prog_1_method_29_code 0 = .ok (.aload_n 1, 1) := by decide +kernel
theorem dc_Hall_queueForLock_1 : decode prog_1_method_29_code 1 = .ok (.iload_n 3, 1) := by decide +kernel
theorem dc_Hall_queueForLock_2 : decode prog_1_method_29_code 2 = .ok (.putfield 116, 3) := by decide +kernel
theorem dc_Hall_queueForLock_5 : decode prog_1_method_29_code 5 = .ok (.aload_n 1, 1) := by decide +kernel
theorem dc_Hall_queueForLock_6 : decode prog_1_method_29_code 6 = .ok (.iconst 1, 1) := by decide +kernel
theorem dc_Hall_queueForLock_7 : decode prog_1_method_29_code 7 = .ok (.putfield 179, 3) := by decide +kernel
theorem dc_Hall_queueForLock_10 : decode prog_1_method_29_code 10 = .ok (.aload_n 2, 1) := by decide +kernel
theorem dc_Hall_queueForLock_11 : decode prog_1_method_29_code 11 = .ok (.aload_n 1, 1) := by decide +kernel
theorem dc_Hall_queueForLock_12 : decode prog_1_method_29_code 12 = .ok (.iconst 0, 1) := by decide +kernel
theorem dc_Hall_queueForLock_13 : decode prog_1_method_29_code 13 = .ok (.aload_n 0, 1) := by decide +kernel
theorem dc_Hall_queueForLock_14 : decode prog_1_method_29_code 14 = .ok (.getfield 35, 3) := by decide +kernel
theorem dc_Hall_queueForLock_17 : decode prog_1_method_29_code 17 = .ok (.invokevirtual 297, 3) := by decide +kernel
theorem dc_Hall_queueForLock_20 : decode prog_1_method_29_code 20 = .ok (.aload_n 2, 1) := by decide +kernel
theorem dc_Hall_queueForLock_21 : decode prog_1_method_29_code 21 = .ok (.aload_n 0, 1) := by decide +kernel
theorem dc_Hall_queueForLock_22 : decode prog_1_method_29_code 22 = .ok (.getfield 35, 3) := by decide +kernel
theorem dc_Hall_queueForLock_25 : decode prog_1_method_29_code 25 = .ok (.invokevirtual 170, 3) := by decide +kernel
theorem dc_Hall_queueForLock_28 : decode prog_1_method_29_code 28 = .ok (.return_, 1) := by decide +kernel
theorem dc_Hall_await_0 : decode prog_1_method_6_code 0 = .ok (.aload_n 0, 1) := by decide +kernel
theorem dc_Hall_await_1 : decode prog_1_method_6_code 1 = .ok (.iload_n 1, 1) := by decide +kernel
theorem dc_Hall_await_2 : decode prog_1_method_6_code 2 = .ok (.invokevirtual 62, 3) := by decide +kernel
theorem dc_Hall_await_5 : decode prog_1_method_6_code 5 = .ok (.astore 5, 2) := by decide +kernel
theorem dc_Hall_await_7 : decode prog_1_method_6_code 7 = .ok (.dload_n 3, 1) := by decide +kernel
theorem dc_Hall_await_8 : decode prog_1_method_6_code 8 = .ok (.iconst (-1), 1) := by decide +kernel
theorem dc_Hall_await_9 : decode prog_1_method_6_code 9 = .ok (.sipush 1000, 3) := by decide +kernel
theorem dc_Hall_await_12 : decode prog_1_method_6_code 12 = .ok (.invokestatic 66, 3) := by decide +kernel
theorem dc_Hall_await_15 : decode prog_1_method_6_code 15 = .ok (.aload_n 0, 1) := by decide +kernel
theorem dc_Hall_await_16 : decode prog_1_method_6_code 16 = .ok (.aload 5, 2) := by decide +kernel
theorem dc_Hall_await_18 : decode prog_1_method_6_code 18 = .ok (.iload_n 2, 1) := by decide +kernel
theorem dc_Hall_await_19 : decode prog_1_method_6_code 19 = .ok (.invokevirtual 147, 3) := by decide +kernel
theorem dc_Hall_await_22 : decode prog_1_method_6_code 22 = .ok (.astore 6, 2) := by decide +kernel
theorem dc_Hall_await_24 : decode prog_1_method_6_code 24 = .ok (.aload 5, 2) := by decide +kernel
theorem dc_Hall_await_26 : decode prog_1_method_6_code 26 = .ok (.invokevirtual 85, 3) := by decide +kernel
theorem dc_Hall_await_29 : decode prog_1_method_6_code 29 = .ok (.ifCond .eq 10, 3) := by decide +kernel
theorem dc_Hall_await_32 : decode prog_1_method_6_code 32 = .ok (.aload 5, 2) := by decide +kernel
theorem dc_Hall_await_34 : decode prog_1_method_6_code 34 = .ok (.iconst 3, 1) := by decide +kernel
theorem dc_Hall_await_35 : decode prog_1_method_6_code 35 = .ok (.invokevirtual 89, 3) := by decide +kernel
theorem dc_Hall_await_38 : decode prog_1_method_6_code 38 = .ok (.ireturn, 1) := by decide +kernel
theorem dc_Hall_await_39 : decode prog_1_method_6_code 39 = .ok (.aload 6, 2) := by decide +kernel
theorem dc_Hall_await_41 : decode prog_1_method_6_code 41 = .ok (.getfield 151, 3) := by decide +kernel
theorem dc_Hall_await_44 : decode prog_1_method_6_code 44 = .ok (.astore 7, 2) := by decide +kernel
theorem dc_Hall_await_46 : decode prog_1_method_6_code 46 = .ok (.aload 5, 2) := by decide +kernel
theorem dc_Hall_await_48 : decode prog_1_method_6_code 48 = .ok (.aload 7, 2) := by decide +kernel
theorem dc_Hall_await_50 : decode prog_1_method_6_code 50 = .ok (.getfield 157, 3) := by decide +kernel
theorem dc_Hall_await_53 : decode prog_1_method_6_code 53 = .ok (.putfield 113, 3) := by decide +kernel
theorem dc_Hall_await_56 : decode prog_1_method_6_code 56 = .ok (.aload 7, 2) := by decide +kernel
theorem dc_Hall_await_58 : decode prog_1_method_6_code 58 = .ok (.invokevirtual 162, 3) := by decide +kernel
theorem dc_Hall_await_61 : decode prog_1_method_6_code 61 = .ok (.dload_n 3, 1) := by decide +kernel
theorem dc_Hall_await_62 : decode prog_1_method_6_code 62 = .ok (.dconst 0, 1) := by decide +kernel
theorem dc_Hall_await_63 : decode prog_1_method_6_code 63 = .ok (.dcmp .l, 1) := by decide +kernel
theorem dc_Hall_await_64 : decode prog_1_method_6_code 64 = .ok (.ifCond .ne 15, 3) := by decide +kernel
theorem dc_Hall_await_67 : decode prog_1_method_6_code 67 = .ok (.aload_n 0, 1) := by decide +kernel
theorem dc_Hall_await_68 : decode prog_1_method_6_code 68 = .ok (.aload 5, 2) := by decide +kernel
theorem dc_Hall_await_70 : decode prog_1_method_6_code 70 = .ok (.aload 7, 2) := by decide +kernel
theorem dc_Hall_await_72 : decode prog_1_method_6_code 72 = .ok (.iconst 2, 1) := by decide +kernel
theorem dc_Hall_await_73 : decode prog_1_method_6_code 73 = .ok (.invokevirtual 165, 3) := by decide +kernel
theorem dc_Hall_await_76 : decode prog_1_method_6_code 76 = .ok (.goto 34, 3) := by decide +kernel
theorem dc_Hall_await_79 : decode prog_1_method_6_code 79 = .ok (.aload 6, 2) := by decide +kernel
theorem dc_Hall_await_81 : decode prog_1_method_6_code 81 = .ok (.aload 5, 2) := by decide +kernel
theorem dc_Hall_await_83 : decode prog_1_method_6_code 83 = .ok (.iconst 0, 1) := by decide +kernel
theorem dc_Hall_await_84 : decode prog_1_method_6_code 84 = .ok (.aload_n 0, 1) := by decide +kernel
theorem dc_Hall_await_85 : decode prog_1_method_6_code 85 = .ok (.getfield 35, 3) := by decide +kernel
theorem dc_Hall_await_88 : decode prog_1_method_6_code 88 = .ok (.invokevirtual 169, 3) := by decide +kernel
theorem dc_Hall_await_91 : decode prog_1_method_6_code 91 = .ok (.aload 5, 2) := by decide +kernel
theorem dc_Hall_await_93 : decode prog_1_method_6_code 93 = .ok (.aload_n 0, 1) := by decide +kernel
theorem dc_Hall_await_94 : decode prog_1_method_6_code 94 = .ok (.getfield 35, 3) := by decide +kernel
theorem dc_Hall_await_97 : decode prog_1_method_6_code 97 = .ok (.dload_n 3, 1) := by decide +kernel
theorem dc_Hall_await_98 : decode prog_1_method_6_code 98 = .ok (.invokevirtual 123, 3) := by decide +kernel
theorem dc_Hall_await_101 : decode prog_1_method_6_code 101 = .ok (.aload 7, 2) := by decide +kernel
theorem dc_Hall_await_103 : decode prog_1_method_6_code 103 = .ok (.aload_n 0, 1) := by decide +kernel
theorem dc_Hall_await_104 : decode prog_1_method_6_code 104 = .ok (.getfield 35, 3) := by decide +kernel
theorem dc_Hall_await_107 : decode prog_1_method_6_code 107 = .ok (.invokevirtual 170, 3) := by decide +kernel
theorem dc_Hall_await_110 : decode prog_1_method_6_code 110 = .ok (.aload 5, 2) := by decide +kernel
theorem dc_Hall_await_112 : decode prog_1_method_6_code 112 = .ok (.getfield 127, 3) := by decide +kernel
theorem dc_Hall_await_115 : decode prog_1_method_6_code 115 = .ok (.ireturn, 1) := by decide +kernel
theorem dc_Hall_signalFirst_0 : decode prog_1_method_28_code 0 = .ok (.aload_n 1, 1) := by decide +kernel
theorem dc_Hall_signalFirst_1 : decode prog_1_method_28_code 1 = .ok (.getfield 171, 3) := by decide +kernel
theorem dc_Hall_signalFirst_4 : decode prog_1_method_28_code 4 = .ok (.iconst 0, 1) := by decide +kernel
theorem dc_Hall_signalFirst_5 : decode prog_1_method_28_code 5 = .ok (.invokevirtual 210, 3) := by decide +kernel
theorem dc_Hall_signalFirst_8 : decode prog_1_method_28_code 8 = .ok (.astore_n 2, 1) := by decide +kernel
theorem dc_Hall_signalFirst_9 : decode prog_1_method_28_code 9 = .ok (.aload_n 2, 1) := by decide +kernel
theorem dc_Hall_signalFirst_10 : decode prog_1_method_28_code 10 = .ok (.ifnonnull 4, 3) := by decide +kernel
theorem dc_Hall_signalFirst_13 : decode prog_1_method_28_code 13 = .ok (.return_, 1) := by decide +kernel
theorem dc_Hall_signalFirst_14 : decode prog_1_method_28_code 14 = .ok (.aload_n 1, 1) := by decide +kernel
theorem dc_Hall_signalFirst_15 : decode prog_1_method_28_code 15 = .ok (.aload_n 0, 1) := by decide +kernel
theorem dc_Hall_signalFirst_16 : decode prog_1_method_28_code 16 = .ok (.getfield 35, 3) := by decide +kernel
theorem dc_Hall_signalFirst_19 : decode prog_1_method_28_code 19 = .ok (.aload_n 2, 1) := by decide +kernel
theorem dc_Hall_signalFirst_20 : decode prog_1_method_28_code 20 = .ok (.getfield 288, 3) := by decide +kernel
theorem dc_Hall_signalFirst_23 : decode prog_1_method_28_code 23 = .ok (.dsub, 1) := by decide +kernel
theorem dc_Hall_signalFirst_24 : decode prog_1_method_28_code 24 = .ok (.invokevirtual 291, 3) := by decide +kernel
theorem dc_Hall_signalFirst_27 : decode prog_1_method_28_code 27 = .ok (.aload_n 1, 1) := by decide +kernel
theorem dc_Hall_signalFirst_28 : decode prog_1_method_28_code 28 = .ok (.aload_n 2, 1) := by decide +kernel
theorem dc_Hall_signalFirst_29 : decode prog_1_method_28_code 29 = .ok (.invokevirtual 294, 3) := by decide +kernel
theorem dc_Hall_signalFirst_32 : decode prog_1_method_28_code 32 = .ok (.aload_n 0, 1) := by decide +kernel
theorem dc_Hall_signalFirst_33 : decode prog_1_method_28_code 33 = .ok (.aload_n 2, 1) := by decide +kernel
theorem dc_Hall_signalFirst_34 : decode prog_1_method_28_code 34 = .ok (.aload_n 1, 1) := by decide +kernel
theorem dc_Hall_signalFirst_35 : decode prog_1_method_28_code 35 = .ok (.getfield 151, 3) := by decide +kernel
theorem dc_Hall_signalFirst_38 : decode prog_1_method_28_code 38 = .ok (.iconst 1, 1) := by decide +kernel
theorem dc_Hall_signalFirst_39 : decode prog_1_method_28_code 39 = .ok (.invokevirtual 165, 3) := by decide +kernel
theorem dc_Hall_signalFirst_42 : decode prog_1_method_28_code 42 = .ok (.return_, 1) := by decide +kernel
theorem dc_Hall_signal_0 : decode prog_1_method_7_code 0 = .ok (.aload_n 0, 1) := by decide +kernel
theorem dc_Hall_signal_1 : decode prog_1_method_7_code 1 = .ok (.iload_n 1, 1) := by decide +kernel
theorem dc_Hall_signal_2 : decode prog_1_method_7_code 2 = .ok (.invokevirtual 62, 3) := by decide +kernel
theorem dc_Hall_signal_5 : decode prog_1_method_7_code 5 = .ok (.astore 4, 2) := by decide +kernel
theorem dc_Hall_signal_7 : decode prog_1_method_7_code 7 = .ok (.aload_n 0, 1) := by decide +kernel
theorem dc_Hall_signal_8 : decode prog_1_method_7_code 8 = .ok (.aload 4, 2) := by decide +kernel
theorem dc_Hall_signal_10 : decode prog_1_method_7_code 10 = .ok (.iload_n 2, 1) := by decide +kernel
theorem dc_Hall_signal_11 : decode prog_1_method_7_code 11 = .ok (.invokevirtual 147, 3) := by decide +kernel
theorem dc_Hall_signal_14 : decode prog_1_method_7_code 14 = .ok (.astore 5, 2) := by decide +kernel
theorem dc_Hall_signal_16 : decode prog_1_method_7_code 16 = .ok (.aload 5, 2) := by decide +kernel
theorem dc_Hall_signal_18 : decode prog_1_method_7_code 18 = .ok (.getfield 171, 3) := by decide +kernel
theorem dc_Hall_signal_21 : decode prog_1_method_7_code 21 = .ok (.invokevirtual 134, 3) := by decide +kernel
theorem dc_Hall_signal_24 : decode prog_1_method_7_code 24 = .ok (.istore 6, 2) := by decide +kernel
theorem dc_Hall_signal_26 : decode prog_1_method_7_code 26 = .ok (.iload_n 3, 1) := by decide +kernel
theorem dc_Hall_signal_27 : decode prog_1_method_7_code 27 = .ok (.ifCond .ne 12, 3) := by decide +kernel
theorem dc_Hall_signal_30 : decode prog_1_method_7_code 30 = .ok (.iload 6, 2) := by decide +kernel
theorem dc_Hall_signal_32 : decode prog_1_method_7_code 32 = .ok (.iconst 1, 1) := by decide +kernel
theorem dc_Hall_signal_33 : decode prog_1_method_7_code 33 = .ok (.if_icmp .le 6, 3) := by decide +kernel
theorem dc_Hall_signal_36 : decode prog_1_method_7_code 36 = .ok (.iconst 1, 1) := by decide +kernel
theorem dc_Hall_signal_37 : decode prog_1_method_7_code 37 = .ok (.istore 6, 2) := by decide +kernel
theorem dc_Hall_signal_39 : decode prog_1_method_7_code 39 = .ok (.iconst 0, 1) := by decide +kernel
theorem dc_Hall_signal_40 : decode prog_1_method_7_code 40 = .ok (.istore 7, 2) := by decide +kernel
theorem dc_Hall_signal_42 : decode prog_1_method_7_code 42 = .ok (.iload 7, 2) := by decide +kernel
theorem dc_Hall_signal_44 : decode prog_1_method_7_code 44 = .ok (.iload 6, 2) := by decide +kernel
theorem dc_Hall_signal_46 : decode prog_1_method_7_code 46 = .ok (.if_icmp .ge 15, 3) := by decide +kernel
theorem dc_Hall_signal_49 : decode prog_1_method_7_code 49 = .ok (.aload_n 0, 1) := by decide +kernel
theorem dc_Hall_signal_50 : decode prog_1_method_7_code 50 = .ok (.aload 5, 2) := by decide +kernel
theorem dc_Hall_signal_52 : decode prog_1_method_7_code 52 = .ok (.invokevirtual 172, 3) := by decide +kernel
theorem dc_Hall_signal_55 : decode prog_1_method_7_code 55 = .ok (.iinc 7 1, 3) := by decide +kernel
theorem dc_Hall_signal_58 : decode prog_1_method_7_code 58 = .ok (.goto (-16), 3) := by decide +kernel
theorem dc_Hall_signal_61 : decode prog_1_method_7_code 61 = .ok (.iload 6, 2) := by decide +kernel
theorem dc_Hall_signal_63 : decode prog_1_method_7_code 63 = .ok (.ireturn, 1) := by decide +kernel
theorem dc_Hall_giveUp_0 : decode prog_1_method_30_code 0 = .ok (.aload_n 1, 1) := by decide +kernel
theorem dc_Hall_giveUp_1 : decode prog_1_method_30_code 1 = .ok (.getfield 298, 3) := by decide +kernel
theorem dc_Hall_giveUp_4 : decode prog_1_method_30_code 4 = .ok (.astore_n 3, 1) := by decide +kernel
theorem dc_Hall_giveUp_5 : decode prog_1_method_30_code 5 = .ok (.aload_n 3, 1) := by decide +kernel
theorem dc_Hall_giveUp_6 : decode prog_1_method_30_code 6 = .ok (.instanceof 152, 3) := by decide +kernel
theorem dc_Hall_giveUp_9 : decode prog_1_method_30_code 9 = .ok (.ifCond .eq 29, 3) := by decide +kernel
theorem dc_Hall_giveUp_12 : decode prog_1_method_30_code 12 = .ok (.aload_n 3, 1) := by decide +kernel
theorem dc_Hall_giveUp_13 : decode prog_1_method_30_code 13 = .ok (.checkcast 152, 3) := by decide +kernel
theorem dc_Hall_giveUp_16 : decode prog_1_method_30_code 16 = .ok (.astore 4, 2) := by decide +kernel
theorem dc_Hall_giveUp_18 : decode prog_1_method_30_code 18 = .ok (.aload 4, 2) := by decide +kernel
theorem dc_Hall_giveUp_20 : decode prog_1_method_30_code 20 = .ok (.aload_n 1, 1) := by decide +kernel
theorem dc_Hall_giveUp_21 : decode prog_1_method_30_code 21 = .ok (.invokevirtual 294, 3) := by decide +kernel
theorem dc_Hall_giveUp_24 : decode prog_1_method_30_code 24 = .ok (.aload_n 0, 1) := by decide +kernel
theorem dc_Hall_giveUp_25 : decode prog_1_method_30_code 25 = .ok (.aload_n 1, 1) := by decide +kernel
theorem dc_Hall_giveUp_26 : decode prog_1_method_30_code 26 = .ok (.aload 4, 2) := by decide +kernel
theorem dc_Hall_giveUp_28 : decode prog_1_method_30_code 28 = .ok (.getfield 151, 3) := by decide +kernel
theorem dc_Hall_giveUp_31 : decode prog_1_method_30_code 31 = .ok (.iload_n 2, 1) := by decide +kernel
theorem dc_Hall_giveUp_32 : decode prog_1_method_30_code 32 = .ok (.invokevirtual 165, 3) := by decide +kernel
theorem dc_Hall_giveUp_35 : decode prog_1_method_30_code 35 = .ok (.goto 37, 3) := by decide +kernel
theorem dc_Hall_giveUp_38 : decode prog_1_method_30_code 38 = .ok (.aload_n 3, 1) := by decide +kernel
theorem dc_Hall_giveUp_39 : decode prog_1_method_30_code 39 = .ok (.instanceof 97, 3) := by decide +kernel
theorem dc_Hall_giveUp_42 : decode prog_1_method_30_code 42 = .ok (.ifCond .eq 30, 3) := by decide +kernel
theorem dc_Hall_giveUp_45 : decode prog_1_method_30_code 45 = .ok (.aload_n 3, 1) := by decide +kernel
theorem dc_Hall_giveUp_46 : decode prog_1_method_30_code 46 = .ok (.checkcast 97, 3) := by decide +kernel
theorem dc_Hall_giveUp_49 : decode prog_1_method_30_code 49 = .ok (.astore 5, 2) := by decide +kernel
theorem dc_Hall_giveUp_51 : decode prog_1_method_30_code 51 = .ok (.aload 5, 2) := by decide +kernel
theorem dc_Hall_giveUp_53 : decode prog_1_method_30_code 53 = .ok (.aload_n 1, 1) := by decide +kernel
theorem dc_Hall_giveUp_54 : decode prog_1_method_30_code 54 = .ok (.invokevirtual 302, 3) := by decide +kernel
theorem dc_Hall_giveUp_57 : decode prog_1_method_30_code 57 = .ok (.aload_n 1, 1) := by decide +kernel
theorem dc_Hall_giveUp_58 : decode prog_1_method_30_code 58 = .ok (.iload_n 2, 1) := by decide +kernel
theorem dc_Hall_giveUp_59 : decode prog_1_method_30_code 59 = .ok (.invokevirtual 89, 3) := by decide +kernel
theorem dc_Hall_giveUp_62 : decode prog_1_method_30_code 62 = .ok (.pop, 1) := by decide +kernel
theorem dc_Hall_giveUp_63 : decode prog_1_method_30_code 63 = .ok (.aload 5, 2) := by decide +kernel
theorem dc_Hall_giveUp_65 : decode prog_1_method_30_code 65 = .ok (.aload_n 0, 1) := by decide +kernel
theorem dc_Hall_giveUp_66 : decode prog_1_method_30_code 66 = .ok (.getfield 35, 3) := by decide +kernel
theorem dc_Hall_giveUp_69 : decode prog_1_method_30_code 69 = .ok (.invokevirtual 143, 3) := by decide +kernel
theorem dc_Hall_giveUp_72 : decode prog_1_method_30_code 72 = .ok (.return_, 1) := by decide +kernel
theorem dc_Hall_interrupt_0 : decode prog_1_method_8_code 0 = .ok (.aload_n 0, 1) := by decide +kernel
theorem dc_Hall_interrupt_1 : decode prog_1_method_8_code 1 = .ok (.iload_n 1, 1) := by decide +kernel
theorem dc_Hall_interrupt_2 : decode prog_1_method_8_code 2 = .ok (.invokevirtual 62, 3) := by decide +kernel
theorem dc_Hall_interrupt_5 : decode prog_1_method_8_code 5 = .ok (.astore_n 2, 1) := by decide +kernel
theorem dc_Hall_interrupt_6 : decode prog_1_method_8_code 6 = .ok (.aload_n 2, 1) := by decide +kernel
theorem dc_Hall_interrupt_7 : decode prog_1_method_8_code 7 = .ok (.invokevirtual 176, 3) := by decide +kernel
theorem dc_Hall_interrupt_10 : decode prog_1_method_8_code 10 = .ok (.ifCond .eq 10, 3) := by decide +kernel
theorem dc_Hall_interrupt_13 : decode prog_1_method_8_code 13 = .ok (.aload_n 2, 1) := by decide +kernel
theorem dc_Hall_interrupt_14 : decode prog_1_method_8_code 14 = .ok (.getfield 179, 3) := by decide +kernel
theorem dc_Hall_interrupt_17 : decode prog_1_method_8_code 17 = .ok (.ifCond .eq 11, 3) := by decide +kernel
theorem dc_Hall_interrupt_20 : decode prog_1_method_8_code 20 = .ok (.aload_n 2, 1) := by decide +kernel
theorem dc_Hall_interrupt_21 : decode prog_1_method_8_code 21 = .ok (.iconst 1, 1) := by decide +kernel
theorem dc_Hall_interrupt_22 : decode prog_1_method_8_code 22 = .ok (.putfield 183, 3) := by decide +kernel
theorem dc_Hall_interrupt_25 : decode prog_1_method_8_code 25 = .ok (.goto 9, 3) := by decide +kernel
theorem dc_Hall_interrupt_28 : decode prog_1_method_8_code 28 = .ok (.aload_n 0, 1) := by decide +kernel
theorem dc_Hall_interrupt_29 : decode prog_1_method_8_code 29 = .ok (.aload_n 2, 1) := by decide +kernel
theorem dc_Hall_interrupt_30 : decode prog_1_method_8_code 30 = .ok (.iconst 3, 1) := by decide +kernel
theorem dc_Hall_interrupt_31 : decode prog_1_method_8_code 31 = .ok (.invokevirtual 186, 3) := by decide +kernel
theorem dc_Hall_interrupt_34 : decode prog_1_method_8_code 34 = .ok (.aload_n 2, 1) := by decide +kernel
theorem dc_Hall_interrupt_35 : decode prog_1_method_8_code 35 = .ok (.getfield 127, 3) := by decide +kernel
theorem dc_Hall_interrupt_38 : decode prog_1_method_8_code 38 = .ok (.ireturn, 1) := by decide +kernel
theorem dc_Hall_nextLate_0 : decode prog_1_method_31_code 0 = .ok (.aconst_null, 1) := by decide +kernel
theorem dc_Hall_nextLate_1 : decode prog_1_method_31_code 1 = .ok (.astore_n 1, 1) := by decide +kernel
theorem dc_Hall_nextLate_2 : decode prog_1_method_31_code 2 = .ok (.iconst 0, 1) := by decide +kernel
theorem dc_Hall_nextLate_3 : decode prog_1_method_31_code 3 = .ok (.istore_n 2, 1) := by decide +kernel
theorem dc_Hall_nextLate_4 : decode prog_1_method_31_code 4 = .ok (.iload_n 2, 1) := by decide +kernel
theorem dc_Hall_nextLate_5 : decode prog_1_method_31_code 5 = .ok (.bipush 6, 2) := by decide +kernel
theorem dc_Hall_nextLate_7 : decode prog_1_method_31_code 7 = .ok (.if_icmp .ge 53, 3) := by decide +kernel
theorem dc_Hall_nextLate_10 : decode prog_1_method_31_code 10 = .ok (.aload_n 0, 1) := by decide +kernel
theorem dc_Hall_nextLate_11 : decode prog_1_method_31_code 11 = .ok (.getfield 11, 3) := by decide +kernel
theorem dc_Hall_nextLate_14 : decode prog_1_method_31_code 14 = .ok (.iload_n 2, 1) := by decide +kernel
theorem dc_Hall_nextLate_15 : decode prog_1_method_31_code 15 = .ok (.aaload, 1) := by decide +kernel
theorem dc_Hall_nextLate_16 : decode prog_1_method_31_code 16 = .ok (.astore_n 3, 1) := by decide +kernel
theorem dc_Hall_nextLate_17 : decode prog_1_method_31_code 17 = .ok (.aload_n 3, 1) := by decide +kernel
theorem dc_Hall_nextLate_18 : decode prog_1_method_31_code 18 = .ok (.getfield 303, 3) := by decide +kernel
theorem dc_Hall_nextLate_21 : decode prog_1_method_31_code 21 = .ok (.ifCond .eq 33, 3) := by decide +kernel
theorem dc_Hall_nextLate_24 : decode prog_1_method_31_code 24 = .ok (.aload_n 3, 1) := by decide +kernel
theorem dc_Hall_nextLate_25 : decode prog_1_method_31_code 25 = .ok (.getfield 306, 3) := by decide +kernel
theorem dc_Hall_nextLate_28 : decode prog_1_method_31_code 28 = .ok (.aload_n 0, 1) := by decide +kernel
theorem dc_Hall_nextLate_29 : decode prog_1_method_31_code 29 = .ok (.getfield 35, 3) := by decide +kernel
theorem dc_Hall_nextLate_32 : decode prog_1_method_31_code 32 = .ok (.dcmp .g, 1) := by decide +kernel
theorem dc_Hall_nextLate_33 : decode prog_1_method_31_code 33 = .ok (.ifCond .gt 21, 3) := by decide +kernel
theorem dc_Hall_nextLate_36 : decode prog_1_method_31_code 36 = .ok (.aload_n 1, 1) := by decide +kernel
theorem dc_Hall_nextLate_37 : decode prog_1_method_31_code 37 = .ok (.ifnull 15, 3) := by decide +kernel
theorem dc_Hall_nextLate_40 : decode prog_1_method_31_code 40 = .ok (.aload_n 3, 1) := by decide +kernel
theorem dc_Hall_nextLate_41 : decode prog_1_method_31_code 41 = .ok (.getfield 306, 3) := by decide +kernel
theorem dc_Hall_nextLate_44 : decode prog_1_method_31_code 44 = .ok (.aload_n 1, 1) := by decide +kernel
theorem dc_Hall_nextLate_45 : decode prog_1_method_31_code 45 = .ok (.getfield 306, 3) := by decide +kernel
theorem dc_Hall_nextLate_48 : decode prog_1_method_31_code 48 = .ok (.dcmp .g, 1) := by decide +kernel
theorem dc_Hall_nextLate_49 : decode prog_1_method_31_code 49 = .ok (.ifCond .ge 5, 3) := by decide +kernel
theorem dc_Hall_nextLate_52 : decode prog_1_method_31_code 52 = .ok (.aload_n 3, 1) := by decide +kernel
theorem dc_Hall_nextLate_53 : decode prog_1_method_31_code 53 = .ok (.astore_n 1, 1) := by decide +kernel
theorem dc_Hall_nextLate_54 : decode prog_1_method_31_code 54 = .ok (.iinc 2 1, 3) := by decide +kernel
theorem dc_Hall_nextLate_57 : decode prog_1_method_31_code 57 = .ok (.goto (-53), 3) := by decide +kernel
theorem dc_Hall_nextLate_60 : decode prog_1_method_31_code 60 = .ok (.aload_n 1, 1) := by decide +kernel
theorem dc_Hall_nextLate_61 : decode prog_1_method_31_code 61 = .ok (.areturn, 1) := by decide +kernel
theorem dc_Hall_tick_0 : decode prog_1_method_9_code 0 = .ok (.dload_n 1, 1) := by decide +kernel
theorem dc_Hall_tick_1 : decode prog_1_method_9_code 1 = .ok (.iconst 0, 1) := by decide +kernel
theorem dc_Hall_tick_2 : decode prog_1_method_9_code 2 = .ok (.sipush 1000, 3) := by decide +kernel
theorem dc_Hall_tick_5 : decode prog_1_method_9_code 5 = .ok (.invokestatic 66, 3) := by decide +kernel
theorem dc_Hall_tick_8 : decode prog_1_method_9_code 8 = .ok (.aload_n 0, 1) := by decide +kernel
theorem dc_Hall_tick_9 : decode prog_1_method_9_code 9 = .ok (.aload_n 0, 1) := by decide +kernel
theorem dc_Hall_tick_10 : decode prog_1_method_9_code 10 = .ok (.getfield 35, 3) := by decide +kernel
theorem dc_Hall_tick_13 : decode prog_1_method_9_code 13 = .ok (.dload_n 1, 1) := by decide +kernel
theorem dc_Hall_tick_14 : decode prog_1_method_9_code 14 = .ok (.dadd, 1) := by decide +kernel
theorem dc_Hall_tick_15 : decode prog_1_method_9_code 15 = .ok (.putfield 35, 3) := by decide +kernel
theorem dc_Hall_tick_18 : decode prog_1_method_9_code 18 = .ok (.iconst 0, 1) := by decide +kernel
theorem dc_Hall_tick_19 : decode prog_1_method_9_code 19 = .ok (.istore_n 3, 1) := by decide +kernel
theorem dc_Hall_tick_20 : decode prog_1_method_9_code 20 = .ok (.iconst 0, 1) := by decide +kernel
theorem dc_Hall_tick_21 : decode prog_1_method_9_code 21 = .ok (.istore 4, 2) := by decide +kernel
theorem dc_Hall_tick_23 : decode prog_1_method_9_code 23 = .ok (.iload 4, 2) := by decide +kernel
theorem dc_Hall_tick_25 : decode prog_1_method_9_code 25 = .ok (.bipush 6, 2) := by decide +kernel
theorem dc_Hall_tick_27 : decode prog_1_method_9_code 27 = .ok (.if_icmp .ge 33, 3) := by decide +kernel
theorem dc_Hall_tick_30 : decode prog_1_method_9_code 30 = .ok (.aload_n 0, 1) := by decide +kernel
theorem dc_Hall_tick_31 : decode prog_1_method_9_code 31 = .ok (.invokevirtual 189, 3) := by decide +kernel
theorem dc_Hall_tick_34 : decode prog_1_method_9_code 34 = .ok (.astore 5, 2) := by decide +kernel
theorem dc_Hall_tick_36 : decode prog_1_method_9_code 36 = .ok (.aload 5, 2) := by decide +kernel
theorem dc_Hall_tick_38 : decode prog_1_method_9_code 38 = .ok (.ifnonnull 6, 3) := by decide +kernel
theorem dc_Hall_tick_41 : decode prog_1_method_9_code 41 = .ok (.goto 19, 3) := by decide +kernel
theorem dc_Hall_tick_44 : decode prog_1_method_9_code 44 = .ok (.aload_n 0, 1) := by decide +kernel
theorem dc_Hall_tick_45 : decode prog_1_method_9_code 45 = .ok (.aload 5, 2) := by decide +kernel
theorem dc_Hall_tick_47 : decode prog_1_method_9_code 47 = .ok (.iconst 2, 1) := by decide +kernel
theorem dc_Hall_tick_48 : decode prog_1_method_9_code 48 = .ok (.invokevirtual 186, 3) := by decide +kernel
theorem dc_Hall_tick_51 : decode prog_1_method_9_code 51 = .ok (.iinc 3 1, 3) := by decide +kernel
theorem dc_Hall_tick_54 : decode prog_1_method_9_code 54 = .ok (.iinc 4 1, 3) := by decide +kernel
theorem dc_Hall_tick_57 : decode prog_1_method_9_code 57 = .ok (.goto (-34), 3) := by decide +kernel
theorem dc_Hall_tick_60 : decode prog_1_method_9_code 60 = .ok (.iload_n 3, 1) := by decide +kernel
theorem dc_Hall_tick_61 : decode prog_1_method_9_code 61 = .ok (.ireturn, 1) := by decide +kernel
theorem dc_Hall_policy_0 : decode prog_1_method_10_code 0 = .ok (.iload_n 1, 1) := by decide +kernel
theorem dc_Hall_policy_1 : decode prog_1_method_10_code 1 = .ok (.iconst 0, 1) := by decide +kernel
theorem dc_Hall_policy_2 : decode prog_1_method_10_code 2 = .ok (.iconst 2, 1) := by decide +kernel
theorem dc_Hall_policy_3 : decode prog_1_method_10_code 3 = .ok (.invokestatic 39, 3) := by decide +kernel
theorem dc_Hall_policy_6 : decode prog_1_method_10_code 6 = .ok (.aload_n 0, 1) := by decide +kernel
theorem dc_Hall_policy_7 : decode prog_1_method_10_code 7 = .ok (.getfield 27, 3) := by decide +kernel
theorem dc_Hall_policy_10 : decode prog_1_method_10_code 10 = .ok (.iload_n 1, 1) := by decide +kernel
theorem dc_Hall_policy_11 : decode prog_1_method_10_code 11 = .ok (.putfield 193, 3) := by decide +kernel
theorem dc_Hall_policy_14 : decode prog_1_method_10_code 14 = .ok (.aload_n 0, 1) := by decide +kernel
theorem dc_Hall_policy_15 : decode prog_1_method_10_code 15 = .ok (.getfield 27, 3) := by decide +kernel
theorem dc_Hall_policy_18 : decode prog_1_method_10_code 18 = .ok (.getfield 196, 3) := by decide +kernel
theorem dc_Hall_policy_21 : decode prog_1_method_10_code 21 = .ok (.ireturn, 1) := by decide +kernel
theorem dc_Hall_thread_0 : decode prog_1_method_11_code 0 = .ok (.aload_n 0, 1) := by decide +kernel
theorem dc_Hall_thread_1 : decode prog_1_method_11_code 1 = .ok (.iload_n 1, 1) := by decide +kernel
theorem dc_Hall_thread_2 : decode prog_1_method_11_code 2 = .ok (.invokevirtual 62, 3) := by decide +kernel
theorem dc_Hall_thread_5 : decode prog_1_method_11_code 5 = .ok (.astore_n 3, 1) := by decide +kernel
theorem dc_Hall_thread_6 : decode prog_1_method_11_code 6 = .ok (.iload_n 2, 1) := by decide +kernel
theorem dc_Hall_thread_7 : decode prog_1_method_11_code 7 = .ok (.iconst 0, 1) := by decide +kernel
theorem dc_Hall_thread_8 : decode prog_1_method_11_code 8 = .ok (.bipush 10, 2) := by decide +kernel
theorem dc_Hall_thread_10 : decode prog_1_method_11_code 10 = .ok (.invokestatic 39, 3) := by decide +kernel
theorem dc_Hall_thread_13 : decode prog_1_method_11_code 13 = .ok (.iload_n 2, 1) := by decide +kernel
theorem dc_Hall_thread_14 : decode prog_1_method_11_code 14 = .ok (.tableswitch 57 0 2 #[26, 39, 44], 26) := by decide +kernel
theorem dc_Hall_thread_40 : decode prog_1_method_11_code 40 = .ok (.aload_n 3, 1) := by decide +kernel
theorem dc_Hall_thread_41 : decode prog_1_method_11_code 41 = .ok (.invokevirtual 176, 3) := by decide +kernel
theorem dc_Hall_thread_44 : decode prog_1_method_11_code 44 = .ok (.ifCond .eq 7, 3) := by decide +kernel
theorem dc_Hall_thread_47 : decode prog_1_method_11_code 47 = .ok (.iconst 1, 1) := by decide +kernel
theorem dc_Hall_thread_48 : decode prog_1_method_11_code 48 = .ok (.goto 4, 3) := by decide +kernel
theorem dc_Hall_thread_51 : decode prog_1_method_11_code 51 = .ok (.iconst 0, 1) := by decide +kernel
theorem dc_Hall_thread_52 : decode prog_1_method_11_code 52 = .ok (.ireturn, 1) := by decide +kernel
theorem dc_Hall_thread_53 : decode prog_1_method_11_code 53 = .ok (.aload_n 3, 1) := by decide +kernel
theorem dc_Hall_thread_54 : decode prog_1_method_11_code 54 = .ok (.getfield 127, 3) := by decide +kernel
theorem dc_Hall_thread_57 : decode prog_1_method_11_code 57 = .ok (.ireturn, 1) := by decide +kernel
theorem dc_Hall_thread_58 : decode prog_1_method_11_code 58 = .ok (.aload_n 3, 1) := by decide +kernel
theorem dc_Hall_thread_59 : decode prog_1_method_11_code 59 = .ok (.getfield 183, 3) := by decide +kernel
theorem dc_Hall_thread_62 : decode prog_1_method_11_code 62 = .ok (.ifCond .eq 7, 3) := by decide +kernel
theorem dc_Hall_thread_65 : decode prog_1_method_11_code 65 = .ok (.iconst 1, 1) := by decide +kernel
theorem dc_Hall_thread_66 : decode prog_1_method_11_code 66 = .ok (.goto 4, 3) := by decide +kernel
theorem dc_Hall_thread_69 : decode prog_1_method_11_code 69 = .ok (.iconst 0, 1) := by decide +kernel
theorem dc_Hall_thread_70 : decode prog_1_method_11_code 70 = .ok (.ireturn, 1) := by decide +kernel
theorem dc_Hall_thread_71 : decode prog_1_method_11_code 71 = .ok (.aload_n 0, 1) := by decide +kernel
theorem dc_Hall_thread_72 : decode prog_1_method_11_code 72 = .ok (.getfield 20, 3) := by decide +kernel
theorem dc_Hall_thread_75 : decode prog_1_method_11_code 75 = .ok (.iload_n 2, 1) := by decide +kernel
theorem dc_Hall_thread_76 : decode prog_1_method_11_code 76 = .ok (.iconst 3, 1) := by decide +kernel
theorem dc_Hall_thread_77 : decode prog_1_method_11_code 77 = .ok (.isub, 1) := by decide +kernel
theorem dc_Hall_thread_78 : decode prog_1_method_11_code 78 = .ok (.aaload, 1) := by decide +kernel
theorem dc_Hall_thread_79 : decode prog_1_method_11_code 79 = .ok (.astore 4, 2) := by decide +kernel
theorem dc_Hall_thread_81 : decode prog_1_method_11_code 81 = .ok (.aload 4, 2) := by decide +kernel
theorem dc_Hall_thread_83 : decode prog_1_method_11_code 83 = .ok (.ifnonnull 7, 3) := by decide +kernel
theorem dc_Hall_thread_86 : decode prog_1_method_11_code 86 = .ok (.iconst 0, 1) := by decide +kernel
theorem dc_Hall_thread_87 : decode prog_1_method_11_code 87 = .ok (.goto 9, 3) := by decide +kernel
theorem dc_Hall_thread_90 : decode prog_1_method_11_code 90 = .ok (.aload 4, 2) := by decide +kernel
theorem dc_Hall_thread_92 : decode prog_1_method_11_code 92 = .ok (.aload_n 3, 1) := by decide +kernel
theorem dc_Hall_thread_93 : decode prog_1_method_11_code 93 = .ok (.invokevirtual 199, 3) := by decide +kernel
theorem dc_Hall_thread_96 : decode prog_1_method_11_code 96 = .ok (.ireturn, 1) := by decide +kernel
theorem dc_Latch_amount_0 : decode prog_4_method_6_code 0 = .ok (.aload_n 0, 1) := by decide +kernel
theorem dc_Latch_amount_1 : decode prog_4_method_6_code 1 = .ok (.getfield 9, 3) := by decide +kernel
theorem dc_Latch_amount_4 : decode prog_4_method_6_code 4 = .ok (.ireturn, 1) := by decide +kernel
theorem dc_Sync_amount_0 : decode prog_9_method_2_code 0 = .ok (.iconst 0, 1) := by decide +kernel
theorem dc_Sync_amount_1 : decode prog_9_method_2_code 1 = .ok (.ireturn, 1) := by decide +kernel
theorem dc_Semaphore_amount_0 : decode prog_7_method_7_code 0 = .ok (.aload_n 0, 1) := by decide +kernel
theorem dc_Semaphore_amount_1 : decode prog_7_method_7_code 1 = .ok (.getfield 9, 3) := by decide +kernel
theorem dc_Semaphore_amount_4 : decode prog_7_method_7_code 4 = .ok (.ireturn, 1) := by decide +kernel
theorem dc_Hall_sync_0 : decode prog_1_method_12_code 0 = .ok (.iload_n 2, 1) := by decide +kernel
theorem dc_Hall_sync_1 : decode prog_1_method_12_code 1 = .ok (.iconst 0, 1) := by decide +kernel
theorem dc_Hall_sync_2 : decode prog_1_method_12_code 2 = .ok (.bipush 8, 2) := by decide +kernel
theorem dc_Hall_sync_4 : decode prog_1_method_12_code 4 = .ok (.invokestatic 39, 3) := by decide +kernel
theorem dc_Hall_sync_7 : decode prog_1_method_12_code 7 = .ok (.aload_n 0, 1) := by decide +kernel
theorem dc_Hall_sync_8 : decode prog_1_method_12_code 8 = .ok (.iload_n 1, 1) := by decide +kernel
theorem dc_Hall_sync_9 : decode prog_1_method_12_code 9 = .ok (.invokevirtual 73, 3) := by decide +kernel
theorem dc_Hall_sync_12 : decode prog_1_method_12_code 12 = .ok (.astore_n 3, 1) := by decide +kernel
theorem dc_Hall_sync_13 : decode prog_1_method_12_code 13 = .ok (.iload_n 2, 1) := by decide +kernel
theorem dc_Hall_sync_14 : decode prog_1_method_12_code 14 = .ok (.lookupswitch 52 #[(0, 34), (1, 39), (8, 47)], 34) := by decide +kernel
theorem dc_Hall_sync_48 : decode prog_1_method_12_code 48 = .ok (.aload_n 3, 1) := by decide +kernel
theorem dc_Hall_sync_49 : decode prog_1_method_12_code 49 = .ok (.getfield 203, 3) := by decide +kernel
theorem dc_Hall_sync_52 : decode prog_1_method_12_code 52 = .ok (.ireturn, 1) := by decide +kernel
theorem dc_Hall_sync_53 : decode prog_1_method_12_code 53 = .ok (.aload_n 3, 1) := by decide +kernel
theorem dc_Hall_sync_54 : decode prog_1_method_12_code 54 = .ok (.getfield 206, 3) := by decide +kernel
theorem dc_Hall_sync_57 : decode prog_1_method_12_code 57 = .ok (.invokevirtual 134, 3) := by decide +kernel
theorem dc_Hall_sync_60 : decode prog_1_method_12_code 60 = .ok (.ireturn, 1) := by decide +kernel
theorem dc_Hall_sync_61 : decode prog_1_method_12_code 61 = .ok (.aload_n 3, 1) := by decide +kernel
theorem dc_Hall_sync_62 : decode prog_1_method_12_code 62 = .ok (.invokevirtual 207, 3) := by decide +kernel
theorem dc_Hall_sync_65 : decode prog_1_method_12_code 65 = .ok (.ireturn, 1) := by decide +kernel
theorem dc_Hall_sync_66 : decode prog_1_method_12_code 66 = .ok (.aload_n 3, 1) := by decide +kernel
theorem dc_Hall_sync_67 : decode prog_1_method_12_code 67 = .ok (.getfield 206, 3) := by decide +kernel
theorem dc_Hall_sync_70 : decode prog_1_method_12_code 70 = .ok (.iload_n 2, 1) := by decide +kernel
theorem dc_Hall_sync_71 : decode prog_1_method_12_code 71 = .ok (.iconst 2, 1) := by decide +kernel
theorem dc_Hall_sync_72 : decode prog_1_method_12_code 72 = .ok (.isub, 1) := by decide +kernel
theorem dc_Hall_sync_73 : decode prog_1_method_12_code 73 = .ok (.invokevirtual 210, 3) := by decide +kernel
theorem dc_Hall_sync_76 : decode prog_1_method_12_code 76 = .ok (.astore 4, 2) := by decide +kernel
theorem dc_Hall_sync_78 : decode prog_1_method_12_code 78 = .ok (.aload 4, 2) := by decide +kernel
theorem dc_Hall_sync_80 : decode prog_1_method_12_code 80 = .ok (.ifnonnull 7, 3) := by decide +kernel
theorem dc_Hall_sync_83 : decode prog_1_method_12_code 83 = .ok (.iconst (-1), 1) := by decide +kernel
theorem dc_Hall_sync_84 : decode prog_1_method_12_code 84 = .ok (.goto 8, 3) := by decide +kernel
theorem dc_Hall_sync_87 : decode prog_1_method_12_code 87 = .ok (.aload 4, 2) := by decide +kernel
theorem dc_Hall_sync_89 : decode prog_1_method_12_code 89 = .ok (.getfield 213, 3) := by decide +kernel
theorem dc_Hall_sync_92 : decode prog_1_method_12_code 92 = .ok (.ireturn, 1) := by decide +kernel
theorem dc_Hall_waited_0 : decode prog_1_method_13_code 0 = .ok (.aload_n 0, 1) := by decide +kernel
theorem dc_Hall_waited_1 : decode prog_1_method_13_code 1 = .ok (.iload_n 1, 1) := by decide +kernel
theorem dc_Hall_waited_2 : decode prog_1_method_13_code 2 = .ok (.invokevirtual 73, 3) := by decide +kernel
theorem dc_Hall_waited_5 : decode prog_1_method_13_code 5 = .ok (.astore_n 2, 1) := by decide +kernel
theorem dc_Hall_waited_6 : decode prog_1_method_13_code 6 = .ok (.aload_n 2, 1) := by decide +kernel
theorem dc_Hall_waited_7 : decode prog_1_method_13_code 7 = .ok (.getfield 216, 3) := by decide +kernel
theorem dc_Hall_waited_10 : decode prog_1_method_13_code 10 = .ok (.ifCond .gt 13, 3) := by decide +kernel
theorem dc_Hall_waited_13 : decode prog_1_method_13_code 13 = .ok (.new 219, 3) := by decide +kernel
theorem dc_Hall_waited_16 : decode prog_1_method_13_code 16 = .ok (.dup, 1) := by decide +kernel
theorem dc_Hall_waited_17 : decode prog_1_method_13_code 17 = .ok (.ldc 221, 2) := by decide +kernel
theorem dc_Hall_waited_19 : decode prog_1_method_13_code 19 = .ok (.invokespecial 223, 3) := by decide +kernel
theorem dc_Hall_waited_22 : decode prog_1_method_13_code 22 = .ok (.athrow, 1) := by decide +kernel
theorem dc_Hall_waited_23 : decode prog_1_method_13_code 23 = .ok (.aload_n 2, 1) := by decide +kernel
theorem dc_Hall_waited_24 : decode prog_1_method_13_code 24 = .ok (.getfield 224, 3) := by decide +kernel
theorem dc_Hall_waited_27 : decode prog_1_method_13_code 27 = .ok (.aload_n 2, 1) := by decide +kernel
theorem dc_Hall_waited_28 : decode prog_1_method_13_code 28 = .ok (.getfield 216, 3) := by decide +kernel
theorem dc_Hall_waited_31 : decode prog_1_method_13_code 31 = .ok (.i2d, 1) := by decide +kernel
theorem dc_Hall_waited_32 : decode prog_1_method_13_code 32 = .ok (.ddiv, 1) := by decide +kernel
theorem dc_Hall_waited_33 : decode prog_1_method_13_code 33 = .ok (.dreturn, 1) := by decide +kernel
