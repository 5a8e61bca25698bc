theorem dc_Law_make_0 : decode method_3_code 0 = .ok (.aload 4, 2) := by decide +kernel
theorem dc_Law_make_2 : decode method_3_code 2 = .ok (.iconst 0, 1) := by decide +kernel
theorem dc_Law_make_3 : decode method_3_code 3 = .ok (.aload_n 0, 1) := by decide +kernel
theorem dc_Law_make_4 : decode method_3_code 4 = .ok (.iload_n 1, 1) := by decide +kernel
theorem dc_Law_make_5 : decode method_3_code 5 = .ok (.iload_n 2, 1) := by decide +kernel
theorem dc_Law_make_6 : decode method_3_code 6 = .ok (.iload_n 3, 1) := by decide +kernel
theorem dc_Law_make_7 : decode method_3_code 7 = .ok (.invokevirtual 7, 3) := by decide +kernel
theorem dc_Law_make_10 : decode method_3_code 10 = .ok (.i2l, 1) := by decide +kernel
theorem dc_Law_make_11 : decode method_3_code 11 = .ok (.lastore, 1) := by decide +kernel
theorem dc_Law_make_12 : decode method_3_code 12 = .ok (.goto 15, 3) := by decide +kernel
theorem dc_Law_make_15 : decode method_3_code 15 = .ok (.astore 5, 2) := by decide +kernel
theorem dc_Law_make_17 : decode method_3_code 17 = .ok (.iconst 1, 1) := by decide +kernel
theorem dc_Law_make_18 : decode method_3_code 18 = .ok (.ireturn, 1) := by decide +kernel
theorem dc_Law_make_19 : decode method_3_code 19 = .ok (.astore 5, 2) := by decide +kernel
theorem dc_Law_make_21 : decode method_3_code 21 = .ok (.iconst 2, 1) := by decide +kernel
theorem dc_Law_make_22 : decode method_3_code 22 = .ok (.ireturn, 1) := by decide +kernel
theorem dc_Law_make_23 : decode method_3_code 23 = .ok (.astore 5, 2) := by decide +kernel
theorem dc_Law_make_25 : decode method_3_code 25 = .ok (.iconst 3, 1) := by decide +kernel
theorem dc_Law_make_26 : decode method_3_code 26 = .ok (.ireturn, 1) := by decide +kernel
theorem dc_Law_make_27 : decode method_3_code 27 = .ok (.iconst 0, 1) := by decide +kernel
theorem dc_Law_make_28 : decode method_3_code 28 = .ok (.ireturn, 1) := by decide +kernel
theorem dc_Law_rank_0 : decode method_4_code 0 = .ok (.aload_n 0, 1) := by decide +kernel
theorem dc_Law_rank_1 : decode method_4_code 1 = .ok (.iload_n 1, 1) := by decide +kernel
theorem dc_Law_rank_2 : decode method_4_code 2 = .ok (.dload_n 2, 1) := by decide +kernel
theorem dc_Law_rank_3 : decode method_4_code 3 = .ok (.invokevirtual 19, 3) := by decide +kernel
theorem dc_Law_rank_6 : decode method_4_code 6 = .ok (.goto 7, 3) := by decide +kernel
theorem dc_Law_rank_9 : decode method_4_code 9 = .ok (.astore 4, 2) := by decide +kernel
theorem dc_Law_rank_11 : decode method_4_code 11 = .ok (.iconst 1, 1) := by decide +kernel
theorem dc_Law_rank_12 : decode method_4_code 12 = .ok (.ireturn, 1) := by decide +kernel
theorem dc_Law_rank_13 : decode method_4_code 13 = .ok (.iconst 0, 1) := by decide +kernel
theorem dc_Law_rank_14 : decode method_4_code 14 = .ok (.ireturn, 1) := by decide +kernel
theorem dc_Law_acquire_0 : decode method_5_code 0 = .ok (.aload 6, 2) := by decide +kernel
theorem dc_Law_acquire_2 : decode method_5_code 2 = .ok (.iconst 0, 1) := by decide +kernel
theorem dc_Law_acquire_3 : decode method_5_code 3 = .ok (.aload_n 0, 1) := by decide +kernel
theorem dc_Law_acquire_4 : decode method_5_code 4 = .ok (.iload_n 1, 1) := by decide +kernel
theorem dc_Law_acquire_5 : decode method_5_code 5 = .ok (.iload_n 2, 1) := by decide +kernel
theorem dc_Law_acquire_6 : decode method_5_code 6 = .ok (.iload_n 3, 1) := by decide +kernel
theorem dc_Law_acquire_7 : decode method_5_code 7 = .ok (.dload 4, 2) := by decide +kernel
theorem dc_Law_acquire_9 : decode method_5_code 9 = .ok (.invokevirtual 23, 3) := by decide +kernel
theorem dc_Law_acquire_12 : decode method_5_code 12 = .ok (.i2l, 1) := by decide +kernel
theorem dc_Law_acquire_13 : decode method_5_code 13 = .ok (.lastore, 1) := by decide +kernel
theorem dc_Law_acquire_14 : decode method_5_code 14 = .ok (.goto 19, 3) := by decide +kernel
theorem dc_Law_acquire_17 : decode method_5_code 17 = .ok (.astore 7, 2) := by decide +kernel
theorem dc_Law_acquire_19 : decode method_5_code 19 = .ok (.iconst 1, 1) := by decide +kernel
theorem dc_Law_acquire_20 : decode method_5_code 20 = .ok (.ireturn, 1) := by decide +kernel
theorem dc_Law_acquire_21 : decode method_5_code 21 = .ok (.astore 7, 2) := by decide +kernel
theorem dc_Law_acquire_23 : decode method_5_code 23 = .ok (.iconst 2, 1) := by decide +kernel
theorem dc_Law_acquire_24 : decode method_5_code 24 = .ok (.ireturn, 1) := by decide +kernel
theorem dc_Law_acquire_25 : decode method_5_code 25 = .ok (.astore 7, 2) := by decide +kernel
theorem dc_Law_acquire_27 : decode method_5_code 27 = .ok (.iconst 3, 1) := by decide +kernel
theorem dc_Law_acquire_28 : decode method_5_code 28 = .ok (.ireturn, 1) := by decide +kernel
theorem dc_Law_acquire_29 : decode method_5_code 29 = .ok (.astore 7, 2) := by decide +kernel
theorem dc_Law_acquire_31 : decode method_5_code 31 = .ok (.iconst 4, 1) := by decide +kernel
theorem dc_Law_acquire_32 : decode method_5_code 32 = .ok (.ireturn, 1) := by decide +kernel
theorem dc_Law_acquire_33 : decode method_5_code 33 = .ok (.iconst 0, 1) := by decide +kernel
theorem dc_Law_acquire_34 : decode method_5_code 34 = .ok (.ireturn, 1) := by decide +kernel
theorem dc_Law_release_0 : decode method_6_code 0 = .ok (.aload 4, 2) := by decide +kernel
theorem dc_Law_release_2 : decode method_6_code 2 = .ok (.iconst 0, 1) := by decide +kernel
theorem dc_Law_release_3 : decode method_6_code 3 = .ok (.aload_n 0, 1) := by decide +kernel
theorem dc_Law_release_4 : decode method_6_code 4 = .ok (.iload_n 1, 1) := by decide +kernel
theorem dc_Law_release_5 : decode method_6_code 5 = .ok (.iload_n 2, 1) := by decide +kernel
theorem dc_Law_release_6 : decode method_6_code 6 = .ok (.iload_n 3, 1) := by decide +kernel
theorem dc_Law_release_7 : decode method_6_code 7 = .ok (.invokevirtual 29, 3) := by decide +kernel
theorem dc_Law_release_10 : decode method_6_code 10 = .ok (.i2l, 1) := by decide +kernel
theorem dc_Law_release_11 : decode method_6_code 11 = .ok (.lastore, 1) := by decide +kernel
theorem dc_Law_release_12 : decode method_6_code 12 = .ok (.goto 19, 3) := by decide +kernel
theorem dc_Law_release_15 : decode method_6_code 15 = .ok (.astore 5, 2) := by decide +kernel
theorem dc_Law_release_17 : decode method_6_code 17 = .ok (.iconst 1, 1) := by decide +kernel
theorem dc_Law_release_18 : decode method_6_code 18 = .ok (.ireturn, 1) := by decide +kernel
theorem dc_Law_release_19 : decode method_6_code 19 = .ok (.astore 5, 2) := by decide +kernel
theorem dc_Law_release_21 : decode method_6_code 21 = .ok (.iconst 2, 1) := by decide +kernel
theorem dc_Law_release_22 : decode method_6_code 22 = .ok (.ireturn, 1) := by decide +kernel
theorem dc_Law_release_23 : decode method_6_code 23 = .ok (.astore 5, 2) := by decide +kernel
theorem dc_Law_release_25 : decode method_6_code 25 = .ok (.iconst 3, 1) := by decide +kernel
theorem dc_Law_release_26 : decode method_6_code 26 = .ok (.ireturn, 1) := by decide +kernel
theorem dc_Law_release_27 : decode method_6_code 27 = .ok (.astore 5, 2) := by decide +kernel
theorem dc_Law_release_29 : decode method_6_code 29 = .ok (.iconst 4, 1) := by decide +kernel
theorem dc_Law_release_30 : decode method_6_code 30 = .ok (.ireturn, 1) := by decide +kernel
theorem dc_Law_release_31 : decode method_6_code 31 = .ok (.iconst 0, 1) := by decide +kernel
theorem dc_Law_release_32 : decode method_6_code 32 = .ok (.ireturn, 1) := by decide +kernel
theorem dc_Law_await_0 : decode method_7_code 0 = .ok (.aload 5, 2) := by decide +kernel
theorem dc_Law_await_2 : decode method_7_code 2 = .ok (.iconst 0, 1) := by decide +kernel
theorem dc_Law_await_3 : decode method_7_code 3 = .ok (.aload_n 0, 1) := by decide +kernel
theorem dc_Law_await_4 : decode method_7_code 4 = .ok (.iload_n 1, 1) := by decide +kernel
theorem dc_Law_await_5 : decode method_7_code 5 = .ok (.iload_n 2, 1) := by decide +kernel
theorem dc_Law_await_6 : decode method_7_code 6 = .ok (.dload_n 3, 1) := by decide +kernel
theorem dc_Law_await_7 : decode method_7_code 7 = .ok (.invokevirtual 32, 3) := by decide +kernel
theorem dc_Law_await_10 : decode method_7_code 10 = .ok (.i2l, 1) := by decide +kernel
theorem dc_Law_await_11 : decode method_7_code 11 = .ok (.lastore, 1) := by decide +kernel
theorem dc_Law_await_12 : decode method_7_code 12 = .ok (.goto 19, 3) := by decide +kernel
theorem dc_Law_await_15 : decode method_7_code 15 = .ok (.astore 6, 2) := by decide +kernel
theorem dc_Law_await_17 : decode method_7_code 17 = .ok (.iconst 1, 1) := by decide +kernel
theorem dc_Law_await_18 : decode method_7_code 18 = .ok (.ireturn, 1) := by decide +kernel
theorem dc_Law_await_19 : decode method_7_code 19 = .ok (.astore 6, 2) := by decide +kernel
theorem dc_Law_await_21 : decode method_7_code 21 = .ok (.iconst 2, 1) := by decide +kernel
theorem dc_Law_await_22 : decode method_7_code 22 = .ok (.ireturn, 1) := by decide +kernel
theorem dc_Law_await_23 : decode method_7_code 23 = .ok (.astore 6, 2) := by decide +kernel
theorem dc_Law_await_25 : decode method_7_code 25 = .ok (.iconst 3, 1) := by decide +kernel
theorem dc_Law_await_26 : decode method_7_code 26 = .ok (.ireturn, 1) := by decide +kernel
theorem dc_Law_await_27 : decode method_7_code 27 = .ok (.astore 6, 2) := by decide +kernel
theorem dc_Law_await_29 : decode method_7_code 29 = .ok (.iconst 4, 1) := by decide +kernel
theorem dc_Law_await_30 : decode method_7_code 30 = .ok (.ireturn, 1) := by decide +kernel
theorem dc_Law_await_31 : decode method_7_code 31 = .ok (.iconst 0, 1) := by decide +kernel
theorem dc_Law_await_32 : decode method_7_code 32 = .ok (.ireturn, 1) := by decide +kernel
theorem dc_Law_signal_0 : decode method_8_code 0 = .ok (.aload 4, 2) := by decide +kernel
theorem dc_Law_signal_2 : decode method_8_code 2 = .ok (.iconst 0, 1) := by decide +kernel
theorem dc_Law_signal_3 : decode method_8_code 3 = .ok (.aload_n 0, 1) := by decide +kernel
theorem dc_Law_signal_4 : decode method_8_code 4 = .ok (.iload_n 1, 1) := by decide +kernel
theorem dc_Law_signal_5 : decode method_8_code 5 = .ok (.iload_n 2, 1) := by decide +kernel
theorem dc_Law_signal_6 : decode method_8_code 6 = .ok (.iload_n 3, 1) := by decide +kernel
theorem dc_Law_signal_7 : decode method_8_code 7 = .ok (.invokevirtual 36, 3) := by decide +kernel
theorem dc_Law_signal_10 : decode method_8_code 10 = .ok (.i2l, 1) := by decide +kernel
theorem dc_Law_signal_11 : decode method_8_code 11 = .ok (.lastore, 1) := by decide +kernel
theorem dc_Law_signal_12 : decode method_8_code 12 = .ok (.goto 19, 3) := by decide +kernel
theorem dc_Law_signal_15 : decode method_8_code 15 = .ok (.astore 5, 2) := by decide +kernel
theorem dc_Law_signal_17 : decode method_8_code 17 = .ok (.iconst 1, 1) := by decide +kernel
theorem dc_Law_signal_18 : decode method_8_code 18 = .ok (.ireturn, 1) := by decide +kernel
theorem dc_Law_signal_19 : decode method_8_code 19 = .ok (.astore 5, 2) := by decide +kernel
theorem dc_Law_signal_21 : decode method_8_code 21 = .ok (.iconst 2, 1) := by decide +kernel
theorem dc_Law_signal_22 : decode method_8_code 22 = .ok (.ireturn, 1) := by decide +kernel
theorem dc_Law_signal_23 : decode method_8_code 23 = .ok (.astore 5, 2) := by decide +kernel
theorem dc_Law_signal_25 : decode method_8_code 25 = .ok (.iconst 3, 1) := by decide +kernel
theorem dc_Law_signal_26 : decode method_8_code 26 = .ok (.ireturn, 1) := by decide +kernel
theorem dc_Law_signal_27 : decode method_8_code 27 = .ok (.astore 5, 2) := by decide +kernel
theorem dc_Law_signal_29 : decode method_8_code 29 = .ok (.iconst 4, 1) := by decide +kernel
theorem dc_Law_signal_30 : decode method_8_code 30 = .ok (.ireturn, 1) := by decide +kernel
theorem dc_Law_signal_31 : decode method_8_code 31 = .ok (.iconst 0, 1) := by decide +kernel
theorem dc_Law_signal_32 : decode method_8_code 32 = .ok (.ireturn, 1) := by decide +kernel
theorem dc_Law_interrupt_0 : decode method_9_code 0 = .ok (.aload_n 2, 1) := by decide +kernel
theorem dc_Law_interrupt_1 : decode method_9_code 1 = .ok (.iconst 0, 1) := by decide +kernel
theorem dc_Law_interrupt_2 : decode method_9_code 2 = .ok (.aload_n 0, 1) := by decide +kernel
theorem dc_Law_interrupt_3 : decode method_9_code 3 = .ok (.iload_n 1, 1) := by decide +kernel
theorem dc_Law_interrupt_4 : decode method_9_code 4 = .ok (.invokevirtual 40, 3) := by decide +kernel
theorem dc_Law_interrupt_7 : decode method_9_code 7 = .ok (.i2l, 1) := by decide +kernel
theorem dc_Law_interrupt_8 : decode method_9_code 8 = .ok (.lastore, 1) := by decide +kernel
theorem dc_Law_interrupt_9 : decode method_9_code 9 = .ok (.goto 6, 3) := by decide +kernel
theorem dc_Law_interrupt_12 : decode method_9_code 12 = .ok (.astore_n 3, 1) := by decide +kernel
theorem dc_Law_interrupt_13 : decode method_9_code 13 = .ok (.iconst 1, 1) := by decide +kernel
theorem dc_Law_interrupt_14 : decode method_9_code 14 = .ok (.ireturn, 1) := by decide +kernel
theorem dc_Law_interrupt_15 : decode method_9_code 15 = .ok (.iconst 0, 1) := by decide +kernel
theorem dc_Law_interrupt_16 : decode method_9_code 16 = .ok (.ireturn, 1) := by decide +kernel
theorem dc_Law_tick_0 : decode method_10_code 0 = .ok (.aload_n 3, 1) := by decide +kernel
theorem dc_Law_tick_1 : decode method_10_code 1 = .ok (.iconst 0, 1) := by decide +kernel
theorem dc_Law_tick_2 : decode method_10_code 2 = .ok (.aload_n 0, 1) := by decide +kernel
theorem dc_Law_tick_3 : decode method_10_code 3 = .ok (.dload_n 1, 1) := by decide +kernel
theorem dc_Law_tick_4 : decode method_10_code 4 = .ok (.invokevirtual 44, 3) := by decide +kernel
theorem dc_Law_tick_7 : decode method_10_code 7 = .ok (.i2l, 1) := by decide +kernel
theorem dc_Law_tick_8 : decode method_10_code 8 = .ok (.lastore, 1) := by decide +kernel
theorem dc_Law_tick_9 : decode method_10_code 9 = .ok (.goto 7, 3) := by decide +kernel
theorem dc_Law_tick_12 : decode method_10_code 12 = .ok (.astore 4, 2) := by decide +kernel
theorem dc_Law_tick_14 : decode method_10_code 14 = .ok (.iconst 1, 1) := by decide +kernel
theorem dc_Law_tick_15 : decode method_10_code 15 = .ok (.ireturn, 1) := by decide +kernel
theorem dc_Law_tick_16 : decode method_10_code 16 = .ok (.iconst 0, 1) := by decide +kernel
theorem dc_Law_tick_17 : decode method_10_code 17 = .ok (.ireturn, 1) := by decide +kernel
theorem dc_Law_policy_0 : decode method_11_code 0 = .ok (.aload_n 2, 1) := by decide +kernel
theorem dc_Law_policy_1 : decode method_11_code 1 = .ok (.iconst 0, 1) := by decide +kernel
theorem dc_Law_policy_2 : decode method_11_code 2 = .ok (.aload_n 0, 1) := by decide +kernel
theorem dc_Law_policy_3 : decode method_11_code 3 = .ok (.iload_n 1, 1) := by decide +kernel
theorem dc_Law_policy_4 : decode method_11_code 4 = .ok (.invokevirtual 48, 3) := by decide +kernel
theorem dc_Law_policy_7 : decode method_11_code 7 = .ok (.i2l, 1) := by decide +kernel
theorem dc_Law_policy_8 : decode method_11_code 8 = .ok (.lastore, 1) := by decide +kernel
theorem dc_Law_policy_9 : decode method_11_code 9 = .ok (.goto 6, 3) := by decide +kernel
theorem dc_Law_policy_12 : decode method_11_code 12 = .ok (.astore_n 3, 1) := by decide +kernel
theorem dc_Law_policy_13 : decode method_11_code 13 = .ok (.iconst 1, 1) := by decide +kernel
theorem dc_Law_policy_14 : decode method_11_code 14 = .ok (.ireturn, 1) := by decide +kernel
theorem dc_Law_policy_15 : decode method_11_code 15 = .ok (.iconst 0, 1) := by decide +kernel
theorem dc_Law_policy_16 : decode method_11_code 16 = .ok (.ireturn, 1) := by decide +kernel
theorem dc_Law_thread_0 : decode method_12_code 0 = .ok (.aload_n 3, 1) := by decide +kernel
theorem dc_Law_thread_1 : decode method_12_code 1 = .ok (.iconst 0, 1) := by decide +kernel
theorem dc_Law_thread_2 : decode method_12_code 2 = .ok (.aload_n 0, 1) := by decide +kernel
theorem dc_Law_thread_3 : decode method_12_code 3 = .ok (.iload_n 1, 1) := by decide +kernel
theorem dc_Law_thread_4 : decode method_12_code 4 = .ok (.iload_n 2, 1) := by decide +kernel
theorem dc_Law_thread_5 : decode method_12_code 5 = .ok (.invokevirtual 51, 3) := by decide +kernel
theorem dc_Law_thread_8 : decode method_12_code 8 = .ok (.i2l, 1) := by decide +kernel
theorem dc_Law_thread_9 : decode method_12_code 9 = .ok (.lastore, 1) := by decide +kernel
theorem dc_Law_thread_10 : decode method_12_code 10 = .ok (.goto 7, 3) := by decide +kernel
theorem dc_Law_thread_13 : decode method_12_code 13 = .ok (.astore 4, 2) := by decide +kernel
theorem dc_Law_thread_15 : decode method_12_code 15 = .ok (.iconst 1, 1) := by decide +kernel
theorem dc_Law_thread_16 : decode method_12_code 16 = .ok (.ireturn, 1) := by decide +kernel
theorem dc_Law_thread_17 : decode method_12_code 17 = .ok (.iconst 0, 1) := by decide +kernel
theorem dc_Law_thread_18 : decode method_12_code 18 = .ok (.ireturn, 1) := by decide +kernel
theorem dc_Law_sync_0 : decode method_13_code 0 = .ok (.aload_n 3, 1) := by decide +kernel
theorem dc_Law_sync_1 : decode method_13_code 1 = .ok (.iconst 0, 1) := by decide +kernel
theorem dc_Law_sync_2 : decode method_13_code 2 = .ok (.aload_n 0, 1) := by decide +kernel
theorem dc_Law_sync_3 : decode method_13_code 3 = .ok (.iload_n 1, 1) := by decide +kernel
theorem dc_Law_sync_4 : decode method_13_code 4 = .ok (.iload_n 2, 1) := by decide +kernel
theorem dc_Law_sync_5 : decode method_13_code 5 = .ok (.invokevirtual 55, 3) := by decide +kernel
theorem dc_Law_sync_8 : decode method_13_code 8 = .ok (.i2l, 1) := by decide +kernel
theorem dc_Law_sync_9 : decode method_13_code 9 = .ok (.lastore, 1) := by decide +kernel
theorem dc_Law_sync_10 : decode method_13_code 10 = .ok (.goto 11, 3) := by decide +kernel
theorem dc_Law_sync_13 : decode method_13_code 13 = .ok (.astore 4, 2) := by decide +kernel
theorem dc_Law_sync_15 : decode method_13_code 15 = .ok (.iconst 1, 1) := by decide +kernel
theorem dc_Law_sync_16 : decode method_13_code 16 = .ok (.ireturn, 1) := by decide +kernel
theorem dc_Law_sync_17 : decode method_13_code 17 = .ok (.astore 4, 2) := by decide +kernel
theorem dc_Law_sync_19 : decode method_13_code 19 = .ok (.iconst 2, 1) := by decide +kernel
theorem dc_Law_sync_20 : decode method_13_code 20 = .ok (.ireturn, 1) := by decide +kernel
theorem dc_Law_sync_21 : decode method_13_code 21 = .ok (.iconst 0, 1) := by decide +kernel
theorem dc_Law_sync_22 : decode method_13_code 22 = .ok (.ireturn, 1) := by decide +kernel
theorem dc_Law_waited_0 : decode method_14_code 0 = .ok (.aload_n 2, 1) := by decide +kernel
theorem dc_Law_waited_1 : decode method_14_code 1 = .ok (.iconst 0, 1) := by decide +kernel
theorem dc_Law_waited_2 : decode method_14_code 2 = .ok (.aload_n 0, 1) := by decide +kernel
theorem dc_Law_waited_3 : decode method_14_code 3 = .ok (.iload_n 1, 1) := by decide +kernel
theorem dc_Law_waited_4 : decode method_14_code 4 = .ok (.invokevirtual 58, 3) := by decide +kernel
theorem dc_Law_waited_7 : decode method_14_code 7 = .ok (.dastore, 1) := by decide +kernel
theorem dc_Law_waited_8 : decode method_14_code 8 = .ok (.goto 12, 3) := by decide +kernel
theorem dc_Law_waited_11 : decode method_14_code 11 = .ok (.astore_n 3, 1) := by decide +kernel
theorem dc_Law_waited_12 : decode method_14_code 12 = .ok (.iconst 1, 1) := by decide +kernel
theorem dc_Law_waited_13 : decode method_14_code 13 = .ok (.ireturn, 1) := by decide +kernel
theorem dc_Law_waited_14 : decode method_14_code 14 = .ok (.astore_n 3, 1) := by decide +kernel
theorem dc_Law_waited_15 : decode method_14_code 15 = .ok (.iconst 2, 1) := by decide +kernel
theorem dc_Law_waited_16 : decode method_14_code 16 = .ok (.ireturn, 1) := by decide +kernel
theorem dc_Law_waited_17 : decode method_14_code 17 = .ok (.astore_n 3, 1) := by decide +kernel
theorem dc_Law_waited_18 : decode method_14_code 18 = .ok (.iconst 3, 1) := by decide +kernel
theorem dc_Law_waited_19 : decode method_14_code 19 = .ok (.ireturn, 1) := by decide +kernel
theorem dc_Law_waited_20 : decode method_14_code 20 = .ok (.iconst 0, 1) := by decide +kernel
theorem dc_Law_waited_21 : decode method_14_code 21 = .ok (.ireturn, 1) := by decide +kernel
theorem dc_Law_law_0 : decode code 0 = .ok (.new 8, 3) := by decide +kernel
theorem dc_Law_law_3 : decode code 3 = .ok (.dup, 1) := by decide +kernel
theorem dc_Law_law_4 : decode code 4 = .ok (.invokespecial 64, 3) := by decide +kernel
theorem dc_Law_law_7 : decode code 7 = .ok (.astore_n 1, 1) := by decide +kernel
theorem dc_Law_law_8 : decode code 8 = .ok (.new 65, 3) := by decide +kernel
theorem dc_Law_law_11 : decode code 11 = .ok (.dup, 1) := by decide +kernel
theorem dc_Law_law_12 : decode code 12 = .ok (.invokespecial 67, 3) := by decide +kernel
theorem dc_Law_law_15 : decode code 15 = .ok (.astore_n 2, 1) := by decide +kernel
theorem dc_Law_law_16 : decode code 16 = .ok (.iconst 1, 1) := by decide +kernel
theorem dc_Law_law_17 : decode code 17 = .ok (.newarray .long, 2) := by decide +kernel
theorem dc_Law_law_19 : decode code 19 = .ok (.astore_n 3, 1) := by decide +kernel
theorem dc_Law_law_20 : decode code 20 = .ok (.iconst 1, 1) := by decide +kernel
theorem dc_Law_law_21 : decode code 21 = .ok (.newarray .double, 2) := by decide +kernel
theorem dc_Law_law_23 : decode code 23 = .ok (.astore 4, 2) := by decide +kernel
theorem dc_Law_law_25 : decode code 25 = .ok (.iconst 0, 1) := by decide +kernel
theorem dc_Law_law_26 : decode code 26 = .ok (.istore 5, 2) := by decide +kernel
theorem dc_Law_law_28 : decode code 28 = .ok (.iload 5, 2) := by decide +kernel
theorem dc_Law_law_30 : decode code 30 = .ok (.aload_n 0, 1) := by decide +kernel
theorem dc_Law_law_31 : decode code 31 = .ok (.arraylength, 1) := by decide +kernel
theorem dc_Law_law_32 : decode code 32 = .ok (.iconst 5, 1) := by decide +kernel
theorem dc_Law_law_33 : decode code 33 = .ok (.isub, 1) := by decide +kernel
theorem dc_Law_law_34 : decode code 34 = .ok (.if_icmp .gt 1022, 3) := by decide +kernel
theorem dc_Law_law_37 : decode code 37 = .ok (.aload_n 0, 1) := by decide +kernel
theorem dc_Law_law_38 : decode code 38 = .ok (.iload 5, 2) := by decide +kernel
theorem dc_Law_law_40 : decode code 40 = .ok (.iaload, 1) := by decide +kernel
theorem dc_Law_law_41 : decode code 41 = .ok (.bipush 15, 2) := by decide +kernel
theorem dc_Law_law_43 : decode code 43 = .ok (.iand, 1) := by decide +kernel
theorem dc_Law_law_44 : decode code 44 = .ok (.tableswitch 1006 0 12 #[68, 148, 206, 308, 388, 478, 574, 630, 696, 752, 820, 888, 965], 68) := by decide +kernel
theorem dc_Law_law_112 : decode code 112 = .ok (.aload_n 1, 1) := by decide +kernel
theorem dc_Law_law_113 : decode code 113 = .ok (.aload_n 0, 1) := by decide +kernel
theorem dc_Law_law_114 : decode code 114 = .ok (.iload 5, 2) := by decide +kernel
theorem dc_Law_law_116 : decode code 116 = .ok (.iconst 1, 1) := by decide +kernel
theorem dc_Law_law_117 : decode code 117 = .ok (.iadd, 1) := by decide +kernel
theorem dc_Law_law_118 : decode code 118 = .ok (.iaload, 1) := by decide +kernel
theorem dc_Law_law_119 : decode code 119 = .ok (.aload_n 0, 1) := by decide +kernel
theorem dc_Law_law_120 : decode code 120 = .ok (.iload 5, 2) := by decide +kernel
theorem dc_Law_law_122 : decode code 122 = .ok (.iconst 2, 1) := by decide +kernel
theorem dc_Law_law_123 : decode code 123 = .ok (.iadd, 1) := by decide +kernel
theorem dc_Law_law_124 : decode code 124 = .ok (.iaload, 1) := by decide +kernel
theorem dc_Law_law_125 : decode code 125 = .ok (.aload_n 0, 1) := by decide +kernel
theorem dc_Law_law_126 : decode code 126 = .ok (.iload 5, 2) := by decide +kernel
theorem dc_Law_law_128 : decode code 128 = .ok (.iconst 3, 1) := by decide +kernel
theorem dc_Law_law_129 : decode code 129 = .ok (.iadd, 1) := by decide +kernel
theorem dc_Law_law_130 : decode code 130 = .ok (.iaload, 1) := by decide +kernel
theorem dc_Law_law_131 : decode code 131 = .ok (.aload_n 3, 1) := by decide +kernel
theorem dc_Law_law_132 : decode code 132 = .ok (.invokestatic 68, 3) := by decide +kernel
theorem dc_Law_law_135 : decode code 135 = .ok (.istore 6, 2) := by decide +kernel
theorem dc_Law_law_137 : decode code 137 = .ok (.aload_n 2, 1) := by decide +kernel
theorem dc_Law_law_138 : decode code 138 = .ok (.aload_n 0, 1) := by decide +kernel
theorem dc_Law_law_139 : decode code 139 = .ok (.iload 5, 2) := by decide +kernel
theorem dc_Law_law_141 : decode code 141 = .ok (.iconst 1, 1) := by decide +kernel
theorem dc_Law_law_142 : decode code 142 = .ok (.iadd, 1) := by decide +kernel
theorem dc_Law_law_143 : decode code 143 = .ok (.iaload, 1) := by decide +kernel
theorem dc_Law_law_144 : decode code 144 = .ok (.aload_n 0, 1) := by decide +kernel
theorem dc_Law_law_145 : decode code 145 = .ok (.iload 5, 2) := by decide +kernel
theorem dc_Law_law_147 : decode code 147 = .ok (.iconst 2, 1) := by decide +kernel
theorem dc_Law_law_148 : decode code 148 = .ok (.iadd, 1) := by decide +kernel
theorem dc_Law_law_149 : decode code 149 = .ok (.iaload, 1) := by decide +kernel
theorem dc_Law_law_150 : decode code 150 = .ok (.aload_n 0, 1) := by decide +kernel
theorem dc_Law_law_151 : decode code 151 = .ok (.iload 5, 2) := by decide +kernel
theorem dc_Law_law_153 : decode code 153 = .ok (.iconst 3, 1) := by decide +kernel
theorem dc_Law_law_154 : decode code 154 = .ok (.iadd, 1) := by decide +kernel
theorem dc_Law_law_155 : decode code 155 = .ok (.iaload, 1) := by decide +kernel
theorem dc_Law_law_156 : decode code 156 = .ok (.invokevirtual 73, 3) := by decide +kernel
theorem dc_Law_law_159 : decode code 159 = .ok (.istore 7, 2) := by decide +kernel
theorem dc_Law_law_161 : decode code 161 = .ok (.aload_n 2, 1) := by decide +kernel
theorem dc_Law_law_162 : decode code 162 = .ok (.invokevirtual 74, 3) := by decide +kernel
theorem dc_Law_law_165 : decode code 165 = .ok (.iload 6, 2) := by decide +kernel
theorem dc_Law_law_167 : decode code 167 = .ok (.if_icmp .eq 5, 3) := by decide +kernel
theorem dc_Law_law_170 : decode code 170 = .ok (.iconst 0, 1) := by decide +kernel
theorem dc_Law_law_171 : decode code 171 = .ok (.ireturn, 1) := by decide +kernel
theorem dc_Law_law_172 : decode code 172 = .ok (.iload 6, 2) := by decide +kernel
theorem dc_Law_law_174 : decode code 174 = .ok (.ifCond .ne 15, 3) := by decide +kernel
theorem dc_Law_law_177 : decode code 177 = .ok (.aload_n 3, 1) := by decide +kernel
theorem dc_Law_law_178 : decode code 178 = .ok (.iconst 0, 1) := by decide +kernel
theorem dc_Law_law_179 : decode code 179 = .ok (.laload, 1) := by decide +kernel
theorem dc_Law_law_180 : decode code 180 = .ok (.iload 7, 2) := by decide +kernel
theorem dc_Law_law_182 : decode code 182 = .ok (.i2l, 1) := by decide +kernel
theorem dc_Law_law_183 : decode code 183 = .ok (.lcmp, 1) := by decide +kernel
theorem dc_Law_law_184 : decode code 184 = .ok (.ifCond .eq 5, 3) := by decide +kernel
theorem dc_Law_law_187 : decode code 187 = .ok (.iconst 0, 1) := by decide +kernel
theorem dc_Law_law_188 : decode code 188 = .ok (.ireturn, 1) := by decide +kernel
theorem dc_Law_law_189 : decode code 189 = .ok (.goto 861, 3) := by decide +kernel
theorem dc_Law_law_192 : decode code 192 = .ok (.aload_n 1, 1) := by decide +kernel
theorem dc_Law_law_193 : decode code 193 = .ok (.aload_n 0, 1) := by decide +kernel
theorem dc_Law_law_194 : decode code 194 = .ok (.iload 5, 2) := by decide +kernel
theorem dc_Law_law_196 : decode code 196 = .ok (.iconst 1, 1) := by decide +kernel
theorem dc_Law_law_197 : decode code 197 = .ok (.iadd, 1) := by decide +kernel
theorem dc_Law_law_198 : decode code 198 = .ok (.iaload, 1) := by decide +kernel
theorem dc_Law_law_199 : decode code 199 = .ok (.aload_n 0, 1) := by decide +kernel
theorem dc_Law_law_200 : decode code 200 = .ok (.iload 5, 2) := by decide +kernel
theorem dc_Law_law_202 : decode code 202 = .ok (.iconst 2, 1) := by decide +kernel
theorem dc_Law_law_203 : decode code 203 = .ok (.iadd, 1) := by decide +kernel
theorem dc_Law_law_204 : decode code 204 = .ok (.iaload, 1) := by decide +kernel
theorem dc_Law_law_205 : decode code 205 = .ok (.i2d, 1) := by decide +kernel
theorem dc_Law_law_206 : decode code 206 = .ok (.ldc2_w 78, 3) := by decide +kernel
theorem dc_Law_law_209 : decode code 209 = .ok (.dmul, 1) := by decide +kernel
theorem dc_Law_law_210 : decode code 210 = .ok (.invokestatic 80, 3) := by decide +kernel
theorem dc_Law_law_213 : decode code 213 = .ok (.istore 6, 2) := by decide +kernel
theorem dc_Law_law_215 : decode code 215 = .ok (.aload_n 2, 1) := by decide +kernel
theorem dc_Law_law_216 : decode code 216 = .ok (.aload_n 0, 1) := by decide +kernel
theorem dc_Law_law_217 : decode code 217 = .ok (.iload 5, 2) := by decide +kernel
theorem dc_Law_law_219 : decode code 219 = .ok (.iconst 1, 1) := by decide +kernel
theorem dc_Law_law_220 : decode code 220 = .ok (.iadd, 1) := by decide +kernel
theorem dc_Law_law_221 : decode code 221 = .ok (.iaload, 1) := by decide +kernel
theorem dc_Law_law_222 : decode code 222 = .ok (.aload_n 0, 1) := by decide +kernel
theorem dc_Law_law_223 : decode code 223 = .ok (.iload 5, 2) := by decide +kernel
theorem dc_Law_law_225 : decode code 225 = .ok (.iconst 2, 1) := by decide +kernel
theorem dc_Law_law_226 : decode code 226 = .ok (.iadd, 1) := by decide +kernel
theorem dc_Law_law_227 : decode code 227 = .ok (.iaload, 1) := by decide +kernel
theorem dc_Law_law_228 : decode code 228 = .ok (.i2d, 1) := by decide +kernel
theorem dc_Law_law_229 : decode code 229 = .ok (.ldc2_w 78, 3) := by decide +kernel
theorem dc_Law_law_232 : decode code 232 = .ok (.dmul, 1) := by decide +kernel
theorem dc_Law_law_233 : decode code 233 = .ok (.invokevirtual 83, 3) := by decide +kernel
theorem dc_Law_law_236 : decode code 236 = .ok (.aload_n 2, 1) := by decide +kernel
theorem dc_Law_law_237 : decode code 237 = .ok (.invokevirtual 74, 3) := by decide +kernel
theorem dc_Law_law_240 : decode code 240 = .ok (.iload 6, 2) := by decide +kernel
theorem dc_Law_law_242 : decode code 242 = .ok (.if_icmp .eq 5, 3) := by decide +kernel
theorem dc_Law_law_245 : decode code 245 = .ok (.iconst 0, 1) := by decide +kernel
theorem dc_Law_law_246 : decode code 246 = .ok (.ireturn, 1) := by decide +kernel
theorem dc_Law_law_247 : decode code 247 = .ok (.goto 803, 3) := by decide +kernel
theorem dc_Law_law_250 : decode code 250 = .ok (.aload_n 1, 1) := by decide +kernel
theorem dc_Law_law_251 : decode code 251 = .ok (.aload_n 0, 1) := by decide +kernel
theorem dc_Law_law_252 : decode code 252 = .ok (.iload 5, 2) := by decide +kernel
theorem dc_Law_law_254 : decode code 254 = .ok (.iconst 1, 1) := by decide +kernel
theorem dc_Law_law_255 : decode code 255 = .ok (.iadd, 1) := by decide +kernel
theorem dc_Law_law_256 : decode code 256 = .ok (.iaload, 1) := by decide +kernel
theorem dc_Law_law_257 : decode code 257 = .ok (.aload_n 0, 1) := by decide +kernel
theorem dc_Law_law_258 : decode code 258 = .ok (.iload 5, 2) := by decide +kernel
theorem dc_Law_law_260 : decode code 260 = .ok (.iconst 2, 1) := by decide +kernel
theorem dc_Law_law_261 : decode code 261 = .ok (.iadd, 1) := by decide +kernel
theorem dc_Law_law_262 : decode code 262 = .ok (.iaload, 1) := by decide +kernel
theorem dc_Law_law_263 : decode code 263 = .ok (.aload_n 0, 1) := by decide +kernel
theorem dc_Law_law_264 : decode code 264 = .ok (.iload 5, 2) := by decide +kernel
theorem dc_Law_law_266 : decode code 266 = .ok (.iconst 3, 1) := by decide +kernel
theorem dc_Law_law_267 : decode code 267 = .ok (.iadd, 1) := by decide +kernel
theorem dc_Law_law_268 : decode code 268 = .ok (.iaload, 1) := by decide +kernel
theorem dc_Law_law_269 : decode code 269 = .ok (.aload_n 0, 1) := by decide +kernel
theorem dc_Law_law_270 : decode code 270 = .ok (.iload 5, 2) := by decide +kernel
theorem dc_Law_law_272 : decode code 272 = .ok (.iconst 4, 1) := by decide +kernel
theorem dc_Law_law_273 : decode code 273 = .ok (.iadd, 1) := by decide +kernel
theorem dc_Law_law_274 : decode code 274 = .ok (.iaload, 1) := by decide +kernel
theorem dc_Law_law_275 : decode code 275 = .ok (.i2d, 1) := by decide +kernel
theorem dc_Law_law_276 : decode code 276 = .ok (.ldc2_w 78, 3) := by decide +kernel
theorem dc_Law_law_279 : decode code 279 = .ok (.dmul, 1) := by decide +kernel
theorem dc_Law_law_280 : decode code 280 = .ok (.aload_n 3, 1) := by decide +kernel
theorem dc_Law_law_281 : decode code 281 = .ok (.invokestatic 84, 3) := by decide +kernel
theorem dc_Law_law_284 : decode code 284 = .ok (.istore 6, 2) := by decide +kernel
theorem dc_Law_law_286 : decode code 286 = .ok (.aload_n 2, 1) := by decide +kernel
theorem dc_Law_law_287 : decode code 287 = .ok (.aload_n 0, 1) := by decide +kernel
theorem dc_Law_law_288 : decode code 288 = .ok (.iload 5, 2) := by decide +kernel
theorem dc_Law_law_290 : decode code 290 = .ok (.iconst 1, 1) := by decide +kernel
theorem dc_Law_law_291 : decode code 291 = .ok (.iadd, 1) := by decide +kernel
theorem dc_Law_law_292 : decode code 292 = .ok (.iaload, 1) := by decide +kernel
theorem dc_Law_law_293 : decode code 293 = .ok (.aload_n 0, 1) := by decide +kernel
theorem dc_Law_law_294 : decode code 294 = .ok (.iload 5, 2) := by decide +kernel
theorem dc_Law_law_296 : decode code 296 = .ok (.iconst 2, 1) := by decide +kernel
theorem dc_Law_law_297 : decode code 297 = .ok (.iadd, 1) := by decide +kernel
theorem dc_Law_law_298 : decode code 298 = .ok (.iaload, 1) := by decide +kernel
theorem dc_Law_law_299 : decode code 299 = .ok (.aload_n 0, 1) := by decide +kernel
theorem dc_Law_law_300 : decode code 300 = .ok (.iload 5, 2) := by decide +kernel
theorem dc_Law_law_302 : decode code 302 = .ok (.iconst 3, 1) := by decide +kernel
theorem dc_Law_law_303 : decode code 303 = .ok (.iadd, 1) := by decide +kernel
theorem dc_Law_law_304 : decode code 304 = .ok (.iaload, 1) := by decide +kernel
theorem dc_Law_law_305 : decode code 305 = .ok (.aload_n 0, 1) := by decide +kernel
theorem dc_Law_law_306 : decode code 306 = .ok (.iload 5, 2) := by decide +kernel
theorem dc_Law_law_308 : decode code 308 = .ok (.iconst 4, 1) := by decide +kernel
theorem dc_Law_law_309 : decode code 309 = .ok (.iadd, 1) := by decide +kernel
theorem dc_Law_law_310 : decode code 310 = .ok (.iaload, 1) := by decide +kernel
theorem dc_Law_law_311 : decode code 311 = .ok (.i2d, 1) := by decide +kernel
theorem dc_Law_law_312 : decode code 312 = .ok (.ldc2_w 78, 3) := by decide +kernel
theorem dc_Law_law_315 : decode code 315 = .ok (.dmul, 1) := by decide +kernel
theorem dc_Law_law_316 : decode code 316 = .ok (.invokevirtual 87, 3) := by decide +kernel
theorem dc_Law_law_319 : decode code 319 = .ok (.istore 7, 2) := by decide +kernel
theorem dc_Law_law_321 : decode code 321 = .ok (.aload_n 2, 1) := by decide +kernel
theorem dc_Law_law_322 : decode code 322 = .ok (.invokevirtual 74, 3) := by decide +kernel
theorem dc_Law_law_325 : decode code 325 = .ok (.iload 6, 2) := by decide +kernel
theorem dc_Law_law_327 : decode code 327 = .ok (.if_icmp .eq 5, 3) := by decide +kernel
theorem dc_Law_law_330 : decode code 330 = .ok (.iconst 0, 1) := by decide +kernel
theorem dc_Law_law_331 : decode code 331 = .ok (.ireturn, 1) := by decide +kernel
theorem dc_Law_law_332 : decode code 332 = .ok (.iload 6, 2) := by decide +kernel
theorem dc_Law_law_334 : decode code 334 = .ok (.ifCond .ne 15, 3) := by decide +kernel
theorem dc_Law_law_337 : decode code 337 = .ok (.aload_n 3, 1) := by decide +kernel
theorem dc_Law_law_338 : decode code 338 = .ok (.iconst 0, 1) := by decide +kernel
theorem dc_Law_law_339 : decode code 339 = .ok (.laload, 1) := by decide +kernel
theorem dc_Law_law_340 : decode code 340 = .ok (.iload 7, 2) := by decide +kernel
theorem dc_Law_law_342 : decode code 342 = .ok (.i2l, 1) := by decide +kernel
theorem dc_Law_law_343 : decode code 343 = .ok (.lcmp, 1) := by decide +kernel
theorem dc_Law_law_344 : decode code 344 = .ok (.ifCond .eq 5, 3) := by decide +kernel
theorem dc_Law_law_347 : decode code 347 = .ok (.iconst 0, 1) := by decide +kernel
theorem dc_Law_law_348 : decode code 348 = .ok (.ireturn, 1) := by decide +kernel
theorem dc_Law_law_349 : decode code 349 = .ok (.goto 701, 3) := by decide +kernel
theorem dc_Law_law_352 : decode code 352 = .ok (.aload_n 1, 1) := by decide +kernel
theorem dc_Law_law_353 : decode code 353 = .ok (.aload_n 0, 1) := by decide +kernel
theorem dc_Law_law_354 : decode code 354 = .ok (.iload 5, 2) := by decide +kernel
theorem dc_Law_law_356 : decode code 356 = .ok (.iconst 1, 1) := by decide +kernel
theorem dc_Law_law_357 : decode code 357 = .ok (.iadd, 1) := by decide +kernel
theorem dc_Law_law_358 : decode code 358 = .ok (.iaload, 1) := by decide +kernel
theorem dc_Law_law_359 : decode code 359 = .ok (.aload_n 0, 1) := by decide +kernel
theorem dc_Law_law_360 : decode code 360 = .ok (.iload 5, 2) := by decide +kernel
theorem dc_Law_law_362 : decode code 362 = .ok (.iconst 2, 1) := by decide +kernel
theorem dc_Law_law_363 : decode code 363 = .ok (.iadd, 1) := by decide +kernel
theorem dc_Law_law_364 : decode code 364 = .ok (.iaload, 1) := by decide +kernel
theorem dc_Law_law_365 : decode code 365 = .ok (.aload_n 0, 1) := by decide +kernel
theorem dc_Law_law_366 : decode code 366 = .ok (.iload 5, 2) := by decide +kernel
theorem dc_Law_law_368 : decode code 368 = .ok (.iconst 3, 1) := by decide +kernel
theorem dc_Law_law_369 : decode code 369 = .ok (.iadd, 1) := by decide +kernel
theorem dc_Law_law_370 : decode code 370 = .ok (.iaload, 1) := by decide +kernel
theorem dc_Law_law_371 : decode code 371 = .ok (.aload_n 3, 1) := by decide +kernel
theorem dc_Law_law_372 : decode code 372 = .ok (.invokestatic 88, 3) := by decide +kernel
theorem dc_Law_law_375 : decode code 375 = .ok (.istore 6, 2) := by decide +kernel
theorem dc_Law_law_377 : decode code 377 = .ok (.aload_n 2, 1) := by decide +kernel
theorem dc_Law_law_378 : decode code 378 = .ok (.aload_n 0, 1) := by decide +kernel
theorem dc_Law_law_379 : decode code 379 = .ok (.iload 5, 2) := by decide +kernel
theorem dc_Law_law_381 : decode code 381 = .ok (.iconst 1, 1) := by decide +kernel
theorem dc_Law_law_382 : decode code 382 = .ok (.iadd, 1) := by decide +kernel
theorem dc_Law_law_383 : decode code 383 = .ok (.iaload, 1) := by decide +kernel
theorem dc_Law_law_384 : decode code 384 = .ok (.aload_n 0, 1) := by decide +kernel
theorem dc_Law_law_385 : decode code 385 = .ok (.iload 5, 2) := by decide +kernel
theorem dc_Law_law_387 : decode code 387 = .ok (.iconst 2, 1) := by decide +kernel
theorem dc_Law_law_388 : decode code 388 = .ok (.iadd, 1) := by decide +kernel
theorem dc_Law_law_389 : decode code 389 = .ok (.iaload, 1) := by decide +kernel
theorem dc_Law_law_390 : decode code 390 = .ok (.aload_n 0, 1) := by decide +kernel
theorem dc_Law_law_391 : decode code 391 = .ok (.iload 5, 2) := by decide +kernel
theorem dc_Law_law_393 : decode code 393 = .ok (.iconst 3, 1) := by decide +kernel
theorem dc_Law_law_394 : decode code 394 = .ok (.iadd, 1) := by decide +kernel
theorem dc_Law_law_395 : decode code 395 = .ok (.iaload, 1) := by decide +kernel
theorem dc_Law_law_396 : decode code 396 = .ok (.invokevirtual 90, 3) := by decide +kernel
theorem dc_Law_law_399 : decode code 399 = .ok (.istore 7, 2) := by decide +kernel
theorem dc_Law_law_401 : decode code 401 = .ok (.aload_n 2, 1) := by decide +kernel
theorem dc_Law_law_402 : decode code 402 = .ok (.invokevirtual 74, 3) := by decide +kernel
theorem dc_Law_law_405 : decode code 405 = .ok (.iload 6, 2) := by decide +kernel
theorem dc_Law_law_407 : decode code 407 = .ok (.if_icmp .eq 5, 3) := by decide +kernel
theorem dc_Law_law_410 : decode code 410 = .ok (.iconst 0, 1) := by decide +kernel
theorem dc_Law_law_411 : decode code 411 = .ok (.ireturn, 1) := by decide +kernel
theorem dc_Law_law_412 : decode code 412 = .ok (.iload 6, 2) := by decide +kernel
theorem dc_Law_law_414 : decode code 414 = .ok (.ifCond .ne 15, 3) := by decide +kernel
theorem dc_Law_law_417 : decode code 417 = .ok (.aload_n 3, 1) := by decide +kernel
theorem dc_Law_law_418 : decode code 418 = .ok (.iconst 0, 1) := by decide +kernel
theorem dc_Law_law_419 : decode code 419 = .ok (.laload, 1) := by decide +kernel
theorem dc_Law_law_420 : decode code 420 = .ok (.iload 7, 2) := by decide +kernel
theorem dc_Law_law_422 : decode code 422 = .ok (.i2l, 1) := by decide +kernel
theorem dc_Law_law_423 : decode code 423 = .ok (.lcmp, 1) := by decide +kernel
theorem dc_Law_law_424 : decode code 424 = .ok (.ifCond .eq 5, 3) := by decide +kernel
theorem dc_Law_law_427 : decode code 427 = .ok (.iconst 0, 1) := by decide +kernel
theorem dc_Law_law_428 : decode code 428 = .ok (.ireturn, 1) := by decide +kernel
theorem dc_Law_law_429 : decode code 429 = .ok (.goto 621, 3) := by decide +kernel
theorem dc_Law_law_432 : decode code 432 = .ok (.aload_n 1, 1) := by decide +kernel
theorem dc_Law_law_433 : decode code 433 = .ok (.aload_n 0, 1) := by decide +kernel
theorem dc_Law_law_434 : decode code 434 = .ok (.iload 5, 2) := by decide +kernel
theorem dc_Law_law_436 : decode code 436 = .ok (.iconst 1, 1) := by decide +kernel
theorem dc_Law_law_437 : decode code 437 = .ok (.iadd, 1) := by decide +kernel
theorem dc_Law_law_438 : decode code 438 = .ok (.iaload, 1) := by decide +kernel
theorem dc_Law_law_439 : decode code 439 = .ok (.aload_n 0, 1) := by decide +kernel
theorem dc_Law_law_440 : decode code 440 = .ok (.iload 5, 2) := by decide +kernel
theorem dc_Law_law_442 : decode code 442 = .ok (.iconst 2, 1) := by decide +kernel
theorem dc_Law_law_443 : decode code 443 = .ok (.iadd, 1) := by decide +kernel
theorem dc_Law_law_444 : decode code 444 = .ok (.iaload, 1) := by decide +kernel
theorem dc_Law_law_445 : decode code 445 = .ok (.aload_n 0, 1) := by decide +kernel
theorem dc_Law_law_446 : decode code 446 = .ok (.iload 5, 2) := by decide +kernel
theorem dc_Law_law_448 : decode code 448 = .ok (.iconst 3, 1) := by decide +kernel
theorem dc_Law_law_449 : decode code 449 = .ok (.iadd, 1) := by decide +kernel
theorem dc_Law_law_450 : decode code 450 = .ok (.iaload, 1) := by decide +kernel
theorem dc_Law_law_451 : decode code 451 = .ok (.i2d, 1) := by decide +kernel
theorem dc_Law_law_452 : decode code 452 = .ok (.ldc2_w 78, 3) := by decide +kernel
theorem dc_Law_law_455 : decode code 455 = .ok (.dmul, 1) := by decide +kernel
theorem dc_Law_law_456 : decode code 456 = .ok (.aload_n 3, 1) := by decide +kernel
theorem dc_Law_law_457 : decode code 457 = .ok (.invokestatic 91, 3) := by decide +kernel
theorem dc_Law_law_460 : decode code 460 = .ok (.istore 6, 2) := by decide +kernel
theorem dc_Law_law_462 : decode code 462 = .ok (.aload_n 2, 1) := by decide +kernel
theorem dc_Law_law_463 : decode code 463 = .ok (.aload_n 0, 1) := by decide +kernel
theorem dc_Law_law_464 : decode code 464 = .ok (.iload 5, 2) := by decide +kernel
theorem dc_Law_law_466 : decode code 466 = .ok (.iconst 1, 1) := by decide +kernel
theorem dc_Law_law_467 : decode code 467 = .ok (.iadd, 1) := by decide +kernel
theorem dc_Law_law_468 : decode code 468 = .ok (.iaload, 1) := by decide +kernel
theorem dc_Law_law_469 : decode code 469 = .ok (.aload_n 0, 1) := by decide +kernel
theorem dc_Law_law_470 : decode code 470 = .ok (.iload 5, 2) := by decide +kernel
theorem dc_Law_law_472 : decode code 472 = .ok (.iconst 2, 1) := by decide +kernel
theorem dc_Law_law_473 : decode code 473 = .ok (.iadd, 1) := by decide +kernel
theorem dc_Law_law_474 : decode code 474 = .ok (.iaload, 1) := by decide +kernel
theorem dc_Law_law_475 : decode code 475 = .ok (.aload_n 0, 1) := by decide +kernel
theorem dc_Law_law_476 : decode code 476 = .ok (.iload 5, 2) := by decide +kernel
theorem dc_Law_law_478 : decode code 478 = .ok (.iconst 3, 1) := by decide +kernel
theorem dc_Law_law_479 : decode code 479 = .ok (.iadd, 1) := by decide +kernel
theorem dc_Law_law_480 : decode code 480 = .ok (.iaload, 1) := by decide +kernel
theorem dc_Law_law_481 : decode code 481 = .ok (.i2d, 1) := by decide +kernel
theorem dc_Law_law_482 : decode code 482 = .ok (.ldc2_w 78, 3) := by decide +kernel
theorem dc_Law_law_485 : decode code 485 = .ok (.dmul, 1) := by decide +kernel
theorem dc_Law_law_486 : decode code 486 = .ok (.invokevirtual 94, 3) := by decide +kernel
theorem dc_Law_law_489 : decode code 489 = .ok (.istore 7, 2) := by decide +kernel
theorem dc_Law_law_491 : decode code 491 = .ok (.aload_n 2, 1) := by decide +kernel
theorem dc_Law_law_492 : decode code 492 = .ok (.invokevirtual 74, 3) := by decide +kernel
theorem dc_Law_law_495 : decode code 495 = .ok (.iload 6, 2) := by decide +kernel
theorem dc_Law_law_497 : decode code 497 = .ok (.if_icmp .eq 5, 3) := by decide +kernel
theorem dc_Law_law_500 : decode code 500 = .ok (.iconst 0, 1) := by decide +kernel
theorem dc_Law_law_501 : decode code 501 = .ok (.ireturn, 1) := by decide +kernel
theorem dc_Law_law_502 : decode code 502 = .ok (.iload 6, 2) := by decide +kernel
theorem dc_Law_law_504 : decode code 504 = .ok (.ifCond .ne 15, 3) := by decide +kernel
theorem dc_Law_law_507 : decode code 507 = .ok (.aload_n 3, 1) := by decide +kernel
theorem dc_Law_law_508 : decode code 508 = .ok (.iconst 0, 1) := by decide +kernel
theorem dc_Law_law_509 : decode code 509 = .ok (.laload, 1) := by decide +kernel
theorem dc_Law_law_510 : decode code 510 = .ok (.iload 7, 2) := by decide +kernel
theorem dc_Law_law_512 : decode code 512 = .ok (.i2l, 1) := by decide +kernel
theorem dc_Law_law_513 : decode code 513 = .ok (.lcmp, 1) := by decide +kernel
theorem dc_Law_law_514 : decode code 514 = .ok (.ifCond .eq 5, 3) := by decide +kernel
theorem dc_Law_law_517 : decode code 517 = .ok (.iconst 0, 1) := by decide +kernel
theorem dc_Law_law_518 : decode code 518 = .ok (.ireturn, 1) := by decide +kernel
theorem dc_Law_law_519 : decode code 519 = .ok (.goto 531, 3) := by decide +kernel
theorem dc_Law_law_522 : decode code 522 = .ok (.aload_n 1, 1) := by decide +kernel
theorem dc_Law_law_523 : decode code 523 = .ok (.aload_n 0, 1) := by decide +kernel
theorem dc_Law_law_524 : decode code 524 = .ok (.iload 5, 2) := by decide +kernel
theorem dc_Law_law_526 : decode code 526 = .ok (.iconst 1, 1) := by decide +kernel
theorem dc_Law_law_527 : decode code 527 = .ok (.iadd, 1) := by decide +kernel
theorem dc_Law_law_528 : decode code 528 = .ok (.iaload, 1) := by decide +kernel
theorem dc_Law_law_529 : decode code 529 = .ok (.aload_n 0, 1) := by decide +kernel
theorem dc_Law_law_530 : decode code 530 = .ok (.iload 5, 2) := by decide +kernel
theorem dc_Law_law_532 : decode code 532 = .ok (.iconst 2, 1) := by decide +kernel
theorem dc_Law_law_533 : decode code 533 = .ok (.iadd, 1) := by decide +kernel
theorem dc_Law_law_534 : decode code 534 = .ok (.iaload, 1) := by decide +kernel
theorem dc_Law_law_535 : decode code 535 = .ok (.aload_n 0, 1) := by decide +kernel
theorem dc_Law_law_536 : decode code 536 = .ok (.iload 5, 2) := by decide +kernel
theorem dc_Law_law_538 : decode code 538 = .ok (.iconst 3, 1) := by decide +kernel
theorem dc_Law_law_539 : decode code 539 = .ok (.iadd, 1) := by decide +kernel
theorem dc_Law_law_540 : decode code 540 = .ok (.iaload, 1) := by decide +kernel
theorem dc_Law_law_541 : decode code 541 = .ok (.ifCond .eq 7, 3) := by decide +kernel
theorem dc_Law_law_544 : decode code 544 = .ok (.iconst 1, 1) := by decide +kernel
theorem dc_Law_law_545 : decode code 545 = .ok (.goto 4, 3) := by decide +kernel
theorem dc_Law_law_548 : decode code 548 = .ok (.iconst 0, 1) := by decide +kernel
theorem dc_Law_law_549 : decode code 549 = .ok (.aload_n 3, 1) := by decide +kernel
theorem dc_Law_law_550 : decode code 550 = .ok (.invokestatic 95, 3) := by decide +kernel
theorem dc_Law_law_553 : decode code 553 = .ok (.istore 6, 2) := by decide +kernel
theorem dc_Law_law_555 : decode code 555 = .ok (.aload_n 2, 1) := by decide +kernel
theorem dc_Law_law_556 : decode code 556 = .ok (.aload_n 0, 1) := by decide +kernel
theorem dc_Law_law_557 : decode code 557 = .ok (.iload 5, 2) := by decide +kernel
theorem dc_Law_law_559 : decode code 559 = .ok (.iconst 1, 1) := by decide +kernel
theorem dc_Law_law_560 : decode code 560 = .ok (.iadd, 1) := by decide +kernel
theorem dc_Law_law_561 : decode code 561 = .ok (.iaload, 1) := by decide +kernel
theorem dc_Law_law_562 : decode code 562 = .ok (.aload_n 0, 1) := by decide +kernel
theorem dc_Law_law_563 : decode code 563 = .ok (.iload 5, 2) := by decide +kernel
theorem dc_Law_law_565 : decode code 565 = .ok (.iconst 2, 1) := by decide +kernel
theorem dc_Law_law_566 : decode code 566 = .ok (.iadd, 1) := by decide +kernel
theorem dc_Law_law_567 : decode code 567 = .ok (.iaload, 1) := by decide +kernel
theorem dc_Law_law_568 : decode code 568 = .ok (.aload_n 0, 1) := by decide +kernel
theorem dc_Law_law_569 : decode code 569 = .ok (.iload 5, 2) := by decide +kernel
theorem dc_Law_law_571 : decode code 571 = .ok (.iconst 3, 1) := by decide +kernel
theorem dc_Law_law_572 : decode code 572 = .ok (.iadd, 1) := by decide +kernel
theorem dc_Law_law_573 : decode code 573 = .ok (.iaload, 1) := by decide +kernel
theorem dc_Law_law_574 : decode code 574 = .ok (.ifCond .eq 7, 3) := by decide +kernel
theorem dc_Law_law_577 : decode code 577 = .ok (.iconst 1, 1) := by decide +kernel
theorem dc_Law_law_578 : decode code 578 = .ok (.goto 4, 3) := by decide +kernel
theorem dc_Law_law_581 : decode code 581 = .ok (.iconst 0, 1) := by decide +kernel
theorem dc_Law_law_582 : decode code 582 = .ok (.invokevirtual 98, 3) := by decide +kernel
theorem dc_Law_law_585 : decode code 585 = .ok (.istore 7, 2) := by decide +kernel
theorem dc_Law_law_587 : decode code 587 = .ok (.aload_n 2, 1) := by decide +kernel
theorem dc_Law_law_588 : decode code 588 = .ok (.invokevirtual 74, 3) := by decide +kernel
theorem dc_Law_law_591 : decode code 591 = .ok (.iload 6, 2) := by decide +kernel
theorem dc_Law_law_593 : decode code 593 = .ok (.if_icmp .eq 5, 3) := by decide +kernel
theorem dc_Law_law_596 : decode code 596 = .ok (.iconst 0, 1) := by decide +kernel
theorem dc_Law_law_597 : decode code 597 = .ok (.ireturn, 1) := by decide +kernel
theorem dc_Law_law_598 : decode code 598 = .ok (.iload 6, 2) := by decide +kernel
theorem dc_Law_law_600 : decode code 600 = .ok (.ifCond .ne 15, 3) := by decide +kernel
theorem dc_Law_law_603 : decode code 603 = .ok (.aload_n 3, 1) := by decide +kernel
theorem dc_Law_law_604 : decode code 604 = .ok (.iconst 0, 1) := by decide +kernel
theorem dc_Law_law_605 : decode code 605 = .ok (.laload, 1) := by decide +kernel
theorem dc_Law_law_606 : decode code 606 = .ok (.iload 7, 2) := by decide +kernel
theorem dc_Law_law_608 : decode code 608 = .ok (.i2l, 1) := by decide +kernel
theorem dc_Law_law_609 : decode code 609 = .ok (.lcmp, 1) := by decide +kernel
theorem dc_Law_law_610 : decode code 610 = .ok (.ifCond .eq 5, 3) := by decide +kernel
theorem dc_Law_law_613 : decode code 613 = .ok (.iconst 0, 1) := by decide +kernel
theorem dc_Law_law_614 : decode code 614 = .ok (.ireturn, 1) := by decide +kernel
theorem dc_Law_law_615 : decode code 615 = .ok (.goto 435, 3) := by decide +kernel
theorem dc_Law_law_618 : decode code 618 = .ok (.aload_n 1, 1) := by decide +kernel
theorem dc_Law_law_619 : decode code 619 = .ok (.aload_n 0, 1) := by decide +kernel
theorem dc_Law_law_620 : decode code 620 = .ok (.iload 5, 2) := by decide +kernel
theorem dc_Law_law_622 : decode code 622 = .ok (.iconst 1, 1) := by decide +kernel
theorem dc_Law_law_623 : decode code 623 = .ok (.iadd, 1) := by decide +kernel
theorem dc_Law_law_624 : decode code 624 = .ok (.iaload, 1) := by decide +kernel
theorem dc_Law_law_625 : decode code 625 = .ok (.aload_n 3, 1) := by decide +kernel
theorem dc_Law_law_626 : decode code 626 = .ok (.invokestatic 99, 3) := by decide +kernel
theorem dc_Law_law_629 : decode code 629 = .ok (.istore 6, 2) := by decide +kernel
theorem dc_Law_law_631 : decode code 631 = .ok (.aload_n 2, 1) := by decide +kernel
theorem dc_Law_law_632 : decode code 632 = .ok (.aload_n 0, 1) := by decide +kernel
theorem dc_Law_law_633 : decode code 633 = .ok (.iload 5, 2) := by decide +kernel
theorem dc_Law_law_635 : decode code 635 = .ok (.iconst 1, 1) := by decide +kernel
theorem dc_Law_law_636 : decode code 636 = .ok (.iadd, 1) := by decide +kernel
theorem dc_Law_law_637 : decode code 637 = .ok (.iaload, 1) := by decide +kernel
theorem dc_Law_law_638 : decode code 638 = .ok (.invokevirtual 102, 3) := by decide +kernel
theorem dc_Law_law_641 : decode code 641 = .ok (.istore 7, 2) := by decide +kernel
theorem dc_Law_law_643 : decode code 643 = .ok (.aload_n 2, 1) := by decide +kernel
theorem dc_Law_law_644 : decode code 644 = .ok (.invokevirtual 74, 3) := by decide +kernel
theorem dc_Law_law_647 : decode code 647 = .ok (.iload 6, 2) := by decide +kernel
theorem dc_Law_law_649 : decode code 649 = .ok (.if_icmp .eq 5, 3) := by decide +kernel
theorem dc_Law_law_652 : decode code 652 = .ok (.iconst 0, 1) := by decide +kernel
theorem dc_Law_law_653 : decode code 653 = .ok (.ireturn, 1) := by decide +kernel
theorem dc_Law_law_654 : decode code 654 = .ok (.iload 6, 2) := by decide +kernel
theorem dc_Law_law_656 : decode code 656 = .ok (.ifCond .ne 15, 3) := by decide +kernel
theorem dc_Law_law_659 : decode code 659 = .ok (.aload_n 3, 1) := by decide +kernel
theorem dc_Law_law_660 : decode code 660 = .ok (.iconst 0, 1) := by decide +kernel
theorem dc_Law_law_661 : decode code 661 = .ok (.laload, 1) := by decide +kernel
theorem dc_Law_law_662 : decode code 662 = .ok (.iload 7, 2) := by decide +kernel
theorem dc_Law_law_664 : decode code 664 = .ok (.i2l, 1) := by decide +kernel
theorem dc_Law_law_665 : decode code 665 = .ok (.lcmp, 1) := by decide +kernel
theorem dc_Law_law_666 : decode code 666 = .ok (.ifCond .eq 5, 3) := by decide +kernel
theorem dc_Law_law_669 : decode code 669 = .ok (.iconst 0, 1) := by decide +kernel
theorem dc_Law_law_670 : decode code 670 = .ok (.ireturn, 1) := by decide +kernel
theorem dc_Law_law_671 : decode code 671 = .ok (.goto 379, 3) := by decide +kernel
theorem dc_Law_law_674 : decode code 674 = .ok (.aload_n 1, 1) := by decide +kernel
theorem dc_Law_law_675 : decode code 675 = .ok (.aload_n 0, 1) := by decide +kernel
theorem dc_Law_law_676 : decode code 676 = .ok (.iload 5, 2) := by decide +kernel
theorem dc_Law_law_678 : decode code 678 = .ok (.iconst 1, 1) := by decide +kernel
theorem dc_Law_law_679 : decode code 679 = .ok (.iadd, 1) := by decide +kernel
theorem dc_Law_law_680 : decode code 680 = .ok (.iaload, 1) := by decide +kernel
theorem dc_Law_law_681 : decode code 681 = .ok (.i2d, 1) := by decide +kernel
theorem dc_Law_law_682 : decode code 682 = .ok (.ldc2_w 78, 3) := by decide +kernel
theorem dc_Law_law_685 : decode code 685 = .ok (.dmul, 1) := by decide +kernel
theorem dc_Law_law_686 : decode code 686 = .ok (.aload_n 3, 1) := by decide +kernel
theorem dc_Law_law_687 : decode code 687 = .ok (.invokestatic 103, 3) := by decide +kernel
theorem dc_Law_law_690 : decode code 690 = .ok (.istore 6, 2) := by decide +kernel
theorem dc_Law_law_692 : decode code 692 = .ok (.aload_n 2, 1) := by decide +kernel
theorem dc_Law_law_693 : decode code 693 = .ok (.aload_n 0, 1) := by decide +kernel
theorem dc_Law_law_694 : decode code 694 = .ok (.iload 5, 2) := by decide +kernel
theorem dc_Law_law_696 : decode code 696 = .ok (.iconst 1, 1) := by decide +kernel
theorem dc_Law_law_697 : decode code 697 = .ok (.iadd, 1) := by decide +kernel
theorem dc_Law_law_698 : decode code 698 = .ok (.iaload, 1) := by decide +kernel
theorem dc_Law_law_699 : decode code 699 = .ok (.i2d, 1) := by decide +kernel
theorem dc_Law_law_700 : decode code 700 = .ok (.ldc2_w 78, 3) := by decide +kernel
theorem dc_Law_law_703 : decode code 703 = .ok (.dmul, 1) := by decide +kernel
theorem dc_Law_law_704 : decode code 704 = .ok (.invokevirtual 106, 3) := by decide +kernel
theorem dc_Law_law_707 : decode code 707 = .ok (.istore 7, 2) := by decide +kernel
theorem dc_Law_law_709 : decode code 709 = .ok (.aload_n 2, 1) := by decide +kernel
theorem dc_Law_law_710 : decode code 710 = .ok (.invokevirtual 74, 3) := by decide +kernel
theorem dc_Law_law_713 : decode code 713 = .ok (.iload 6, 2) := by decide +kernel
theorem dc_Law_law_715 : decode code 715 = .ok (.if_icmp .eq 5, 3) := by decide +kernel
theorem dc_Law_law_718 : decode code 718 = .ok (.iconst 0, 1) := by decide +kernel
theorem dc_Law_law_719 : decode code 719 = .ok (.ireturn, 1) := by decide +kernel
theorem dc_Law_law_720 : decode code 720 = .ok (.iload 6, 2) := by decide +kernel
theorem dc_Law_law_722 : decode code 722 = .ok (.ifCond .ne 15, 3) := by decide +kernel
theorem dc_Law_law_725 : decode code 725 = .ok (.aload_n 3, 1) := by decide +kernel
theorem dc_Law_law_726 : decode code 726 = .ok (.iconst 0, 1) := by decide +kernel
theorem dc_Law_law_727 : decode code 727 = .ok (.laload, 1) := by decide +kernel
theorem dc_Law_law_728 : decode code 728 = .ok (.iload 7, 2) := by decide +kernel
theorem dc_Law_law_730 : decode code 730 = .ok (.i2l, 1) := by decide +kernel
theorem dc_Law_law_731 : decode code 731 = .ok (.lcmp, 1) := by decide +kernel
theorem dc_Law_law_732 : decode code 732 = .ok (.ifCond .eq 5, 3) := by decide +kernel
theorem dc_Law_law_735 : decode code 735 = .ok (.iconst 0, 1) := by decide +kernel
theorem dc_Law_law_736 : decode code 736 = .ok (.ireturn, 1) := by decide +kernel
theorem dc_Law_law_737 : decode code 737 = .ok (.goto 313, 3) := by decide +kernel
theorem dc_Law_law_740 : decode code 740 = .ok (.aload_n 1, 1) := by decide +kernel
theorem dc_Law_law_741 : decode code 741 = .ok (.aload_n 0, 1) := by decide +kernel
theorem dc_Law_law_742 : decode code 742 = .ok (.iload 5, 2) := by decide +kernel
theorem dc_Law_law_744 : decode code 744 = .ok (.iconst 1, 1) := by decide +kernel
theorem dc_Law_law_745 : decode code 745 = .ok (.iadd, 1) := by decide +kernel
theorem dc_Law_law_746 : decode code 746 = .ok (.iaload, 1) := by decide +kernel
theorem dc_Law_law_747 : decode code 747 = .ok (.aload_n 3, 1) := by decide +kernel
theorem dc_Law_law_748 : decode code 748 = .ok (.invokestatic 107, 3) := by decide +kernel
theorem dc_Law_law_751 : decode code 751 = .ok (.istore 6, 2) := by decide +kernel
theorem dc_Law_law_753 : decode code 753 = .ok (.aload_n 2, 1) := by decide +kernel
theorem dc_Law_law_754 : decode code 754 = .ok (.aload_n 0, 1) := by decide +kernel
theorem dc_Law_law_755 : decode code 755 = .ok (.iload 5, 2) := by decide +kernel
theorem dc_Law_law_757 : decode code 757 = .ok (.iconst 1, 1) := by decide +kernel
theorem dc_Law_law_758 : decode code 758 = .ok (.iadd, 1) := by decide +kernel
theorem dc_Law_law_759 : decode code 759 = .ok (.iaload, 1) := by decide +kernel
theorem dc_Law_law_760 : decode code 760 = .ok (.invokevirtual 109, 3) := by decide +kernel
theorem dc_Law_law_763 : decode code 763 = .ok (.istore 7, 2) := by decide +kernel
theorem dc_Law_law_765 : decode code 765 = .ok (.aload_n 2, 1) := by decide +kernel
theorem dc_Law_law_766 : decode code 766 = .ok (.invokevirtual 74, 3) := by decide +kernel
theorem dc_Law_law_769 : decode code 769 = .ok (.iload 6, 2) := by decide +kernel
theorem dc_Law_law_771 : decode code 771 = .ok (.if_icmp .eq 5, 3) := by decide +kernel
theorem dc_Law_law_774 : decode code 774 = .ok (.iconst 0, 1) := by decide +kernel
theorem dc_Law_law_775 : decode code 775 = .ok (.ireturn, 1) := by decide +kernel
theorem dc_Law_law_776 : decode code 776 = .ok (.iload 6, 2) := by decide +kernel
theorem dc_Law_law_778 : decode code 778 = .ok (.ifCond .ne 15, 3) := by decide +kernel
theorem dc_Law_law_781 : decode code 781 = .ok (.aload_n 3, 1) := by decide +kernel
theorem dc_Law_law_782 : decode code 782 = .ok (.iconst 0, 1) := by decide +kernel
theorem dc_Law_law_783 : decode code 783 = .ok (.laload, 1) := by decide +kernel
theorem dc_Law_law_784 : decode code 784 = .ok (.iload 7, 2) := by decide +kernel
theorem dc_Law_law_786 : decode code 786 = .ok (.i2l, 1) := by decide +kernel
theorem dc_Law_law_787 : decode code 787 = .ok (.lcmp, 1) := by decide +kernel
theorem dc_Law_law_788 : decode code 788 = .ok (.ifCond .eq 5, 3) := by decide +kernel
theorem dc_Law_law_791 : decode code 791 = .ok (.iconst 0, 1) := by decide +kernel
theorem dc_Law_law_792 : decode code 792 = .ok (.ireturn, 1) := by decide +kernel
theorem dc_Law_law_793 : decode code 793 = .ok (.goto 257, 3) := by decide +kernel
theorem dc_Law_law_796 : decode code 796 = .ok (.aload_n 1, 1) := by decide +kernel
theorem dc_Law_law_797 : decode code 797 = .ok (.aload_n 0, 1) := by decide +kernel
theorem dc_Law_law_798 : decode code 798 = .ok (.iload 5, 2) := by decide +kernel
theorem dc_Law_law_800 : decode code 800 = .ok (.iconst 1, 1) := by decide +kernel
theorem dc_Law_law_801 : decode code 801 = .ok (.iadd, 1) := by decide +kernel
theorem dc_Law_law_802 : decode code 802 = .ok (.iaload, 1) := by decide +kernel
theorem dc_Law_law_803 : decode code 803 = .ok (.aload_n 0, 1) := by decide +kernel
theorem dc_Law_law_804 : decode code 804 = .ok (.iload 5, 2) := by decide +kernel
theorem dc_Law_law_806 : decode code 806 = .ok (.iconst 2, 1) := by decide +kernel
theorem dc_Law_law_807 : decode code 807 = .ok (.iadd, 1) := by decide +kernel
theorem dc_Law_law_808 : decode code 808 = .ok (.iaload, 1) := by decide +kernel
theorem dc_Law_law_809 : decode code 809 = .ok (.aload_n 3, 1) := by decide +kernel
theorem dc_Law_law_810 : decode code 810 = .ok (.invokestatic 110, 3) := by decide +kernel
theorem dc_Law_law_813 : decode code 813 = .ok (.istore 6, 2) := by decide +kernel
theorem dc_Law_law_815 : decode code 815 = .ok (.aload_n 2, 1) := by decide +kernel
theorem dc_Law_law_816 : decode code 816 = .ok (.aload_n 0, 1) := by decide +kernel
theorem dc_Law_law_817 : decode code 817 = .ok (.iload 5, 2) := by decide +kernel
theorem dc_Law_law_819 : decode code 819 = .ok (.iconst 1, 1) := by decide +kernel
theorem dc_Law_law_820 : decode code 820 = .ok (.iadd, 1) := by decide +kernel
theorem dc_Law_law_821 : decode code 821 = .ok (.iaload, 1) := by decide +kernel
theorem dc_Law_law_822 : decode code 822 = .ok (.aload_n 0, 1) := by decide +kernel
theorem dc_Law_law_823 : decode code 823 = .ok (.iload 5, 2) := by decide +kernel
theorem dc_Law_law_825 : decode code 825 = .ok (.iconst 2, 1) := by decide +kernel
theorem dc_Law_law_826 : decode code 826 = .ok (.iadd, 1) := by decide +kernel
theorem dc_Law_law_827 : decode code 827 = .ok (.iaload, 1) := by decide +kernel
theorem dc_Law_law_828 : decode code 828 = .ok (.invokevirtual 113, 3) := by decide +kernel
theorem dc_Law_law_831 : decode code 831 = .ok (.istore 7, 2) := by decide +kernel
theorem dc_Law_law_833 : decode code 833 = .ok (.aload_n 2, 1) := by decide +kernel
theorem dc_Law_law_834 : decode code 834 = .ok (.invokevirtual 74, 3) := by decide +kernel
theorem dc_Law_law_837 : decode code 837 = .ok (.iload 6, 2) := by decide +kernel
theorem dc_Law_law_839 : decode code 839 = .ok (.if_icmp .eq 5, 3) := by decide +kernel
theorem dc_Law_law_842 : decode code 842 = .ok (.iconst 0, 1) := by decide +kernel
theorem dc_Law_law_843 : decode code 843 = .ok (.ireturn, 1) := by decide +kernel
theorem dc_Law_law_844 : decode code 844 = .ok (.iload 6, 2) := by decide +kernel
theorem dc_Law_law_846 : decode code 846 = .ok (.ifCond .ne 15, 3) := by decide +kernel
theorem dc_Law_law_849 : decode code 849 = .ok (.aload_n 3, 1) := by decide +kernel
theorem dc_Law_law_850 : decode code 850 = .ok (.iconst 0, 1) := by decide +kernel
theorem dc_Law_law_851 : decode code 851 = .ok (.laload, 1) := by decide +kernel
theorem dc_Law_law_852 : decode code 852 = .ok (.iload 7, 2) := by decide +kernel
theorem dc_Law_law_854 : decode code 854 = .ok (.i2l, 1) := by decide +kernel
theorem dc_Law_law_855 : decode code 855 = .ok (.lcmp, 1) := by decide +kernel
theorem dc_Law_law_856 : decode code 856 = .ok (.ifCond .eq 5, 3) := by decide +kernel
theorem dc_Law_law_859 : decode code 859 = .ok (.iconst 0, 1) := by decide +kernel
theorem dc_Law_law_860 : decode code 860 = .ok (.ireturn, 1) := by decide +kernel
theorem dc_Law_law_861 : decode code 861 = .ok (.goto 189, 3) := by decide +kernel
theorem dc_Law_law_864 : decode code 864 = .ok (.aload_n 1, 1) := by decide +kernel
theorem dc_Law_law_865 : decode code 865 = .ok (.aload_n 0, 1) := by decide +kernel
theorem dc_Law_law_866 : decode code 866 = .ok (.iload 5, 2) := by decide +kernel
theorem dc_Law_law_868 : decode code 868 = .ok (.iconst 1, 1) := by decide +kernel
theorem dc_Law_law_869 : decode code 869 = .ok (.iadd, 1) := by decide +kernel
theorem dc_Law_law_870 : decode code 870 = .ok (.iaload, 1) := by decide +kernel
theorem dc_Law_law_871 : decode code 871 = .ok (.aload_n 0, 1) := by decide +kernel
theorem dc_Law_law_872 : decode code 872 = .ok (.iload 5, 2) := by decide +kernel
theorem dc_Law_law_874 : decode code 874 = .ok (.iconst 2, 1) := by decide +kernel
theorem dc_Law_law_875 : decode code 875 = .ok (.iadd, 1) := by decide +kernel
theorem dc_Law_law_876 : decode code 876 = .ok (.iaload, 1) := by decide +kernel
theorem dc_Law_law_877 : decode code 877 = .ok (.aload_n 3, 1) := by decide +kernel
theorem dc_Law_law_878 : decode code 878 = .ok (.invokestatic 114, 3) := by decide +kernel
theorem dc_Law_law_881 : decode code 881 = .ok (.istore 6, 2) := by decide +kernel
theorem dc_Law_law_883 : decode code 883 = .ok (.aload_n 2, 1) := by decide +kernel
theorem dc_Law_law_884 : decode code 884 = .ok (.aload_n 0, 1) := by decide +kernel
theorem dc_Law_law_885 : decode code 885 = .ok (.iload 5, 2) := by decide +kernel
theorem dc_Law_law_887 : decode code 887 = .ok (.iconst 1, 1) := by decide +kernel
theorem dc_Law_law_888 : decode code 888 = .ok (.iadd, 1) := by decide +kernel
theorem dc_Law_law_889 : decode code 889 = .ok (.iaload, 1) := by decide +kernel
theorem dc_Law_law_890 : decode code 890 = .ok (.aload_n 0, 1) := by decide +kernel
theorem dc_Law_law_891 : decode code 891 = .ok (.iload 5, 2) := by decide +kernel
theorem dc_Law_law_893 : decode code 893 = .ok (.iconst 2, 1) := by decide +kernel
theorem dc_Law_law_894 : decode code 894 = .ok (.iadd, 1) := by decide +kernel
theorem dc_Law_law_895 : decode code 895 = .ok (.iaload, 1) := by decide +kernel
theorem dc_Law_law_896 : decode code 896 = .ok (.invokevirtual 116, 3) := by decide +kernel
theorem dc_Law_law_899 : decode code 899 = .ok (.istore 7, 2) := by decide +kernel
theorem dc_Law_law_901 : decode code 901 = .ok (.aload_n 2, 1) := by decide +kernel
theorem dc_Law_law_902 : decode code 902 = .ok (.invokevirtual 74, 3) := by decide +kernel
theorem dc_Law_law_905 : decode code 905 = .ok (.iload 6, 2) := by decide +kernel
theorem dc_Law_law_907 : decode code 907 = .ok (.if_icmp .eq 5, 3) := by decide +kernel
theorem dc_Law_law_910 : decode code 910 = .ok (.iconst 0, 1) := by decide +kernel
theorem dc_Law_law_911 : decode code 911 = .ok (.ireturn, 1) := by decide +kernel
theorem dc_Law_law_912 : decode code 912 = .ok (.iload 6, 2) := by decide +kernel
theorem dc_Law_law_914 : decode code 914 = .ok (.ifCond .ne 15, 3) := by decide +kernel
theorem dc_Law_law_917 : decode code 917 = .ok (.aload_n 3, 1) := by decide +kernel
theorem dc_Law_law_918 : decode code 918 = .ok (.iconst 0, 1) := by decide +kernel
theorem dc_Law_law_919 : decode code 919 = .ok (.laload, 1) := by decide +kernel
theorem dc_Law_law_920 : decode code 920 = .ok (.iload 7, 2) := by decide +kernel
theorem dc_Law_law_922 : decode code 922 = .ok (.i2l, 1) := by decide +kernel
theorem dc_Law_law_923 : decode code 923 = .ok (.lcmp, 1) := by decide +kernel
theorem dc_Law_law_924 : decode code 924 = .ok (.ifCond .eq 5, 3) := by decide +kernel
theorem dc_Law_law_927 : decode code 927 = .ok (.iconst 0, 1) := by decide +kernel
theorem dc_Law_law_928 : decode code 928 = .ok (.ireturn, 1) := by decide +kernel
theorem dc_Law_law_929 : decode code 929 = .ok (.goto 121, 3) := by decide +kernel
theorem dc_Law_law_932 : decode code 932 = .ok (.aload_n 1, 1) := by decide +kernel
theorem dc_Law_law_933 : decode code 933 = .ok (.aload_n 0, 1) := by decide +kernel
theorem dc_Law_law_934 : decode code 934 = .ok (.iload 5, 2) := by decide +kernel
theorem dc_Law_law_936 : decode code 936 = .ok (.iconst 1, 1) := by decide +kernel
theorem dc_Law_law_937 : decode code 937 = .ok (.iadd, 1) := by decide +kernel
theorem dc_Law_law_938 : decode code 938 = .ok (.iaload, 1) := by decide +kernel
theorem dc_Law_law_939 : decode code 939 = .ok (.aload 4, 2) := by decide +kernel
theorem dc_Law_law_941 : decode code 941 = .ok (.invokestatic 117, 3) := by decide +kernel
theorem dc_Law_law_944 : decode code 944 = .ok (.istore 6, 2) := by decide +kernel
theorem dc_Law_law_946 : decode code 946 = .ok (.aload_n 2, 1) := by decide +kernel
theorem dc_Law_law_947 : decode code 947 = .ok (.aload_n 0, 1) := by decide +kernel
theorem dc_Law_law_948 : decode code 948 = .ok (.iload 5, 2) := by decide +kernel
theorem dc_Law_law_950 : decode code 950 = .ok (.iconst 1, 1) := by decide +kernel
theorem dc_Law_law_951 : decode code 951 = .ok (.iadd, 1) := by decide +kernel
theorem dc_Law_law_952 : decode code 952 = .ok (.iaload, 1) := by decide +kernel
theorem dc_Law_law_953 : decode code 953 = .ok (.invokevirtual 120, 3) := by decide +kernel
theorem dc_Law_law_956 : decode code 956 = .ok (.dstore 7, 2) := by decide +kernel
theorem dc_Law_law_958 : decode code 958 = .ok (.aload_n 2, 1) := by decide +kernel
theorem dc_Law_law_959 : decode code 959 = .ok (.invokevirtual 74, 3) := by decide +kernel
theorem dc_Law_law_962 : decode code 962 = .ok (.iload 6, 2) := by decide +kernel
theorem dc_Law_law_964 : decode code 964 = .ok (.if_icmp .eq 5, 3) := by decide +kernel
theorem dc_Law_law_967 : decode code 967 = .ok (.iconst 0, 1) := by decide +kernel
theorem dc_Law_law_968 : decode code 968 = .ok (.ireturn, 1) := by decide +kernel
theorem dc_Law_law_969 : decode code 969 = .ok (.iload 6, 2) := by decide +kernel
theorem dc_Law_law_971 : decode code 971 = .ok (.ifCond .ne 35, 3) := by decide +kernel
theorem dc_Law_law_974 : decode code 974 = .ok (.aload 4, 2) := by decide +kernel
theorem dc_Law_law_976 : decode code 976 = .ok (.iconst 0, 1) := by decide +kernel
theorem dc_Law_law_977 : decode code 977 = .ok (.daload, 1) := by decide +kernel
theorem dc_Law_law_978 : decode code 978 = .ok (.dload 7, 2) := by decide +kernel
theorem dc_Law_law_980 : decode code 980 = .ok (.dcmp .l, 1) := by decide +kernel
theorem dc_Law_law_981 : decode code 981 = .ok (.ifCond .eq 25, 3) := by decide +kernel
theorem dc_Law_law_984 : decode code 984 = .ok (.aload 4, 2) := by decide +kernel
theorem dc_Law_law_986 : decode code 986 = .ok (.iconst 0, 1) := by decide +kernel
theorem dc_Law_law_987 : decode code 987 = .ok (.daload, 1) := by decide +kernel
theorem dc_Law_law_988 : decode code 988 = .ok (.aload 4, 2) := by decide +kernel
theorem dc_Law_law_990 : decode code 990 = .ok (.iconst 0, 1) := by decide +kernel
theorem dc_Law_law_991 : decode code 991 = .ok (.daload, 1) := by decide +kernel
theorem dc_Law_law_992 : decode code 992 = .ok (.dcmp .l, 1) := by decide +kernel
theorem dc_Law_law_993 : decode code 993 = .ok (.ifCond .eq 11, 3) := by decide +kernel
theorem dc_Law_law_996 : decode code 996 = .ok (.dload 7, 2) := by decide +kernel
theorem dc_Law_law_998 : decode code 998 = .ok (.dload 7, 2) := by decide +kernel
theorem dc_Law_law_1000 : decode code 1000 = .ok (.dcmp .l, 1) := by decide +kernel
theorem dc_Law_law_1001 : decode code 1001 = .ok (.ifCond .ne 5, 3) := by decide +kernel
theorem dc_Law_law_1004 : decode code 1004 = .ok (.iconst 0, 1) := by decide +kernel
theorem dc_Law_law_1005 : decode code 1005 = .ok (.ireturn, 1) := by decide +kernel
theorem dc_Law_law_1006 : decode code 1006 = .ok (.goto 44, 3) := by decide +kernel
theorem dc_Law_law_1009 : decode code 1009 = .ok (.aload_n 1, 1) := by decide +kernel
theorem dc_Law_law_1010 : decode code 1010 = .ok (.invokevirtual 121, 3) := by decide +kernel
theorem dc_Law_law_1013 : decode code 1013 = .ok (.dstore 6, 2) := by decide +kernel
theorem dc_Law_law_1015 : decode code 1015 = .ok (.aload_n 2, 1) := by decide +kernel
theorem dc_Law_law_1016 : decode code 1016 = .ok (.invokevirtual 125, 3) := by decide +kernel
theorem dc_Law_law_1019 : decode code 1019 = .ok (.dstore 8, 2) := by decide +kernel
theorem dc_Law_law_1021 : decode code 1021 = .ok (.dload 6, 2) := by decide +kernel
theorem dc_Law_law_1023 : decode code 1023 = .ok (.dload 8, 2) := by decide +kernel
theorem dc_Law_law_1025 : decode code 1025 = .ok (.dcmp .l, 1) := by decide +kernel
theorem dc_Law_law_1026 : decode code 1026 = .ok (.ifCond .eq 21, 3) := by decide +kernel
theorem dc_Law_law_1029 : decode code 1029 = .ok (.dload 6, 2) := by decide +kernel
theorem dc_Law_law_1031 : decode code 1031 = .ok (.dload 6, 2) := by decide +kernel
theorem dc_Law_law_1033 : decode code 1033 = .ok (.dcmp .l, 1) := by decide +kernel
theorem dc_Law_law_1034 : decode code 1034 = .ok (.ifCond .eq 11, 3) := by decide +kernel
theorem dc_Law_law_1037 : decode code 1037 = .ok (.dload 8, 2) := by decide +kernel
theorem dc_Law_law_1039 : decode code 1039 = .ok (.dload 8, 2) := by decide +kernel
theorem dc_Law_law_1041 : decode code 1041 = .ok (.dcmp .l, 1) := by decide +kernel
theorem dc_Law_law_1042 : decode code 1042 = .ok (.ifCond .ne 5, 3) := by decide +kernel
theorem dc_Law_law_1045 : decode code 1045 = .ok (.iconst 0, 1) := by decide +kernel
theorem dc_Law_law_1046 : decode code 1046 = .ok (.ireturn, 1) := by decide +kernel
theorem dc_Law_law_1047 : decode code 1047 = .ok (.goto 3, 3) := by decide +kernel
theorem dc_Law_law_1050 : decode code 1050 = .ok (.iinc 5 5, 3) := by decide +kernel
theorem dc_Law_law_1053 : decode code 1053 = .ok (.goto (-1025), 3) := by decide +kernel
theorem dc_Law_law_1056 : decode code 1056 = .ok (.iconst 1, 1) := by decide +kernel
theorem dc_Law_law_1057 : decode code 1057 = .ok (.ireturn, 1) := by decide +kernel
