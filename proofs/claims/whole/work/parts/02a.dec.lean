theorem d_B_init_0 : decode b_B_init 0 = .ok (.aload_n 0, 1) := by decide +kernel
theorem d_B_init_1 : decode b_B_init 1 = .ok (.invokespecial 3, 3) := by decide +kernel
theorem d_B_init_4 : decode b_B_init 4 = .ok (.aload_n 0, 1) := by decide +kernel
theorem d_B_init_5 : decode b_B_init 5 = .ok (.bipush 6, 2) := by decide +kernel
theorem d_B_init_7 : decode b_B_init 7 = .ok (.newarray .int, 2) := by decide +kernel
theorem d_B_init_9 : decode b_B_init 9 = .ok (.putfield 9, 3) := by decide +kernel
theorem d_B_init_12 : decode b_B_init 12 = .ok (.aload_n 0, 1) := by decide +kernel
theorem d_B_init_13 : decode b_B_init 13 = .ok (.bipush 6, 2) := by decide +kernel
theorem d_B_init_15 : decode b_B_init 15 = .ok (.newarray .int, 2) := by decide +kernel
theorem d_B_init_17 : decode b_B_init 17 = .ok (.putfield 15, 3) := by decide +kernel
theorem d_B_init_20 : decode b_B_init 20 = .ok (.aload_n 0, 1) := by decide +kernel
theorem d_B_init_21 : decode b_B_init 21 = .ok (.bipush 6, 2) := by decide +kernel
theorem d_B_init_23 : decode b_B_init 23 = .ok (.newarray .long, 2) := by decide +kernel
theorem d_B_init_25 : decode b_B_init 25 = .ok (.putfield 18, 3) := by decide +kernel
theorem d_B_init_28 : decode b_B_init 28 = .ok (.return_, 1) := by decide +kernel
theorem d_B_isOn_0 : decode b_B_isOn 0 = .ok (.aload_n 0, 1) := by decide +kernel
theorem d_B_isOn_1 : decode b_B_isOn 1 = .ok (.getfield 22, 3) := by decide +kernel
theorem d_B_isOn_4 : decode b_B_isOn 4 = .ok (.ifCond .le 7, 3) := by decide +kernel
theorem d_B_isOn_7 : decode b_B_isOn 7 = .ok (.iconst 1, 1) := by decide +kernel
theorem d_B_isOn_8 : decode b_B_isOn 8 = .ok (.goto 4, 3) := by decide +kernel
theorem d_B_isOn_11 : decode b_B_isOn 11 = .ok (.iconst 0, 1) := by decide +kernel
theorem d_B_isOn_12 : decode b_B_isOn 12 = .ok (.ireturn, 1) := by decide +kernel
theorem d_B_isFull_0 : decode b_B_isFull 0 = .ok (.aload_n 0, 1) := by decide +kernel
theorem d_B_isFull_1 : decode b_B_isFull 1 = .ok (.getfield 26, 3) := by decide +kernel
theorem d_B_isFull_4 : decode b_B_isFull 4 = .ok (.bipush 6, 2) := by decide +kernel
theorem d_B_isFull_6 : decode b_B_isFull 6 = .ok (.if_icmp .lt 7, 3) := by decide +kernel
theorem d_B_isFull_9 : decode b_B_isFull 9 = .ok (.iconst 1, 1) := by decide +kernel
theorem d_B_isFull_10 : decode b_B_isFull 10 = .ok (.goto 4, 3) := by decide +kernel
theorem d_B_isFull_13 : decode b_B_isFull 13 = .ok (.iconst 0, 1) := by decide +kernel
theorem d_B_isFull_14 : decode b_B_isFull 14 = .ok (.ireturn, 1) := by decide +kernel
theorem d_B_begin_0 : decode b_B_begin 0 = .ok (.aload_n 0, 1) := by decide +kernel
theorem d_B_begin_1 : decode b_B_begin 1 = .ok (.iload_n 1, 1) := by decide +kernel
theorem d_B_begin_2 : decode b_B_begin 2 = .ok (.putfield 22, 3) := by decide +kernel
theorem d_B_begin_5 : decode b_B_begin 5 = .ok (.aload_n 0, 1) := by decide +kernel
theorem d_B_begin_6 : decode b_B_begin 6 = .ok (.iconst 0, 1) := by decide +kernel
theorem d_B_begin_7 : decode b_B_begin 7 = .ok (.putfield 29, 3) := by decide +kernel
theorem d_B_begin_10 : decode b_B_begin 10 = .ok (.return_, 1) := by decide +kernel
theorem d_B_nextTurn_0 : decode b_B_nextTurn 0 = .ok (.aload_n 0, 1) := by decide +kernel
theorem d_B_nextTurn_1 : decode b_B_nextTurn 1 = .ok (.dup, 1) := by decide +kernel
theorem d_B_nextTurn_2 : decode b_B_nextTurn 2 = .ok (.getfield 22, 3) := by decide +kernel
theorem d_B_nextTurn_5 : decode b_B_nextTurn 5 = .ok (.iconst 1, 1) := by decide +kernel
theorem d_B_nextTurn_6 : decode b_B_nextTurn 6 = .ok (.isub, 1) := by decide +kernel
theorem d_B_nextTurn_7 : decode b_B_nextTurn 7 = .ok (.putfield 22, 3) := by decide +kernel
theorem d_B_nextTurn_10 : decode b_B_nextTurn 10 = .ok (.aload_n 0, 1) := by decide +kernel
theorem d_B_nextTurn_11 : decode b_B_nextTurn 11 = .ok (.dup, 1) := by decide +kernel
theorem d_B_nextTurn_12 : decode b_B_nextTurn 12 = .ok (.getfield 29, 3) := by decide +kernel
theorem d_B_nextTurn_15 : decode b_B_nextTurn 15 = .ok (.iconst 1, 1) := by decide +kernel
theorem d_B_nextTurn_16 : decode b_B_nextTurn 16 = .ok (.iadd, 1) := by decide +kernel
theorem d_B_nextTurn_17 : decode b_B_nextTurn 17 = .ok (.putfield 29, 3) := by decide +kernel
theorem d_B_nextTurn_20 : decode b_B_nextTurn 20 = .ok (.aload_n 0, 1) := by decide +kernel
theorem d_B_nextTurn_21 : decode b_B_nextTurn 21 = .ok (.getfield 29, 3) := by decide +kernel
theorem d_B_nextTurn_24 : decode b_B_nextTurn 24 = .ok (.ireturn, 1) := by decide +kernel
theorem d_B_queue_0 : decode b_B_queue 0 = .ok (.aload_n 0, 1) := by decide +kernel
theorem d_B_queue_1 : decode b_B_queue 1 = .ok (.invokevirtual 32, 3) := by decide +kernel
theorem d_B_queue_4 : decode b_B_queue 4 = .ok (.ifCond .ne 43, 3) := by decide +kernel
theorem d_B_queue_7 : decode b_B_queue 7 = .ok (.aload_n 0, 1) := by decide +kernel
theorem d_B_queue_8 : decode b_B_queue 8 = .ok (.getfield 9, 3) := by decide +kernel
theorem d_B_queue_11 : decode b_B_queue 11 = .ok (.aload_n 0, 1) := by decide +kernel
theorem d_B_queue_12 : decode b_B_queue 12 = .ok (.getfield 26, 3) := by decide +kernel
theorem d_B_queue_15 : decode b_B_queue 15 = .ok (.iload_n 1, 1) := by decide +kernel
theorem d_B_queue_16 : decode b_B_queue 16 = .ok (.iastore, 1) := by decide +kernel
theorem d_B_queue_17 : decode b_B_queue 17 = .ok (.aload_n 0, 1) := by decide +kernel
theorem d_B_queue_18 : decode b_B_queue 18 = .ok (.getfield 15, 3) := by decide +kernel
theorem d_B_queue_21 : decode b_B_queue 21 = .ok (.aload_n 0, 1) := by decide +kernel
theorem d_B_queue_22 : decode b_B_queue 22 = .ok (.getfield 26, 3) := by decide +kernel
theorem d_B_queue_25 : decode b_B_queue 25 = .ok (.iload_n 2, 1) := by decide +kernel
theorem d_B_queue_26 : decode b_B_queue 26 = .ok (.iastore, 1) := by decide +kernel
theorem d_B_queue_27 : decode b_B_queue 27 = .ok (.aload_n 0, 1) := by decide +kernel
theorem d_B_queue_28 : decode b_B_queue 28 = .ok (.getfield 18, 3) := by decide +kernel
theorem d_B_queue_31 : decode b_B_queue 31 = .ok (.aload_n 0, 1) := by decide +kernel
theorem d_B_queue_32 : decode b_B_queue 32 = .ok (.getfield 26, 3) := by decide +kernel
theorem d_B_queue_35 : decode b_B_queue 35 = .ok (.lload_n 3, 1) := by decide +kernel
theorem d_B_queue_36 : decode b_B_queue 36 = .ok (.lastore, 1) := by decide +kernel
theorem d_B_queue_37 : decode b_B_queue 37 = .ok (.aload_n 0, 1) := by decide +kernel
theorem d_B_queue_38 : decode b_B_queue 38 = .ok (.dup, 1) := by decide +kernel
theorem d_B_queue_39 : decode b_B_queue 39 = .ok (.getfield 26, 3) := by decide +kernel
theorem d_B_queue_42 : decode b_B_queue 42 = .ok (.iconst 1, 1) := by decide +kernel
theorem d_B_queue_43 : decode b_B_queue 43 = .ok (.iadd, 1) := by decide +kernel
theorem d_B_queue_44 : decode b_B_queue 44 = .ok (.putfield 26, 3) := by decide +kernel
theorem d_B_queue_47 : decode b_B_queue 47 = .ok (.return_, 1) := by decide +kernel
theorem d_C_init_0 : decode b_C_init 0 = .ok (.aload_n 0, 1) := by decide +kernel
theorem d_C_init_1 : decode b_C_init 1 = .ok (.invokespecial 1, 3) := by decide +kernel
theorem d_C_init_4 : decode b_C_init 4 = .ok (.aload_n 0, 1) := by decide +kernel
theorem d_C_init_5 : decode b_C_init 5 = .ok (.getstatic 7, 3) := by decide +kernel
theorem d_C_init_8 : decode b_C_init 8 = .ok (.arraylength, 1) := by decide +kernel
theorem d_C_init_9 : decode b_C_init 9 = .ok (.newarray .int, 2) := by decide +kernel
theorem d_C_init_11 : decode b_C_init 11 = .ok (.putfield 13, 3) := by decide +kernel
theorem d_C_init_14 : decode b_C_init 14 = .ok (.aload_n 0, 1) := by decide +kernel
theorem d_C_init_15 : decode b_C_init 15 = .ok (.getstatic 7, 3) := by decide +kernel
theorem d_C_init_18 : decode b_C_init 18 = .ok (.arraylength, 1) := by decide +kernel
theorem d_C_init_19 : decode b_C_init 19 = .ok (.newarray .long, 2) := by decide +kernel
theorem d_C_init_21 : decode b_C_init 21 = .ok (.putfield 18, 3) := by decide +kernel
theorem d_C_init_24 : decode b_C_init 24 = .ok (.return_, 1) := by decide +kernel
theorem d_C_size_0 : decode b_C_size 0 = .ok (.iload_n 1, 1) := by decide +kernel
theorem d_C_size_1 : decode b_C_size 1 = .ok (.invokestatic 22, 3) := by decide +kernel
theorem d_C_size_4 : decode b_C_size 4 = .ok (.ifCond .eq 12, 3) := by decide +kernel
theorem d_C_size_7 : decode b_C_size 7 = .ok (.aload_n 0, 1) := by decide +kernel
theorem d_C_size_8 : decode b_C_size 8 = .ok (.getfield 13, 3) := by decide +kernel
theorem d_C_size_11 : decode b_C_size 11 = .ok (.iload_n 1, 1) := by decide +kernel
theorem d_C_size_12 : decode b_C_size 12 = .ok (.iaload, 1) := by decide +kernel
theorem d_C_size_13 : decode b_C_size 13 = .ok (.goto 4, 3) := by decide +kernel
theorem d_C_size_16 : decode b_C_size 16 = .ok (.iconst 0, 1) := by decide +kernel
theorem d_C_size_17 : decode b_C_size 17 = .ok (.ireturn, 1) := by decide +kernel
theorem d_C_sum_0 : decode b_C_sum 0 = .ok (.iload_n 1, 1) := by decide +kernel
theorem d_C_sum_1 : decode b_C_sum 1 = .ok (.invokestatic 22, 3) := by decide +kernel
theorem d_C_sum_4 : decode b_C_sum 4 = .ok (.ifCond .eq 12, 3) := by decide +kernel
theorem d_C_sum_7 : decode b_C_sum 7 = .ok (.aload_n 0, 1) := by decide +kernel
theorem d_C_sum_8 : decode b_C_sum 8 = .ok (.getfield 18, 3) := by decide +kernel
theorem d_C_sum_11 : decode b_C_sum 11 = .ok (.iload_n 1, 1) := by decide +kernel
theorem d_C_sum_12 : decode b_C_sum 12 = .ok (.laload, 1) := by decide +kernel
theorem d_C_sum_13 : decode b_C_sum 13 = .ok (.goto 4, 3) := by decide +kernel
theorem d_C_sum_16 : decode b_C_sum 16 = .ok (.lconst 0, 1) := by decide +kernel
theorem d_C_sum_17 : decode b_C_sum 17 = .ok (.lreturn, 1) := by decide +kernel
theorem d_C_isFull_0 : decode b_C_isFull 0 = .ok (.iload_n 1, 1) := by decide +kernel
theorem d_C_isFull_1 : decode b_C_isFull 1 = .ok (.invokestatic 22, 3) := by decide +kernel
theorem d_C_isFull_4 : decode b_C_isFull 4 = .ok (.ifCond .eq 17, 3) := by decide +kernel
theorem d_C_isFull_7 : decode b_C_isFull 7 = .ok (.aload_n 0, 1) := by decide +kernel
theorem d_C_isFull_8 : decode b_C_isFull 8 = .ok (.getfield 13, 3) := by decide +kernel
theorem d_C_isFull_11 : decode b_C_isFull 11 = .ok (.iload_n 1, 1) := by decide +kernel
theorem d_C_isFull_12 : decode b_C_isFull 12 = .ok (.iaload, 1) := by decide +kernel
theorem d_C_isFull_13 : decode b_C_isFull 13 = .ok (.getstatic 7, 3) := by decide +kernel
theorem d_C_isFull_16 : decode b_C_isFull 16 = .ok (.iload_n 1, 1) := by decide +kernel
theorem d_C_isFull_17 : decode b_C_isFull 17 = .ok (.iaload, 1) := by decide +kernel
theorem d_C_isFull_18 : decode b_C_isFull 18 = .ok (.if_icmp .lt 7, 3) := by decide +kernel
theorem d_C_isFull_21 : decode b_C_isFull 21 = .ok (.iconst 1, 1) := by decide +kernel
theorem d_C_isFull_22 : decode b_C_isFull 22 = .ok (.goto 4, 3) := by decide +kernel
theorem d_C_isFull_25 : decode b_C_isFull 25 = .ok (.iconst 0, 1) := by decide +kernel
theorem d_C_isFull_26 : decode b_C_isFull 26 = .ok (.ireturn, 1) := by decide +kernel
theorem d_C_append_0 : decode b_C_append 0 = .ok (.iload_n 1, 1) := by decide +kernel
theorem d_C_append_1 : decode b_C_append 1 = .ok (.invokestatic 22, 3) := by decide +kernel
theorem d_C_append_4 : decode b_C_append 4 = .ok (.ifCond .eq 34, 3) := by decide +kernel
theorem d_C_append_7 : decode b_C_append 7 = .ok (.aload_n 0, 1) := by decide +kernel
theorem d_C_append_8 : decode b_C_append 8 = .ok (.getfield 18, 3) := by decide +kernel
theorem d_C_append_11 : decode b_C_append 11 = .ok (.iload_n 1, 1) := by decide +kernel
theorem d_C_append_12 : decode b_C_append 12 = .ok (.ldc2_w 26, 3) := by decide +kernel
theorem d_C_append_15 : decode b_C_append 15 = .ok (.aload_n 0, 1) := by decide +kernel
theorem d_C_append_16 : decode b_C_append 16 = .ok (.getfield 18, 3) := by decide +kernel
theorem d_C_append_19 : decode b_C_append 19 = .ok (.iload_n 1, 1) := by decide +kernel
theorem d_C_append_20 : decode b_C_append 20 = .ok (.laload, 1) := by decide +kernel
theorem d_C_append_21 : decode b_C_append 21 = .ok (.lmul, 1) := by decide +kernel
theorem d_C_append_22 : decode b_C_append 22 = .ok (.iload_n 2, 1) := by decide +kernel
theorem d_C_append_23 : decode b_C_append 23 = .ok (.i2l, 1) := by decide +kernel
theorem d_C_append_24 : decode b_C_append 24 = .ok (.ladd, 1) := by decide +kernel
theorem d_C_append_25 : decode b_C_append 25 = .ok (.lconst 1, 1) := by decide +kernel
theorem d_C_append_26 : decode b_C_append 26 = .ok (.ladd, 1) := by decide +kernel
theorem d_C_append_27 : decode b_C_append 27 = .ok (.lastore, 1) := by decide +kernel
theorem d_C_append_28 : decode b_C_append 28 = .ok (.aload_n 0, 1) := by decide +kernel
theorem d_C_append_29 : decode b_C_append 29 = .ok (.getfield 13, 3) := by decide +kernel
theorem d_C_append_32 : decode b_C_append 32 = .ok (.iload_n 1, 1) := by decide +kernel
theorem d_C_append_33 : decode b_C_append 33 = .ok (.dup2, 1) := by decide +kernel
theorem d_C_append_34 : decode b_C_append 34 = .ok (.iaload, 1) := by decide +kernel
theorem d_C_append_35 : decode b_C_append 35 = .ok (.iconst 1, 1) := by decide +kernel
theorem d_C_append_36 : decode b_C_append 36 = .ok (.iadd, 1) := by decide +kernel
theorem d_C_append_37 : decode b_C_append 37 = .ok (.iastore, 1) := by decide +kernel
theorem d_C_append_38 : decode b_C_append 38 = .ok (.return_, 1) := by decide +kernel
theorem d_C_empty_0 : decode b_C_empty 0 = .ok (.iload_n 1, 1) := by decide +kernel
theorem d_C_empty_1 : decode b_C_empty 1 = .ok (.invokestatic 22, 3) := by decide +kernel
theorem d_C_empty_4 : decode b_C_empty 4 = .ok (.ifCond .eq 17, 3) := by decide +kernel
theorem d_C_empty_7 : decode b_C_empty 7 = .ok (.aload_n 0, 1) := by decide +kernel
theorem d_C_empty_8 : decode b_C_empty 8 = .ok (.getfield 18, 3) := by decide +kernel
theorem d_C_empty_11 : decode b_C_empty 11 = .ok (.iload_n 1, 1) := by decide +kernel
theorem d_C_empty_12 : decode b_C_empty 12 = .ok (.lconst 0, 1) := by decide +kernel
theorem d_C_empty_13 : decode b_C_empty 13 = .ok (.lastore, 1) := by decide +kernel
theorem d_C_empty_14 : decode b_C_empty 14 = .ok (.aload_n 0, 1) := by decide +kernel
theorem d_C_empty_15 : decode b_C_empty 15 = .ok (.getfield 13, 3) := by decide +kernel
theorem d_C_empty_18 : decode b_C_empty 18 = .ok (.iload_n 1, 1) := by decide +kernel
theorem d_C_empty_19 : decode b_C_empty 19 = .ok (.iconst 0, 1) := by decide +kernel
theorem d_C_empty_20 : decode b_C_empty 20 = .ok (.iastore, 1) := by decide +kernel
theorem d_C_empty_21 : decode b_C_empty 21 = .ok (.return_, 1) := by decide +kernel
theorem d_P_init_0 : decode b_P_init 0 = .ok (.aload_n 0, 1) := by decide +kernel
theorem d_P_init_1 : decode b_P_init 1 = .ok (.invokespecial 3, 3) := by decide +kernel
theorem d_P_init_4 : decode b_P_init 4 = .ok (.aload_n 0, 1) := by decide +kernel
theorem d_P_init_5 : decode b_P_init 5 = .ok (.iconst 5, 1) := by decide +kernel
theorem d_P_init_6 : decode b_P_init 6 = .ok (.newarray .long, 2) := by decide +kernel
theorem d_P_init_8 : decode b_P_init 8 = .ok (.putfield 9, 3) := by decide +kernel
theorem d_P_init_11 : decode b_P_init 11 = .ok (.return_, 1) := by decide +kernel
theorem d_P_begin_0 : decode b_P_begin 0 = .ok (.aload_n 0, 1) := by decide +kernel
theorem d_P_begin_1 : decode b_P_begin 1 = .ok (.iload_n 1, 1) := by decide +kernel
theorem d_P_begin_2 : decode b_P_begin 2 = .ok (.putfield 15, 3) := by decide +kernel
theorem d_P_begin_5 : decode b_P_begin 5 = .ok (.aload_n 0, 1) := by decide +kernel
theorem d_P_begin_6 : decode b_P_begin 6 = .ok (.iload_n 2, 1) := by decide +kernel
theorem d_P_begin_7 : decode b_P_begin 7 = .ok (.putfield 19, 3) := by decide +kernel
theorem d_P_begin_10 : decode b_P_begin 10 = .ok (.aload_n 0, 1) := by decide +kernel
theorem d_P_begin_11 : decode b_P_begin 11 = .ok (.lload_n 3, 1) := by decide +kernel
theorem d_P_begin_12 : decode b_P_begin 12 = .ok (.putfield 22, 3) := by decide +kernel
theorem d_P_begin_15 : decode b_P_begin 15 = .ok (.aload_n 0, 1) := by decide +kernel
theorem d_P_begin_16 : decode b_P_begin 16 = .ok (.lload 5, 2) := by decide +kernel
theorem d_P_begin_18 : decode b_P_begin 18 = .ok (.putfield 26, 3) := by decide +kernel
theorem d_P_begin_21 : decode b_P_begin 21 = .ok (.aload_n 0, 1) := by decide +kernel
theorem d_P_begin_22 : decode b_P_begin 22 = .ok (.iconst 0, 1) := by decide +kernel
theorem d_P_begin_23 : decode b_P_begin 23 = .ok (.putfield 29, 3) := by decide +kernel
theorem d_P_begin_26 : decode b_P_begin 26 = .ok (.aload_n 0, 1) := by decide +kernel
theorem d_P_begin_27 : decode b_P_begin 27 = .ok (.iconst 0, 1) := by decide +kernel
theorem d_P_begin_28 : decode b_P_begin 28 = .ok (.putfield 32, 3) := by decide +kernel
theorem d_P_begin_31 : decode b_P_begin 31 = .ok (.aload_n 0, 1) := by decide +kernel
theorem d_P_begin_32 : decode b_P_begin 32 = .ok (.iconst 0, 1) := by decide +kernel
theorem d_P_begin_33 : decode b_P_begin 33 = .ok (.putfield 35, 3) := by decide +kernel
theorem d_P_begin_36 : decode b_P_begin 36 = .ok (.return_, 1) := by decide +kernel
theorem d_P_addToTable_0 : decode b_P_addToTable 0 = .ok (.aload_n 0, 1) := by decide +kernel
theorem d_P_addToTable_1 : decode b_P_addToTable 1 = .ok (.getfield 29, 3) := by decide +kernel
theorem d_P_addToTable_4 : decode b_P_addToTable 4 = .ok (.iconst 5, 1) := by decide +kernel
theorem d_P_addToTable_5 : decode b_P_addToTable 5 = .ok (.if_icmp .ge 23, 3) := by decide +kernel
theorem d_P_addToTable_8 : decode b_P_addToTable 8 = .ok (.aload_n 0, 1) := by decide +kernel
theorem d_P_addToTable_9 : decode b_P_addToTable 9 = .ok (.getfield 9, 3) := by decide +kernel
theorem d_P_addToTable_12 : decode b_P_addToTable 12 = .ok (.aload_n 0, 1) := by decide +kernel
theorem d_P_addToTable_13 : decode b_P_addToTable 13 = .ok (.getfield 29, 3) := by decide +kernel
theorem d_P_addToTable_16 : decode b_P_addToTable 16 = .ok (.lload_n 1, 1) := by decide +kernel
theorem d_P_addToTable_17 : decode b_P_addToTable 17 = .ok (.lastore, 1) := by decide +kernel
theorem d_P_addToTable_18 : decode b_P_addToTable 18 = .ok (.aload_n 0, 1) := by decide +kernel
theorem d_P_addToTable_19 : decode b_P_addToTable 19 = .ok (.dup, 1) := by decide +kernel
theorem d_P_addToTable_20 : decode b_P_addToTable 20 = .ok (.getfield 29, 3) := by decide +kernel
theorem d_P_addToTable_23 : decode b_P_addToTable 23 = .ok (.iconst 1, 1) := by decide +kernel
theorem d_P_addToTable_24 : decode b_P_addToTable 24 = .ok (.iadd, 1) := by decide +kernel
theorem d_P_addToTable_25 : decode b_P_addToTable 25 = .ok (.putfield 29, 3) := by decide +kernel
theorem d_P_addToTable_28 : decode b_P_addToTable 28 = .ok (.return_, 1) := by decide +kernel
theorem d_P_outcome_0 : decode b_P_outcome 0 = .ok (.aload_n 0, 1) := by decide +kernel
theorem d_P_outcome_1 : decode b_P_outcome 1 = .ok (.getfield 35, 3) := by decide +kernel
theorem d_P_outcome_4 : decode b_P_outcome 4 = .ok (.ifCond .gt 5, 3) := by decide +kernel
theorem d_P_outcome_7 : decode b_P_outcome 7 = .ok (.iconst 0, 1) := by decide +kernel
theorem d_P_outcome_8 : decode b_P_outcome 8 = .ok (.ireturn, 1) := by decide +kernel
theorem d_P_outcome_9 : decode b_P_outcome 9 = .ok (.aload_n 0, 1) := by decide +kernel
theorem d_P_outcome_10 : decode b_P_outcome 10 = .ok (.dup, 1) := by decide +kernel
theorem d_P_outcome_11 : decode b_P_outcome 11 = .ok (.getfield 35, 3) := by decide +kernel
theorem d_P_outcome_14 : decode b_P_outcome 14 = .ok (.iconst 1, 1) := by decide +kernel
theorem d_P_outcome_15 : decode b_P_outcome 15 = .ok (.isub, 1) := by decide +kernel
theorem d_P_outcome_16 : decode b_P_outcome 16 = .ok (.putfield 35, 3) := by decide +kernel
theorem d_P_outcome_19 : decode b_P_outcome 19 = .ok (.aload_n 0, 1) := by decide +kernel
theorem d_P_outcome_20 : decode b_P_outcome 20 = .ok (.getfield 38, 3) := by decide +kernel
theorem d_P_outcome_23 : decode b_P_outcome 23 = .ok (.ireturn, 1) := by decide +kernel
theorem d_P_reply_0 : decode b_P_reply 0 = .ok (.aload_n 0, 1) := by decide +kernel
theorem d_P_reply_1 : decode b_P_reply 1 = .ok (.getfield 32, 3) := by decide +kernel
theorem d_P_reply_4 : decode b_P_reply 4 = .ok (.aload_n 0, 1) := by decide +kernel
theorem d_P_reply_5 : decode b_P_reply 5 = .ok (.getfield 29, 3) := by decide +kernel
theorem d_P_reply_8 : decode b_P_reply 8 = .ok (.if_icmp .lt 5, 3) := by decide +kernel
theorem d_P_reply_11 : decode b_P_reply 11 = .ok (.lload_n 1, 1) := by decide +kernel
theorem d_P_reply_12 : decode b_P_reply 12 = .ok (.lreturn, 1) := by decide +kernel
theorem d_P_reply_13 : decode b_P_reply 13 = .ok (.lload_n 1, 1) := by decide +kernel
theorem d_P_reply_14 : decode b_P_reply 14 = .ok (.aload_n 0, 1) := by decide +kernel
theorem d_P_reply_15 : decode b_P_reply 15 = .ok (.getfield 9, 3) := by decide +kernel
theorem d_P_reply_18 : decode b_P_reply 18 = .ok (.aload_n 0, 1) := by decide +kernel
theorem d_P_reply_19 : decode b_P_reply 19 = .ok (.getfield 32, 3) := by decide +kernel
theorem d_P_reply_22 : decode b_P_reply 22 = .ok (.laload, 1) := by decide +kernel
theorem d_P_reply_23 : decode b_P_reply 23 = .ok (.ladd, 1) := by decide +kernel
theorem d_P_reply_24 : decode b_P_reply 24 = .ok (.lstore_n 3, 1) := by decide +kernel
theorem d_P_reply_25 : decode b_P_reply 25 = .ok (.aload_n 0, 1) := by decide +kernel
theorem d_P_reply_26 : decode b_P_reply 26 = .ok (.aload_n 0, 1) := by decide +kernel
theorem d_P_reply_27 : decode b_P_reply 27 = .ok (.getfield 32, 3) := by decide +kernel
theorem d_P_reply_30 : decode b_P_reply 30 = .ok (.iconst 1, 1) := by decide +kernel
theorem d_P_reply_31 : decode b_P_reply 31 = .ok (.iadd, 1) := by decide +kernel
theorem d_P_reply_32 : decode b_P_reply 32 = .ok (.aload_n 0, 1) := by decide +kernel
theorem d_P_reply_33 : decode b_P_reply 33 = .ok (.getfield 29, 3) := by decide +kernel
theorem d_P_reply_36 : decode b_P_reply 36 = .ok (.if_icmp .ge 12, 3) := by decide +kernel
theorem d_P_reply_39 : decode b_P_reply 39 = .ok (.aload_n 0, 1) := by decide +kernel
theorem d_P_reply_40 : decode b_P_reply 40 = .ok (.getfield 32, 3) := by decide +kernel
theorem d_P_reply_43 : decode b_P_reply 43 = .ok (.iconst 1, 1) := by decide +kernel
theorem d_P_reply_44 : decode b_P_reply 44 = .ok (.iadd, 1) := by decide +kernel
theorem d_P_reply_45 : decode b_P_reply 45 = .ok (.goto 4, 3) := by decide +kernel
theorem d_P_reply_48 : decode b_P_reply 48 = .ok (.iconst 0, 1) := by decide +kernel
theorem d_P_reply_49 : decode b_P_reply 49 = .ok (.putfield 32, 3) := by decide +kernel
theorem d_P_reply_52 : decode b_P_reply 52 = .ok (.lload_n 3, 1) := by decide +kernel
theorem d_P_reply_53 : decode b_P_reply 53 = .ok (.lreturn, 1) := by decide +kernel
theorem d_T_init_0 : decode b_T_init 0 = .ok (.aload_n 0, 1) := by decide +kernel
theorem d_T_init_1 : decode b_T_init 1 = .ok (.invokespecial 1, 3) := by decide +kernel
theorem d_T_init_4 : decode b_T_init 4 = .ok (.aload_n 0, 1) := by decide +kernel
theorem d_T_init_5 : decode b_T_init 5 = .ok (.iload_n 1, 1) := by decide +kernel
theorem d_T_init_6 : decode b_T_init 6 = .ok (.putfield 7, 3) := by decide +kernel
theorem d_T_init_9 : decode b_T_init 9 = .ok (.aload_n 0, 1) := by decide +kernel
theorem d_T_init_10 : decode b_T_init 10 = .ok (.iload_n 2, 1) := by decide +kernel
theorem d_T_init_11 : decode b_T_init 11 = .ok (.putfield 13, 3) := by decide +kernel
theorem d_T_init_14 : decode b_T_init 14 = .ok (.aload_n 0, 1) := by decide +kernel
theorem d_T_init_15 : decode b_T_init 15 = .ok (.iload_n 3, 1) := by decide +kernel
theorem d_T_init_16 : decode b_T_init 16 = .ok (.putfield 16, 3) := by decide +kernel
theorem d_T_init_19 : decode b_T_init 19 = .ok (.aload_n 0, 1) := by decide +kernel
theorem d_T_init_20 : decode b_T_init 20 = .ok (.aload 4, 2) := by decide +kernel
theorem d_T_init_22 : decode b_T_init 22 = .ok (.putfield 19, 3) := by decide +kernel
theorem d_T_init_25 : decode b_T_init 25 = .ok (.return_, 1) := by decide +kernel
theorem d_O_init_0 : decode b_O_init 0 = .ok (.aload_n 0, 1) := by decide +kernel
theorem d_O_init_1 : decode b_O_init 1 = .ok (.invokespecial 3, 3) := by decide +kernel
theorem d_O_init_4 : decode b_O_init 4 = .ok (.aload_n 0, 1) := by decide +kernel
theorem d_O_init_5 : decode b_O_init 5 = .ok (.bipush 40, 2) := by decide +kernel
theorem d_O_init_7 : decode b_O_init 7 = .ok (.newarray .int, 2) := by decide +kernel
theorem d_O_init_9 : decode b_O_init 9 = .ok (.putfield 9, 3) := by decide +kernel
theorem d_O_init_12 : decode b_O_init 12 = .ok (.aload_n 0, 1) := by decide +kernel
theorem d_O_init_13 : decode b_O_init 13 = .ok (.bipush 40, 2) := by decide +kernel
theorem d_O_init_15 : decode b_O_init 15 = .ok (.newarray .int, 2) := by decide +kernel
theorem d_O_init_17 : decode b_O_init 17 = .ok (.putfield 15, 3) := by decide +kernel
theorem d_O_init_20 : decode b_O_init 20 = .ok (.aload_n 0, 1) := by decide +kernel
theorem d_O_init_21 : decode b_O_init 21 = .ok (.bipush 40, 2) := by decide +kernel
theorem d_O_init_23 : decode b_O_init 23 = .ok (.newarray .int, 2) := by decide +kernel
theorem d_O_init_25 : decode b_O_init 25 = .ok (.putfield 18, 3) := by decide +kernel
theorem d_O_init_28 : decode b_O_init 28 = .ok (.aload_n 0, 1) := by decide +kernel
theorem d_O_init_29 : decode b_O_init 29 = .ok (.bipush 40, 2) := by decide +kernel
theorem d_O_init_31 : decode b_O_init 31 = .ok (.newarray .long, 2) := by decide +kernel
theorem d_O_init_33 : decode b_O_init 33 = .ok (.putfield 21, 3) := by decide +kernel
theorem d_O_init_36 : decode b_O_init 36 = .ok (.return_, 1) := by decide +kernel
theorem d_O_add_0 : decode b_O_add 0 = .ok (.aload_n 0, 1) := by decide +kernel
theorem d_O_add_1 : decode b_O_add 1 = .ok (.getfield 9, 3) := by decide +kernel
theorem d_O_add_4 : decode b_O_add 4 = .ok (.aload_n 0, 1) := by decide +kernel
theorem d_O_add_5 : decode b_O_add 5 = .ok (.getfield 25, 3) := by decide +kernel
theorem d_O_add_8 : decode b_O_add 8 = .ok (.iload_n 1, 1) := by decide +kernel
theorem d_O_add_9 : decode b_O_add 9 = .ok (.iastore, 1) := by decide +kernel
theorem d_O_add_10 : decode b_O_add 10 = .ok (.aload_n 0, 1) := by decide +kernel
theorem d_O_add_11 : decode b_O_add 11 = .ok (.getfield 15, 3) := by decide +kernel
theorem d_O_add_14 : decode b_O_add 14 = .ok (.aload_n 0, 1) := by decide +kernel
theorem d_O_add_15 : decode b_O_add 15 = .ok (.getfield 25, 3) := by decide +kernel
theorem d_O_add_18 : decode b_O_add 18 = .ok (.iload_n 2, 1) := by decide +kernel
theorem d_O_add_19 : decode b_O_add 19 = .ok (.iastore, 1) := by decide +kernel
theorem d_O_add_20 : decode b_O_add 20 = .ok (.aload_n 0, 1) := by decide +kernel
theorem d_O_add_21 : decode b_O_add 21 = .ok (.getfield 18, 3) := by decide +kernel
theorem d_O_add_24 : decode b_O_add 24 = .ok (.aload_n 0, 1) := by decide +kernel
theorem d_O_add_25 : decode b_O_add 25 = .ok (.getfield 25, 3) := by decide +kernel
theorem d_O_add_28 : decode b_O_add 28 = .ok (.iload_n 3, 1) := by decide +kernel
theorem d_O_add_29 : decode b_O_add 29 = .ok (.iastore, 1) := by decide +kernel
theorem d_O_add_30 : decode b_O_add 30 = .ok (.aload_n 0, 1) := by decide +kernel
theorem d_O_add_31 : decode b_O_add 31 = .ok (.getfield 21, 3) := by decide +kernel
theorem d_O_add_34 : decode b_O_add 34 = .ok (.aload_n 0, 1) := by decide +kernel
theorem d_O_add_35 : decode b_O_add 35 = .ok (.getfield 25, 3) := by decide +kernel
theorem d_O_add_38 : decode b_O_add 38 = .ok (.lload 4, 2) := by decide +kernel
theorem d_O_add_40 : decode b_O_add 40 = .ok (.lastore, 1) := by decide +kernel
theorem d_O_add_41 : decode b_O_add 41 = .ok (.aload_n 0, 1) := by decide +kernel
theorem d_O_add_42 : decode b_O_add 42 = .ok (.aload_n 0, 1) := by decide +kernel
theorem d_O_add_43 : decode b_O_add 43 = .ok (.getfield 25, 3) := by decide +kernel
theorem d_O_add_46 : decode b_O_add 46 = .ok (.iconst 1, 1) := by decide +kernel
theorem d_O_add_47 : decode b_O_add 47 = .ok (.iadd, 1) := by decide +kernel
theorem d_O_add_48 : decode b_O_add 48 = .ok (.bipush 40, 2) := by decide +kernel
theorem d_O_add_50 : decode b_O_add 50 = .ok (.if_icmp .ge 12, 3) := by decide +kernel
theorem d_O_add_53 : decode b_O_add 53 = .ok (.aload_n 0, 1) := by decide +kernel
theorem d_O_add_54 : decode b_O_add 54 = .ok (.getfield 25, 3) := by decide +kernel
theorem d_O_add_57 : decode b_O_add 57 = .ok (.iconst 1, 1) := by decide +kernel
theorem d_O_add_58 : decode b_O_add 58 = .ok (.iadd, 1) := by decide +kernel
theorem d_O_add_59 : decode b_O_add 59 = .ok (.goto 4, 3) := by decide +kernel
theorem d_O_add_62 : decode b_O_add 62 = .ok (.iconst 0, 1) := by decide +kernel
theorem d_O_add_63 : decode b_O_add 63 = .ok (.putfield 25, 3) := by decide +kernel
theorem d_O_add_66 : decode b_O_add 66 = .ok (.aload_n 0, 1) := by decide +kernel
theorem d_O_add_67 : decode b_O_add 67 = .ok (.dup, 1) := by decide +kernel
theorem d_O_add_68 : decode b_O_add 68 = .ok (.getfield 29, 3) := by decide +kernel
theorem d_O_add_71 : decode b_O_add 71 = .ok (.iconst 1, 1) := by decide +kernel
theorem d_O_add_72 : decode b_O_add 72 = .ok (.iadd, 1) := by decide +kernel
theorem d_O_add_73 : decode b_O_add 73 = .ok (.putfield 29, 3) := by decide +kernel
theorem d_O_add_76 : decode b_O_add 76 = .ok (.aload_n 0, 1) := by decide +kernel
theorem d_O_add_77 : decode b_O_add 77 = .ok (.iload_n 1, 1) := by decide +kernel
theorem d_O_add_78 : decode b_O_add 78 = .ok (.invokevirtual 32, 3) := by decide +kernel
theorem d_O_add_81 : decode b_O_add 81 = .ok (.return_, 1) := by decide +kernel
theorem d_O_addToCounts_0 : decode b_O_addToCounts 0 = .ok (.iload_n 1, 1) := by decide +kernel
theorem d_O_addToCounts_1 : decode b_O_addToCounts 1 = .ok (.ifCond .ne 16, 3) := by decide +kernel
theorem d_O_addToCounts_4 : decode b_O_addToCounts 4 = .ok (.aload_n 0, 1) := by decide +kernel
theorem d_O_addToCounts_5 : decode b_O_addToCounts 5 = .ok (.dup, 1) := by decide +kernel
theorem d_O_addToCounts_6 : decode b_O_addToCounts 6 = .ok (.getfield 36, 3) := by decide +kernel
theorem d_O_addToCounts_9 : decode b_O_addToCounts 9 = .ok (.iconst 1, 1) := by decide +kernel
theorem d_O_addToCounts_10 : decode b_O_addToCounts 10 = .ok (.iadd, 1) := by decide +kernel
theorem d_O_addToCounts_11 : decode b_O_addToCounts 11 = .ok (.putfield 36, 3) := by decide +kernel
theorem d_O_addToCounts_14 : decode b_O_addToCounts 14 = .ok (.goto 49, 3) := by decide +kernel
theorem d_O_addToCounts_17 : decode b_O_addToCounts 17 = .ok (.iload_n 1, 1) := by decide +kernel
theorem d_O_addToCounts_18 : decode b_O_addToCounts 18 = .ok (.iconst 4, 1) := by decide +kernel
theorem d_O_addToCounts_19 : decode b_O_addToCounts 19 = .ok (.if_icmp .ne 16, 3) := by decide +kernel
theorem d_O_addToCounts_22 : decode b_O_addToCounts 22 = .ok (.aload_n 0, 1) := by decide +kernel
theorem d_O_addToCounts_23 : decode b_O_addToCounts 23 = .ok (.dup, 1) := by decide +kernel
theorem d_O_addToCounts_24 : decode b_O_addToCounts 24 = .ok (.getfield 39, 3) := by decide +kernel
theorem d_O_addToCounts_27 : decode b_O_addToCounts 27 = .ok (.iconst 1, 1) := by decide +kernel
theorem d_O_addToCounts_28 : decode b_O_addToCounts 28 = .ok (.iadd, 1) := by decide +kernel
theorem d_O_addToCounts_29 : decode b_O_addToCounts 29 = .ok (.putfield 39, 3) := by decide +kernel
theorem d_O_addToCounts_32 : decode b_O_addToCounts 32 = .ok (.goto 31, 3) := by decide +kernel
theorem d_O_addToCounts_35 : decode b_O_addToCounts 35 = .ok (.iload_n 1, 1) := by decide +kernel
theorem d_O_addToCounts_36 : decode b_O_addToCounts 36 = .ok (.iconst 5, 1) := by decide +kernel
theorem d_O_addToCounts_37 : decode b_O_addToCounts 37 = .ok (.if_icmp .ne 16, 3) := by decide +kernel
theorem d_O_addToCounts_40 : decode b_O_addToCounts 40 = .ok (.aload_n 0, 1) := by decide +kernel
theorem d_O_addToCounts_41 : decode b_O_addToCounts 41 = .ok (.dup, 1) := by decide +kernel
theorem d_O_addToCounts_42 : decode b_O_addToCounts 42 = .ok (.getfield 42, 3) := by decide +kernel
theorem d_O_addToCounts_45 : decode b_O_addToCounts 45 = .ok (.iconst 1, 1) := by decide +kernel
theorem d_O_addToCounts_46 : decode b_O_addToCounts 46 = .ok (.iadd, 1) := by decide +kernel
theorem d_O_addToCounts_47 : decode b_O_addToCounts 47 = .ok (.putfield 42, 3) := by decide +kernel
theorem d_O_addToCounts_50 : decode b_O_addToCounts 50 = .ok (.goto 13, 3) := by decide +kernel
theorem d_O_addToCounts_53 : decode b_O_addToCounts 53 = .ok (.aload_n 0, 1) := by decide +kernel
theorem d_O_addToCounts_54 : decode b_O_addToCounts 54 = .ok (.dup, 1) := by decide +kernel
theorem d_O_addToCounts_55 : decode b_O_addToCounts 55 = .ok (.getfield 45, 3) := by decide +kernel
theorem d_O_addToCounts_58 : decode b_O_addToCounts 58 = .ok (.iconst 1, 1) := by decide +kernel
theorem d_O_addToCounts_59 : decode b_O_addToCounts 59 = .ok (.iadd, 1) := by decide +kernel
theorem d_O_addToCounts_60 : decode b_O_addToCounts 60 = .ok (.putfield 45, 3) := by decide +kernel
theorem d_O_addToCounts_63 : decode b_O_addToCounts 63 = .ok (.return_, 1) := by decide +kernel
theorem d_O_spotOf_0 : decode b_O_spotOf 0 = .ok (.iload_n 1, 1) := by decide +kernel
theorem d_O_spotOf_1 : decode b_O_spotOf 1 = .ok (.ifCond .lt 17, 3) := by decide +kernel
theorem d_O_spotOf_4 : decode b_O_spotOf 4 = .ok (.iload_n 1, 1) := by decide +kernel
theorem d_O_spotOf_5 : decode b_O_spotOf 5 = .ok (.bipush 40, 2) := by decide +kernel
theorem d_O_spotOf_7 : decode b_O_spotOf 7 = .ok (.if_icmp .ge 11, 3) := by decide +kernel
theorem d_O_spotOf_10 : decode b_O_spotOf 10 = .ok (.iload_n 1, 1) := by decide +kernel
theorem d_O_spotOf_11 : decode b_O_spotOf 11 = .ok (.aload_n 0, 1) := by decide +kernel
theorem d_O_spotOf_12 : decode b_O_spotOf 12 = .ok (.getfield 29, 3) := by decide +kernel
theorem d_O_spotOf_15 : decode b_O_spotOf 15 = .ok (.if_icmp .lt 5, 3) := by decide +kernel
theorem d_O_spotOf_18 : decode b_O_spotOf 18 = .ok (.iconst (-1), 1) := by decide +kernel
theorem d_O_spotOf_19 : decode b_O_spotOf 19 = .ok (.ireturn, 1) := by decide +kernel
theorem d_O_spotOf_20 : decode b_O_spotOf 20 = .ok (.aload_n 0, 1) := by decide +kernel
theorem d_O_spotOf_21 : decode b_O_spotOf 21 = .ok (.getfield 25, 3) := by decide +kernel
theorem d_O_spotOf_24 : decode b_O_spotOf 24 = .ok (.iconst 1, 1) := by decide +kernel
theorem d_O_spotOf_25 : decode b_O_spotOf 25 = .ok (.isub, 1) := by decide +kernel
theorem d_O_spotOf_26 : decode b_O_spotOf 26 = .ok (.iload_n 1, 1) := by decide +kernel
theorem d_O_spotOf_27 : decode b_O_spotOf 27 = .ok (.isub, 1) := by decide +kernel
theorem d_O_spotOf_28 : decode b_O_spotOf 28 = .ok (.istore_n 2, 1) := by decide +kernel
theorem d_O_spotOf_29 : decode b_O_spotOf 29 = .ok (.iload_n 2, 1) := by decide +kernel
theorem d_O_spotOf_30 : decode b_O_spotOf 30 = .ok (.ifCond .ge 10, 3) := by decide +kernel
theorem d_O_spotOf_33 : decode b_O_spotOf 33 = .ok (.iload_n 2, 1) := by decide +kernel
theorem d_O_spotOf_34 : decode b_O_spotOf 34 = .ok (.bipush 40, 2) := by decide +kernel
theorem d_O_spotOf_36 : decode b_O_spotOf 36 = .ok (.iadd, 1) := by decide +kernel
theorem d_O_spotOf_37 : decode b_O_spotOf 37 = .ok (.goto 4, 3) := by decide +kernel
theorem d_O_spotOf_40 : decode b_O_spotOf 40 = .ok (.iload_n 2, 1) := by decide +kernel
theorem d_O_spotOf_41 : decode b_O_spotOf 41 = .ok (.ireturn, 1) := by decide +kernel
