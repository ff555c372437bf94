theorem d_OB_init_0 : decode b_OB_init 0 = .ok (.return_, 1) := by decide +kernel
theorem d_R_init_0 : decode b_R_init 0 = .ok (.aload_n 0, 1) := by decide +kernel
theorem d_R_init_1 : decode b_R_init 1 = .ok (.invokespecial 3, 3) := by decide +kernel
theorem d_R_init_4 : decode b_R_init 4 = .ok (.aload_n 0, 1) := by decide +kernel
theorem d_R_init_5 : decode b_R_init 5 = .ok (.iload_n 1, 1) := by decide +kernel
theorem d_R_init_6 : decode b_R_init 6 = .ok (.ifCond .ge 7, 3) := by decide +kernel
theorem d_R_init_9 : decode b_R_init 9 = .ok (.iconst 0, 1) := by decide +kernel
theorem d_R_init_10 : decode b_R_init 10 = .ok (.goto 4, 3) := by decide +kernel
theorem d_R_init_13 : decode b_R_init 13 = .ok (.iload_n 1, 1) := by decide +kernel
theorem d_R_init_14 : decode b_R_init 14 = .ok (.newarray .int, 2) := by decide +kernel
theorem d_R_init_16 : decode b_R_init 16 = .ok (.putfield 9, 3) := by decide +kernel
theorem d_R_init_19 : decode b_R_init 19 = .ok (.aload_n 0, 1) := by decide +kernel
theorem d_R_init_20 : decode b_R_init 20 = .ok (.iconst 0, 1) := by decide +kernel
theorem d_R_init_21 : decode b_R_init 21 = .ok (.putfield 15, 3) := by decide +kernel
theorem d_R_init_24 : decode b_R_init 24 = .ok (.return_, 1) := by decide +kernel
theorem d_A_init_0 : decode b_A_init 0 = .ok (.aload_n 0, 1) := by decide +kernel
theorem d_A_init_1 : decode b_A_init 1 = .ok (.invokespecial 1, 3) := by decide +kernel
theorem d_A_init_4 : decode b_A_init 4 = .ok (.aload_n 0, 1) := by decide +kernel
theorem d_A_init_5 : decode b_A_init 5 = .ok (.getstatic 39, 3) := by decide +kernel
theorem d_A_init_8 : decode b_A_init 8 = .ok (.putfield 9, 3) := by decide +kernel
theorem d_A_init_11 : decode b_A_init 11 = .ok (.return_, 1) := by decide +kernel
theorem d_AL_init_0 : decode b_AL_init 0 = .ok (.aload_n 0, 1) := by decide +kernel
theorem d_AL_init_1 : decode b_AL_init 1 = .ok (.invokespecial 1, 3) := by decide +kernel
theorem d_AL_init_4 : decode b_AL_init 4 = .ok (.aload_n 0, 1) := by decide +kernel
theorem d_AL_init_5 : decode b_AL_init 5 = .ok (.iconst 0, 1) := by decide +kernel
theorem d_AL_init_6 : decode b_AL_init 6 = .ok (.putfield 7, 3) := by decide +kernel
theorem d_AL_init_9 : decode b_AL_init 9 = .ok (.return_, 1) := by decide +kernel
theorem d_AC_init_0 : decode b_AC_init 0 = .ok (.aload_n 0, 1) := by decide +kernel
theorem d_AC_init_1 : decode b_AC_init 1 = .ok (.invokespecial 1, 3) := by decide +kernel
theorem d_AC_init_4 : decode b_AC_init 4 = .ok (.return_, 1) := by decide +kernel
theorem d_Y_init_0 : decode b_Y_init 0 = .ok (.aload_n 0, 1) := by decide +kernel
theorem d_Y_init_1 : decode b_Y_init 1 = .ok (.invokespecial 3, 3) := by decide +kernel
theorem d_Y_init_4 : decode b_Y_init 4 = .ok (.aload_n 0, 1) := by decide +kernel
theorem d_Y_init_5 : decode b_Y_init 5 = .ok (.iload_n 1, 1) := by decide +kernel
theorem d_Y_init_6 : decode b_Y_init 6 = .ok (.putfield 9, 3) := by decide +kernel
theorem d_Y_init_9 : decode b_Y_init 9 = .ok (.aload_n 0, 1) := by decide +kernel
theorem d_Y_init_10 : decode b_Y_init 10 = .ok (.iload_n 2, 1) := by decide +kernel
theorem d_Y_init_11 : decode b_Y_init 11 = .ok (.putfield 15, 3) := by decide +kernel
theorem d_Y_init_14 : decode b_Y_init 14 = .ok (.aload_n 0, 1) := by decide +kernel
theorem d_Y_init_15 : decode b_Y_init 15 = .ok (.iconst 0, 1) := by decide +kernel
theorem d_Y_init_16 : decode b_Y_init 16 = .ok (.putfield 18, 3) := by decide +kernel
theorem d_Y_init_19 : decode b_Y_init 19 = .ok (.aload_n 0, 1) := by decide +kernel
theorem d_Y_init_20 : decode b_Y_init 20 = .ok (.iconst 0, 1) := by decide +kernel
theorem d_Y_init_21 : decode b_Y_init 21 = .ok (.putfield 22, 3) := by decide +kernel
theorem d_Y_init_24 : decode b_Y_init 24 = .ok (.return_, 1) := by decide +kernel
theorem d_R_empty_0 : decode b_R_empty 0 = .ok (.aload_n 0, 1) := by decide +kernel
theorem d_R_empty_1 : decode b_R_empty 1 = .ok (.iconst 0, 1) := by decide +kernel
theorem d_R_empty_2 : decode b_R_empty 2 = .ok (.putfield 15, 3) := by decide +kernel
theorem d_R_empty_5 : decode b_R_empty 5 = .ok (.return_, 1) := by decide +kernel
theorem d_A_size_0 : decode b_A_size 0 = .ok (.aload_n 0, 1) := by decide +kernel
theorem d_A_size_1 : decode b_A_size 1 = .ok (.getfield 48, 3) := by decide +kernel
theorem d_A_size_4 : decode b_A_size 4 = .ok (.ireturn, 1) := by decide +kernel
theorem d_A_get_0 : decode b_A_get 0 = .ok (.iload_n 1, 1) := by decide +kernel
theorem d_A_get_1 : decode b_A_get 1 = .ok (.aload_n 0, 1) := by decide +kernel
theorem d_A_get_2 : decode b_A_get 2 = .ok (.getfield 48, 3) := by decide +kernel
theorem d_A_get_5 : decode b_A_get 5 = .ok (.invokestatic 118, 3) := by decide +kernel
theorem d_A_get_8 : decode b_A_get 8 = .ok (.pop, 1) := by decide +kernel
theorem d_A_get_9 : decode b_A_get 9 = .ok (.aload_n 0, 1) := by decide +kernel
theorem d_A_get_10 : decode b_A_get 10 = .ok (.iload_n 1, 1) := by decide +kernel
theorem d_A_get_11 : decode b_A_get 11 = .ok (.invokevirtual 123, 3) := by decide +kernel
theorem d_A_get_14 : decode b_A_get 14 = .ok (.areturn, 1) := by decide +kernel
theorem d_O_checkIndex_0 : decode b_O_checkIndex 0 = .ok (.iload_n 0, 1) := by decide +kernel
theorem d_O_checkIndex_1 : decode b_O_checkIndex 1 = .ok (.iload_n 1, 1) := by decide +kernel
theorem d_O_checkIndex_2 : decode b_O_checkIndex 2 = .ok (.aconst_null, 1) := by decide +kernel
theorem d_O_checkIndex_3 : decode b_O_checkIndex 3 = .ok (.invokestatic 105, 3) := by decide +kernel
theorem d_O_checkIndex_6 : decode b_O_checkIndex 6 = .ok (.ireturn, 1) := by decide +kernel
theorem d_PC_checkIndex_0 : decode b_PC_checkIndex 0 = .ok (.iload_n 0, 1) := by decide +kernel
theorem d_PC_checkIndex_1 : decode b_PC_checkIndex 1 = .ok (.ifCond .lt 8, 3) := by decide +kernel
theorem d_PC_checkIndex_4 : decode b_PC_checkIndex 4 = .ok (.iload_n 0, 1) := by decide +kernel
theorem d_PC_checkIndex_5 : decode b_PC_checkIndex 5 = .ok (.iload_n 1, 1) := by decide +kernel
theorem d_PC_checkIndex_6 : decode b_PC_checkIndex 6 = .ok (.if_icmp .lt 10, 3) := by decide +kernel
theorem d_PC_checkIndex_9 : decode b_PC_checkIndex 9 = .ok (.aload_n 2, 1) := by decide +kernel
theorem d_PC_checkIndex_10 : decode b_PC_checkIndex 10 = .ok (.iload_n 0, 1) := by decide +kernel
theorem d_PC_checkIndex_11 : decode b_PC_checkIndex 11 = .ok (.iload_n 1, 1) := by decide +kernel
theorem d_PC_checkIndex_12 : decode b_PC_checkIndex 12 = .ok (.invokestatic 95, 3) := by decide +kernel
theorem d_PC_checkIndex_15 : decode b_PC_checkIndex 15 = .ok (.athrow, 1) := by decide +kernel
theorem d_PC_checkIndex_16 : decode b_PC_checkIndex 16 = .ok (.iload_n 0, 1) := by decide +kernel
theorem d_PC_checkIndex_17 : decode b_PC_checkIndex 17 = .ok (.ireturn, 1) := by decide +kernel
theorem d_A_elementData_0 : decode b_A_elementData 0 = .ok (.aload_n 0, 1) := by decide +kernel
theorem d_A_elementData_1 : decode b_A_elementData 1 = .ok (.getfield 9, 3) := by decide +kernel
theorem d_A_elementData_4 : decode b_A_elementData 4 = .ok (.iload_n 1, 1) := by decide +kernel
theorem d_A_elementData_5 : decode b_A_elementData 5 = .ok (.aaload, 1) := by decide +kernel
theorem d_A_elementData_6 : decode b_A_elementData 6 = .ok (.areturn, 1) := by decide +kernel
theorem d_R_at_0 : decode b_R_at 0 = .ok (.iload_n 1, 1) := by decide +kernel
theorem d_R_at_1 : decode b_R_at 1 = .ok (.ifCond .lt 29, 3) := by decide +kernel
theorem d_R_at_4 : decode b_R_at 4 = .ok (.iload_n 1, 1) := by decide +kernel
theorem d_R_at_5 : decode b_R_at 5 = .ok (.aload_n 0, 1) := by decide +kernel
theorem d_R_at_6 : decode b_R_at 6 = .ok (.getfield 15, 3) := by decide +kernel
theorem d_R_at_9 : decode b_R_at 9 = .ok (.if_icmp .ge 21, 3) := by decide +kernel
theorem d_R_at_12 : decode b_R_at 12 = .ok (.iload_n 1, 1) := by decide +kernel
theorem d_R_at_13 : decode b_R_at 13 = .ok (.aload_n 0, 1) := by decide +kernel
theorem d_R_at_14 : decode b_R_at 14 = .ok (.getfield 9, 3) := by decide +kernel
theorem d_R_at_17 : decode b_R_at 17 = .ok (.arraylength, 1) := by decide +kernel
theorem d_R_at_18 : decode b_R_at 18 = .ok (.if_icmp .ge 12, 3) := by decide +kernel
theorem d_R_at_21 : decode b_R_at 21 = .ok (.aload_n 0, 1) := by decide +kernel
theorem d_R_at_22 : decode b_R_at 22 = .ok (.getfield 9, 3) := by decide +kernel
theorem d_R_at_25 : decode b_R_at 25 = .ok (.iload_n 1, 1) := by decide +kernel
theorem d_R_at_26 : decode b_R_at 26 = .ok (.iaload, 1) := by decide +kernel
theorem d_R_at_27 : decode b_R_at 27 = .ok (.goto 4, 3) := by decide +kernel
theorem d_R_at_30 : decode b_R_at 30 = .ok (.iconst (-1), 1) := by decide +kernel
theorem d_R_at_31 : decode b_R_at 31 = .ok (.ireturn, 1) := by decide +kernel
theorem d_MA_min_0 : decode b_MA_min 0 = .ok (.iload_n 0, 1) := by decide +kernel
theorem d_MA_min_1 : decode b_MA_min 1 = .ok (.iload_n 1, 1) := by decide +kernel
theorem d_MA_min_2 : decode b_MA_min 2 = .ok (.if_icmp .gt 7, 3) := by decide +kernel
theorem d_MA_min_5 : decode b_MA_min 5 = .ok (.iload_n 0, 1) := by decide +kernel
theorem d_MA_min_6 : decode b_MA_min 6 = .ok (.goto 4, 3) := by decide +kernel
theorem d_MA_min_9 : decode b_MA_min 9 = .ok (.iload_n 1, 1) := by decide +kernel
theorem d_MA_min_10 : decode b_MA_min 10 = .ok (.ireturn, 1) := by decide +kernel
theorem d_R_add_0 : decode b_R_add 0 = .ok (.aload_n 0, 1) := by decide +kernel
theorem d_R_add_1 : decode b_R_add 1 = .ok (.getfield 15, 3) := by decide +kernel
theorem d_R_add_4 : decode b_R_add 4 = .ok (.ifCond .lt 35, 3) := by decide +kernel
theorem d_R_add_7 : decode b_R_add 7 = .ok (.aload_n 0, 1) := by decide +kernel
theorem d_R_add_8 : decode b_R_add 8 = .ok (.getfield 15, 3) := by decide +kernel
theorem d_R_add_11 : decode b_R_add 11 = .ok (.aload_n 0, 1) := by decide +kernel
theorem d_R_add_12 : decode b_R_add 12 = .ok (.getfield 9, 3) := by decide +kernel
theorem d_R_add_15 : decode b_R_add 15 = .ok (.arraylength, 1) := by decide +kernel
theorem d_R_add_16 : decode b_R_add 16 = .ok (.if_icmp .ge 23, 3) := by decide +kernel
theorem d_R_add_19 : decode b_R_add 19 = .ok (.aload_n 0, 1) := by decide +kernel
theorem d_R_add_20 : decode b_R_add 20 = .ok (.getfield 9, 3) := by decide +kernel
theorem d_R_add_23 : decode b_R_add 23 = .ok (.aload_n 0, 1) := by decide +kernel
theorem d_R_add_24 : decode b_R_add 24 = .ok (.getfield 15, 3) := by decide +kernel
theorem d_R_add_27 : decode b_R_add 27 = .ok (.iload_n 1, 1) := by decide +kernel
theorem d_R_add_28 : decode b_R_add 28 = .ok (.iastore, 1) := by decide +kernel
theorem d_R_add_29 : decode b_R_add 29 = .ok (.aload_n 0, 1) := by decide +kernel
theorem d_R_add_30 : decode b_R_add 30 = .ok (.dup, 1) := by decide +kernel
theorem d_R_add_31 : decode b_R_add 31 = .ok (.getfield 15, 3) := by decide +kernel
theorem d_R_add_34 : decode b_R_add 34 = .ok (.iconst 1, 1) := by decide +kernel
theorem d_R_add_35 : decode b_R_add 35 = .ok (.iadd, 1) := by decide +kernel
theorem d_R_add_36 : decode b_R_add 36 = .ok (.putfield 15, 3) := by decide +kernel
theorem d_R_add_39 : decode b_R_add 39 = .ok (.return_, 1) := by decide +kernel
theorem d_R_endsWith_0 : decode b_R_endsWith 0 = .ok (.aload_n 0, 1) := by decide +kernel
theorem d_R_endsWith_1 : decode b_R_endsWith 1 = .ok (.getfield 15, 3) := by decide +kernel
theorem d_R_endsWith_4 : decode b_R_endsWith 4 = .ok (.iload_n 1, 1) := by decide +kernel
theorem d_R_endsWith_5 : decode b_R_endsWith 5 = .ok (.isub, 1) := by decide +kernel
theorem d_R_endsWith_6 : decode b_R_endsWith 6 = .ok (.aload_n 2, 1) := by decide +kernel
theorem d_R_endsWith_7 : decode b_R_endsWith 7 = .ok (.getfield 15, 3) := by decide +kernel
theorem d_R_endsWith_10 : decode b_R_endsWith 10 = .ok (.if_icmp .eq 5, 3) := by decide +kernel
theorem d_R_endsWith_13 : decode b_R_endsWith 13 = .ok (.iconst 0, 1) := by decide +kernel
theorem d_R_endsWith_14 : decode b_R_endsWith 14 = .ok (.ireturn, 1) := by decide +kernel
theorem d_R_endsWith_15 : decode b_R_endsWith 15 = .ok (.iconst 0, 1) := by decide +kernel
theorem d_R_endsWith_16 : decode b_R_endsWith 16 = .ok (.istore_n 3, 1) := by decide +kernel
theorem d_R_endsWith_17 : decode b_R_endsWith 17 = .ok (.iload_n 3, 1) := by decide +kernel
theorem d_R_endsWith_18 : decode b_R_endsWith 18 = .ok (.aload_n 2, 1) := by decide +kernel
theorem d_R_endsWith_19 : decode b_R_endsWith 19 = .ok (.getfield 15, 3) := by decide +kernel
theorem d_R_endsWith_22 : decode b_R_endsWith 22 = .ok (.if_icmp .ge 26, 3) := by decide +kernel
theorem d_R_endsWith_25 : decode b_R_endsWith 25 = .ok (.aload_n 0, 1) := by decide +kernel
theorem d_R_endsWith_26 : decode b_R_endsWith 26 = .ok (.iload_n 1, 1) := by decide +kernel
theorem d_R_endsWith_27 : decode b_R_endsWith 27 = .ok (.iload_n 3, 1) := by decide +kernel
theorem d_R_endsWith_28 : decode b_R_endsWith 28 = .ok (.iadd, 1) := by decide +kernel
theorem d_R_endsWith_29 : decode b_R_endsWith 29 = .ok (.invokevirtual 32, 3) := by decide +kernel
theorem d_R_endsWith_32 : decode b_R_endsWith 32 = .ok (.aload_n 2, 1) := by decide +kernel
theorem d_R_endsWith_33 : decode b_R_endsWith 33 = .ok (.iload_n 3, 1) := by decide +kernel
theorem d_R_endsWith_34 : decode b_R_endsWith 34 = .ok (.invokevirtual 32, 3) := by decide +kernel
theorem d_R_endsWith_37 : decode b_R_endsWith 37 = .ok (.if_icmp .eq 5, 3) := by decide +kernel
theorem d_R_endsWith_40 : decode b_R_endsWith 40 = .ok (.iconst 0, 1) := by decide +kernel
theorem d_R_endsWith_41 : decode b_R_endsWith 41 = .ok (.ireturn, 1) := by decide +kernel
theorem d_R_endsWith_42 : decode b_R_endsWith 42 = .ok (.iinc 3 1, 3) := by decide +kernel
theorem d_R_endsWith_45 : decode b_R_endsWith 45 = .ok (.goto (-28), 3) := by decide +kernel
theorem d_R_endsWith_48 : decode b_R_endsWith 48 = .ok (.iconst 1, 1) := by decide +kernel
theorem d_R_endsWith_49 : decode b_R_endsWith 49 = .ok (.ireturn, 1) := by decide +kernel
theorem d_N_init_0 : decode b_N_init 0 = .ok (.aload_n 0, 1) := by decide +kernel
theorem d_N_init_1 : decode b_N_init 1 = .ok (.invokespecial 3, 3) := by decide +kernel
theorem d_N_init_4 : decode b_N_init 4 = .ok (.aload_n 0, 1) := by decide +kernel
theorem d_N_init_5 : decode b_N_init 5 = .ok (.new 9, 3) := by decide +kernel
theorem d_N_init_8 : decode b_N_init 8 = .ok (.dup, 1) := by decide +kernel
theorem d_N_init_9 : decode b_N_init 9 = .ok (.bipush 8, 2) := by decide +kernel
theorem d_N_init_11 : decode b_N_init 11 = .ok (.invokespecial 11, 3) := by decide +kernel
theorem d_N_init_14 : decode b_N_init 14 = .ok (.putfield 14, 3) := by decide +kernel
theorem d_N_init_17 : decode b_N_init 17 = .ok (.aload_n 0, 1) := by decide +kernel
theorem d_N_init_18 : decode b_N_init 18 = .ok (.getfield 14, 3) := by decide +kernel
theorem d_N_init_21 : decode b_N_init 21 = .ok (.aload_n 1, 1) := by decide +kernel
theorem d_N_init_22 : decode b_N_init 22 = .ok (.invokevirtual 20, 3) := by decide +kernel
theorem d_N_init_25 : decode b_N_init 25 = .ok (.aload_n 0, 1) := by decide +kernel
theorem d_N_init_26 : decode b_N_init 26 = .ok (.new 24, 3) := by decide +kernel
theorem d_N_init_29 : decode b_N_init 29 = .ok (.dup, 1) := by decide +kernel
theorem d_N_init_30 : decode b_N_init 30 = .ok (.invokespecial 26, 3) := by decide +kernel
theorem d_N_init_33 : decode b_N_init 33 = .ok (.putfield 27, 3) := by decide +kernel
theorem d_N_init_36 : decode b_N_init 36 = .ok (.aload_n 0, 1) := by decide +kernel
theorem d_N_init_37 : decode b_N_init 37 = .ok (.aconst_null, 1) := by decide +kernel
theorem d_N_init_38 : decode b_N_init 38 = .ok (.putfield 31, 3) := by decide +kernel
theorem d_N_init_41 : decode b_N_init 41 = .ok (.return_, 1) := by decide +kernel
theorem d_R_addRow_0 : decode b_R_addRow 0 = .ok (.iconst 0, 1) := by decide +kernel
theorem d_R_addRow_1 : decode b_R_addRow 1 = .ok (.istore_n 2, 1) := by decide +kernel
theorem d_R_addRow_2 : decode b_R_addRow 2 = .ok (.iload_n 2, 1) := by decide +kernel
theorem d_R_addRow_3 : decode b_R_addRow 3 = .ok (.aload_n 1, 1) := by decide +kernel
theorem d_R_addRow_4 : decode b_R_addRow 4 = .ok (.getfield 15, 3) := by decide +kernel
theorem d_R_addRow_7 : decode b_R_addRow 7 = .ok (.if_icmp .ge 18, 3) := by decide +kernel
theorem d_R_addRow_10 : decode b_R_addRow 10 = .ok (.aload_n 0, 1) := by decide +kernel
theorem d_R_addRow_11 : decode b_R_addRow 11 = .ok (.aload_n 1, 1) := by decide +kernel
theorem d_R_addRow_12 : decode b_R_addRow 12 = .ok (.iload_n 2, 1) := by decide +kernel
theorem d_R_addRow_13 : decode b_R_addRow 13 = .ok (.invokevirtual 32, 3) := by decide +kernel
theorem d_R_addRow_16 : decode b_R_addRow 16 = .ok (.invokevirtual 28, 3) := by decide +kernel
theorem d_R_addRow_19 : decode b_R_addRow 19 = .ok (.iinc 2 1, 3) := by decide +kernel
theorem d_R_addRow_22 : decode b_R_addRow 22 = .ok (.goto (-20), 3) := by decide +kernel
theorem d_R_addRow_25 : decode b_R_addRow 25 = .ok (.return_, 1) := by decide +kernel
theorem d_A_add_0_0 : decode b_A_add_0 0 = .ok (.aload_n 0, 1) := by decide +kernel
theorem d_A_add_0_1 : decode b_A_add_0 1 = .ok (.dup, 1) := by decide +kernel
theorem d_A_add_0_2 : decode b_A_add_0 2 = .ok (.getfield 63, 3) := by decide +kernel
theorem d_A_add_0_5 : decode b_A_add_0 5 = .ok (.iconst 1, 1) := by decide +kernel
theorem d_A_add_0_6 : decode b_A_add_0 6 = .ok (.iadd, 1) := by decide +kernel
theorem d_A_add_0_7 : decode b_A_add_0 7 = .ok (.putfield 63, 3) := by decide +kernel
theorem d_A_add_0_10 : decode b_A_add_0 10 = .ok (.aload_n 0, 1) := by decide +kernel
theorem d_A_add_0_11 : decode b_A_add_0 11 = .ok (.aload_n 1, 1) := by decide +kernel
theorem d_A_add_0_12 : decode b_A_add_0 12 = .ok (.aload_n 0, 1) := by decide +kernel
theorem d_A_add_0_13 : decode b_A_add_0 13 = .ok (.getfield 9, 3) := by decide +kernel
theorem d_A_add_0_16 : decode b_A_add_0 16 = .ok (.aload_n 0, 1) := by decide +kernel
theorem d_A_add_0_17 : decode b_A_add_0 17 = .ok (.getfield 48, 3) := by decide +kernel
theorem d_A_add_0_20 : decode b_A_add_0 20 = .ok (.invokevirtual 131, 3) := by decide +kernel
theorem d_A_add_0_23 : decode b_A_add_0 23 = .ok (.iconst 1, 1) := by decide +kernel
theorem d_A_add_0_24 : decode b_A_add_0 24 = .ok (.ireturn, 1) := by decide +kernel
theorem d_A_add_1_0 : decode b_A_add_1 0 = .ok (.iload_n 3, 1) := by decide +kernel
theorem d_A_add_1_1 : decode b_A_add_1 1 = .ok (.aload_n 2, 1) := by decide +kernel
theorem d_A_add_1_2 : decode b_A_add_1 2 = .ok (.arraylength, 1) := by decide +kernel
theorem d_A_add_1_3 : decode b_A_add_1 3 = .ok (.if_icmp .ne 8, 3) := by decide +kernel
theorem d_A_add_1_6 : decode b_A_add_1 6 = .ok (.aload_n 0, 1) := by decide +kernel
theorem d_A_add_1_7 : decode b_A_add_1 7 = .ok (.invokevirtual 129, 3) := by decide +kernel
theorem d_A_add_1_10 : decode b_A_add_1 10 = .ok (.astore_n 2, 1) := by decide +kernel
theorem d_A_add_1_11 : decode b_A_add_1 11 = .ok (.aload_n 2, 1) := by decide +kernel
theorem d_A_add_1_12 : decode b_A_add_1 12 = .ok (.iload_n 3, 1) := by decide +kernel
theorem d_A_add_1_13 : decode b_A_add_1 13 = .ok (.aload_n 1, 1) := by decide +kernel
theorem d_A_add_1_14 : decode b_A_add_1 14 = .ok (.aastore, 1) := by decide +kernel
theorem d_A_add_1_15 : decode b_A_add_1 15 = .ok (.aload_n 0, 1) := by decide +kernel
theorem d_A_add_1_16 : decode b_A_add_1 16 = .ok (.iload_n 3, 1) := by decide +kernel
theorem d_A_add_1_17 : decode b_A_add_1 17 = .ok (.iconst 1, 1) := by decide +kernel
theorem d_A_add_1_18 : decode b_A_add_1 18 = .ok (.iadd, 1) := by decide +kernel
theorem d_A_add_1_19 : decode b_A_add_1 19 = .ok (.putfield 48, 3) := by decide +kernel
theorem d_A_add_1_22 : decode b_A_add_1 22 = .ok (.return_, 1) := by decide +kernel
theorem d_A_grow_0_0 : decode b_A_grow_0 0 = .ok (.aload_n 0, 1) := by decide +kernel
theorem d_A_grow_0_1 : decode b_A_grow_0 1 = .ok (.aload_n 0, 1) := by decide +kernel
theorem d_A_grow_0_2 : decode b_A_grow_0 2 = .ok (.getfield 48, 3) := by decide +kernel
theorem d_A_grow_0_5 : decode b_A_grow_0 5 = .ok (.iconst 1, 1) := by decide +kernel
theorem d_A_grow_0_6 : decode b_A_grow_0 6 = .ok (.iadd, 1) := by decide +kernel
theorem d_A_grow_0_7 : decode b_A_grow_0 7 = .ok (.invokevirtual 69, 3) := by decide +kernel
theorem d_A_grow_0_10 : decode b_A_grow_0 10 = .ok (.areturn, 1) := by decide +kernel
theorem d_A_grow_1_0 : decode b_A_grow_1 0 = .ok (.aload_n 0, 1) := by decide +kernel
theorem d_A_grow_1_1 : decode b_A_grow_1 1 = .ok (.getfield 9, 3) := by decide +kernel
theorem d_A_grow_1_4 : decode b_A_grow_1 4 = .ok (.arraylength, 1) := by decide +kernel
theorem d_A_grow_1_5 : decode b_A_grow_1 5 = .ok (.istore_n 2, 1) := by decide +kernel
theorem d_A_grow_1_6 : decode b_A_grow_1 6 = .ok (.iload_n 2, 1) := by decide +kernel
theorem d_A_grow_1_7 : decode b_A_grow_1 7 = .ok (.ifCond .gt 13, 3) := by decide +kernel
theorem d_A_grow_1_10 : decode b_A_grow_1 10 = .ok (.aload_n 0, 1) := by decide +kernel
theorem d_A_grow_1_11 : decode b_A_grow_1 11 = .ok (.getfield 9, 3) := by decide +kernel
theorem d_A_grow_1_14 : decode b_A_grow_1 14 = .ok (.getstatic 39, 3) := by decide +kernel
theorem d_A_grow_1_17 : decode b_A_grow_1 17 = .ok (.if_acmp .eq 28, 3) := by decide +kernel
theorem d_A_grow_1_20 : decode b_A_grow_1 20 = .ok (.iload_n 2, 1) := by decide +kernel
theorem d_A_grow_1_21 : decode b_A_grow_1 21 = .ok (.iload_n 1, 1) := by decide +kernel
theorem d_A_grow_1_22 : decode b_A_grow_1 22 = .ok (.iload_n 2, 1) := by decide +kernel
theorem d_A_grow_1_23 : decode b_A_grow_1 23 = .ok (.isub, 1) := by decide +kernel
theorem d_A_grow_1_24 : decode b_A_grow_1 24 = .ok (.iload_n 2, 1) := by decide +kernel
theorem d_A_grow_1_25 : decode b_A_grow_1 25 = .ok (.iconst 1, 1) := by decide +kernel
theorem d_A_grow_1_26 : decode b_A_grow_1 26 = .ok (.ishr, 1) := by decide +kernel
theorem d_A_grow_1_27 : decode b_A_grow_1 27 = .ok (.invokestatic 73, 3) := by decide +kernel
theorem d_A_grow_1_30 : decode b_A_grow_1 30 = .ok (.istore_n 3, 1) := by decide +kernel
theorem d_A_grow_1_31 : decode b_A_grow_1 31 = .ok (.aload_n 0, 1) := by decide +kernel
theorem d_A_grow_1_32 : decode b_A_grow_1 32 = .ok (.aload_n 0, 1) := by decide +kernel
theorem d_A_grow_1_33 : decode b_A_grow_1 33 = .ok (.getfield 9, 3) := by decide +kernel
theorem d_A_grow_1_36 : decode b_A_grow_1 36 = .ok (.iload_n 3, 1) := by decide +kernel
theorem d_A_grow_1_37 : decode b_A_grow_1 37 = .ok (.invokestatic 66, 3) := by decide +kernel
theorem d_A_grow_1_40 : decode b_A_grow_1 40 = .ok (.dup_x1, 1) := by decide +kernel
theorem d_A_grow_1_41 : decode b_A_grow_1 41 = .ok (.putfield 9, 3) := by decide +kernel
theorem d_A_grow_1_44 : decode b_A_grow_1 44 = .ok (.areturn, 1) := by decide +kernel
theorem d_A_grow_1_45 : decode b_A_grow_1 45 = .ok (.aload_n 0, 1) := by decide +kernel
theorem d_A_grow_1_46 : decode b_A_grow_1 46 = .ok (.bipush 10, 2) := by decide +kernel
theorem d_A_grow_1_48 : decode b_A_grow_1 48 = .ok (.iload_n 1, 1) := by decide +kernel
theorem d_A_grow_1_49 : decode b_A_grow_1 49 = .ok (.invokestatic 79, 3) := by decide +kernel
theorem d_A_grow_1_52 : decode b_A_grow_1 52 = .ok (.anewarray 7, 3) := by decide +kernel
theorem d_A_grow_1_55 : decode b_A_grow_1 55 = .ok (.dup_x1, 1) := by decide +kernel
theorem d_A_grow_1_56 : decode b_A_grow_1 56 = .ok (.putfield 9, 3) := by decide +kernel
theorem d_A_grow_1_59 : decode b_A_grow_1 59 = .ok (.areturn, 1) := by decide +kernel
theorem d_AS_newLength_0 : decode b_AS_newLength 0 = .ok (.iload_n 0, 1) := by decide +kernel
theorem d_AS_newLength_1 : decode b_AS_newLength 1 = .ok (.iload_n 1, 1) := by decide +kernel
theorem d_AS_newLength_2 : decode b_AS_newLength 2 = .ok (.iload_n 2, 1) := by decide +kernel
theorem d_AS_newLength_3 : decode b_AS_newLength 3 = .ok (.invokestatic 194, 3) := by decide +kernel
theorem d_AS_newLength_6 : decode b_AS_newLength 6 = .ok (.iadd, 1) := by decide +kernel
theorem d_AS_newLength_7 : decode b_AS_newLength 7 = .ok (.istore_n 3, 1) := by decide +kernel
theorem d_AS_newLength_8 : decode b_AS_newLength 8 = .ok (.iconst 0, 1) := by decide +kernel
theorem d_AS_newLength_9 : decode b_AS_newLength 9 = .ok (.iload_n 3, 1) := by decide +kernel
theorem d_AS_newLength_10 : decode b_AS_newLength 10 = .ok (.if_icmp .ge 11, 3) := by decide +kernel
theorem d_AS_newLength_13 : decode b_AS_newLength 13 = .ok (.iload_n 3, 1) := by decide +kernel
theorem d_AS_newLength_14 : decode b_AS_newLength 14 = .ok (.ldc 200, 2) := by decide +kernel
theorem d_AS_newLength_16 : decode b_AS_newLength 16 = .ok (.if_icmp .gt 5, 3) := by decide +kernel
theorem d_AS_newLength_19 : decode b_AS_newLength 19 = .ok (.iload_n 3, 1) := by decide +kernel
theorem d_AS_newLength_20 : decode b_AS_newLength 20 = .ok (.ireturn, 1) := by decide +kernel
theorem d_AS_newLength_21 : decode b_AS_newLength 21 = .ok (.iload_n 0, 1) := by decide +kernel
theorem d_AS_newLength_22 : decode b_AS_newLength 22 = .ok (.iload_n 1, 1) := by decide +kernel
theorem d_AS_newLength_23 : decode b_AS_newLength 23 = .ok (.invokestatic 201, 3) := by decide +kernel
theorem d_AS_newLength_26 : decode b_AS_newLength 26 = .ok (.ireturn, 1) := by decide +kernel
theorem d_MA_max_0 : decode b_MA_max 0 = .ok (.iload_n 0, 1) := by decide +kernel
theorem d_MA_max_1 : decode b_MA_max 1 = .ok (.iload_n 1, 1) := by decide +kernel
theorem d_MA_max_2 : decode b_MA_max 2 = .ok (.if_icmp .lt 7, 3) := by decide +kernel
theorem d_MA_max_5 : decode b_MA_max 5 = .ok (.iload_n 0, 1) := by decide +kernel
theorem d_MA_max_6 : decode b_MA_max 6 = .ok (.goto 4, 3) := by decide +kernel
theorem d_MA_max_9 : decode b_MA_max 9 = .ok (.iload_n 1, 1) := by decide +kernel
theorem d_MA_max_10 : decode b_MA_max 10 = .ok (.ireturn, 1) := by decide +kernel
theorem d_AR_copyOf_0_0 : decode b_AR_copyOf_0 0 = .ok (.aload_n 0, 1) := by decide +kernel
theorem d_AR_copyOf_0_1 : decode b_AR_copyOf_0 1 = .ok (.iload_n 1, 1) := by decide +kernel
theorem d_AR_copyOf_0_2 : decode b_AR_copyOf_0 2 = .ok (.aload_n 0, 1) := by decide +kernel
theorem d_AR_copyOf_0_3 : decode b_AR_copyOf_0 3 = .ok (.invokevirtual 86, 3) := by decide +kernel
theorem d_AR_copyOf_0_6 : decode b_AR_copyOf_0 6 = .ok (.invokestatic 300, 3) := by decide +kernel
theorem d_AR_copyOf_0_9 : decode b_AR_copyOf_0 9 = .ok (.areturn, 1) := by decide +kernel
theorem d_AR_copyOf_1_0 : decode b_AR_copyOf_1 0 = .ok (.aload_n 2, 1) := by decide +kernel
theorem d_AR_copyOf_1_1 : decode b_AR_copyOf_1 1 = .ok (.ldc 110, 2) := by decide +kernel
theorem d_AR_copyOf_1_3 : decode b_AR_copyOf_1 3 = .ok (.if_acmp .ne 10, 3) := by decide +kernel
theorem d_AR_copyOf_1_6 : decode b_AR_copyOf_1 6 = .ok (.iload_n 1, 1) := by decide +kernel
theorem d_AR_copyOf_1_7 : decode b_AR_copyOf_1 7 = .ok (.anewarray 2, 3) := by decide +kernel
theorem d_AR_copyOf_1_10 : decode b_AR_copyOf_1 10 = .ok (.goto 14, 3) := by decide +kernel
theorem d_AR_copyOf_1_13 : decode b_AR_copyOf_1 13 = .ok (.aload_n 2, 1) := by decide +kernel
theorem d_AR_copyOf_1_14 : decode b_AR_copyOf_1 14 = .ok (.invokevirtual 90, 3) := by decide +kernel
theorem d_AR_copyOf_1_17 : decode b_AR_copyOf_1 17 = .ok (.iload_n 1, 1) := by decide +kernel
theorem d_AR_copyOf_1_18 : decode b_AR_copyOf_1 18 = .ok (.invokestatic 95, 3) := by decide +kernel
theorem d_AR_copyOf_1_21 : decode b_AR_copyOf_1 21 = .ok (.checkcast 110, 3) := by decide +kernel
theorem d_AR_copyOf_1_24 : decode b_AR_copyOf_1 24 = .ok (.astore_n 3, 1) := by decide +kernel
theorem d_AR_copyOf_1_25 : decode b_AR_copyOf_1 25 = .ok (.aload_n 0, 1) := by decide +kernel
theorem d_AR_copyOf_1_26 : decode b_AR_copyOf_1 26 = .ok (.iconst 0, 1) := by decide +kernel
theorem d_AR_copyOf_1_27 : decode b_AR_copyOf_1 27 = .ok (.aload_n 3, 1) := by decide +kernel
theorem d_AR_copyOf_1_28 : decode b_AR_copyOf_1 28 = .ok (.iconst 0, 1) := by decide +kernel
theorem d_AR_copyOf_1_29 : decode b_AR_copyOf_1 29 = .ok (.aload_n 0, 1) := by decide +kernel
theorem d_AR_copyOf_1_30 : decode b_AR_copyOf_1 30 = .ok (.arraylength, 1) := by decide +kernel
theorem d_AR_copyOf_1_31 : decode b_AR_copyOf_1 31 = .ok (.iload_n 1, 1) := by decide +kernel
theorem d_AR_copyOf_1_32 : decode b_AR_copyOf_1 32 = .ok (.invokestatic 304, 3) := by decide +kernel
theorem d_AR_copyOf_1_35 : decode b_AR_copyOf_1 35 = .ok (.invokestatic 150, 3) := by decide +kernel
theorem d_AR_copyOf_1_38 : decode b_AR_copyOf_1 38 = .ok (.aload_n 3, 1) := by decide +kernel
theorem d_AR_copyOf_1_39 : decode b_AR_copyOf_1 39 = .ok (.areturn, 1) := by decide +kernel
theorem d_P_init_0 : decode b_P_init 0 = .ok (.aload_n 0, 1) := by decide +kernel
theorem d_P_init_1 : decode b_P_init 1 = .ok (.invokespecial 1, 3) := by decide +kernel
theorem d_P_init_4 : decode b_P_init 4 = .ok (.aload_n 0, 1) := by decide +kernel
theorem d_P_init_5 : decode b_P_init 5 = .ok (.iload_n 1, 1) := by decide +kernel
theorem d_P_init_6 : decode b_P_init 6 = .ok (.putfield 7, 3) := by decide +kernel
theorem d_P_init_9 : decode b_P_init 9 = .ok (.aload_n 0, 1) := by decide +kernel
theorem d_P_init_10 : decode b_P_init 10 = .ok (.iload_n 2, 1) := by decide +kernel
theorem d_P_init_11 : decode b_P_init 11 = .ok (.putfield 13, 3) := by decide +kernel
theorem d_P_init_14 : decode b_P_init 14 = .ok (.aload_n 0, 1) := by decide +kernel
theorem d_P_init_15 : decode b_P_init 15 = .ok (.aload_n 3, 1) := by decide +kernel
theorem d_P_init_16 : decode b_P_init 16 = .ok (.putfield 16, 3) := by decide +kernel
theorem d_P_init_19 : decode b_P_init 19 = .ok (.return_, 1) := by decide +kernel
theorem d_R_holds_0 : decode b_R_holds 0 = .ok (.iconst 0, 1) := by decide +kernel
theorem d_R_holds_1 : decode b_R_holds 1 = .ok (.istore_n 3, 1) := by decide +kernel
theorem d_R_holds_2 : decode b_R_holds 2 = .ok (.iload_n 3, 1) := by decide +kernel
theorem d_R_holds_3 : decode b_R_holds 3 = .ok (.aload_n 2, 1) := by decide +kernel
theorem d_R_holds_4 : decode b_R_holds 4 = .ok (.invokevirtual 19, 3) := by decide +kernel
theorem d_R_holds_7 : decode b_R_holds 7 = .ok (.if_icmp .ge 26, 3) := by decide +kernel
theorem d_R_holds_10 : decode b_R_holds 10 = .ok (.aload_n 0, 1) := by decide +kernel
theorem d_R_holds_11 : decode b_R_holds 11 = .ok (.iload_n 1, 1) := by decide +kernel
theorem d_R_holds_12 : decode b_R_holds 12 = .ok (.iload_n 3, 1) := by decide +kernel
theorem d_R_holds_13 : decode b_R_holds 13 = .ok (.iadd, 1) := by decide +kernel
theorem d_R_holds_14 : decode b_R_holds 14 = .ok (.invokevirtual 32, 3) := by decide +kernel
theorem d_R_holds_17 : decode b_R_holds 17 = .ok (.aload_n 2, 1) := by decide +kernel
theorem d_R_holds_18 : decode b_R_holds 18 = .ok (.iload_n 3, 1) := by decide +kernel
theorem d_R_holds_19 : decode b_R_holds 19 = .ok (.invokevirtual 24, 3) := by decide +kernel
theorem d_R_holds_22 : decode b_R_holds 22 = .ok (.if_icmp .eq 5, 3) := by decide +kernel
theorem d_R_holds_25 : decode b_R_holds 25 = .ok (.iconst 0, 1) := by decide +kernel
theorem d_R_holds_26 : decode b_R_holds 26 = .ok (.ireturn, 1) := by decide +kernel
theorem d_R_holds_27 : decode b_R_holds 27 = .ok (.iinc 3 1, 3) := by decide +kernel
theorem d_R_holds_30 : decode b_R_holds 30 = .ok (.goto (-28), 3) := by decide +kernel
theorem d_R_holds_33 : decode b_R_holds 33 = .ok (.iconst 1, 1) := by decide +kernel
theorem d_R_holds_34 : decode b_R_holds 34 = .ok (.ireturn, 1) := by decide +kernel
theorem d_S_length_0 : decode b_S_length 0 = .ok (.aload_n 0, 1) := by decide +kernel
theorem d_S_length_1 : decode b_S_length 1 = .ok (.getfield 9, 3) := by decide +kernel
theorem d_S_length_4 : decode b_S_length 4 = .ok (.arraylength, 1) := by decide +kernel
theorem d_S_length_5 : decode b_S_length 5 = .ok (.aload_n 0, 1) := by decide +kernel
theorem d_S_length_6 : decode b_S_length 6 = .ok (.invokevirtual 335, 3) := by decide +kernel
theorem d_S_length_9 : decode b_S_length 9 = .ok (.ishr, 1) := by decide +kernel
theorem d_S_length_10 : decode b_S_length 10 = .ok (.ireturn, 1) := by decide +kernel
theorem d_S_coder_0 : decode b_S_coder 0 = .ok (.getstatic 38, 3) := by decide +kernel
theorem d_S_coder_3 : decode b_S_coder 3 = .ok (.ifCond .eq 10, 3) := by decide +kernel
theorem d_S_coder_6 : decode b_S_coder 6 = .ok (.aload_n 0, 1) := by decide +kernel
theorem d_S_coder_7 : decode b_S_coder 7 = .ok (.getfield 15, 3) := by decide +kernel
theorem d_S_coder_10 : decode b_S_coder 10 = .ok (.goto 4, 3) := by decide +kernel
theorem d_S_coder_13 : decode b_S_coder 13 = .ok (.iconst 1, 1) := by decide +kernel
theorem d_S_coder_14 : decode b_S_coder 14 = .ok (.ireturn, 1) := by decide +kernel
theorem d_S_charAt_0 : decode b_S_charAt 0 = .ok (.aload_n 0, 1) := by decide +kernel
theorem d_S_charAt_1 : decode b_S_charAt 1 = .ok (.invokevirtual 492, 3) := by decide +kernel
theorem d_S_charAt_4 : decode b_S_charAt 4 = .ok (.ifCond .eq 12, 3) := by decide +kernel
theorem d_S_charAt_7 : decode b_S_charAt 7 = .ok (.aload_n 0, 1) := by decide +kernel
theorem d_S_charAt_8 : decode b_S_charAt 8 = .ok (.getfield 9, 3) := by decide +kernel
theorem d_S_charAt_11 : decode b_S_charAt 11 = .ok (.iload_n 1, 1) := by decide +kernel
theorem d_S_charAt_12 : decode b_S_charAt 12 = .ok (.invokestatic 495, 3) := by decide +kernel
theorem d_S_charAt_15 : decode b_S_charAt 15 = .ok (.ireturn, 1) := by decide +kernel
theorem d_S_charAt_16 : decode b_S_charAt 16 = .ok (.aload_n 0, 1) := by decide +kernel
theorem d_S_charAt_17 : decode b_S_charAt 17 = .ok (.getfield 9, 3) := by decide +kernel
theorem d_S_charAt_20 : decode b_S_charAt 20 = .ok (.iload_n 1, 1) := by decide +kernel
theorem d_S_charAt_21 : decode b_S_charAt 21 = .ok (.invokestatic 498, 3) := by decide +kernel
theorem d_S_charAt_24 : decode b_S_charAt 24 = .ok (.ireturn, 1) := by decide +kernel
theorem d_S_isLatin1_0 : decode b_S_isLatin1 0 = .ok (.getstatic 38, 3) := by decide +kernel
theorem d_S_isLatin1_3 : decode b_S_isLatin1 3 = .ok (.ifCond .eq 14, 3) := by decide +kernel
theorem d_S_isLatin1_6 : decode b_S_isLatin1 6 = .ok (.aload_n 0, 1) := by decide +kernel
theorem d_S_isLatin1_7 : decode b_S_isLatin1 7 = .ok (.getfield 15, 3) := by decide +kernel
theorem d_S_isLatin1_10 : decode b_S_isLatin1 10 = .ok (.ifCond .ne 7, 3) := by decide +kernel
theorem d_S_isLatin1_13 : decode b_S_isLatin1 13 = .ok (.iconst 1, 1) := by decide +kernel
theorem d_S_isLatin1_14 : decode b_S_isLatin1 14 = .ok (.goto 4, 3) := by decide +kernel
theorem d_S_isLatin1_17 : decode b_S_isLatin1 17 = .ok (.iconst 0, 1) := by decide +kernel
theorem d_S_isLatin1_18 : decode b_S_isLatin1 18 = .ok (.ireturn, 1) := by decide +kernel
theorem d_SL_charAt_0 : decode b_SL_charAt 0 = .ok (.iload_n 1, 1) := by decide +kernel
theorem d_SL_charAt_1 : decode b_SL_charAt 1 = .ok (.aload_n 0, 1) := by decide +kernel
theorem d_SL_charAt_2 : decode b_SL_charAt 2 = .ok (.arraylength, 1) := by decide +kernel
theorem d_SL_charAt_3 : decode b_SL_charAt 3 = .ok (.invokestatic 9, 3) := by decide +kernel
theorem d_SL_charAt_6 : decode b_SL_charAt 6 = .ok (.aload_n 0, 1) := by decide +kernel
theorem d_SL_charAt_7 : decode b_SL_charAt 7 = .ok (.iload_n 1, 1) := by decide +kernel
theorem d_SL_charAt_8 : decode b_SL_charAt 8 = .ok (.baload, 1) := by decide +kernel
theorem d_SL_charAt_9 : decode b_SL_charAt 9 = .ok (.sipush 255, 3) := by decide +kernel
theorem d_SL_charAt_12 : decode b_SL_charAt 12 = .ok (.iand, 1) := by decide +kernel
theorem d_SL_charAt_13 : decode b_SL_charAt 13 = .ok (.i2c, 1) := by decide +kernel
theorem d_SL_charAt_14 : decode b_SL_charAt 14 = .ok (.ireturn, 1) := by decide +kernel
theorem d_S_checkIndex_0 : decode b_S_checkIndex 0 = .ok (.iload_n 0, 1) := by decide +kernel
theorem d_S_checkIndex_1 : decode b_S_checkIndex 1 = .ok (.iload_n 1, 1) := by decide +kernel
theorem d_S_checkIndex_2 : decode b_S_checkIndex 2 = .ok (.getstatic 1053, 3) := by decide +kernel
theorem d_S_checkIndex_5 : decode b_S_checkIndex 5 = .ok (.invokestatic 1059, 3) := by decide +kernel
theorem d_S_checkIndex_8 : decode b_S_checkIndex 8 = .ok (.pop, 1) := by decide +kernel
theorem d_S_checkIndex_9 : decode b_S_checkIndex 9 = .ok (.return_, 1) := by decide +kernel
theorem d_Y_become_0 : decode b_Y_become 0 = .ok (.aload_n 0, 1) := by decide +kernel
theorem d_Y_become_1 : decode b_Y_become 1 = .ok (.iload_n 1, 1) := by decide +kernel
theorem d_Y_become_2 : decode b_Y_become 2 = .ok (.putfield 9, 3) := by decide +kernel
theorem d_Y_become_5 : decode b_Y_become 5 = .ok (.aload_n 0, 1) := by decide +kernel
theorem d_Y_become_6 : decode b_Y_become 6 = .ok (.iload_n 2, 1) := by decide +kernel
theorem d_Y_become_7 : decode b_Y_become 7 = .ok (.putfield 15, 3) := by decide +kernel
theorem d_Y_become_10 : decode b_Y_become 10 = .ok (.aload_n 0, 1) := by decide +kernel
theorem d_Y_become_11 : decode b_Y_become 11 = .ok (.iconst 0, 1) := by decide +kernel
theorem d_Y_become_12 : decode b_Y_become 12 = .ok (.putfield 18, 3) := by decide +kernel
theorem d_Y_become_15 : decode b_Y_become 15 = .ok (.aload_n 0, 1) := by decide +kernel
theorem d_Y_become_16 : decode b_Y_become 16 = .ok (.iconst 0, 1) := by decide +kernel
theorem d_Y_become_17 : decode b_Y_become 17 = .ok (.putfield 22, 3) := by decide +kernel
theorem d_Y_become_20 : decode b_Y_become 20 = .ok (.return_, 1) := by decide +kernel
theorem d_N_yearsAt_0 : decode b_N_yearsAt 0 = .ok (.aload_n 0, 1) := by decide +kernel
theorem d_N_yearsAt_1 : decode b_N_yearsAt 1 = .ok (.getfield 31, 3) := by decide +kernel
theorem d_N_yearsAt_4 : decode b_N_yearsAt 4 = .ok (.astore_n 3, 1) := by decide +kernel
theorem d_N_yearsAt_5 : decode b_N_yearsAt 5 = .ok (.iconst (-1), 1) := by decide +kernel
theorem d_N_yearsAt_6 : decode b_N_yearsAt 6 = .ok (.istore 4, 2) := by decide +kernel
theorem d_N_yearsAt_8 : decode b_N_yearsAt 8 = .ok (.iconst 0, 1) := by decide +kernel
theorem d_N_yearsAt_9 : decode b_N_yearsAt 9 = .ok (.istore 5, 2) := by decide +kernel
theorem d_N_yearsAt_11 : decode b_N_yearsAt 11 = .ok (.iload 5, 2) := by decide +kernel
theorem d_N_yearsAt_13 : decode b_N_yearsAt 13 = .ok (.aload_n 0, 1) := by decide +kernel
theorem d_N_yearsAt_14 : decode b_N_yearsAt 14 = .ok (.getfield 27, 3) := by decide +kernel
theorem d_N_yearsAt_17 : decode b_N_yearsAt 17 = .ok (.invokevirtual 35, 3) := by decide +kernel
theorem d_N_yearsAt_20 : decode b_N_yearsAt 20 = .ok (.if_icmp .ge 64, 3) := by decide +kernel
theorem d_N_yearsAt_23 : decode b_N_yearsAt 23 = .ok (.aload_n 0, 1) := by decide +kernel
theorem d_N_yearsAt_24 : decode b_N_yearsAt 24 = .ok (.getfield 27, 3) := by decide +kernel
theorem d_N_yearsAt_27 : decode b_N_yearsAt 27 = .ok (.iload 5, 2) := by decide +kernel
theorem d_N_yearsAt_29 : decode b_N_yearsAt 29 = .ok (.invokevirtual 39, 3) := by decide +kernel
theorem d_N_yearsAt_32 : decode b_N_yearsAt 32 = .ok (.checkcast 43, 3) := by decide +kernel
theorem d_N_yearsAt_35 : decode b_N_yearsAt 35 = .ok (.astore 6, 2) := by decide +kernel
theorem d_N_yearsAt_37 : decode b_N_yearsAt 37 = .ok (.aload 6, 2) := by decide +kernel
theorem d_N_yearsAt_39 : decode b_N_yearsAt 39 = .ok (.getfield 45, 3) := by decide +kernel
theorem d_N_yearsAt_42 : decode b_N_yearsAt 42 = .ok (.iload_n 1, 1) := by decide +kernel
theorem d_N_yearsAt_43 : decode b_N_yearsAt 43 = .ok (.if_icmp .ne 35, 3) := by decide +kernel
theorem d_N_yearsAt_46 : decode b_N_yearsAt 46 = .ok (.aload 6, 2) := by decide +kernel
theorem d_N_yearsAt_48 : decode b_N_yearsAt 48 = .ok (.getfield 49, 3) := by decide +kernel
theorem d_N_yearsAt_51 : decode b_N_yearsAt 51 = .ok (.iload_n 2, 1) := by decide +kernel
theorem d_N_yearsAt_52 : decode b_N_yearsAt 52 = .ok (.if_icmp .gt 26, 3) := by decide +kernel
theorem d_N_yearsAt_55 : decode b_N_yearsAt 55 = .ok (.aload 6, 2) := by decide +kernel
theorem d_N_yearsAt_57 : decode b_N_yearsAt 57 = .ok (.getfield 49, 3) := by decide +kernel
theorem d_N_yearsAt_60 : decode b_N_yearsAt 60 = .ok (.iload 4, 2) := by decide +kernel
theorem d_N_yearsAt_62 : decode b_N_yearsAt 62 = .ok (.if_icmp .lt 16, 3) := by decide +kernel
theorem d_N_yearsAt_65 : decode b_N_yearsAt 65 = .ok (.aload 6, 2) := by decide +kernel
theorem d_N_yearsAt_67 : decode b_N_yearsAt 67 = .ok (.getfield 52, 3) := by decide +kernel
theorem d_N_yearsAt_70 : decode b_N_yearsAt 70 = .ok (.astore_n 3, 1) := by decide +kernel
theorem d_N_yearsAt_71 : decode b_N_yearsAt 71 = .ok (.aload 6, 2) := by decide +kernel
theorem d_N_yearsAt_73 : decode b_N_yearsAt 73 = .ok (.getfield 49, 3) := by decide +kernel
theorem d_N_yearsAt_76 : decode b_N_yearsAt 76 = .ok (.istore 4, 2) := by decide +kernel
theorem d_N_yearsAt_78 : decode b_N_yearsAt 78 = .ok (.iinc 5 1, 3) := by decide +kernel
theorem d_N_yearsAt_81 : decode b_N_yearsAt 81 = .ok (.goto (-70), 3) := by decide +kernel
theorem d_N_yearsAt_84 : decode b_N_yearsAt 84 = .ok (.aload_n 3, 1) := by decide +kernel
theorem d_N_yearsAt_85 : decode b_N_yearsAt 85 = .ok (.areturn, 1) := by decide +kernel
theorem d_Y_copyOf_0 : decode b_Y_copyOf 0 = .ok (.aload_n 0, 1) := by decide +kernel
theorem d_Y_copyOf_1 : decode b_Y_copyOf 1 = .ok (.aload_n 1, 1) := by decide +kernel
theorem d_Y_copyOf_2 : decode b_Y_copyOf 2 = .ok (.getfield 9, 3) := by decide +kernel
theorem d_Y_copyOf_5 : decode b_Y_copyOf 5 = .ok (.putfield 9, 3) := by decide +kernel
theorem d_Y_copyOf_8 : decode b_Y_copyOf 8 = .ok (.aload_n 0, 1) := by decide +kernel
theorem d_Y_copyOf_9 : decode b_Y_copyOf 9 = .ok (.aload_n 1, 1) := by decide +kernel
theorem d_Y_copyOf_10 : decode b_Y_copyOf 10 = .ok (.getfield 15, 3) := by decide +kernel
theorem d_Y_copyOf_13 : decode b_Y_copyOf 13 = .ok (.putfield 15, 3) := by decide +kernel
theorem d_Y_copyOf_16 : decode b_Y_copyOf 16 = .ok (.aload_n 0, 1) := by decide +kernel
theorem d_Y_copyOf_17 : decode b_Y_copyOf 17 = .ok (.aload_n 1, 1) := by decide +kernel
theorem d_Y_copyOf_18 : decode b_Y_copyOf 18 = .ok (.getfield 18, 3) := by decide +kernel
theorem d_Y_copyOf_21 : decode b_Y_copyOf 21 = .ok (.putfield 18, 3) := by decide +kernel
theorem d_Y_copyOf_24 : decode b_Y_copyOf 24 = .ok (.aload_n 0, 1) := by decide +kernel
theorem d_Y_copyOf_25 : decode b_Y_copyOf 25 = .ok (.aload_n 1, 1) := by decide +kernel
theorem d_Y_copyOf_26 : decode b_Y_copyOf 26 = .ok (.getfield 22, 3) := by decide +kernel
theorem d_Y_copyOf_29 : decode b_Y_copyOf 29 = .ok (.putfield 22, 3) := by decide +kernel
theorem d_Y_copyOf_32 : decode b_Y_copyOf 32 = .ok (.return_, 1) := by decide +kernel
theorem d_Y_widen_0 : decode b_Y_widen 0 = .ok (.aload_n 0, 1) := by decide +kernel
theorem d_Y_widen_1 : decode b_Y_widen 1 = .ok (.invokevirtual 38, 3) := by decide +kernel
theorem d_Y_widen_4 : decode b_Y_widen 4 = .ok (.ifCond .eq 5, 3) := by decide +kernel
theorem d_Y_widen_7 : decode b_Y_widen 7 = .ok (.iconst 0, 1) := by decide +kernel
theorem d_Y_widen_8 : decode b_Y_widen 8 = .ok (.ireturn, 1) := by decide +kernel
theorem d_Y_widen_9 : decode b_Y_widen 9 = .ok (.aload_n 0, 1) := by decide +kernel
theorem d_Y_widen_10 : decode b_Y_widen 10 = .ok (.sipush (-9999), 3) := by decide +kernel
theorem d_Y_widen_13 : decode b_Y_widen 13 = .ok (.aload_n 0, 1) := by decide +kernel
theorem d_Y_widen_14 : decode b_Y_widen 14 = .ok (.getfield 9, 3) := by decide +kernel
theorem d_Y_widen_17 : decode b_Y_widen 17 = .ok (.iload_n 1, 1) := by decide +kernel
theorem d_Y_widen_18 : decode b_Y_widen 18 = .ok (.isub, 1) := by decide +kernel
theorem d_Y_widen_19 : decode b_Y_widen 19 = .ok (.invokestatic 31, 3) := by decide +kernel
theorem d_Y_widen_22 : decode b_Y_widen 22 = .ok (.putfield 9, 3) := by decide +kernel
theorem d_Y_widen_25 : decode b_Y_widen 25 = .ok (.aload_n 0, 1) := by decide +kernel
theorem d_Y_widen_26 : decode b_Y_widen 26 = .ok (.sipush 9999, 3) := by decide +kernel
theorem d_Y_widen_29 : decode b_Y_widen 29 = .ok (.aload_n 0, 1) := by decide +kernel
theorem d_Y_widen_30 : decode b_Y_widen 30 = .ok (.getfield 15, 3) := by decide +kernel
theorem d_Y_widen_33 : decode b_Y_widen 33 = .ok (.iload_n 1, 1) := by decide +kernel
theorem d_Y_widen_34 : decode b_Y_widen 34 = .ok (.iadd, 1) := by decide +kernel
theorem d_Y_widen_35 : decode b_Y_widen 35 = .ok (.invokestatic 25, 3) := by decide +kernel
theorem d_Y_widen_38 : decode b_Y_widen 38 = .ok (.putfield 15, 3) := by decide +kernel
theorem d_Y_widen_41 : decode b_Y_widen 41 = .ok (.iconst 1, 1) := by decide +kernel
theorem d_Y_widen_42 : decode b_Y_widen 42 = .ok (.ireturn, 1) := by decide +kernel
theorem d_Y_isOpen_0 : decode b_Y_isOpen 0 = .ok (.aload_n 0, 1) := by decide +kernel
theorem d_Y_isOpen_1 : decode b_Y_isOpen 1 = .ok (.getfield 18, 3) := by decide +kernel
theorem d_Y_isOpen_4 : decode b_Y_isOpen 4 = .ok (.ifCond .ne 10, 3) := by decide +kernel
theorem d_Y_isOpen_7 : decode b_Y_isOpen 7 = .ok (.aload_n 0, 1) := by decide +kernel
theorem d_Y_isOpen_8 : decode b_Y_isOpen 8 = .ok (.getfield 22, 3) := by decide +kernel
theorem d_Y_isOpen_11 : decode b_Y_isOpen 11 = .ok (.ifCond .eq 7, 3) := by decide +kernel
theorem d_Y_isOpen_14 : decode b_Y_isOpen 14 = .ok (.iconst 1, 1) := by decide +kernel
theorem d_Y_isOpen_15 : decode b_Y_isOpen 15 = .ok (.goto 4, 3) := by decide +kernel
theorem d_Y_isOpen_18 : decode b_Y_isOpen 18 = .ok (.iconst 0, 1) := by decide +kernel
theorem d_Y_isOpen_19 : decode b_Y_isOpen 19 = .ok (.ireturn, 1) := by decide +kernel
theorem d_Y_turnBefore_0 : decode b_Y_turnBefore 0 = .ok (.aload_n 0, 1) := by decide +kernel
theorem d_Y_turnBefore_1 : decode b_Y_turnBefore 1 = .ok (.invokevirtual 38, 3) := by decide +kernel
theorem d_Y_turnBefore_4 : decode b_Y_turnBefore 4 = .ok (.ifCond .ne 13, 3) := by decide +kernel
theorem d_Y_turnBefore_7 : decode b_Y_turnBefore 7 = .ok (.aload_n 0, 1) := by decide +kernel
theorem d_Y_turnBefore_8 : decode b_Y_turnBefore 8 = .ok (.getfield 9, 3) := by decide +kernel
theorem d_Y_turnBefore_11 : decode b_Y_turnBefore 11 = .ok (.sipush (-9999), 3) := by decide +kernel
theorem d_Y_turnBefore_14 : decode b_Y_turnBefore 14 = .ok (.if_icmp .ne 5, 3) := by decide +kernel
theorem d_Y_turnBefore_17 : decode b_Y_turnBefore 17 = .ok (.iconst 0, 1) := by decide +kernel
theorem d_Y_turnBefore_18 : decode b_Y_turnBefore 18 = .ok (.ireturn, 1) := by decide +kernel
theorem d_Y_turnBefore_19 : decode b_Y_turnBefore 19 = .ok (.aload_n 0, 1) := by decide +kernel
theorem d_Y_turnBefore_20 : decode b_Y_turnBefore 20 = .ok (.aload_n 0, 1) := by decide +kernel
theorem d_Y_turnBefore_21 : decode b_Y_turnBefore 21 = .ok (.getfield 9, 3) := by decide +kernel
theorem d_Y_turnBefore_24 : decode b_Y_turnBefore 24 = .ok (.iconst 1, 1) := by decide +kernel
theorem d_Y_turnBefore_25 : decode b_Y_turnBefore 25 = .ok (.isub, 1) := by decide +kernel
theorem d_Y_turnBefore_26 : decode b_Y_turnBefore 26 = .ok (.putfield 15, 3) := by decide +kernel
theorem d_Y_turnBefore_29 : decode b_Y_turnBefore 29 = .ok (.aload_n 0, 1) := by decide +kernel
theorem d_Y_turnBefore_30 : decode b_Y_turnBefore 30 = .ok (.sipush (-9999), 3) := by decide +kernel
theorem d_Y_turnBefore_33 : decode b_Y_turnBefore 33 = .ok (.putfield 9, 3) := by decide +kernel
theorem d_Y_turnBefore_36 : decode b_Y_turnBefore 36 = .ok (.aload_n 0, 1) := by decide +kernel
theorem d_Y_turnBefore_37 : decode b_Y_turnBefore 37 = .ok (.iconst 1, 1) := by decide +kernel
theorem d_Y_turnBefore_38 : decode b_Y_turnBefore 38 = .ok (.putfield 18, 3) := by decide +kernel
theorem d_Y_turnBefore_41 : decode b_Y_turnBefore 41 = .ok (.iconst 1, 1) := by decide +kernel
theorem d_Y_turnBefore_42 : decode b_Y_turnBefore 42 = .ok (.ireturn, 1) := by decide +kernel
theorem d_Y_turnAfter_0 : decode b_Y_turnAfter 0 = .ok (.aload_n 0, 1) := by decide +kernel
theorem d_Y_turnAfter_1 : decode b_Y_turnAfter 1 = .ok (.invokevirtual 38, 3) := by decide +kernel
theorem d_Y_turnAfter_4 : decode b_Y_turnAfter 4 = .ok (.ifCond .ne 13, 3) := by decide +kernel
theorem d_Y_turnAfter_7 : decode b_Y_turnAfter 7 = .ok (.aload_n 0, 1) := by decide +kernel
theorem d_Y_turnAfter_8 : decode b_Y_turnAfter 8 = .ok (.getfield 15, 3) := by decide +kernel
theorem d_Y_turnAfter_11 : decode b_Y_turnAfter 11 = .ok (.sipush 9999, 3) := by decide +kernel
theorem d_Y_turnAfter_14 : decode b_Y_turnAfter 14 = .ok (.if_icmp .ne 5, 3) := by decide +kernel
theorem d_Y_turnAfter_17 : decode b_Y_turnAfter 17 = .ok (.iconst 0, 1) := by decide +kernel
theorem d_Y_turnAfter_18 : decode b_Y_turnAfter 18 = .ok (.ireturn, 1) := by decide +kernel
theorem d_Y_turnAfter_19 : decode b_Y_turnAfter 19 = .ok (.aload_n 0, 1) := by decide +kernel
theorem d_Y_turnAfter_20 : decode b_Y_turnAfter 20 = .ok (.aload_n 0, 1) := by decide +kernel
theorem d_Y_turnAfter_21 : decode b_Y_turnAfter 21 = .ok (.getfield 15, 3) := by decide +kernel
theorem d_Y_turnAfter_24 : decode b_Y_turnAfter 24 = .ok (.iconst 1, 1) := by decide +kernel
theorem d_Y_turnAfter_25 : decode b_Y_turnAfter 25 = .ok (.iadd, 1) := by decide +kernel
theorem d_Y_turnAfter_26 : decode b_Y_turnAfter 26 = .ok (.putfield 9, 3) := by decide +kernel
theorem d_Y_turnAfter_29 : decode b_Y_turnAfter 29 = .ok (.aload_n 0, 1) := by decide +kernel
theorem d_Y_turnAfter_30 : decode b_Y_turnAfter 30 = .ok (.sipush 9999, 3) := by decide +kernel
theorem d_Y_turnAfter_33 : decode b_Y_turnAfter 33 = .ok (.putfield 15, 3) := by decide +kernel
theorem d_Y_turnAfter_36 : decode b_Y_turnAfter 36 = .ok (.aload_n 0, 1) := by decide +kernel
theorem d_Y_turnAfter_37 : decode b_Y_turnAfter 37 = .ok (.iconst 1, 1) := by decide +kernel
theorem d_Y_turnAfter_38 : decode b_Y_turnAfter 38 = .ok (.putfield 22, 3) := by decide +kernel
theorem d_Y_turnAfter_41 : decode b_Y_turnAfter 41 = .ok (.iconst 1, 1) := by decide +kernel
theorem d_Y_turnAfter_42 : decode b_Y_turnAfter 42 = .ok (.ireturn, 1) := by decide +kernel
theorem d_Y_takeThird_0 : decode b_Y_takeThird 0 = .ok (.aload_n 0, 1) := by decide +kernel
theorem d_Y_takeThird_1 : decode b_Y_takeThird 1 = .ok (.invokevirtual 34, 3) := by decide +kernel
theorem d_Y_takeThird_4 : decode b_Y_takeThird 4 = .ok (.iconst 3, 1) := by decide +kernel
theorem d_Y_takeThird_5 : decode b_Y_takeThird 5 = .ok (.idiv, 1) := by decide +kernel
theorem d_Y_takeThird_6 : decode b_Y_takeThird 6 = .ok (.istore_n 2, 1) := by decide +kernel
theorem d_Y_takeThird_7 : decode b_Y_takeThird 7 = .ok (.aload_n 0, 1) := by decide +kernel
theorem d_Y_takeThird_8 : decode b_Y_takeThird 8 = .ok (.invokevirtual 38, 3) := by decide +kernel
theorem d_Y_takeThird_11 : decode b_Y_takeThird 11 = .ok (.ifCond .ne 17, 3) := by decide +kernel
theorem d_Y_takeThird_14 : decode b_Y_takeThird 14 = .ok (.iload_n 2, 1) := by decide +kernel
theorem d_Y_takeThird_15 : decode b_Y_takeThird 15 = .ok (.iconst 1, 1) := by decide +kernel
theorem d_Y_takeThird_16 : decode b_Y_takeThird 16 = .ok (.if_icmp .lt 12, 3) := by decide +kernel
theorem d_Y_takeThird_19 : decode b_Y_takeThird 19 = .ok (.iload_n 1, 1) := by decide +kernel
theorem d_Y_takeThird_20 : decode b_Y_takeThird 20 = .ok (.ifCond .lt 8, 3) := by decide +kernel
theorem d_Y_takeThird_23 : decode b_Y_takeThird 23 = .ok (.iload_n 1, 1) := by decide +kernel
theorem d_Y_takeThird_24 : decode b_Y_takeThird 24 = .ok (.iconst 2, 1) := by decide +kernel
theorem d_Y_takeThird_25 : decode b_Y_takeThird 25 = .ok (.if_icmp .le 5, 3) := by decide +kernel
theorem d_Y_takeThird_28 : decode b_Y_takeThird 28 = .ok (.iconst 0, 1) := by decide +kernel
theorem d_Y_takeThird_29 : decode b_Y_takeThird 29 = .ok (.ireturn, 1) := by decide +kernel
theorem d_Y_takeThird_30 : decode b_Y_takeThird 30 = .ok (.aload_n 0, 1) := by decide +kernel
theorem d_Y_takeThird_31 : decode b_Y_takeThird 31 = .ok (.dup, 1) := by decide +kernel
theorem d_Y_takeThird_32 : decode b_Y_takeThird 32 = .ok (.getfield 9, 3) := by decide +kernel
theorem d_Y_takeThird_35 : decode b_Y_takeThird 35 = .ok (.iload_n 1, 1) := by decide +kernel
theorem d_Y_takeThird_36 : decode b_Y_takeThird 36 = .ok (.iload_n 2, 1) := by decide +kernel
theorem d_Y_takeThird_37 : decode b_Y_takeThird 37 = .ok (.imul, 1) := by decide +kernel
theorem d_Y_takeThird_38 : decode b_Y_takeThird 38 = .ok (.iadd, 1) := by decide +kernel
theorem d_Y_takeThird_39 : decode b_Y_takeThird 39 = .ok (.putfield 9, 3) := by decide +kernel
theorem d_Y_takeThird_42 : decode b_Y_takeThird 42 = .ok (.iload_n 1, 1) := by decide +kernel
theorem d_Y_takeThird_43 : decode b_Y_takeThird 43 = .ok (.iconst 2, 1) := by decide +kernel
theorem d_Y_takeThird_44 : decode b_Y_takeThird 44 = .ok (.if_icmp .eq 15, 3) := by decide +kernel
theorem d_Y_takeThird_47 : decode b_Y_takeThird 47 = .ok (.aload_n 0, 1) := by decide +kernel
theorem d_Y_takeThird_48 : decode b_Y_takeThird 48 = .ok (.aload_n 0, 1) := by decide +kernel
theorem d_Y_takeThird_49 : decode b_Y_takeThird 49 = .ok (.getfield 9, 3) := by decide +kernel
theorem d_Y_takeThird_52 : decode b_Y_takeThird 52 = .ok (.iload_n 2, 1) := by decide +kernel
theorem d_Y_takeThird_53 : decode b_Y_takeThird 53 = .ok (.iadd, 1) := by decide +kernel
theorem d_Y_takeThird_54 : decode b_Y_takeThird 54 = .ok (.iconst 1, 1) := by decide +kernel
theorem d_Y_takeThird_55 : decode b_Y_takeThird 55 = .ok (.isub, 1) := by decide +kernel
theorem d_Y_takeThird_56 : decode b_Y_takeThird 56 = .ok (.putfield 15, 3) := by decide +kernel
theorem d_Y_takeThird_59 : decode b_Y_takeThird 59 = .ok (.iconst 1, 1) := by decide +kernel
theorem d_Y_takeThird_60 : decode b_Y_takeThird 60 = .ok (.ireturn, 1) := by decide +kernel
theorem d_Y_length_0 : decode b_Y_length 0 = .ok (.aload_n 0, 1) := by decide +kernel
theorem d_Y_length_1 : decode b_Y_length 1 = .ok (.getfield 15, 3) := by decide +kernel
theorem d_Y_length_4 : decode b_Y_length 4 = .ok (.aload_n 0, 1) := by decide +kernel
theorem d_Y_length_5 : decode b_Y_length 5 = .ok (.getfield 9, 3) := by decide +kernel
theorem d_Y_length_8 : decode b_Y_length 8 = .ok (.isub, 1) := by decide +kernel
theorem d_Y_length_9 : decode b_Y_length 9 = .ok (.iconst 1, 1) := by decide +kernel
theorem d_Y_length_10 : decode b_Y_length 10 = .ok (.iadd, 1) := by decide +kernel
theorem d_Y_length_11 : decode b_Y_length 11 = .ok (.ireturn, 1) := by decide +kernel
theorem d_Y_isOpenAt_0 : decode b_Y_isOpenAt 0 = .ok (.iload_n 1, 1) := by decide +kernel
theorem d_Y_isOpenAt_1 : decode b_Y_isOpenAt 1 = .ok (.ifCond .ne 10, 3) := by decide +kernel
theorem d_Y_isOpenAt_4 : decode b_Y_isOpenAt 4 = .ok (.aload_n 0, 1) := by decide +kernel
theorem d_Y_isOpenAt_5 : decode b_Y_isOpenAt 5 = .ok (.getfield 18, 3) := by decide +kernel
theorem d_Y_isOpenAt_8 : decode b_Y_isOpenAt 8 = .ok (.goto 7, 3) := by decide +kernel
theorem d_Y_isOpenAt_11 : decode b_Y_isOpenAt 11 = .ok (.aload_n 0, 1) := by decide +kernel
theorem d_Y_isOpenAt_12 : decode b_Y_isOpenAt 12 = .ok (.getfield 22, 3) := by decide +kernel
theorem d_Y_isOpenAt_15 : decode b_Y_isOpenAt 15 = .ok (.ireturn, 1) := by decide +kernel
theorem d_Y_growTo_0 : decode b_Y_growTo 0 = .ok (.aload_n 0, 1) := by decide +kernel
theorem d_Y_growTo_1 : decode b_Y_growTo 1 = .ok (.aload_n 0, 1) := by decide +kernel
theorem d_Y_growTo_2 : decode b_Y_growTo 2 = .ok (.getfield 9, 3) := by decide +kernel
theorem d_Y_growTo_5 : decode b_Y_growTo 5 = .ok (.aload_n 1, 1) := by decide +kernel
theorem d_Y_growTo_6 : decode b_Y_growTo 6 = .ok (.getfield 9, 3) := by decide +kernel
theorem d_Y_growTo_9 : decode b_Y_growTo 9 = .ok (.invokestatic 25, 3) := by decide +kernel
theorem d_Y_growTo_12 : decode b_Y_growTo 12 = .ok (.putfield 9, 3) := by decide +kernel
theorem d_Y_growTo_15 : decode b_Y_growTo 15 = .ok (.aload_n 0, 1) := by decide +kernel
theorem d_Y_growTo_16 : decode b_Y_growTo 16 = .ok (.aload_n 0, 1) := by decide +kernel
theorem d_Y_growTo_17 : decode b_Y_growTo 17 = .ok (.getfield 15, 3) := by decide +kernel
theorem d_Y_growTo_20 : decode b_Y_growTo 20 = .ok (.aload_n 1, 1) := by decide +kernel
theorem d_Y_growTo_21 : decode b_Y_growTo 21 = .ok (.getfield 15, 3) := by decide +kernel
theorem d_Y_growTo_24 : decode b_Y_growTo 24 = .ok (.invokestatic 31, 3) := by decide +kernel
theorem d_Y_growTo_27 : decode b_Y_growTo 27 = .ok (.putfield 15, 3) := by decide +kernel
theorem d_Y_growTo_30 : decode b_Y_growTo 30 = .ok (.aload_n 0, 1) := by decide +kernel
theorem d_Y_growTo_31 : decode b_Y_growTo 31 = .ok (.aload_n 0, 1) := by decide +kernel
theorem d_Y_growTo_32 : decode b_Y_growTo 32 = .ok (.getfield 18, 3) := by decide +kernel
theorem d_Y_growTo_35 : decode b_Y_growTo 35 = .ok (.ifCond .ne 10, 3) := by decide +kernel
theorem d_Y_growTo_38 : decode b_Y_growTo 38 = .ok (.aload_n 1, 1) := by decide +kernel
theorem d_Y_growTo_39 : decode b_Y_growTo 39 = .ok (.getfield 18, 3) := by decide +kernel
theorem d_Y_growTo_42 : decode b_Y_growTo 42 = .ok (.ifCond .eq 7, 3) := by decide +kernel
theorem d_Y_growTo_45 : decode b_Y_growTo 45 = .ok (.iconst 1, 1) := by decide +kernel
theorem d_Y_growTo_46 : decode b_Y_growTo 46 = .ok (.goto 4, 3) := by decide +kernel
theorem d_Y_growTo_49 : decode b_Y_growTo 49 = .ok (.iconst 0, 1) := by decide +kernel
theorem d_Y_growTo_50 : decode b_Y_growTo 50 = .ok (.putfield 18, 3) := by decide +kernel
theorem d_Y_growTo_53 : decode b_Y_growTo 53 = .ok (.aload_n 0, 1) := by decide +kernel
theorem d_Y_growTo_54 : decode b_Y_growTo 54 = .ok (.aload_n 0, 1) := by decide +kernel
theorem d_Y_growTo_55 : decode b_Y_growTo 55 = .ok (.getfield 22, 3) := by decide +kernel
theorem d_Y_growTo_58 : decode b_Y_growTo 58 = .ok (.ifCond .ne 10, 3) := by decide +kernel
theorem d_Y_growTo_61 : decode b_Y_growTo 61 = .ok (.aload_n 1, 1) := by decide +kernel
theorem d_Y_growTo_62 : decode b_Y_growTo 62 = .ok (.getfield 22, 3) := by decide +kernel
theorem d_Y_growTo_65 : decode b_Y_growTo 65 = .ok (.ifCond .eq 7, 3) := by decide +kernel
theorem d_Y_growTo_68 : decode b_Y_growTo 68 = .ok (.iconst 1, 1) := by decide +kernel
theorem d_Y_growTo_69 : decode b_Y_growTo 69 = .ok (.goto 4, 3) := by decide +kernel
theorem d_Y_growTo_72 : decode b_Y_growTo 72 = .ok (.iconst 0, 1) := by decide +kernel
theorem d_Y_growTo_73 : decode b_Y_growTo 73 = .ok (.putfield 22, 3) := by decide +kernel
theorem d_Y_growTo_76 : decode b_Y_growTo 76 = .ok (.return_, 1) := by decide +kernel
theorem d_MA_floorDiv_0 : decode b_MA_floorDiv 0 = .ok (.iload_n 0, 1) := by decide +kernel
theorem d_MA_floorDiv_1 : decode b_MA_floorDiv 1 = .ok (.iload_n 1, 1) := by decide +kernel
theorem d_MA_floorDiv_2 : decode b_MA_floorDiv 2 = .ok (.idiv, 1) := by decide +kernel
theorem d_MA_floorDiv_3 : decode b_MA_floorDiv 3 = .ok (.istore_n 2, 1) := by decide +kernel
theorem d_MA_floorDiv_4 : decode b_MA_floorDiv 4 = .ok (.iload_n 0, 1) := by decide +kernel
theorem d_MA_floorDiv_5 : decode b_MA_floorDiv 5 = .ok (.iload_n 1, 1) := by decide +kernel
theorem d_MA_floorDiv_6 : decode b_MA_floorDiv 6 = .ok (.ixor, 1) := by decide +kernel
theorem d_MA_floorDiv_7 : decode b_MA_floorDiv 7 = .ok (.ifCond .ge 14, 3) := by decide +kernel
theorem d_MA_floorDiv_10 : decode b_MA_floorDiv 10 = .ok (.iload_n 2, 1) := by decide +kernel
theorem d_MA_floorDiv_11 : decode b_MA_floorDiv 11 = .ok (.iload_n 1, 1) := by decide +kernel
theorem d_MA_floorDiv_12 : decode b_MA_floorDiv 12 = .ok (.imul, 1) := by decide +kernel
theorem d_MA_floorDiv_13 : decode b_MA_floorDiv 13 = .ok (.iload_n 0, 1) := by decide +kernel
theorem d_MA_floorDiv_14 : decode b_MA_floorDiv 14 = .ok (.if_icmp .eq 7, 3) := by decide +kernel
theorem d_MA_floorDiv_17 : decode b_MA_floorDiv 17 = .ok (.iload_n 2, 1) := by decide +kernel
theorem d_MA_floorDiv_18 : decode b_MA_floorDiv 18 = .ok (.iconst 1, 1) := by decide +kernel
theorem d_MA_floorDiv_19 : decode b_MA_floorDiv 19 = .ok (.isub, 1) := by decide +kernel
theorem d_MA_floorDiv_20 : decode b_MA_floorDiv 20 = .ok (.ireturn, 1) := by decide +kernel
theorem d_MA_floorDiv_21 : decode b_MA_floorDiv 21 = .ok (.iload_n 2, 1) := by decide +kernel
theorem d_MA_floorDiv_22 : decode b_MA_floorDiv 22 = .ok (.ireturn, 1) := by decide +kernel
theorem d_R_addText_0 : decode b_R_addText 0 = .ok (.iconst 0, 1) := by decide +kernel
theorem d_R_addText_1 : decode b_R_addText 1 = .ok (.istore_n 2, 1) := by decide +kernel
theorem d_R_addText_2 : decode b_R_addText 2 = .ok (.iload_n 2, 1) := by decide +kernel
theorem d_R_addText_3 : decode b_R_addText 3 = .ok (.aload_n 1, 1) := by decide +kernel
theorem d_R_addText_4 : decode b_R_addText 4 = .ok (.invokevirtual 19, 3) := by decide +kernel
theorem d_R_addText_7 : decode b_R_addText 7 = .ok (.if_icmp .ge 18, 3) := by decide +kernel
theorem d_R_addText_10 : decode b_R_addText 10 = .ok (.aload_n 0, 1) := by decide +kernel
theorem d_R_addText_11 : decode b_R_addText 11 = .ok (.aload_n 1, 1) := by decide +kernel
theorem d_R_addText_12 : decode b_R_addText 12 = .ok (.iload_n 2, 1) := by decide +kernel
theorem d_R_addText_13 : decode b_R_addText 13 = .ok (.invokevirtual 24, 3) := by decide +kernel
theorem d_R_addText_16 : decode b_R_addText 16 = .ok (.invokevirtual 28, 3) := by decide +kernel
theorem d_R_addText_19 : decode b_R_addText 19 = .ok (.iinc 2 1, 3) := by decide +kernel
theorem d_R_addText_22 : decode b_R_addText 22 = .ok (.goto (-20), 3) := by decide +kernel
theorem d_R_addText_25 : decode b_R_addText 25 = .ok (.return_, 1) := by decide +kernel
theorem d_R_isAheadOf_0 : decode b_R_isAheadOf 0 = .ok (.aload_n 0, 1) := by decide +kernel
theorem d_R_isAheadOf_1 : decode b_R_isAheadOf 1 = .ok (.getfield 15, 3) := by decide +kernel
theorem d_R_isAheadOf_4 : decode b_R_isAheadOf 4 = .ok (.aload_n 1, 1) := by decide +kernel
theorem d_R_isAheadOf_5 : decode b_R_isAheadOf 5 = .ok (.getfield 15, 3) := by decide +kernel
theorem d_R_isAheadOf_8 : decode b_R_isAheadOf 8 = .ok (.if_icmp .eq 20, 3) := by decide +kernel
theorem d_R_isAheadOf_11 : decode b_R_isAheadOf 11 = .ok (.aload_n 0, 1) := by decide +kernel
theorem d_R_isAheadOf_12 : decode b_R_isAheadOf 12 = .ok (.getfield 15, 3) := by decide +kernel
theorem d_R_isAheadOf_15 : decode b_R_isAheadOf 15 = .ok (.aload_n 1, 1) := by decide +kernel
theorem d_R_isAheadOf_16 : decode b_R_isAheadOf 16 = .ok (.getfield 15, 3) := by decide +kernel
theorem d_R_isAheadOf_19 : decode b_R_isAheadOf 19 = .ok (.if_icmp .ge 7, 3) := by decide +kernel
theorem d_R_isAheadOf_22 : decode b_R_isAheadOf 22 = .ok (.iconst 1, 1) := by decide +kernel
theorem d_R_isAheadOf_23 : decode b_R_isAheadOf 23 = .ok (.goto 4, 3) := by decide +kernel
theorem d_R_isAheadOf_26 : decode b_R_isAheadOf 26 = .ok (.iconst 0, 1) := by decide +kernel
theorem d_R_isAheadOf_27 : decode b_R_isAheadOf 27 = .ok (.ireturn, 1) := by decide +kernel
theorem d_R_isAheadOf_28 : decode b_R_isAheadOf 28 = .ok (.iconst 0, 1) := by decide +kernel
theorem d_R_isAheadOf_29 : decode b_R_isAheadOf 29 = .ok (.istore_n 2, 1) := by decide +kernel
theorem d_R_isAheadOf_30 : decode b_R_isAheadOf 30 = .ok (.iload_n 2, 1) := by decide +kernel
theorem d_R_isAheadOf_31 : decode b_R_isAheadOf 31 = .ok (.aload_n 0, 1) := by decide +kernel
theorem d_R_isAheadOf_32 : decode b_R_isAheadOf 32 = .ok (.getfield 15, 3) := by decide +kernel
theorem d_R_isAheadOf_35 : decode b_R_isAheadOf 35 = .ok (.if_icmp .ge 41, 3) := by decide +kernel
theorem d_R_isAheadOf_38 : decode b_R_isAheadOf 38 = .ok (.aload_n 0, 1) := by decide +kernel
theorem d_R_isAheadOf_39 : decode b_R_isAheadOf 39 = .ok (.iload_n 2, 1) := by decide +kernel
theorem d_R_isAheadOf_40 : decode b_R_isAheadOf 40 = .ok (.invokevirtual 32, 3) := by decide +kernel
theorem d_R_isAheadOf_43 : decode b_R_isAheadOf 43 = .ok (.aload_n 1, 1) := by decide +kernel
theorem d_R_isAheadOf_44 : decode b_R_isAheadOf 44 = .ok (.iload_n 2, 1) := by decide +kernel
theorem d_R_isAheadOf_45 : decode b_R_isAheadOf 45 = .ok (.invokevirtual 32, 3) := by decide +kernel
theorem d_R_isAheadOf_48 : decode b_R_isAheadOf 48 = .ok (.if_icmp .eq 22, 3) := by decide +kernel
theorem d_R_isAheadOf_51 : decode b_R_isAheadOf 51 = .ok (.aload_n 0, 1) := by decide +kernel
theorem d_R_isAheadOf_52 : decode b_R_isAheadOf 52 = .ok (.iload_n 2, 1) := by decide +kernel
theorem d_R_isAheadOf_53 : decode b_R_isAheadOf 53 = .ok (.invokevirtual 32, 3) := by decide +kernel
theorem d_R_isAheadOf_56 : decode b_R_isAheadOf 56 = .ok (.aload_n 1, 1) := by decide +kernel
theorem d_R_isAheadOf_57 : decode b_R_isAheadOf 57 = .ok (.iload_n 2, 1) := by decide +kernel
theorem d_R_isAheadOf_58 : decode b_R_isAheadOf 58 = .ok (.invokevirtual 32, 3) := by decide +kernel
theorem d_R_isAheadOf_61 : decode b_R_isAheadOf 61 = .ok (.if_icmp .ge 7, 3) := by decide +kernel
theorem d_R_isAheadOf_64 : decode b_R_isAheadOf 64 = .ok (.iconst 1, 1) := by decide +kernel
theorem d_R_isAheadOf_65 : decode b_R_isAheadOf 65 = .ok (.goto 4, 3) := by decide +kernel
theorem d_R_isAheadOf_68 : decode b_R_isAheadOf 68 = .ok (.iconst 0, 1) := by decide +kernel
theorem d_R_isAheadOf_69 : decode b_R_isAheadOf 69 = .ok (.ireturn, 1) := by decide +kernel
theorem d_R_isAheadOf_70 : decode b_R_isAheadOf 70 = .ok (.iinc 2 1, 3) := by decide +kernel
theorem d_R_isAheadOf_73 : decode b_R_isAheadOf 73 = .ok (.goto (-43), 3) := by decide +kernel
theorem d_R_isAheadOf_76 : decode b_R_isAheadOf 76 = .ok (.iconst 0, 1) := by decide +kernel
theorem d_R_isAheadOf_77 : decode b_R_isAheadOf 77 = .ok (.ireturn, 1) := by decide +kernel
theorem d_MA_floorMod_0 : decode b_MA_floorMod 0 = .ok (.iload_n 0, 1) := by decide +kernel
theorem d_MA_floorMod_1 : decode b_MA_floorMod 1 = .ok (.iload_n 1, 1) := by decide +kernel
theorem d_MA_floorMod_2 : decode b_MA_floorMod 2 = .ok (.irem, 1) := by decide +kernel
theorem d_MA_floorMod_3 : decode b_MA_floorMod 3 = .ok (.istore_n 2, 1) := by decide +kernel
theorem d_MA_floorMod_4 : decode b_MA_floorMod 4 = .ok (.iload_n 0, 1) := by decide +kernel
theorem d_MA_floorMod_5 : decode b_MA_floorMod 5 = .ok (.iload_n 1, 1) := by decide +kernel
theorem d_MA_floorMod_6 : decode b_MA_floorMod 6 = .ok (.ixor, 1) := by decide +kernel
theorem d_MA_floorMod_7 : decode b_MA_floorMod 7 = .ok (.ifCond .ge 11, 3) := by decide +kernel
theorem d_MA_floorMod_10 : decode b_MA_floorMod 10 = .ok (.iload_n 2, 1) := by decide +kernel
theorem d_MA_floorMod_11 : decode b_MA_floorMod 11 = .ok (.ifCond .eq 7, 3) := by decide +kernel
theorem d_MA_floorMod_14 : decode b_MA_floorMod 14 = .ok (.iload_n 2, 1) := by decide +kernel
theorem d_MA_floorMod_15 : decode b_MA_floorMod 15 = .ok (.iload_n 1, 1) := by decide +kernel
theorem d_MA_floorMod_16 : decode b_MA_floorMod 16 = .ok (.iadd, 1) := by decide +kernel
theorem d_MA_floorMod_17 : decode b_MA_floorMod 17 = .ok (.ireturn, 1) := by decide +kernel
theorem d_MA_floorMod_18 : decode b_MA_floorMod 18 = .ok (.iload_n 2, 1) := by decide +kernel
theorem d_MA_floorMod_19 : decode b_MA_floorMod 19 = .ok (.ireturn, 1) := by decide +kernel
