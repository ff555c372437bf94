theorem d_L_unit_0 : decode b_L_unit 0 = .ok (.aload_n 2, 1) := by decide +kernel
theorem d_L_unit_1 : decode b_L_unit 1 = .ok (.iconst 0, 1) := by decide +kernel
theorem d_L_unit_2 : decode b_L_unit 2 = .ok (.aload_n 0, 1) := by decide +kernel
theorem d_L_unit_3 : decode b_L_unit 3 = .ok (.iload_n 1, 1) := by decide +kernel
theorem d_L_unit_4 : decode b_L_unit 4 = .ok (.invokevirtual 7, 3) := by decide +kernel
theorem d_L_unit_7 : decode b_L_unit 7 = .ok (.i2l, 1) := by decide +kernel
theorem d_L_unit_8 : decode b_L_unit 8 = .ok (.lastore, 1) := by decide +kernel
theorem d_L_unit_9 : decode b_L_unit 9 = .ok (.goto 9, 3) := by decide +kernel
theorem d_L_unit_12 : decode b_L_unit 12 = .ok (.astore_n 3, 1) := by decide +kernel
theorem d_L_unit_13 : decode b_L_unit 13 = .ok (.iconst 1, 1) := by decide +kernel
theorem d_L_unit_14 : decode b_L_unit 14 = .ok (.ireturn, 1) := by decide +kernel
theorem d_L_unit_15 : decode b_L_unit 15 = .ok (.astore_n 3, 1) := by decide +kernel
theorem d_L_unit_16 : decode b_L_unit 16 = .ok (.iconst 2, 1) := by decide +kernel
theorem d_L_unit_17 : decode b_L_unit 17 = .ok (.ireturn, 1) := by decide +kernel
theorem d_L_unit_18 : decode b_L_unit 18 = .ok (.iconst 0, 1) := by decide +kernel
theorem d_L_unit_19 : decode b_L_unit 19 = .ok (.ireturn, 1) := by decide +kernel
theorem d_L_name_0 : decode b_L_name 0 = .ok (.aload_n 1, 1) := by decide +kernel
theorem d_L_name_1 : decode b_L_name 1 = .ok (.iconst 0, 1) := by decide +kernel
theorem d_L_name_2 : decode b_L_name 2 = .ok (.aload_n 0, 1) := by decide +kernel
theorem d_L_name_3 : decode b_L_name 3 = .ok (.invokevirtual 17, 3) := by decide +kernel
theorem d_L_name_6 : decode b_L_name 6 = .ok (.i2l, 1) := by decide +kernel
theorem d_L_name_7 : decode b_L_name 7 = .ok (.lastore, 1) := by decide +kernel
theorem d_L_name_8 : decode b_L_name 8 = .ok (.goto 9, 3) := by decide +kernel
theorem d_L_name_11 : decode b_L_name 11 = .ok (.astore_n 2, 1) := by decide +kernel
theorem d_L_name_12 : decode b_L_name 12 = .ok (.iconst 1, 1) := by decide +kernel
theorem d_L_name_13 : decode b_L_name 13 = .ok (.ireturn, 1) := by decide +kernel
theorem d_L_name_14 : decode b_L_name 14 = .ok (.astore_n 2, 1) := by decide +kernel
theorem d_L_name_15 : decode b_L_name 15 = .ok (.iconst 2, 1) := by decide +kernel
theorem d_L_name_16 : decode b_L_name 16 = .ok (.ireturn, 1) := by decide +kernel
theorem d_L_name_17 : decode b_L_name 17 = .ok (.iconst 0, 1) := by decide +kernel
theorem d_L_name_18 : decode b_L_name 18 = .ok (.ireturn, 1) := by decide +kernel
theorem d_L_reign_0 : decode b_L_reign 0 = .ok (.aload 4, 2) := by decide +kernel
theorem d_L_reign_2 : decode b_L_reign 2 = .ok (.iconst 0, 1) := by decide +kernel
theorem d_L_reign_3 : decode b_L_reign 3 = .ok (.aload_n 0, 1) := by decide +kernel
theorem d_L_reign_4 : decode b_L_reign 4 = .ok (.iload_n 1, 1) := by decide +kernel
theorem d_L_reign_5 : decode b_L_reign 5 = .ok (.iload_n 2, 1) := by decide +kernel
theorem d_L_reign_6 : decode b_L_reign 6 = .ok (.iload_n 3, 1) := by decide +kernel
theorem d_L_reign_7 : decode b_L_reign 7 = .ok (.invokevirtual 21, 3) := by decide +kernel
theorem d_L_reign_10 : decode b_L_reign 10 = .ok (.ifCond .eq 7, 3) := by decide +kernel
theorem d_L_reign_13 : decode b_L_reign 13 = .ok (.lconst 1, 1) := by decide +kernel
theorem d_L_reign_14 : decode b_L_reign 14 = .ok (.goto 4, 3) := by decide +kernel
theorem d_L_reign_17 : decode b_L_reign 17 = .ok (.lconst 0, 1) := by decide +kernel
theorem d_L_reign_18 : decode b_L_reign 18 = .ok (.lastore, 1) := by decide +kernel
theorem d_L_reign_19 : decode b_L_reign 19 = .ok (.goto 11, 3) := by decide +kernel
theorem d_L_reign_22 : decode b_L_reign 22 = .ok (.astore 5, 2) := by decide +kernel
theorem d_L_reign_24 : decode b_L_reign 24 = .ok (.iconst 1, 1) := by decide +kernel
theorem d_L_reign_25 : decode b_L_reign 25 = .ok (.ireturn, 1) := by decide +kernel
theorem d_L_reign_26 : decode b_L_reign 26 = .ok (.astore 5, 2) := by decide +kernel
theorem d_L_reign_28 : decode b_L_reign 28 = .ok (.iconst 2, 1) := by decide +kernel
theorem d_L_reign_29 : decode b_L_reign 29 = .ok (.ireturn, 1) := by decide +kernel
theorem d_L_reign_30 : decode b_L_reign 30 = .ok (.iconst 0, 1) := by decide +kernel
theorem d_L_reign_31 : decode b_L_reign 31 = .ok (.ireturn, 1) := by decide +kernel
theorem d_L_phase_0 : decode b_L_phase 0 = .ok (.aload 6, 2) := by decide +kernel
theorem d_L_phase_2 : decode b_L_phase 2 = .ok (.iconst 0, 1) := by decide +kernel
theorem d_L_phase_3 : decode b_L_phase 3 = .ok (.aload_n 0, 1) := by decide +kernel
theorem d_L_phase_4 : decode b_L_phase 4 = .ok (.iload_n 1, 1) := by decide +kernel
theorem d_L_phase_5 : decode b_L_phase 5 = .ok (.iload_n 2, 1) := by decide +kernel
theorem d_L_phase_6 : decode b_L_phase 6 = .ok (.iload_n 3, 1) := by decide +kernel
theorem d_L_phase_7 : decode b_L_phase 7 = .ok (.iload 4, 2) := by decide +kernel
theorem d_L_phase_9 : decode b_L_phase 9 = .ok (.iload 5, 2) := by decide +kernel
theorem d_L_phase_11 : decode b_L_phase 11 = .ok (.invokevirtual 27, 3) := by decide +kernel
theorem d_L_phase_14 : decode b_L_phase 14 = .ok (.i2l, 1) := by decide +kernel
theorem d_L_phase_15 : decode b_L_phase 15 = .ok (.lastore, 1) := by decide +kernel
theorem d_L_phase_16 : decode b_L_phase 16 = .ok (.goto 15, 3) := by decide +kernel
theorem d_L_phase_19 : decode b_L_phase 19 = .ok (.astore 7, 2) := by decide +kernel
theorem d_L_phase_21 : decode b_L_phase 21 = .ok (.iconst 1, 1) := by decide +kernel
theorem d_L_phase_22 : decode b_L_phase 22 = .ok (.ireturn, 1) := by decide +kernel
theorem d_L_phase_23 : decode b_L_phase 23 = .ok (.astore 7, 2) := by decide +kernel
theorem d_L_phase_25 : decode b_L_phase 25 = .ok (.iconst 2, 1) := by decide +kernel
theorem d_L_phase_26 : decode b_L_phase 26 = .ok (.ireturn, 1) := by decide +kernel
theorem d_L_phase_27 : decode b_L_phase 27 = .ok (.astore 7, 2) := by decide +kernel
theorem d_L_phase_29 : decode b_L_phase 29 = .ok (.iconst 3, 1) := by decide +kernel
theorem d_L_phase_30 : decode b_L_phase 30 = .ok (.ireturn, 1) := by decide +kernel
theorem d_L_phase_31 : decode b_L_phase 31 = .ok (.iconst 0, 1) := by decide +kernel
theorem d_L_phase_32 : decode b_L_phase 32 = .ok (.ireturn, 1) := by decide +kernel
theorem d_L_width_0 : decode b_L_width 0 = .ok (.aload_n 2, 1) := by decide +kernel
theorem d_L_width_1 : decode b_L_width 1 = .ok (.iconst 0, 1) := by decide +kernel
theorem d_L_width_2 : decode b_L_width 2 = .ok (.aload_n 0, 1) := by decide +kernel
theorem d_L_width_3 : decode b_L_width 3 = .ok (.iload_n 1, 1) := by decide +kernel
theorem d_L_width_4 : decode b_L_width 4 = .ok (.invokevirtual 31, 3) := by decide +kernel
theorem d_L_width_7 : decode b_L_width 7 = .ok (.i2l, 1) := by decide +kernel
theorem d_L_width_8 : decode b_L_width 8 = .ok (.lastore, 1) := by decide +kernel
theorem d_L_width_9 : decode b_L_width 9 = .ok (.goto 6, 3) := by decide +kernel
theorem d_L_width_12 : decode b_L_width 12 = .ok (.astore_n 3, 1) := by decide +kernel
theorem d_L_width_13 : decode b_L_width 13 = .ok (.iconst 1, 1) := by decide +kernel
theorem d_L_width_14 : decode b_L_width 14 = .ok (.ireturn, 1) := by decide +kernel
theorem d_L_width_15 : decode b_L_width 15 = .ok (.iconst 0, 1) := by decide +kernel
theorem d_L_width_16 : decode b_L_width 16 = .ok (.ireturn, 1) := by decide +kernel
theorem d_L_read_0 : decode b_L_read 0 = .ok (.aload_n 3, 1) := by decide +kernel
theorem d_L_read_1 : decode b_L_read 1 = .ok (.iconst 0, 1) := by decide +kernel
theorem d_L_read_2 : decode b_L_read 2 = .ok (.aload_n 0, 1) := by decide +kernel
theorem d_L_read_3 : decode b_L_read 3 = .ok (.iload_n 1, 1) := by decide +kernel
theorem d_L_read_4 : decode b_L_read 4 = .ok (.iload_n 2, 1) := by decide +kernel
theorem d_L_read_5 : decode b_L_read 5 = .ok (.invokevirtual 34, 3) := by decide +kernel
theorem d_L_read_8 : decode b_L_read 8 = .ok (.i2l, 1) := by decide +kernel
theorem d_L_read_9 : decode b_L_read 9 = .ok (.lastore, 1) := by decide +kernel
theorem d_L_read_10 : decode b_L_read 10 = .ok (.goto 15, 3) := by decide +kernel
theorem d_L_read_13 : decode b_L_read 13 = .ok (.astore 4, 2) := by decide +kernel
theorem d_L_read_15 : decode b_L_read 15 = .ok (.iconst 1, 1) := by decide +kernel
theorem d_L_read_16 : decode b_L_read 16 = .ok (.ireturn, 1) := by decide +kernel
theorem d_L_read_17 : decode b_L_read 17 = .ok (.astore 4, 2) := by decide +kernel
theorem d_L_read_19 : decode b_L_read 19 = .ok (.iconst 2, 1) := by decide +kernel
theorem d_L_read_20 : decode b_L_read 20 = .ok (.ireturn, 1) := by decide +kernel
theorem d_L_read_21 : decode b_L_read 21 = .ok (.astore 4, 2) := by decide +kernel
theorem d_L_read_23 : decode b_L_read 23 = .ok (.iconst 3, 1) := by decide +kernel
theorem d_L_read_24 : decode b_L_read 24 = .ok (.ireturn, 1) := by decide +kernel
theorem d_L_read_25 : decode b_L_read 25 = .ok (.iconst 0, 1) := by decide +kernel
theorem d_L_read_26 : decode b_L_read 26 = .ok (.ireturn, 1) := by decide +kernel
theorem d_L_span_0 : decode b_L_span 0 = .ok (.aload_n 3, 1) := by decide +kernel
theorem d_L_span_1 : decode b_L_span 1 = .ok (.iconst 0, 1) := by decide +kernel
theorem d_L_span_2 : decode b_L_span 2 = .ok (.aload_n 0, 1) := by decide +kernel
theorem d_L_span_3 : decode b_L_span 3 = .ok (.iload_n 1, 1) := by decide +kernel
theorem d_L_span_4 : decode b_L_span 4 = .ok (.iload_n 2, 1) := by decide +kernel
theorem d_L_span_5 : decode b_L_span 5 = .ok (.invokevirtual 38, 3) := by decide +kernel
theorem d_L_span_8 : decode b_L_span 8 = .ok (.i2l, 1) := by decide +kernel
theorem d_L_span_9 : decode b_L_span 9 = .ok (.lastore, 1) := by decide +kernel
theorem d_L_span_10 : decode b_L_span 10 = .ok (.goto 11, 3) := by decide +kernel
theorem d_L_span_13 : decode b_L_span 13 = .ok (.astore 4, 2) := by decide +kernel
theorem d_L_span_15 : decode b_L_span 15 = .ok (.iconst 1, 1) := by decide +kernel
theorem d_L_span_16 : decode b_L_span 16 = .ok (.ireturn, 1) := by decide +kernel
theorem d_L_span_17 : decode b_L_span 17 = .ok (.astore 4, 2) := by decide +kernel
theorem d_L_span_19 : decode b_L_span 19 = .ok (.iconst 2, 1) := by decide +kernel
theorem d_L_span_20 : decode b_L_span 20 = .ok (.ireturn, 1) := by decide +kernel
theorem d_L_span_21 : decode b_L_span 21 = .ok (.iconst 0, 1) := by decide +kernel
theorem d_L_span_22 : decode b_L_span 22 = .ok (.ireturn, 1) := by decide +kernel
theorem d_L_end_0 : decode b_L_end 0 = .ok (.aload_n 3, 1) := by decide +kernel
theorem d_L_end_1 : decode b_L_end 1 = .ok (.iconst 0, 1) := by decide +kernel
theorem d_L_end_2 : decode b_L_end 2 = .ok (.aload_n 0, 1) := by decide +kernel
theorem d_L_end_3 : decode b_L_end 3 = .ok (.iload_n 1, 1) := by decide +kernel
theorem d_L_end_4 : decode b_L_end 4 = .ok (.iload_n 2, 1) := by decide +kernel
theorem d_L_end_5 : decode b_L_end 5 = .ok (.invokevirtual 41, 3) := by decide +kernel
theorem d_L_end_8 : decode b_L_end 8 = .ok (.i2l, 1) := by decide +kernel
theorem d_L_end_9 : decode b_L_end 9 = .ok (.lastore, 1) := by decide +kernel
theorem d_L_end_10 : decode b_L_end 10 = .ok (.goto 11, 3) := by decide +kernel
theorem d_L_end_13 : decode b_L_end 13 = .ok (.astore 4, 2) := by decide +kernel
theorem d_L_end_15 : decode b_L_end 15 = .ok (.iconst 1, 1) := by decide +kernel
theorem d_L_end_16 : decode b_L_end 16 = .ok (.ireturn, 1) := by decide +kernel
theorem d_L_end_17 : decode b_L_end 17 = .ok (.astore 4, 2) := by decide +kernel
theorem d_L_end_19 : decode b_L_end 19 = .ok (.iconst 2, 1) := by decide +kernel
theorem d_L_end_20 : decode b_L_end 20 = .ok (.ireturn, 1) := by decide +kernel
theorem d_L_end_21 : decode b_L_end 21 = .ok (.iconst 0, 1) := by decide +kernel
theorem d_L_end_22 : decode b_L_end 22 = .ok (.ireturn, 1) := by decide +kernel
theorem d_L_open_0 : decode b_L_open 0 = .ok (.aload_n 3, 1) := by decide +kernel
theorem d_L_open_1 : decode b_L_open 1 = .ok (.iconst 0, 1) := by decide +kernel
theorem d_L_open_2 : decode b_L_open 2 = .ok (.aload_n 0, 1) := by decide +kernel
theorem d_L_open_3 : decode b_L_open 3 = .ok (.iload_n 1, 1) := by decide +kernel
theorem d_L_open_4 : decode b_L_open 4 = .ok (.iload_n 2, 1) := by decide +kernel
theorem d_L_open_5 : decode b_L_open 5 = .ok (.invokevirtual 44, 3) := by decide +kernel
theorem d_L_open_8 : decode b_L_open 8 = .ok (.ifCond .eq 7, 3) := by decide +kernel
theorem d_L_open_11 : decode b_L_open 11 = .ok (.lconst 1, 1) := by decide +kernel
theorem d_L_open_12 : decode b_L_open 12 = .ok (.goto 4, 3) := by decide +kernel
theorem d_L_open_15 : decode b_L_open 15 = .ok (.lconst 0, 1) := by decide +kernel
theorem d_L_open_16 : decode b_L_open 16 = .ok (.lastore, 1) := by decide +kernel
theorem d_L_open_17 : decode b_L_open 17 = .ok (.goto 7, 3) := by decide +kernel
theorem d_L_open_20 : decode b_L_open 20 = .ok (.astore 4, 2) := by decide +kernel
theorem d_L_open_22 : decode b_L_open 22 = .ok (.iconst 1, 1) := by decide +kernel
theorem d_L_open_23 : decode b_L_open 23 = .ok (.ireturn, 1) := by decide +kernel
theorem d_L_open_24 : decode b_L_open 24 = .ok (.iconst 0, 1) := by decide +kernel
theorem d_L_open_25 : decode b_L_open 25 = .ok (.ireturn, 1) := by decide +kernel
theorem d_L_join_0 : decode b_L_join 0 = .ok (.aload_n 3, 1) := by decide +kernel
theorem d_L_join_1 : decode b_L_join 1 = .ok (.iconst 0, 1) := by decide +kernel
theorem d_L_join_2 : decode b_L_join 2 = .ok (.aload_n 0, 1) := by decide +kernel
theorem d_L_join_3 : decode b_L_join 3 = .ok (.iload_n 1, 1) := by decide +kernel
theorem d_L_join_4 : decode b_L_join 4 = .ok (.iload_n 2, 1) := by decide +kernel
theorem d_L_join_5 : decode b_L_join 5 = .ok (.invokevirtual 48, 3) := by decide +kernel
theorem d_L_join_8 : decode b_L_join 8 = .ok (.i2l, 1) := by decide +kernel
theorem d_L_join_9 : decode b_L_join 9 = .ok (.lastore, 1) := by decide +kernel
theorem d_L_join_10 : decode b_L_join 10 = .ok (.goto 11, 3) := by decide +kernel
theorem d_L_join_13 : decode b_L_join 13 = .ok (.astore 4, 2) := by decide +kernel
theorem d_L_join_15 : decode b_L_join 15 = .ok (.iconst 1, 1) := by decide +kernel
theorem d_L_join_16 : decode b_L_join 16 = .ok (.ireturn, 1) := by decide +kernel
theorem d_L_join_17 : decode b_L_join 17 = .ok (.astore 4, 2) := by decide +kernel
theorem d_L_join_19 : decode b_L_join 19 = .ok (.iconst 2, 1) := by decide +kernel
theorem d_L_join_20 : decode b_L_join 20 = .ok (.ireturn, 1) := by decide +kernel
theorem d_L_join_21 : decode b_L_join 21 = .ok (.iconst 0, 1) := by decide +kernel
theorem d_L_join_22 : decode b_L_join 22 = .ok (.ireturn, 1) := by decide +kernel
theorem d_L_relations_0 : decode b_L_relations 0 = .ok (.aload_n 3, 1) := by decide +kernel
theorem d_L_relations_1 : decode b_L_relations 1 = .ok (.iconst 0, 1) := by decide +kernel
theorem d_L_relations_2 : decode b_L_relations 2 = .ok (.aload_n 0, 1) := by decide +kernel
theorem d_L_relations_3 : decode b_L_relations 3 = .ok (.iload_n 1, 1) := by decide +kernel
theorem d_L_relations_4 : decode b_L_relations 4 = .ok (.iload_n 2, 1) := by decide +kernel
theorem d_L_relations_5 : decode b_L_relations 5 = .ok (.invokevirtual 51, 3) := by decide +kernel
theorem d_L_relations_8 : decode b_L_relations 8 = .ok (.i2l, 1) := by decide +kernel
theorem d_L_relations_9 : decode b_L_relations 9 = .ok (.lastore, 1) := by decide +kernel
theorem d_L_relations_10 : decode b_L_relations 10 = .ok (.goto 7, 3) := by decide +kernel
theorem d_L_relations_13 : decode b_L_relations 13 = .ok (.astore 4, 2) := by decide +kernel
theorem d_L_relations_15 : decode b_L_relations 15 = .ok (.iconst 1, 1) := by decide +kernel
theorem d_L_relations_16 : decode b_L_relations 16 = .ok (.ireturn, 1) := by decide +kernel
theorem d_L_relations_17 : decode b_L_relations 17 = .ok (.iconst 0, 1) := by decide +kernel
theorem d_L_relations_18 : decode b_L_relations 18 = .ok (.ireturn, 1) := by decide +kernel
theorem d_L_relation_0 : decode b_L_relation 0 = .ok (.aload_n 3, 1) := by decide +kernel
theorem d_L_relation_1 : decode b_L_relation 1 = .ok (.iconst 0, 1) := by decide +kernel
theorem d_L_relation_2 : decode b_L_relation 2 = .ok (.aload_n 0, 1) := by decide +kernel
theorem d_L_relation_3 : decode b_L_relation 3 = .ok (.iload_n 1, 1) := by decide +kernel
theorem d_L_relation_4 : decode b_L_relation 4 = .ok (.iload_n 2, 1) := by decide +kernel
theorem d_L_relation_5 : decode b_L_relation 5 = .ok (.invokevirtual 54, 3) := by decide +kernel
theorem d_L_relation_8 : decode b_L_relation 8 = .ok (.i2l, 1) := by decide +kernel
theorem d_L_relation_9 : decode b_L_relation 9 = .ok (.lastore, 1) := by decide +kernel
theorem d_L_relation_10 : decode b_L_relation 10 = .ok (.goto 11, 3) := by decide +kernel
theorem d_L_relation_13 : decode b_L_relation 13 = .ok (.astore 4, 2) := by decide +kernel
theorem d_L_relation_15 : decode b_L_relation 15 = .ok (.iconst 1, 1) := by decide +kernel
theorem d_L_relation_16 : decode b_L_relation 16 = .ok (.ireturn, 1) := by decide +kernel
theorem d_L_relation_17 : decode b_L_relation 17 = .ok (.astore 4, 2) := by decide +kernel
theorem d_L_relation_19 : decode b_L_relation 19 = .ok (.iconst 2, 1) := by decide +kernel
theorem d_L_relation_20 : decode b_L_relation 20 = .ok (.ireturn, 1) := by decide +kernel
theorem d_L_relation_21 : decode b_L_relation 21 = .ok (.iconst 0, 1) := by decide +kernel
theorem d_L_relation_22 : decode b_L_relation 22 = .ok (.ireturn, 1) := by decide +kernel
theorem d_L_word_0 : decode b_L_word 0 = .ok (.aload_n 3, 1) := by decide +kernel
theorem d_L_word_1 : decode b_L_word 1 = .ok (.iconst 0, 1) := by decide +kernel
theorem d_L_word_2 : decode b_L_word 2 = .ok (.aload_n 0, 1) := by decide +kernel
theorem d_L_word_3 : decode b_L_word 3 = .ok (.iload_n 1, 1) := by decide +kernel
theorem d_L_word_4 : decode b_L_word 4 = .ok (.iload_n 2, 1) := by decide +kernel
theorem d_L_word_5 : decode b_L_word 5 = .ok (.invokevirtual 57, 3) := by decide +kernel
theorem d_L_word_8 : decode b_L_word 8 = .ok (.i2l, 1) := by decide +kernel
theorem d_L_word_9 : decode b_L_word 9 = .ok (.lastore, 1) := by decide +kernel
theorem d_L_word_10 : decode b_L_word 10 = .ok (.goto 7, 3) := by decide +kernel
theorem d_L_word_13 : decode b_L_word 13 = .ok (.astore 4, 2) := by decide +kernel
theorem d_L_word_15 : decode b_L_word 15 = .ok (.iconst 1, 1) := by decide +kernel
theorem d_L_word_16 : decode b_L_word 16 = .ok (.ireturn, 1) := by decide +kernel
theorem d_L_word_17 : decode b_L_word 17 = .ok (.iconst 0, 1) := by decide +kernel
theorem d_L_word_18 : decode b_L_word 18 = .ok (.ireturn, 1) := by decide +kernel
theorem d_L_feast_0 : decode b_L_feast 0 = .ok (.aload 5, 2) := by decide +kernel
theorem d_L_feast_2 : decode b_L_feast 2 = .ok (.iconst 0, 1) := by decide +kernel
theorem d_L_feast_3 : decode b_L_feast 3 = .ok (.aload_n 0, 1) := by decide +kernel
theorem d_L_feast_4 : decode b_L_feast 4 = .ok (.iload_n 1, 1) := by decide +kernel
theorem d_L_feast_5 : decode b_L_feast 5 = .ok (.iload_n 2, 1) := by decide +kernel
theorem d_L_feast_6 : decode b_L_feast 6 = .ok (.iload_n 3, 1) := by decide +kernel
theorem d_L_feast_7 : decode b_L_feast 7 = .ok (.iload 4, 2) := by decide +kernel
theorem d_L_feast_9 : decode b_L_feast 9 = .ok (.invokevirtual 60, 3) := by decide +kernel
theorem d_L_feast_12 : decode b_L_feast 12 = .ok (.i2l, 1) := by decide +kernel
theorem d_L_feast_13 : decode b_L_feast 13 = .ok (.lastore, 1) := by decide +kernel
theorem d_L_feast_14 : decode b_L_feast 14 = .ok (.goto 7, 3) := by decide +kernel
theorem d_L_feast_17 : decode b_L_feast 17 = .ok (.astore 6, 2) := by decide +kernel
theorem d_L_feast_19 : decode b_L_feast 19 = .ok (.iconst 1, 1) := by decide +kernel
theorem d_L_feast_20 : decode b_L_feast 20 = .ok (.ireturn, 1) := by decide +kernel
theorem d_L_feast_21 : decode b_L_feast 21 = .ok (.iconst 0, 1) := by decide +kernel
theorem d_L_feast_22 : decode b_L_feast 22 = .ok (.ireturn, 1) := by decide +kernel
theorem d_L_regnal_0 : decode b_L_regnal 0 = .ok (.aload_n 3, 1) := by decide +kernel
theorem d_L_regnal_1 : decode b_L_regnal 1 = .ok (.iconst 0, 1) := by decide +kernel
theorem d_L_regnal_2 : decode b_L_regnal 2 = .ok (.aload_n 0, 1) := by decide +kernel
theorem d_L_regnal_3 : decode b_L_regnal 3 = .ok (.iload_n 1, 1) := by decide +kernel
theorem d_L_regnal_4 : decode b_L_regnal 4 = .ok (.iload_n 2, 1) := by decide +kernel
theorem d_L_regnal_5 : decode b_L_regnal 5 = .ok (.invokevirtual 64, 3) := by decide +kernel
theorem d_L_regnal_8 : decode b_L_regnal 8 = .ok (.i2l, 1) := by decide +kernel
theorem d_L_regnal_9 : decode b_L_regnal 9 = .ok (.lastore, 1) := by decide +kernel
theorem d_L_regnal_10 : decode b_L_regnal 10 = .ok (.goto 15, 3) := by decide +kernel
theorem d_L_regnal_13 : decode b_L_regnal 13 = .ok (.astore 4, 2) := by decide +kernel
theorem d_L_regnal_15 : decode b_L_regnal 15 = .ok (.iconst 1, 1) := by decide +kernel
theorem d_L_regnal_16 : decode b_L_regnal 16 = .ok (.ireturn, 1) := by decide +kernel
theorem d_L_regnal_17 : decode b_L_regnal 17 = .ok (.astore 4, 2) := by decide +kernel
theorem d_L_regnal_19 : decode b_L_regnal 19 = .ok (.iconst 2, 1) := by decide +kernel
theorem d_L_regnal_20 : decode b_L_regnal 20 = .ok (.ireturn, 1) := by decide +kernel
theorem d_L_regnal_21 : decode b_L_regnal 21 = .ok (.astore 4, 2) := by decide +kernel
theorem d_L_regnal_23 : decode b_L_regnal 23 = .ok (.iconst 3, 1) := by decide +kernel
theorem d_L_regnal_24 : decode b_L_regnal 24 = .ok (.ireturn, 1) := by decide +kernel
theorem d_L_regnal_25 : decode b_L_regnal 25 = .ok (.iconst 0, 1) := by decide +kernel
theorem d_L_regnal_26 : decode b_L_regnal 26 = .ok (.ireturn, 1) := by decide +kernel
theorem d_L_count_0 : decode b_L_count 0 = .ok (.aload_n 2, 1) := by decide +kernel
theorem d_L_count_1 : decode b_L_count 1 = .ok (.iconst 0, 1) := by decide +kernel
theorem d_L_count_2 : decode b_L_count 2 = .ok (.aload_n 0, 1) := by decide +kernel
theorem d_L_count_3 : decode b_L_count 3 = .ok (.iload_n 1, 1) := by decide +kernel
theorem d_L_count_4 : decode b_L_count 4 = .ok (.invokevirtual 67, 3) := by decide +kernel
theorem d_L_count_7 : decode b_L_count 7 = .ok (.i2l, 1) := by decide +kernel
theorem d_L_count_8 : decode b_L_count 8 = .ok (.lastore, 1) := by decide +kernel
theorem d_L_count_9 : decode b_L_count 9 = .ok (.goto 6, 3) := by decide +kernel
theorem d_L_count_12 : decode b_L_count 12 = .ok (.astore_n 3, 1) := by decide +kernel
theorem d_L_count_13 : decode b_L_count 13 = .ok (.iconst 1, 1) := by decide +kernel
theorem d_L_count_14 : decode b_L_count 14 = .ok (.ireturn, 1) := by decide +kernel
theorem d_L_count_15 : decode b_L_count 15 = .ok (.iconst 0, 1) := by decide +kernel
theorem d_L_count_16 : decode b_L_count 16 = .ok (.ireturn, 1) := by decide +kernel
theorem d_L_law_0 : decode b_L_law 0 = .ok (.new 8, 3) := by decide +kernel
theorem d_L_law_3 : decode b_L_law 3 = .ok (.dup, 1) := by decide +kernel
theorem d_L_law_4 : decode b_L_law 4 = .ok (.invokespecial 70, 3) := by decide +kernel
theorem d_L_law_7 : decode b_L_law 7 = .ok (.astore_n 1, 1) := by decide +kernel
theorem d_L_law_8 : decode b_L_law 8 = .ok (.new 71, 3) := by decide +kernel
theorem d_L_law_11 : decode b_L_law 11 = .ok (.dup, 1) := by decide +kernel
theorem d_L_law_12 : decode b_L_law 12 = .ok (.invokespecial 73, 3) := by decide +kernel
theorem d_L_law_15 : decode b_L_law 15 = .ok (.astore_n 2, 1) := by decide +kernel
theorem d_L_law_16 : decode b_L_law 16 = .ok (.iconst 1, 1) := by decide +kernel
theorem d_L_law_17 : decode b_L_law 17 = .ok (.newarray .long, 2) := by decide +kernel
theorem d_L_law_19 : decode b_L_law 19 = .ok (.astore_n 3, 1) := by decide +kernel
theorem d_L_law_20 : decode b_L_law 20 = .ok (.iconst 0, 1) := by decide +kernel
theorem d_L_law_21 : decode b_L_law 21 = .ok (.istore 4, 2) := by decide +kernel
theorem d_L_law_23 : decode b_L_law 23 = .ok (.iload 4, 2) := by decide +kernel
theorem d_L_law_25 : decode b_L_law 25 = .ok (.aload_n 0, 1) := by decide +kernel
theorem d_L_law_26 : decode b_L_law 26 = .ok (.arraylength, 1) := by decide +kernel
theorem d_L_law_27 : decode b_L_law 27 = .ok (.bipush 6, 2) := by decide +kernel
theorem d_L_law_29 : decode b_L_law 29 = .ok (.isub, 1) := by decide +kernel
theorem d_L_law_30 : decode b_L_law 30 = .ok (.if_icmp .gt 1244, 3) := by decide +kernel
theorem d_L_law_33 : decode b_L_law 33 = .ok (.aload_n 0, 1) := by decide +kernel
theorem d_L_law_34 : decode b_L_law 34 = .ok (.iload 4, 2) := by decide +kernel
theorem d_L_law_36 : decode b_L_law 36 = .ok (.iaload, 1) := by decide +kernel
theorem d_L_law_37 : decode b_L_law 37 = .ok (.bipush 31, 2) := by decide +kernel
theorem d_L_law_39 : decode b_L_law 39 = .ok (.iand, 1) := by decide +kernel
theorem d_L_law_40 : decode b_L_law 40 = .ok (.tableswitch 1228 0 17 #[88, 144, 157, 201, 288, 392, 448, 516, 584, 652, 727, 795, 863, 931, 999, 1012, 1104, 1172], 88) := by decide +kernel
theorem d_L_law_128 : decode b_L_law 128 = .ok (.aload_n 1, 1) := by decide +kernel
theorem d_L_law_129 : decode b_L_law 129 = .ok (.aload_n 0, 1) := by decide +kernel
theorem d_L_law_130 : decode b_L_law 130 = .ok (.iload 4, 2) := by decide +kernel
theorem d_L_law_132 : decode b_L_law 132 = .ok (.iconst 1, 1) := by decide +kernel
theorem d_L_law_133 : decode b_L_law 133 = .ok (.iadd, 1) := by decide +kernel
theorem d_L_law_134 : decode b_L_law 134 = .ok (.iaload, 1) := by decide +kernel
theorem d_L_law_135 : decode b_L_law 135 = .ok (.aload_n 3, 1) := by decide +kernel
theorem d_L_law_136 : decode b_L_law 136 = .ok (.invokestatic 74, 3) := by decide +kernel
theorem d_L_law_139 : decode b_L_law 139 = .ok (.istore 5, 2) := by decide +kernel
theorem d_L_law_141 : decode b_L_law 141 = .ok (.aload_n 2, 1) := by decide +kernel
theorem d_L_law_142 : decode b_L_law 142 = .ok (.aload_n 0, 1) := by decide +kernel
theorem d_L_law_143 : decode b_L_law 143 = .ok (.iload 4, 2) := by decide +kernel
theorem d_L_law_145 : decode b_L_law 145 = .ok (.iconst 1, 1) := by decide +kernel
theorem d_L_law_146 : decode b_L_law 146 = .ok (.iadd, 1) := by decide +kernel
theorem d_L_law_147 : decode b_L_law 147 = .ok (.iaload, 1) := by decide +kernel
theorem d_L_law_148 : decode b_L_law 148 = .ok (.invokevirtual 79, 3) := by decide +kernel
theorem d_L_law_151 : decode b_L_law 151 = .ok (.istore 6, 2) := by decide +kernel
theorem d_L_law_153 : decode b_L_law 153 = .ok (.aload_n 2, 1) := by decide +kernel
theorem d_L_law_154 : decode b_L_law 154 = .ok (.invokevirtual 80, 3) := by decide +kernel
theorem d_L_law_157 : decode b_L_law 157 = .ok (.iload 5, 2) := by decide +kernel
theorem d_L_law_159 : decode b_L_law 159 = .ok (.if_icmp .eq 5, 3) := by decide +kernel
theorem d_L_law_162 : decode b_L_law 162 = .ok (.iconst 0, 1) := by decide +kernel
theorem d_L_law_163 : decode b_L_law 163 = .ok (.ireturn, 1) := by decide +kernel
theorem d_L_law_164 : decode b_L_law 164 = .ok (.iload 5, 2) := by decide +kernel
theorem d_L_law_166 : decode b_L_law 166 = .ok (.ifCond .ne 15, 3) := by decide +kernel
theorem d_L_law_169 : decode b_L_law 169 = .ok (.aload_n 3, 1) := by decide +kernel
theorem d_L_law_170 : decode b_L_law 170 = .ok (.iconst 0, 1) := by decide +kernel
theorem d_L_law_171 : decode b_L_law 171 = .ok (.laload, 1) := by decide +kernel
theorem d_L_law_172 : decode b_L_law 172 = .ok (.iload 6, 2) := by decide +kernel
theorem d_L_law_174 : decode b_L_law 174 = .ok (.i2l, 1) := by decide +kernel
theorem d_L_law_175 : decode b_L_law 175 = .ok (.lcmp, 1) := by decide +kernel
theorem d_L_law_176 : decode b_L_law 176 = .ok (.ifCond .eq 5, 3) := by decide +kernel
theorem d_L_law_179 : decode b_L_law 179 = .ok (.iconst 0, 1) := by decide +kernel
theorem d_L_law_180 : decode b_L_law 180 = .ok (.ireturn, 1) := by decide +kernel
theorem d_L_law_181 : decode b_L_law 181 = .ok (.goto 1087, 3) := by decide +kernel
theorem d_L_law_184 : decode b_L_law 184 = .ok (.aload_n 1, 1) := by decide +kernel
theorem d_L_law_185 : decode b_L_law 185 = .ok (.invokevirtual 83, 3) := by decide +kernel
theorem d_L_law_188 : decode b_L_law 188 = .ok (.aload_n 2, 1) := by decide +kernel
theorem d_L_law_189 : decode b_L_law 189 = .ok (.invokevirtual 86, 3) := by decide +kernel
theorem d_L_law_192 : decode b_L_law 192 = .ok (.if_icmp .eq 1076, 3) := by decide +kernel
theorem d_L_law_195 : decode b_L_law 195 = .ok (.iconst 0, 1) := by decide +kernel
theorem d_L_law_196 : decode b_L_law 196 = .ok (.ireturn, 1) := by decide +kernel
theorem d_L_law_197 : decode b_L_law 197 = .ok (.aload_n 1, 1) := by decide +kernel
theorem d_L_law_198 : decode b_L_law 198 = .ok (.aload_n 3, 1) := by decide +kernel
theorem d_L_law_199 : decode b_L_law 199 = .ok (.invokestatic 87, 3) := by decide +kernel
theorem d_L_law_202 : decode b_L_law 202 = .ok (.istore 5, 2) := by decide +kernel
theorem d_L_law_204 : decode b_L_law 204 = .ok (.aload_n 2, 1) := by decide +kernel
theorem d_L_law_205 : decode b_L_law 205 = .ok (.invokevirtual 90, 3) := by decide +kernel
theorem d_L_law_208 : decode b_L_law 208 = .ok (.istore 6, 2) := by decide +kernel
theorem d_L_law_210 : decode b_L_law 210 = .ok (.aload_n 2, 1) := by decide +kernel
theorem d_L_law_211 : decode b_L_law 211 = .ok (.invokevirtual 80, 3) := by decide +kernel
theorem d_L_law_214 : decode b_L_law 214 = .ok (.iload 5, 2) := by decide +kernel
theorem d_L_law_216 : decode b_L_law 216 = .ok (.if_icmp .eq 5, 3) := by decide +kernel
theorem d_L_law_219 : decode b_L_law 219 = .ok (.iconst 0, 1) := by decide +kernel
theorem d_L_law_220 : decode b_L_law 220 = .ok (.ireturn, 1) := by decide +kernel
theorem d_L_law_221 : decode b_L_law 221 = .ok (.iload 5, 2) := by decide +kernel
theorem d_L_law_223 : decode b_L_law 223 = .ok (.ifCond .ne 15, 3) := by decide +kernel
theorem d_L_law_226 : decode b_L_law 226 = .ok (.aload_n 3, 1) := by decide +kernel
theorem d_L_law_227 : decode b_L_law 227 = .ok (.iconst 0, 1) := by decide +kernel
theorem d_L_law_228 : decode b_L_law 228 = .ok (.laload, 1) := by decide +kernel
theorem d_L_law_229 : decode b_L_law 229 = .ok (.iload 6, 2) := by decide +kernel
theorem d_L_law_231 : decode b_L_law 231 = .ok (.i2l, 1) := by decide +kernel
theorem d_L_law_232 : decode b_L_law 232 = .ok (.lcmp, 1) := by decide +kernel
theorem d_L_law_233 : decode b_L_law 233 = .ok (.ifCond .eq 5, 3) := by decide +kernel
theorem d_L_law_236 : decode b_L_law 236 = .ok (.iconst 0, 1) := by decide +kernel
theorem d_L_law_237 : decode b_L_law 237 = .ok (.ireturn, 1) := by decide +kernel
theorem d_L_law_238 : decode b_L_law 238 = .ok (.goto 1030, 3) := by decide +kernel
theorem d_L_law_241 : decode b_L_law 241 = .ok (.aload_n 1, 1) := by decide +kernel
theorem d_L_law_242 : decode b_L_law 242 = .ok (.aload_n 0, 1) := by decide +kernel
theorem d_L_law_243 : decode b_L_law 243 = .ok (.iload 4, 2) := by decide +kernel
theorem d_L_law_245 : decode b_L_law 245 = .ok (.iconst 1, 1) := by decide +kernel
theorem d_L_law_246 : decode b_L_law 246 = .ok (.iadd, 1) := by decide +kernel
theorem d_L_law_247 : decode b_L_law 247 = .ok (.iaload, 1) := by decide +kernel
theorem d_L_law_248 : decode b_L_law 248 = .ok (.aload_n 0, 1) := by decide +kernel
theorem d_L_law_249 : decode b_L_law 249 = .ok (.iload 4, 2) := by decide +kernel
theorem d_L_law_251 : decode b_L_law 251 = .ok (.iconst 2, 1) := by decide +kernel
theorem d_L_law_252 : decode b_L_law 252 = .ok (.iadd, 1) := by decide +kernel
theorem d_L_law_253 : decode b_L_law 253 = .ok (.iaload, 1) := by decide +kernel
theorem d_L_law_254 : decode b_L_law 254 = .ok (.aload_n 0, 1) := by decide +kernel
theorem d_L_law_255 : decode b_L_law 255 = .ok (.iload 4, 2) := by decide +kernel
theorem d_L_law_257 : decode b_L_law 257 = .ok (.iconst 3, 1) := by decide +kernel
theorem d_L_law_258 : decode b_L_law 258 = .ok (.iadd, 1) := by decide +kernel
theorem d_L_law_259 : decode b_L_law 259 = .ok (.iaload, 1) := by decide +kernel
theorem d_L_law_260 : decode b_L_law 260 = .ok (.aload_n 3, 1) := by decide +kernel
theorem d_L_law_261 : decode b_L_law 261 = .ok (.invokestatic 91, 3) := by decide +kernel
theorem d_L_law_264 : decode b_L_law 264 = .ok (.istore 5, 2) := by decide +kernel
theorem d_L_law_266 : decode b_L_law 266 = .ok (.aload_n 2, 1) := by decide +kernel
theorem d_L_law_267 : decode b_L_law 267 = .ok (.aload_n 0, 1) := by decide +kernel
theorem d_L_law_268 : decode b_L_law 268 = .ok (.iload 4, 2) := by decide +kernel
theorem d_L_law_270 : decode b_L_law 270 = .ok (.iconst 1, 1) := by decide +kernel
theorem d_L_law_271 : decode b_L_law 271 = .ok (.iadd, 1) := by decide +kernel
theorem d_L_law_272 : decode b_L_law 272 = .ok (.iaload, 1) := by decide +kernel
theorem d_L_law_273 : decode b_L_law 273 = .ok (.aload_n 0, 1) := by decide +kernel
theorem d_L_law_274 : decode b_L_law 274 = .ok (.iload 4, 2) := by decide +kernel
theorem d_L_law_276 : decode b_L_law 276 = .ok (.iconst 2, 1) := by decide +kernel
theorem d_L_law_277 : decode b_L_law 277 = .ok (.iadd, 1) := by decide +kernel
theorem d_L_law_278 : decode b_L_law 278 = .ok (.iaload, 1) := by decide +kernel
theorem d_L_law_279 : decode b_L_law 279 = .ok (.aload_n 0, 1) := by decide +kernel
theorem d_L_law_280 : decode b_L_law 280 = .ok (.iload 4, 2) := by decide +kernel
theorem d_L_law_282 : decode b_L_law 282 = .ok (.iconst 3, 1) := by decide +kernel
theorem d_L_law_283 : decode b_L_law 283 = .ok (.iadd, 1) := by decide +kernel
theorem d_L_law_284 : decode b_L_law 284 = .ok (.iaload, 1) := by decide +kernel
theorem d_L_law_285 : decode b_L_law 285 = .ok (.invokevirtual 94, 3) := by decide +kernel
theorem d_L_law_288 : decode b_L_law 288 = .ok (.istore 6, 2) := by decide +kernel
theorem d_L_law_290 : decode b_L_law 290 = .ok (.aload_n 2, 1) := by decide +kernel
theorem d_L_law_291 : decode b_L_law 291 = .ok (.invokevirtual 80, 3) := by decide +kernel
theorem d_L_law_294 : decode b_L_law 294 = .ok (.iload 5, 2) := by decide +kernel
theorem d_L_law_296 : decode b_L_law 296 = .ok (.if_icmp .eq 5, 3) := by decide +kernel
theorem d_L_law_299 : decode b_L_law 299 = .ok (.iconst 0, 1) := by decide +kernel
theorem d_L_law_300 : decode b_L_law 300 = .ok (.ireturn, 1) := by decide +kernel
theorem d_L_law_301 : decode b_L_law 301 = .ok (.iload 5, 2) := by decide +kernel
theorem d_L_law_303 : decode b_L_law 303 = .ok (.ifCond .ne 22, 3) := by decide +kernel
theorem d_L_law_306 : decode b_L_law 306 = .ok (.aload_n 3, 1) := by decide +kernel
theorem d_L_law_307 : decode b_L_law 307 = .ok (.iconst 0, 1) := by decide +kernel
theorem d_L_law_308 : decode b_L_law 308 = .ok (.laload, 1) := by decide +kernel
theorem d_L_law_309 : decode b_L_law 309 = .ok (.iload 6, 2) := by decide +kernel
theorem d_L_law_311 : decode b_L_law 311 = .ok (.ifCond .eq 7, 3) := by decide +kernel
theorem d_L_law_314 : decode b_L_law 314 = .ok (.lconst 1, 1) := by decide +kernel
theorem d_L_law_315 : decode b_L_law 315 = .ok (.goto 4, 3) := by decide +kernel
theorem d_L_law_318 : decode b_L_law 318 = .ok (.lconst 0, 1) := by decide +kernel
theorem d_L_law_319 : decode b_L_law 319 = .ok (.lcmp, 1) := by decide +kernel
theorem d_L_law_320 : decode b_L_law 320 = .ok (.ifCond .eq 5, 3) := by decide +kernel
theorem d_L_law_323 : decode b_L_law 323 = .ok (.iconst 0, 1) := by decide +kernel
theorem d_L_law_324 : decode b_L_law 324 = .ok (.ireturn, 1) := by decide +kernel
theorem d_L_law_325 : decode b_L_law 325 = .ok (.goto 943, 3) := by decide +kernel
theorem d_L_law_328 : decode b_L_law 328 = .ok (.aload_n 1, 1) := by decide +kernel
theorem d_L_law_329 : decode b_L_law 329 = .ok (.aload_n 0, 1) := by decide +kernel
theorem d_L_law_330 : decode b_L_law 330 = .ok (.iload 4, 2) := by decide +kernel
theorem d_L_law_332 : decode b_L_law 332 = .ok (.iconst 1, 1) := by decide +kernel
theorem d_L_law_333 : decode b_L_law 333 = .ok (.iadd, 1) := by decide +kernel
theorem d_L_law_334 : decode b_L_law 334 = .ok (.iaload, 1) := by decide +kernel
theorem d_L_law_335 : decode b_L_law 335 = .ok (.aload_n 0, 1) := by decide +kernel
theorem d_L_law_336 : decode b_L_law 336 = .ok (.iload 4, 2) := by decide +kernel
theorem d_L_law_338 : decode b_L_law 338 = .ok (.iconst 2, 1) := by decide +kernel
theorem d_L_law_339 : decode b_L_law 339 = .ok (.iadd, 1) := by decide +kernel
theorem d_L_law_340 : decode b_L_law 340 = .ok (.iaload, 1) := by decide +kernel
theorem d_L_law_341 : decode b_L_law 341 = .ok (.aload_n 0, 1) := by decide +kernel
theorem d_L_law_342 : decode b_L_law 342 = .ok (.iload 4, 2) := by decide +kernel
theorem d_L_law_344 : decode b_L_law 344 = .ok (.iconst 3, 1) := by decide +kernel
theorem d_L_law_345 : decode b_L_law 345 = .ok (.iadd, 1) := by decide +kernel
theorem d_L_law_346 : decode b_L_law 346 = .ok (.iaload, 1) := by decide +kernel
theorem d_L_law_347 : decode b_L_law 347 = .ok (.aload_n 0, 1) := by decide +kernel
theorem d_L_law_348 : decode b_L_law 348 = .ok (.iload 4, 2) := by decide +kernel
theorem d_L_law_350 : decode b_L_law 350 = .ok (.iconst 4, 1) := by decide +kernel
theorem d_L_law_351 : decode b_L_law 351 = .ok (.iadd, 1) := by decide +kernel
theorem d_L_law_352 : decode b_L_law 352 = .ok (.iaload, 1) := by decide +kernel
theorem d_L_law_353 : decode b_L_law 353 = .ok (.aload_n 0, 1) := by decide +kernel
theorem d_L_law_354 : decode b_L_law 354 = .ok (.iload 4, 2) := by decide +kernel
theorem d_L_law_356 : decode b_L_law 356 = .ok (.iconst 5, 1) := by decide +kernel
theorem d_L_law_357 : decode b_L_law 357 = .ok (.iadd, 1) := by decide +kernel
theorem d_L_law_358 : decode b_L_law 358 = .ok (.iaload, 1) := by decide +kernel
theorem d_L_law_359 : decode b_L_law 359 = .ok (.aload_n 3, 1) := by decide +kernel
theorem d_L_law_360 : decode b_L_law 360 = .ok (.invokestatic 95, 3) := by decide +kernel
theorem d_L_law_363 : decode b_L_law 363 = .ok (.istore 5, 2) := by decide +kernel
theorem d_L_law_365 : decode b_L_law 365 = .ok (.aload_n 2, 1) := by decide +kernel
theorem d_L_law_366 : decode b_L_law 366 = .ok (.aload_n 0, 1) := by decide +kernel
theorem d_L_law_367 : decode b_L_law 367 = .ok (.iload 4, 2) := by decide +kernel
theorem d_L_law_369 : decode b_L_law 369 = .ok (.iconst 1, 1) := by decide +kernel
theorem d_L_law_370 : decode b_L_law 370 = .ok (.iadd, 1) := by decide +kernel
theorem d_L_law_371 : decode b_L_law 371 = .ok (.iaload, 1) := by decide +kernel
theorem d_L_law_372 : decode b_L_law 372 = .ok (.aload_n 0, 1) := by decide +kernel
theorem d_L_law_373 : decode b_L_law 373 = .ok (.iload 4, 2) := by decide +kernel
theorem d_L_law_375 : decode b_L_law 375 = .ok (.iconst 2, 1) := by decide +kernel
theorem d_L_law_376 : decode b_L_law 376 = .ok (.iadd, 1) := by decide +kernel
theorem d_L_law_377 : decode b_L_law 377 = .ok (.iaload, 1) := by decide +kernel
theorem d_L_law_378 : decode b_L_law 378 = .ok (.aload_n 0, 1) := by decide +kernel
theorem d_L_law_379 : decode b_L_law 379 = .ok (.iload 4, 2) := by decide +kernel
theorem d_L_law_381 : decode b_L_law 381 = .ok (.iconst 3, 1) := by decide +kernel
theorem d_L_law_382 : decode b_L_law 382 = .ok (.iadd, 1) := by decide +kernel
theorem d_L_law_383 : decode b_L_law 383 = .ok (.iaload, 1) := by decide +kernel
theorem d_L_law_384 : decode b_L_law 384 = .ok (.aload_n 0, 1) := by decide +kernel
theorem d_L_law_385 : decode b_L_law 385 = .ok (.iload 4, 2) := by decide +kernel
theorem d_L_law_387 : decode b_L_law 387 = .ok (.iconst 4, 1) := by decide +kernel
theorem d_L_law_388 : decode b_L_law 388 = .ok (.iadd, 1) := by decide +kernel
theorem d_L_law_389 : decode b_L_law 389 = .ok (.iaload, 1) := by decide +kernel
theorem d_L_law_390 : decode b_L_law 390 = .ok (.aload_n 0, 1) := by decide +kernel
theorem d_L_law_391 : decode b_L_law 391 = .ok (.iload 4, 2) := by decide +kernel
theorem d_L_law_393 : decode b_L_law 393 = .ok (.iconst 5, 1) := by decide +kernel
theorem d_L_law_394 : decode b_L_law 394 = .ok (.iadd, 1) := by decide +kernel
theorem d_L_law_395 : decode b_L_law 395 = .ok (.iaload, 1) := by decide +kernel
theorem d_L_law_396 : decode b_L_law 396 = .ok (.invokevirtual 98, 3) := by decide +kernel
theorem d_L_law_399 : decode b_L_law 399 = .ok (.istore 6, 2) := by decide +kernel
theorem d_L_law_401 : decode b_L_law 401 = .ok (.aload_n 2, 1) := by decide +kernel
theorem d_L_law_402 : decode b_L_law 402 = .ok (.invokevirtual 80, 3) := by decide +kernel
theorem d_L_law_405 : decode b_L_law 405 = .ok (.iload 5, 2) := by decide +kernel
theorem d_L_law_407 : decode b_L_law 407 = .ok (.if_icmp .eq 5, 3) := by decide +kernel
theorem d_L_law_410 : decode b_L_law 410 = .ok (.iconst 0, 1) := by decide +kernel
theorem d_L_law_411 : decode b_L_law 411 = .ok (.ireturn, 1) := by decide +kernel
theorem d_L_law_412 : decode b_L_law 412 = .ok (.iload 5, 2) := by decide +kernel
theorem d_L_law_414 : decode b_L_law 414 = .ok (.ifCond .ne 15, 3) := by decide +kernel
theorem d_L_law_417 : decode b_L_law 417 = .ok (.aload_n 3, 1) := by decide +kernel
theorem d_L_law_418 : decode b_L_law 418 = .ok (.iconst 0, 1) := by decide +kernel
theorem d_L_law_419 : decode b_L_law 419 = .ok (.laload, 1) := by decide +kernel
theorem d_L_law_420 : decode b_L_law 420 = .ok (.iload 6, 2) := by decide +kernel
theorem d_L_law_422 : decode b_L_law 422 = .ok (.i2l, 1) := by decide +kernel
theorem d_L_law_423 : decode b_L_law 423 = .ok (.lcmp, 1) := by decide +kernel
theorem d_L_law_424 : decode b_L_law 424 = .ok (.ifCond .eq 5, 3) := by decide +kernel
theorem d_L_law_427 : decode b_L_law 427 = .ok (.iconst 0, 1) := by decide +kernel
theorem d_L_law_428 : decode b_L_law 428 = .ok (.ireturn, 1) := by decide +kernel
theorem d_L_law_429 : decode b_L_law 429 = .ok (.goto 839, 3) := by decide +kernel
theorem d_L_law_432 : decode b_L_law 432 = .ok (.aload_n 1, 1) := by decide +kernel
theorem d_L_law_433 : decode b_L_law 433 = .ok (.aload_n 0, 1) := by decide +kernel
theorem d_L_law_434 : decode b_L_law 434 = .ok (.iload 4, 2) := by decide +kernel
theorem d_L_law_436 : decode b_L_law 436 = .ok (.iconst 1, 1) := by decide +kernel
theorem d_L_law_437 : decode b_L_law 437 = .ok (.iadd, 1) := by decide +kernel
theorem d_L_law_438 : decode b_L_law 438 = .ok (.iaload, 1) := by decide +kernel
theorem d_L_law_439 : decode b_L_law 439 = .ok (.aload_n 3, 1) := by decide +kernel
theorem d_L_law_440 : decode b_L_law 440 = .ok (.invokestatic 99, 3) := by decide +kernel
theorem d_L_law_443 : decode b_L_law 443 = .ok (.istore 5, 2) := by decide +kernel
theorem d_L_law_445 : decode b_L_law 445 = .ok (.aload_n 2, 1) := by decide +kernel
theorem d_L_law_446 : decode b_L_law 446 = .ok (.aload_n 0, 1) := by decide +kernel
theorem d_L_law_447 : decode b_L_law 447 = .ok (.iload 4, 2) := by decide +kernel
theorem d_L_law_449 : decode b_L_law 449 = .ok (.iconst 1, 1) := by decide +kernel
theorem d_L_law_450 : decode b_L_law 450 = .ok (.iadd, 1) := by decide +kernel
theorem d_L_law_451 : decode b_L_law 451 = .ok (.iaload, 1) := by decide +kernel
theorem d_L_law_452 : decode b_L_law 452 = .ok (.invokevirtual 101, 3) := by decide +kernel
theorem d_L_law_455 : decode b_L_law 455 = .ok (.istore 6, 2) := by decide +kernel
theorem d_L_law_457 : decode b_L_law 457 = .ok (.aload_n 2, 1) := by decide +kernel
theorem d_L_law_458 : decode b_L_law 458 = .ok (.invokevirtual 80, 3) := by decide +kernel
theorem d_L_law_461 : decode b_L_law 461 = .ok (.iload 5, 2) := by decide +kernel
theorem d_L_law_463 : decode b_L_law 463 = .ok (.if_icmp .eq 5, 3) := by decide +kernel
theorem d_L_law_466 : decode b_L_law 466 = .ok (.iconst 0, 1) := by decide +kernel
theorem d_L_law_467 : decode b_L_law 467 = .ok (.ireturn, 1) := by decide +kernel
theorem d_L_law_468 : decode b_L_law 468 = .ok (.iload 5, 2) := by decide +kernel
theorem d_L_law_470 : decode b_L_law 470 = .ok (.ifCond .ne 15, 3) := by decide +kernel
theorem d_L_law_473 : decode b_L_law 473 = .ok (.aload_n 3, 1) := by decide +kernel
theorem d_L_law_474 : decode b_L_law 474 = .ok (.iconst 0, 1) := by decide +kernel
theorem d_L_law_475 : decode b_L_law 475 = .ok (.laload, 1) := by decide +kernel
theorem d_L_law_476 : decode b_L_law 476 = .ok (.iload 6, 2) := by decide +kernel
theorem d_L_law_478 : decode b_L_law 478 = .ok (.i2l, 1) := by decide +kernel
theorem d_L_law_479 : decode b_L_law 479 = .ok (.lcmp, 1) := by decide +kernel
theorem d_L_law_480 : decode b_L_law 480 = .ok (.ifCond .eq 5, 3) := by decide +kernel
theorem d_L_law_483 : decode b_L_law 483 = .ok (.iconst 0, 1) := by decide +kernel
theorem d_L_law_484 : decode b_L_law 484 = .ok (.ireturn, 1) := by decide +kernel
theorem d_L_law_485 : decode b_L_law 485 = .ok (.goto 783, 3) := by decide +kernel
theorem d_L_law_488 : decode b_L_law 488 = .ok (.aload_n 1, 1) := by decide +kernel
theorem d_L_law_489 : decode b_L_law 489 = .ok (.aload_n 0, 1) := by decide +kernel
theorem d_L_law_490 : decode b_L_law 490 = .ok (.iload 4, 2) := by decide +kernel
theorem d_L_law_492 : decode b_L_law 492 = .ok (.iconst 1, 1) := by decide +kernel
theorem d_L_law_493 : decode b_L_law 493 = .ok (.iadd, 1) := by decide +kernel
theorem d_L_law_494 : decode b_L_law 494 = .ok (.iaload, 1) := by decide +kernel
theorem d_L_law_495 : decode b_L_law 495 = .ok (.aload_n 0, 1) := by decide +kernel
theorem d_L_law_496 : decode b_L_law 496 = .ok (.iload 4, 2) := by decide +kernel
theorem d_L_law_498 : decode b_L_law 498 = .ok (.iconst 2, 1) := by decide +kernel
theorem d_L_law_499 : decode b_L_law 499 = .ok (.iadd, 1) := by decide +kernel
theorem d_L_law_500 : decode b_L_law 500 = .ok (.iaload, 1) := by decide +kernel
theorem d_L_law_501 : decode b_L_law 501 = .ok (.aload_n 3, 1) := by decide +kernel
theorem d_L_law_502 : decode b_L_law 502 = .ok (.invokestatic 102, 3) := by decide +kernel
theorem d_L_law_505 : decode b_L_law 505 = .ok (.istore 5, 2) := by decide +kernel
theorem d_L_law_507 : decode b_L_law 507 = .ok (.aload_n 2, 1) := by decide +kernel
theorem d_L_law_508 : decode b_L_law 508 = .ok (.aload_n 0, 1) := by decide +kernel
theorem d_L_law_509 : decode b_L_law 509 = .ok (.iload 4, 2) := by decide +kernel
theorem d_L_law_511 : decode b_L_law 511 = .ok (.iconst 1, 1) := by decide +kernel
theorem d_L_law_512 : decode b_L_law 512 = .ok (.iadd, 1) := by decide +kernel
theorem d_L_law_513 : decode b_L_law 513 = .ok (.iaload, 1) := by decide +kernel
theorem d_L_law_514 : decode b_L_law 514 = .ok (.aload_n 0, 1) := by decide +kernel
theorem d_L_law_515 : decode b_L_law 515 = .ok (.iload 4, 2) := by decide +kernel
theorem d_L_law_517 : decode b_L_law 517 = .ok (.iconst 2, 1) := by decide +kernel
theorem d_L_law_518 : decode b_L_law 518 = .ok (.iadd, 1) := by decide +kernel
theorem d_L_law_519 : decode b_L_law 519 = .ok (.iaload, 1) := by decide +kernel
theorem d_L_law_520 : decode b_L_law 520 = .ok (.invokevirtual 105, 3) := by decide +kernel
theorem d_L_law_523 : decode b_L_law 523 = .ok (.istore 6, 2) := by decide +kernel
theorem d_L_law_525 : decode b_L_law 525 = .ok (.aload_n 2, 1) := by decide +kernel
theorem d_L_law_526 : decode b_L_law 526 = .ok (.invokevirtual 80, 3) := by decide +kernel
theorem d_L_law_529 : decode b_L_law 529 = .ok (.iload 5, 2) := by decide +kernel
theorem d_L_law_531 : decode b_L_law 531 = .ok (.if_icmp .eq 5, 3) := by decide +kernel
theorem d_L_law_534 : decode b_L_law 534 = .ok (.iconst 0, 1) := by decide +kernel
theorem d_L_law_535 : decode b_L_law 535 = .ok (.ireturn, 1) := by decide +kernel
theorem d_L_law_536 : decode b_L_law 536 = .ok (.iload 5, 2) := by decide +kernel
theorem d_L_law_538 : decode b_L_law 538 = .ok (.ifCond .ne 15, 3) := by decide +kernel
theorem d_L_law_541 : decode b_L_law 541 = .ok (.aload_n 3, 1) := by decide +kernel
theorem d_L_law_542 : decode b_L_law 542 = .ok (.iconst 0, 1) := by decide +kernel
theorem d_L_law_543 : decode b_L_law 543 = .ok (.laload, 1) := by decide +kernel
theorem d_L_law_544 : decode b_L_law 544 = .ok (.iload 6, 2) := by decide +kernel
theorem d_L_law_546 : decode b_L_law 546 = .ok (.i2l, 1) := by decide +kernel
theorem d_L_law_547 : decode b_L_law 547 = .ok (.lcmp, 1) := by decide +kernel
theorem d_L_law_548 : decode b_L_law 548 = .ok (.ifCond .eq 5, 3) := by decide +kernel
theorem d_L_law_551 : decode b_L_law 551 = .ok (.iconst 0, 1) := by decide +kernel
theorem d_L_law_552 : decode b_L_law 552 = .ok (.ireturn, 1) := by decide +kernel
theorem d_L_law_553 : decode b_L_law 553 = .ok (.goto 715, 3) := by decide +kernel
theorem d_L_law_556 : decode b_L_law 556 = .ok (.aload_n 1, 1) := by decide +kernel
theorem d_L_law_557 : decode b_L_law 557 = .ok (.aload_n 0, 1) := by decide +kernel
theorem d_L_law_558 : decode b_L_law 558 = .ok (.iload 4, 2) := by decide +kernel
theorem d_L_law_560 : decode b_L_law 560 = .ok (.iconst 1, 1) := by decide +kernel
theorem d_L_law_561 : decode b_L_law 561 = .ok (.iadd, 1) := by decide +kernel
theorem d_L_law_562 : decode b_L_law 562 = .ok (.iaload, 1) := by decide +kernel
theorem d_L_law_563 : decode b_L_law 563 = .ok (.aload_n 0, 1) := by decide +kernel
theorem d_L_law_564 : decode b_L_law 564 = .ok (.iload 4, 2) := by decide +kernel
theorem d_L_law_566 : decode b_L_law 566 = .ok (.iconst 2, 1) := by decide +kernel
theorem d_L_law_567 : decode b_L_law 567 = .ok (.iadd, 1) := by decide +kernel
theorem d_L_law_568 : decode b_L_law 568 = .ok (.iaload, 1) := by decide +kernel
theorem d_L_law_569 : decode b_L_law 569 = .ok (.aload_n 3, 1) := by decide +kernel
theorem d_L_law_570 : decode b_L_law 570 = .ok (.invokestatic 106, 3) := by decide +kernel
theorem d_L_law_573 : decode b_L_law 573 = .ok (.istore 5, 2) := by decide +kernel
theorem d_L_law_575 : decode b_L_law 575 = .ok (.aload_n 2, 1) := by decide +kernel
theorem d_L_law_576 : decode b_L_law 576 = .ok (.aload_n 0, 1) := by decide +kernel
theorem d_L_law_577 : decode b_L_law 577 = .ok (.iload 4, 2) := by decide +kernel
theorem d_L_law_579 : decode b_L_law 579 = .ok (.iconst 1, 1) := by decide +kernel
theorem d_L_law_580 : decode b_L_law 580 = .ok (.iadd, 1) := by decide +kernel
theorem d_L_law_581 : decode b_L_law 581 = .ok (.iaload, 1) := by decide +kernel
theorem d_L_law_582 : decode b_L_law 582 = .ok (.aload_n 0, 1) := by decide +kernel
theorem d_L_law_583 : decode b_L_law 583 = .ok (.iload 4, 2) := by decide +kernel
theorem d_L_law_585 : decode b_L_law 585 = .ok (.iconst 2, 1) := by decide +kernel
theorem d_L_law_586 : decode b_L_law 586 = .ok (.iadd, 1) := by decide +kernel
theorem d_L_law_587 : decode b_L_law 587 = .ok (.iaload, 1) := by decide +kernel
theorem d_L_law_588 : decode b_L_law 588 = .ok (.invokevirtual 108, 3) := by decide +kernel
theorem d_L_law_591 : decode b_L_law 591 = .ok (.istore 6, 2) := by decide +kernel
theorem d_L_law_593 : decode b_L_law 593 = .ok (.aload_n 2, 1) := by decide +kernel
theorem d_L_law_594 : decode b_L_law 594 = .ok (.invokevirtual 80, 3) := by decide +kernel
theorem d_L_law_597 : decode b_L_law 597 = .ok (.iload 5, 2) := by decide +kernel
theorem d_L_law_599 : decode b_L_law 599 = .ok (.if_icmp .eq 5, 3) := by decide +kernel
theorem d_L_law_602 : decode b_L_law 602 = .ok (.iconst 0, 1) := by decide +kernel
theorem d_L_law_603 : decode b_L_law 603 = .ok (.ireturn, 1) := by decide +kernel
theorem d_L_law_604 : decode b_L_law 604 = .ok (.iload 5, 2) := by decide +kernel
theorem d_L_law_606 : decode b_L_law 606 = .ok (.ifCond .ne 15, 3) := by decide +kernel
theorem d_L_law_609 : decode b_L_law 609 = .ok (.aload_n 3, 1) := by decide +kernel
theorem d_L_law_610 : decode b_L_law 610 = .ok (.iconst 0, 1) := by decide +kernel
theorem d_L_law_611 : decode b_L_law 611 = .ok (.laload, 1) := by decide +kernel
theorem d_L_law_612 : decode b_L_law 612 = .ok (.iload 6, 2) := by decide +kernel
theorem d_L_law_614 : decode b_L_law 614 = .ok (.i2l, 1) := by decide +kernel
theorem d_L_law_615 : decode b_L_law 615 = .ok (.lcmp, 1) := by decide +kernel
theorem d_L_law_616 : decode b_L_law 616 = .ok (.ifCond .eq 5, 3) := by decide +kernel
theorem d_L_law_619 : decode b_L_law 619 = .ok (.iconst 0, 1) := by decide +kernel
theorem d_L_law_620 : decode b_L_law 620 = .ok (.ireturn, 1) := by decide +kernel
theorem d_L_law_621 : decode b_L_law 621 = .ok (.goto 647, 3) := by decide +kernel
theorem d_L_law_624 : decode b_L_law 624 = .ok (.aload_n 1, 1) := by decide +kernel
theorem d_L_law_625 : decode b_L_law 625 = .ok (.aload_n 0, 1) := by decide +kernel
theorem d_L_law_626 : decode b_L_law 626 = .ok (.iload 4, 2) := by decide +kernel
theorem d_L_law_628 : decode b_L_law 628 = .ok (.iconst 1, 1) := by decide +kernel
theorem d_L_law_629 : decode b_L_law 629 = .ok (.iadd, 1) := by decide +kernel
theorem d_L_law_630 : decode b_L_law 630 = .ok (.iaload, 1) := by decide +kernel
theorem d_L_law_631 : decode b_L_law 631 = .ok (.aload_n 0, 1) := by decide +kernel
theorem d_L_law_632 : decode b_L_law 632 = .ok (.iload 4, 2) := by decide +kernel
theorem d_L_law_634 : decode b_L_law 634 = .ok (.iconst 2, 1) := by decide +kernel
theorem d_L_law_635 : decode b_L_law 635 = .ok (.iadd, 1) := by decide +kernel
theorem d_L_law_636 : decode b_L_law 636 = .ok (.iaload, 1) := by decide +kernel
theorem d_L_law_637 : decode b_L_law 637 = .ok (.aload_n 3, 1) := by decide +kernel
theorem d_L_law_638 : decode b_L_law 638 = .ok (.invokestatic 109, 3) := by decide +kernel
theorem d_L_law_641 : decode b_L_law 641 = .ok (.istore 5, 2) := by decide +kernel
theorem d_L_law_643 : decode b_L_law 643 = .ok (.aload_n 2, 1) := by decide +kernel
theorem d_L_law_644 : decode b_L_law 644 = .ok (.aload_n 0, 1) := by decide +kernel
theorem d_L_law_645 : decode b_L_law 645 = .ok (.iload 4, 2) := by decide +kernel
theorem d_L_law_647 : decode b_L_law 647 = .ok (.iconst 1, 1) := by decide +kernel
theorem d_L_law_648 : decode b_L_law 648 = .ok (.iadd, 1) := by decide +kernel
theorem d_L_law_649 : decode b_L_law 649 = .ok (.iaload, 1) := by decide +kernel
theorem d_L_law_650 : decode b_L_law 650 = .ok (.aload_n 0, 1) := by decide +kernel
theorem d_L_law_651 : decode b_L_law 651 = .ok (.iload 4, 2) := by decide +kernel
theorem d_L_law_653 : decode b_L_law 653 = .ok (.iconst 2, 1) := by decide +kernel
theorem d_L_law_654 : decode b_L_law 654 = .ok (.iadd, 1) := by decide +kernel
theorem d_L_law_655 : decode b_L_law 655 = .ok (.iaload, 1) := by decide +kernel
theorem d_L_law_656 : decode b_L_law 656 = .ok (.invokevirtual 111, 3) := by decide +kernel
theorem d_L_law_659 : decode b_L_law 659 = .ok (.istore 6, 2) := by decide +kernel
theorem d_L_law_661 : decode b_L_law 661 = .ok (.aload_n 2, 1) := by decide +kernel
theorem d_L_law_662 : decode b_L_law 662 = .ok (.invokevirtual 80, 3) := by decide +kernel
theorem d_L_law_665 : decode b_L_law 665 = .ok (.iload 5, 2) := by decide +kernel
theorem d_L_law_667 : decode b_L_law 667 = .ok (.if_icmp .eq 5, 3) := by decide +kernel
theorem d_L_law_670 : decode b_L_law 670 = .ok (.iconst 0, 1) := by decide +kernel
theorem d_L_law_671 : decode b_L_law 671 = .ok (.ireturn, 1) := by decide +kernel
theorem d_L_law_672 : decode b_L_law 672 = .ok (.iload 5, 2) := by decide +kernel
theorem d_L_law_674 : decode b_L_law 674 = .ok (.ifCond .ne 15, 3) := by decide +kernel
theorem d_L_law_677 : decode b_L_law 677 = .ok (.aload_n 3, 1) := by decide +kernel
theorem d_L_law_678 : decode b_L_law 678 = .ok (.iconst 0, 1) := by decide +kernel
theorem d_L_law_679 : decode b_L_law 679 = .ok (.laload, 1) := by decide +kernel
theorem d_L_law_680 : decode b_L_law 680 = .ok (.iload 6, 2) := by decide +kernel
theorem d_L_law_682 : decode b_L_law 682 = .ok (.i2l, 1) := by decide +kernel
theorem d_L_law_683 : decode b_L_law 683 = .ok (.lcmp, 1) := by decide +kernel
theorem d_L_law_684 : decode b_L_law 684 = .ok (.ifCond .eq 5, 3) := by decide +kernel
theorem d_L_law_687 : decode b_L_law 687 = .ok (.iconst 0, 1) := by decide +kernel
theorem d_L_law_688 : decode b_L_law 688 = .ok (.ireturn, 1) := by decide +kernel
theorem d_L_law_689 : decode b_L_law 689 = .ok (.goto 579, 3) := by decide +kernel
theorem d_L_law_692 : decode b_L_law 692 = .ok (.aload_n 1, 1) := by decide +kernel
theorem d_L_law_693 : decode b_L_law 693 = .ok (.aload_n 0, 1) := by decide +kernel
theorem d_L_law_694 : decode b_L_law 694 = .ok (.iload 4, 2) := by decide +kernel
theorem d_L_law_696 : decode b_L_law 696 = .ok (.iconst 1, 1) := by decide +kernel
theorem d_L_law_697 : decode b_L_law 697 = .ok (.iadd, 1) := by decide +kernel
theorem d_L_law_698 : decode b_L_law 698 = .ok (.iaload, 1) := by decide +kernel
theorem d_L_law_699 : decode b_L_law 699 = .ok (.aload_n 0, 1) := by decide +kernel
theorem d_L_law_700 : decode b_L_law 700 = .ok (.iload 4, 2) := by decide +kernel
theorem d_L_law_702 : decode b_L_law 702 = .ok (.iconst 2, 1) := by decide +kernel
theorem d_L_law_703 : decode b_L_law 703 = .ok (.iadd, 1) := by decide +kernel
theorem d_L_law_704 : decode b_L_law 704 = .ok (.iaload, 1) := by decide +kernel
theorem d_L_law_705 : decode b_L_law 705 = .ok (.aload_n 3, 1) := by decide +kernel
theorem d_L_law_706 : decode b_L_law 706 = .ok (.invokestatic 112, 3) := by decide +kernel
theorem d_L_law_709 : decode b_L_law 709 = .ok (.istore 5, 2) := by decide +kernel
theorem d_L_law_711 : decode b_L_law 711 = .ok (.aload_n 2, 1) := by decide +kernel
theorem d_L_law_712 : decode b_L_law 712 = .ok (.aload_n 0, 1) := by decide +kernel
theorem d_L_law_713 : decode b_L_law 713 = .ok (.iload 4, 2) := by decide +kernel
theorem d_L_law_715 : decode b_L_law 715 = .ok (.iconst 1, 1) := by decide +kernel
theorem d_L_law_716 : decode b_L_law 716 = .ok (.iadd, 1) := by decide +kernel
theorem d_L_law_717 : decode b_L_law 717 = .ok (.iaload, 1) := by decide +kernel
theorem d_L_law_718 : decode b_L_law 718 = .ok (.aload_n 0, 1) := by decide +kernel
theorem d_L_law_719 : decode b_L_law 719 = .ok (.iload 4, 2) := by decide +kernel
theorem d_L_law_721 : decode b_L_law 721 = .ok (.iconst 2, 1) := by decide +kernel
theorem d_L_law_722 : decode b_L_law 722 = .ok (.iadd, 1) := by decide +kernel
theorem d_L_law_723 : decode b_L_law 723 = .ok (.iaload, 1) := by decide +kernel
theorem d_L_law_724 : decode b_L_law 724 = .ok (.invokevirtual 114, 3) := by decide +kernel
theorem d_L_law_727 : decode b_L_law 727 = .ok (.istore 6, 2) := by decide +kernel
theorem d_L_law_729 : decode b_L_law 729 = .ok (.aload_n 2, 1) := by decide +kernel
theorem d_L_law_730 : decode b_L_law 730 = .ok (.invokevirtual 80, 3) := by decide +kernel
theorem d_L_law_733 : decode b_L_law 733 = .ok (.iload 5, 2) := by decide +kernel
theorem d_L_law_735 : decode b_L_law 735 = .ok (.if_icmp .eq 5, 3) := by decide +kernel
theorem d_L_law_738 : decode b_L_law 738 = .ok (.iconst 0, 1) := by decide +kernel
theorem d_L_law_739 : decode b_L_law 739 = .ok (.ireturn, 1) := by decide +kernel
theorem d_L_law_740 : decode b_L_law 740 = .ok (.iload 5, 2) := by decide +kernel
theorem d_L_law_742 : decode b_L_law 742 = .ok (.ifCond .ne 22, 3) := by decide +kernel
theorem d_L_law_745 : decode b_L_law 745 = .ok (.aload_n 3, 1) := by decide +kernel
theorem d_L_law_746 : decode b_L_law 746 = .ok (.iconst 0, 1) := by decide +kernel
theorem d_L_law_747 : decode b_L_law 747 = .ok (.laload, 1) := by decide +kernel
theorem d_L_law_748 : decode b_L_law 748 = .ok (.iload 6, 2) := by decide +kernel
theorem d_L_law_750 : decode b_L_law 750 = .ok (.ifCond .eq 7, 3) := by decide +kernel
theorem d_L_law_753 : decode b_L_law 753 = .ok (.lconst 1, 1) := by decide +kernel
theorem d_L_law_754 : decode b_L_law 754 = .ok (.goto 4, 3) := by decide +kernel
theorem d_L_law_757 : decode b_L_law 757 = .ok (.lconst 0, 1) := by decide +kernel
theorem d_L_law_758 : decode b_L_law 758 = .ok (.lcmp, 1) := by decide +kernel
theorem d_L_law_759 : decode b_L_law 759 = .ok (.ifCond .eq 5, 3) := by decide +kernel
theorem d_L_law_762 : decode b_L_law 762 = .ok (.iconst 0, 1) := by decide +kernel
theorem d_L_law_763 : decode b_L_law 763 = .ok (.ireturn, 1) := by decide +kernel
theorem d_L_law_764 : decode b_L_law 764 = .ok (.goto 504, 3) := by decide +kernel
theorem d_L_law_767 : decode b_L_law 767 = .ok (.aload_n 1, 1) := by decide +kernel
theorem d_L_law_768 : decode b_L_law 768 = .ok (.aload_n 0, 1) := by decide +kernel
theorem d_L_law_769 : decode b_L_law 769 = .ok (.iload 4, 2) := by decide +kernel
theorem d_L_law_771 : decode b_L_law 771 = .ok (.iconst 1, 1) := by decide +kernel
theorem d_L_law_772 : decode b_L_law 772 = .ok (.iadd, 1) := by decide +kernel
theorem d_L_law_773 : decode b_L_law 773 = .ok (.iaload, 1) := by decide +kernel
theorem d_L_law_774 : decode b_L_law 774 = .ok (.aload_n 0, 1) := by decide +kernel
theorem d_L_law_775 : decode b_L_law 775 = .ok (.iload 4, 2) := by decide +kernel
theorem d_L_law_777 : decode b_L_law 777 = .ok (.iconst 2, 1) := by decide +kernel
theorem d_L_law_778 : decode b_L_law 778 = .ok (.iadd, 1) := by decide +kernel
theorem d_L_law_779 : decode b_L_law 779 = .ok (.iaload, 1) := by decide +kernel
theorem d_L_law_780 : decode b_L_law 780 = .ok (.aload_n 3, 1) := by decide +kernel
theorem d_L_law_781 : decode b_L_law 781 = .ok (.invokestatic 115, 3) := by decide +kernel
theorem d_L_law_784 : decode b_L_law 784 = .ok (.istore 5, 2) := by decide +kernel
theorem d_L_law_786 : decode b_L_law 786 = .ok (.aload_n 2, 1) := by decide +kernel
theorem d_L_law_787 : decode b_L_law 787 = .ok (.aload_n 0, 1) := by decide +kernel
theorem d_L_law_788 : decode b_L_law 788 = .ok (.iload 4, 2) := by decide +kernel
theorem d_L_law_790 : decode b_L_law 790 = .ok (.iconst 1, 1) := by decide +kernel
theorem d_L_law_791 : decode b_L_law 791 = .ok (.iadd, 1) := by decide +kernel
theorem d_L_law_792 : decode b_L_law 792 = .ok (.iaload, 1) := by decide +kernel
theorem d_L_law_793 : decode b_L_law 793 = .ok (.aload_n 0, 1) := by decide +kernel
theorem d_L_law_794 : decode b_L_law 794 = .ok (.iload 4, 2) := by decide +kernel
theorem d_L_law_796 : decode b_L_law 796 = .ok (.iconst 2, 1) := by decide +kernel
theorem d_L_law_797 : decode b_L_law 797 = .ok (.iadd, 1) := by decide +kernel
theorem d_L_law_798 : decode b_L_law 798 = .ok (.iaload, 1) := by decide +kernel
theorem d_L_law_799 : decode b_L_law 799 = .ok (.invokevirtual 117, 3) := by decide +kernel
theorem d_L_law_802 : decode b_L_law 802 = .ok (.istore 6, 2) := by decide +kernel
theorem d_L_law_804 : decode b_L_law 804 = .ok (.aload_n 2, 1) := by decide +kernel
theorem d_L_law_805 : decode b_L_law 805 = .ok (.invokevirtual 80, 3) := by decide +kernel
theorem d_L_law_808 : decode b_L_law 808 = .ok (.iload 5, 2) := by decide +kernel
theorem d_L_law_810 : decode b_L_law 810 = .ok (.if_icmp .eq 5, 3) := by decide +kernel
theorem d_L_law_813 : decode b_L_law 813 = .ok (.iconst 0, 1) := by decide +kernel
theorem d_L_law_814 : decode b_L_law 814 = .ok (.ireturn, 1) := by decide +kernel
theorem d_L_law_815 : decode b_L_law 815 = .ok (.iload 5, 2) := by decide +kernel
theorem d_L_law_817 : decode b_L_law 817 = .ok (.ifCond .ne 15, 3) := by decide +kernel
theorem d_L_law_820 : decode b_L_law 820 = .ok (.aload_n 3, 1) := by decide +kernel
theorem d_L_law_821 : decode b_L_law 821 = .ok (.iconst 0, 1) := by decide +kernel
theorem d_L_law_822 : decode b_L_law 822 = .ok (.laload, 1) := by decide +kernel
theorem d_L_law_823 : decode b_L_law 823 = .ok (.iload 6, 2) := by decide +kernel
theorem d_L_law_825 : decode b_L_law 825 = .ok (.i2l, 1) := by decide +kernel
theorem d_L_law_826 : decode b_L_law 826 = .ok (.lcmp, 1) := by decide +kernel
theorem d_L_law_827 : decode b_L_law 827 = .ok (.ifCond .eq 5, 3) := by decide +kernel
theorem d_L_law_830 : decode b_L_law 830 = .ok (.iconst 0, 1) := by decide +kernel
theorem d_L_law_831 : decode b_L_law 831 = .ok (.ireturn, 1) := by decide +kernel
theorem d_L_law_832 : decode b_L_law 832 = .ok (.goto 436, 3) := by decide +kernel
theorem d_L_law_835 : decode b_L_law 835 = .ok (.aload_n 1, 1) := by decide +kernel
theorem d_L_law_836 : decode b_L_law 836 = .ok (.aload_n 0, 1) := by decide +kernel
theorem d_L_law_837 : decode b_L_law 837 = .ok (.iload 4, 2) := by decide +kernel
theorem d_L_law_839 : decode b_L_law 839 = .ok (.iconst 1, 1) := by decide +kernel
theorem d_L_law_840 : decode b_L_law 840 = .ok (.iadd, 1) := by decide +kernel
theorem d_L_law_841 : decode b_L_law 841 = .ok (.iaload, 1) := by decide +kernel
theorem d_L_law_842 : decode b_L_law 842 = .ok (.aload_n 0, 1) := by decide +kernel
theorem d_L_law_843 : decode b_L_law 843 = .ok (.iload 4, 2) := by decide +kernel
theorem d_L_law_845 : decode b_L_law 845 = .ok (.iconst 2, 1) := by decide +kernel
theorem d_L_law_846 : decode b_L_law 846 = .ok (.iadd, 1) := by decide +kernel
theorem d_L_law_847 : decode b_L_law 847 = .ok (.iaload, 1) := by decide +kernel
theorem d_L_law_848 : decode b_L_law 848 = .ok (.aload_n 3, 1) := by decide +kernel
theorem d_L_law_849 : decode b_L_law 849 = .ok (.invokestatic 118, 3) := by decide +kernel
theorem d_L_law_852 : decode b_L_law 852 = .ok (.istore 5, 2) := by decide +kernel
theorem d_L_law_854 : decode b_L_law 854 = .ok (.aload_n 2, 1) := by decide +kernel
theorem d_L_law_855 : decode b_L_law 855 = .ok (.aload_n 0, 1) := by decide +kernel
theorem d_L_law_856 : decode b_L_law 856 = .ok (.iload 4, 2) := by decide +kernel
theorem d_L_law_858 : decode b_L_law 858 = .ok (.iconst 1, 1) := by decide +kernel
theorem d_L_law_859 : decode b_L_law 859 = .ok (.iadd, 1) := by decide +kernel
theorem d_L_law_860 : decode b_L_law 860 = .ok (.iaload, 1) := by decide +kernel
theorem d_L_law_861 : decode b_L_law 861 = .ok (.aload_n 0, 1) := by decide +kernel
theorem d_L_law_862 : decode b_L_law 862 = .ok (.iload 4, 2) := by decide +kernel
theorem d_L_law_864 : decode b_L_law 864 = .ok (.iconst 2, 1) := by decide +kernel
theorem d_L_law_865 : decode b_L_law 865 = .ok (.iadd, 1) := by decide +kernel
theorem d_L_law_866 : decode b_L_law 866 = .ok (.iaload, 1) := by decide +kernel
theorem d_L_law_867 : decode b_L_law 867 = .ok (.invokevirtual 120, 3) := by decide +kernel
theorem d_L_law_870 : decode b_L_law 870 = .ok (.istore 6, 2) := by decide +kernel
theorem d_L_law_872 : decode b_L_law 872 = .ok (.aload_n 2, 1) := by decide +kernel
theorem d_L_law_873 : decode b_L_law 873 = .ok (.invokevirtual 80, 3) := by decide +kernel
theorem d_L_law_876 : decode b_L_law 876 = .ok (.iload 5, 2) := by decide +kernel
theorem d_L_law_878 : decode b_L_law 878 = .ok (.if_icmp .eq 5, 3) := by decide +kernel
theorem d_L_law_881 : decode b_L_law 881 = .ok (.iconst 0, 1) := by decide +kernel
theorem d_L_law_882 : decode b_L_law 882 = .ok (.ireturn, 1) := by decide +kernel
theorem d_L_law_883 : decode b_L_law 883 = .ok (.iload 5, 2) := by decide +kernel
theorem d_L_law_885 : decode b_L_law 885 = .ok (.ifCond .ne 15, 3) := by decide +kernel
theorem d_L_law_888 : decode b_L_law 888 = .ok (.aload_n 3, 1) := by decide +kernel
theorem d_L_law_889 : decode b_L_law 889 = .ok (.iconst 0, 1) := by decide +kernel
theorem d_L_law_890 : decode b_L_law 890 = .ok (.laload, 1) := by decide +kernel
theorem d_L_law_891 : decode b_L_law 891 = .ok (.iload 6, 2) := by decide +kernel
theorem d_L_law_893 : decode b_L_law 893 = .ok (.i2l, 1) := by decide +kernel
theorem d_L_law_894 : decode b_L_law 894 = .ok (.lcmp, 1) := by decide +kernel
theorem d_L_law_895 : decode b_L_law 895 = .ok (.ifCond .eq 5, 3) := by decide +kernel
theorem d_L_law_898 : decode b_L_law 898 = .ok (.iconst 0, 1) := by decide +kernel
theorem d_L_law_899 : decode b_L_law 899 = .ok (.ireturn, 1) := by decide +kernel
theorem d_L_law_900 : decode b_L_law 900 = .ok (.goto 368, 3) := by decide +kernel
theorem d_L_law_903 : decode b_L_law 903 = .ok (.aload_n 1, 1) := by decide +kernel
theorem d_L_law_904 : decode b_L_law 904 = .ok (.aload_n 0, 1) := by decide +kernel
theorem d_L_law_905 : decode b_L_law 905 = .ok (.iload 4, 2) := by decide +kernel
theorem d_L_law_907 : decode b_L_law 907 = .ok (.iconst 1, 1) := by decide +kernel
theorem d_L_law_908 : decode b_L_law 908 = .ok (.iadd, 1) := by decide +kernel
theorem d_L_law_909 : decode b_L_law 909 = .ok (.iaload, 1) := by decide +kernel
theorem d_L_law_910 : decode b_L_law 910 = .ok (.aload_n 0, 1) := by decide +kernel
theorem d_L_law_911 : decode b_L_law 911 = .ok (.iload 4, 2) := by decide +kernel
theorem d_L_law_913 : decode b_L_law 913 = .ok (.iconst 2, 1) := by decide +kernel
theorem d_L_law_914 : decode b_L_law 914 = .ok (.iadd, 1) := by decide +kernel
theorem d_L_law_915 : decode b_L_law 915 = .ok (.iaload, 1) := by decide +kernel
theorem d_L_law_916 : decode b_L_law 916 = .ok (.aload_n 3, 1) := by decide +kernel
theorem d_L_law_917 : decode b_L_law 917 = .ok (.invokestatic 121, 3) := by decide +kernel
theorem d_L_law_920 : decode b_L_law 920 = .ok (.istore 5, 2) := by decide +kernel
theorem d_L_law_922 : decode b_L_law 922 = .ok (.aload_n 2, 1) := by decide +kernel
theorem d_L_law_923 : decode b_L_law 923 = .ok (.aload_n 0, 1) := by decide +kernel
theorem d_L_law_924 : decode b_L_law 924 = .ok (.iload 4, 2) := by decide +kernel
theorem d_L_law_926 : decode b_L_law 926 = .ok (.iconst 1, 1) := by decide +kernel
theorem d_L_law_927 : decode b_L_law 927 = .ok (.iadd, 1) := by decide +kernel
theorem d_L_law_928 : decode b_L_law 928 = .ok (.iaload, 1) := by decide +kernel
theorem d_L_law_929 : decode b_L_law 929 = .ok (.aload_n 0, 1) := by decide +kernel
theorem d_L_law_930 : decode b_L_law 930 = .ok (.iload 4, 2) := by decide +kernel
theorem d_L_law_932 : decode b_L_law 932 = .ok (.iconst 2, 1) := by decide +kernel
theorem d_L_law_933 : decode b_L_law 933 = .ok (.iadd, 1) := by decide +kernel
theorem d_L_law_934 : decode b_L_law 934 = .ok (.iaload, 1) := by decide +kernel
theorem d_L_law_935 : decode b_L_law 935 = .ok (.invokevirtual 123, 3) := by decide +kernel
theorem d_L_law_938 : decode b_L_law 938 = .ok (.istore 6, 2) := by decide +kernel
theorem d_L_law_940 : decode b_L_law 940 = .ok (.aload_n 2, 1) := by decide +kernel
theorem d_L_law_941 : decode b_L_law 941 = .ok (.invokevirtual 80, 3) := by decide +kernel
theorem d_L_law_944 : decode b_L_law 944 = .ok (.iload 5, 2) := by decide +kernel
theorem d_L_law_946 : decode b_L_law 946 = .ok (.if_icmp .eq 5, 3) := by decide +kernel
theorem d_L_law_949 : decode b_L_law 949 = .ok (.iconst 0, 1) := by decide +kernel
theorem d_L_law_950 : decode b_L_law 950 = .ok (.ireturn, 1) := by decide +kernel
theorem d_L_law_951 : decode b_L_law 951 = .ok (.iload 5, 2) := by decide +kernel
theorem d_L_law_953 : decode b_L_law 953 = .ok (.ifCond .ne 15, 3) := by decide +kernel
theorem d_L_law_956 : decode b_L_law 956 = .ok (.aload_n 3, 1) := by decide +kernel
theorem d_L_law_957 : decode b_L_law 957 = .ok (.iconst 0, 1) := by decide +kernel
theorem d_L_law_958 : decode b_L_law 958 = .ok (.laload, 1) := by decide +kernel
theorem d_L_law_959 : decode b_L_law 959 = .ok (.iload 6, 2) := by decide +kernel
theorem d_L_law_961 : decode b_L_law 961 = .ok (.i2l, 1) := by decide +kernel
theorem d_L_law_962 : decode b_L_law 962 = .ok (.lcmp, 1) := by decide +kernel
theorem d_L_law_963 : decode b_L_law 963 = .ok (.ifCond .eq 5, 3) := by decide +kernel
theorem d_L_law_966 : decode b_L_law 966 = .ok (.iconst 0, 1) := by decide +kernel
theorem d_L_law_967 : decode b_L_law 967 = .ok (.ireturn, 1) := by decide +kernel
theorem d_L_law_968 : decode b_L_law 968 = .ok (.goto 300, 3) := by decide +kernel
theorem d_L_law_971 : decode b_L_law 971 = .ok (.aload_n 1, 1) := by decide +kernel
theorem d_L_law_972 : decode b_L_law 972 = .ok (.aload_n 0, 1) := by decide +kernel
theorem d_L_law_973 : decode b_L_law 973 = .ok (.iload 4, 2) := by decide +kernel
theorem d_L_law_975 : decode b_L_law 975 = .ok (.iconst 1, 1) := by decide +kernel
theorem d_L_law_976 : decode b_L_law 976 = .ok (.iadd, 1) := by decide +kernel
theorem d_L_law_977 : decode b_L_law 977 = .ok (.iaload, 1) := by decide +kernel
theorem d_L_law_978 : decode b_L_law 978 = .ok (.aload_n 0, 1) := by decide +kernel
theorem d_L_law_979 : decode b_L_law 979 = .ok (.iload 4, 2) := by decide +kernel
theorem d_L_law_981 : decode b_L_law 981 = .ok (.iconst 2, 1) := by decide +kernel
theorem d_L_law_982 : decode b_L_law 982 = .ok (.iadd, 1) := by decide +kernel
theorem d_L_law_983 : decode b_L_law 983 = .ok (.iaload, 1) := by decide +kernel
theorem d_L_law_984 : decode b_L_law 984 = .ok (.aload_n 3, 1) := by decide +kernel
theorem d_L_law_985 : decode b_L_law 985 = .ok (.invokestatic 124, 3) := by decide +kernel
theorem d_L_law_988 : decode b_L_law 988 = .ok (.istore 5, 2) := by decide +kernel
theorem d_L_law_990 : decode b_L_law 990 = .ok (.aload_n 2, 1) := by decide +kernel
theorem d_L_law_991 : decode b_L_law 991 = .ok (.aload_n 0, 1) := by decide +kernel
theorem d_L_law_992 : decode b_L_law 992 = .ok (.iload 4, 2) := by decide +kernel
theorem d_L_law_994 : decode b_L_law 994 = .ok (.iconst 1, 1) := by decide +kernel
theorem d_L_law_995 : decode b_L_law 995 = .ok (.iadd, 1) := by decide +kernel
theorem d_L_law_996 : decode b_L_law 996 = .ok (.iaload, 1) := by decide +kernel
theorem d_L_law_997 : decode b_L_law 997 = .ok (.aload_n 0, 1) := by decide +kernel
theorem d_L_law_998 : decode b_L_law 998 = .ok (.iload 4, 2) := by decide +kernel
theorem d_L_law_1000 : decode b_L_law 1000 = .ok (.iconst 2, 1) := by decide +kernel
theorem d_L_law_1001 : decode b_L_law 1001 = .ok (.iadd, 1) := by decide +kernel
theorem d_L_law_1002 : decode b_L_law 1002 = .ok (.iaload, 1) := by decide +kernel
theorem d_L_law_1003 : decode b_L_law 1003 = .ok (.invokevirtual 126, 3) := by decide +kernel
theorem d_L_law_1006 : decode b_L_law 1006 = .ok (.istore 6, 2) := by decide +kernel
theorem d_L_law_1008 : decode b_L_law 1008 = .ok (.aload_n 2, 1) := by decide +kernel
theorem d_L_law_1009 : decode b_L_law 1009 = .ok (.invokevirtual 80, 3) := by decide +kernel
theorem d_L_law_1012 : decode b_L_law 1012 = .ok (.iload 5, 2) := by decide +kernel
theorem d_L_law_1014 : decode b_L_law 1014 = .ok (.if_icmp .eq 5, 3) := by decide +kernel
theorem d_L_law_1017 : decode b_L_law 1017 = .ok (.iconst 0, 1) := by decide +kernel
theorem d_L_law_1018 : decode b_L_law 1018 = .ok (.ireturn, 1) := by decide +kernel
theorem d_L_law_1019 : decode b_L_law 1019 = .ok (.iload 5, 2) := by decide +kernel
theorem d_L_law_1021 : decode b_L_law 1021 = .ok (.ifCond .ne 15, 3) := by decide +kernel
theorem d_L_law_1024 : decode b_L_law 1024 = .ok (.aload_n 3, 1) := by decide +kernel
theorem d_L_law_1025 : decode b_L_law 1025 = .ok (.iconst 0, 1) := by decide +kernel
theorem d_L_law_1026 : decode b_L_law 1026 = .ok (.laload, 1) := by decide +kernel
theorem d_L_law_1027 : decode b_L_law 1027 = .ok (.iload 6, 2) := by decide +kernel
theorem d_L_law_1029 : decode b_L_law 1029 = .ok (.i2l, 1) := by decide +kernel
theorem d_L_law_1030 : decode b_L_law 1030 = .ok (.lcmp, 1) := by decide +kernel
theorem d_L_law_1031 : decode b_L_law 1031 = .ok (.ifCond .eq 5, 3) := by decide +kernel
theorem d_L_law_1034 : decode b_L_law 1034 = .ok (.iconst 0, 1) := by decide +kernel
theorem d_L_law_1035 : decode b_L_law 1035 = .ok (.ireturn, 1) := by decide +kernel
theorem d_L_law_1036 : decode b_L_law 1036 = .ok (.goto 232, 3) := by decide +kernel
theorem d_L_law_1039 : decode b_L_law 1039 = .ok (.aload_n 1, 1) := by decide +kernel
theorem d_L_law_1040 : decode b_L_law 1040 = .ok (.invokevirtual 127, 3) := by decide +kernel
theorem d_L_law_1043 : decode b_L_law 1043 = .ok (.aload_n 2, 1) := by decide +kernel
theorem d_L_law_1044 : decode b_L_law 1044 = .ok (.invokevirtual 130, 3) := by decide +kernel
theorem d_L_law_1047 : decode b_L_law 1047 = .ok (.if_icmp .eq 221, 3) := by decide +kernel
theorem d_L_law_1050 : decode b_L_law 1050 = .ok (.iconst 0, 1) := by decide +kernel
theorem d_L_law_1051 : decode b_L_law 1051 = .ok (.ireturn, 1) := by decide +kernel
theorem d_L_law_1052 : decode b_L_law 1052 = .ok (.aload_n 1, 1) := by decide +kernel
theorem d_L_law_1053 : decode b_L_law 1053 = .ok (.aload_n 0, 1) := by decide +kernel
theorem d_L_law_1054 : decode b_L_law 1054 = .ok (.iload 4, 2) := by decide +kernel
theorem d_L_law_1056 : decode b_L_law 1056 = .ok (.iconst 1, 1) := by decide +kernel
theorem d_L_law_1057 : decode b_L_law 1057 = .ok (.iadd, 1) := by decide +kernel
theorem d_L_law_1058 : decode b_L_law 1058 = .ok (.iaload, 1) := by decide +kernel
theorem d_L_law_1059 : decode b_L_law 1059 = .ok (.aload_n 0, 1) := by decide +kernel
theorem d_L_law_1060 : decode b_L_law 1060 = .ok (.iload 4, 2) := by decide +kernel
theorem d_L_law_1062 : decode b_L_law 1062 = .ok (.iconst 2, 1) := by decide +kernel
theorem d_L_law_1063 : decode b_L_law 1063 = .ok (.iadd, 1) := by decide +kernel
theorem d_L_law_1064 : decode b_L_law 1064 = .ok (.iaload, 1) := by decide +kernel
theorem d_L_law_1065 : decode b_L_law 1065 = .ok (.aload_n 0, 1) := by decide +kernel
theorem d_L_law_1066 : decode b_L_law 1066 = .ok (.iload 4, 2) := by decide +kernel
theorem d_L_law_1068 : decode b_L_law 1068 = .ok (.iconst 3, 1) := by decide +kernel
theorem d_L_law_1069 : decode b_L_law 1069 = .ok (.iadd, 1) := by decide +kernel
theorem d_L_law_1070 : decode b_L_law 1070 = .ok (.iaload, 1) := by decide +kernel
theorem d_L_law_1071 : decode b_L_law 1071 = .ok (.aload_n 0, 1) := by decide +kernel
theorem d_L_law_1072 : decode b_L_law 1072 = .ok (.iload 4, 2) := by decide +kernel
theorem d_L_law_1074 : decode b_L_law 1074 = .ok (.iconst 4, 1) := by decide +kernel
theorem d_L_law_1075 : decode b_L_law 1075 = .ok (.iadd, 1) := by decide +kernel
theorem d_L_law_1076 : decode b_L_law 1076 = .ok (.iaload, 1) := by decide +kernel
theorem d_L_law_1077 : decode b_L_law 1077 = .ok (.aload_n 3, 1) := by decide +kernel
theorem d_L_law_1078 : decode b_L_law 1078 = .ok (.invokestatic 131, 3) := by decide +kernel
theorem d_L_law_1081 : decode b_L_law 1081 = .ok (.istore 5, 2) := by decide +kernel
theorem d_L_law_1083 : decode b_L_law 1083 = .ok (.aload_n 2, 1) := by decide +kernel
theorem d_L_law_1084 : decode b_L_law 1084 = .ok (.aload_n 0, 1) := by decide +kernel
theorem d_L_law_1085 : decode b_L_law 1085 = .ok (.iload 4, 2) := by decide +kernel
theorem d_L_law_1087 : decode b_L_law 1087 = .ok (.iconst 1, 1) := by decide +kernel
theorem d_L_law_1088 : decode b_L_law 1088 = .ok (.iadd, 1) := by decide +kernel
theorem d_L_law_1089 : decode b_L_law 1089 = .ok (.iaload, 1) := by decide +kernel
theorem d_L_law_1090 : decode b_L_law 1090 = .ok (.aload_n 0, 1) := by decide +kernel
theorem d_L_law_1091 : decode b_L_law 1091 = .ok (.iload 4, 2) := by decide +kernel
theorem d_L_law_1093 : decode b_L_law 1093 = .ok (.iconst 2, 1) := by decide +kernel
theorem d_L_law_1094 : decode b_L_law 1094 = .ok (.iadd, 1) := by decide +kernel
theorem d_L_law_1095 : decode b_L_law 1095 = .ok (.iaload, 1) := by decide +kernel
theorem d_L_law_1096 : decode b_L_law 1096 = .ok (.aload_n 0, 1) := by decide +kernel
theorem d_L_law_1097 : decode b_L_law 1097 = .ok (.iload 4, 2) := by decide +kernel
theorem d_L_law_1099 : decode b_L_law 1099 = .ok (.iconst 3, 1) := by decide +kernel
theorem d_L_law_1100 : decode b_L_law 1100 = .ok (.iadd, 1) := by decide +kernel
theorem d_L_law_1101 : decode b_L_law 1101 = .ok (.iaload, 1) := by decide +kernel
theorem d_L_law_1102 : decode b_L_law 1102 = .ok (.aload_n 0, 1) := by decide +kernel
theorem d_L_law_1103 : decode b_L_law 1103 = .ok (.iload 4, 2) := by decide +kernel
theorem d_L_law_1105 : decode b_L_law 1105 = .ok (.iconst 4, 1) := by decide +kernel
theorem d_L_law_1106 : decode b_L_law 1106 = .ok (.iadd, 1) := by decide +kernel
theorem d_L_law_1107 : decode b_L_law 1107 = .ok (.iaload, 1) := by decide +kernel
theorem d_L_law_1108 : decode b_L_law 1108 = .ok (.invokevirtual 134, 3) := by decide +kernel
theorem d_L_law_1111 : decode b_L_law 1111 = .ok (.istore 6, 2) := by decide +kernel
theorem d_L_law_1113 : decode b_L_law 1113 = .ok (.aload_n 2, 1) := by decide +kernel
theorem d_L_law_1114 : decode b_L_law 1114 = .ok (.invokevirtual 80, 3) := by decide +kernel
theorem d_L_law_1117 : decode b_L_law 1117 = .ok (.iload 5, 2) := by decide +kernel
theorem d_L_law_1119 : decode b_L_law 1119 = .ok (.if_icmp .eq 5, 3) := by decide +kernel
theorem d_L_law_1122 : decode b_L_law 1122 = .ok (.iconst 0, 1) := by decide +kernel
theorem d_L_law_1123 : decode b_L_law 1123 = .ok (.ireturn, 1) := by decide +kernel
theorem d_L_law_1124 : decode b_L_law 1124 = .ok (.iload 5, 2) := by decide +kernel
theorem d_L_law_1126 : decode b_L_law 1126 = .ok (.ifCond .ne 15, 3) := by decide +kernel
theorem d_L_law_1129 : decode b_L_law 1129 = .ok (.aload_n 3, 1) := by decide +kernel
theorem d_L_law_1130 : decode b_L_law 1130 = .ok (.iconst 0, 1) := by decide +kernel
theorem d_L_law_1131 : decode b_L_law 1131 = .ok (.laload, 1) := by decide +kernel
theorem d_L_law_1132 : decode b_L_law 1132 = .ok (.iload 6, 2) := by decide +kernel
theorem d_L_law_1134 : decode b_L_law 1134 = .ok (.i2l, 1) := by decide +kernel
theorem d_L_law_1135 : decode b_L_law 1135 = .ok (.lcmp, 1) := by decide +kernel
theorem d_L_law_1136 : decode b_L_law 1136 = .ok (.ifCond .eq 5, 3) := by decide +kernel
theorem d_L_law_1139 : decode b_L_law 1139 = .ok (.iconst 0, 1) := by decide +kernel
theorem d_L_law_1140 : decode b_L_law 1140 = .ok (.ireturn, 1) := by decide +kernel
theorem d_L_law_1141 : decode b_L_law 1141 = .ok (.goto 127, 3) := by decide +kernel
theorem d_L_law_1144 : decode b_L_law 1144 = .ok (.aload_n 1, 1) := by decide +kernel
theorem d_L_law_1145 : decode b_L_law 1145 = .ok (.aload_n 0, 1) := by decide +kernel
theorem d_L_law_1146 : decode b_L_law 1146 = .ok (.iload 4, 2) := by decide +kernel
theorem d_L_law_1148 : decode b_L_law 1148 = .ok (.iconst 1, 1) := by decide +kernel
theorem d_L_law_1149 : decode b_L_law 1149 = .ok (.iadd, 1) := by decide +kernel
theorem d_L_law_1150 : decode b_L_law 1150 = .ok (.iaload, 1) := by decide +kernel
theorem d_L_law_1151 : decode b_L_law 1151 = .ok (.aload_n 0, 1) := by decide +kernel
theorem d_L_law_1152 : decode b_L_law 1152 = .ok (.iload 4, 2) := by decide +kernel
theorem d_L_law_1154 : decode b_L_law 1154 = .ok (.iconst 2, 1) := by decide +kernel
theorem d_L_law_1155 : decode b_L_law 1155 = .ok (.iadd, 1) := by decide +kernel
theorem d_L_law_1156 : decode b_L_law 1156 = .ok (.iaload, 1) := by decide +kernel
theorem d_L_law_1157 : decode b_L_law 1157 = .ok (.aload_n 3, 1) := by decide +kernel
theorem d_L_law_1158 : decode b_L_law 1158 = .ok (.invokestatic 135, 3) := by decide +kernel
theorem d_L_law_1161 : decode b_L_law 1161 = .ok (.istore 5, 2) := by decide +kernel
theorem d_L_law_1163 : decode b_L_law 1163 = .ok (.aload_n 2, 1) := by decide +kernel
theorem d_L_law_1164 : decode b_L_law 1164 = .ok (.aload_n 0, 1) := by decide +kernel
theorem d_L_law_1165 : decode b_L_law 1165 = .ok (.iload 4, 2) := by decide +kernel
theorem d_L_law_1167 : decode b_L_law 1167 = .ok (.iconst 1, 1) := by decide +kernel
theorem d_L_law_1168 : decode b_L_law 1168 = .ok (.iadd, 1) := by decide +kernel
theorem d_L_law_1169 : decode b_L_law 1169 = .ok (.iaload, 1) := by decide +kernel
theorem d_L_law_1170 : decode b_L_law 1170 = .ok (.aload_n 0, 1) := by decide +kernel
theorem d_L_law_1171 : decode b_L_law 1171 = .ok (.iload 4, 2) := by decide +kernel
theorem d_L_law_1173 : decode b_L_law 1173 = .ok (.iconst 2, 1) := by decide +kernel
theorem d_L_law_1174 : decode b_L_law 1174 = .ok (.iadd, 1) := by decide +kernel
theorem d_L_law_1175 : decode b_L_law 1175 = .ok (.iaload, 1) := by decide +kernel
theorem d_L_law_1176 : decode b_L_law 1176 = .ok (.invokevirtual 137, 3) := by decide +kernel
theorem d_L_law_1179 : decode b_L_law 1179 = .ok (.istore 6, 2) := by decide +kernel
theorem d_L_law_1181 : decode b_L_law 1181 = .ok (.aload_n 2, 1) := by decide +kernel
theorem d_L_law_1182 : decode b_L_law 1182 = .ok (.invokevirtual 80, 3) := by decide +kernel
theorem d_L_law_1185 : decode b_L_law 1185 = .ok (.iload 5, 2) := by decide +kernel
theorem d_L_law_1187 : decode b_L_law 1187 = .ok (.if_icmp .eq 5, 3) := by decide +kernel
theorem d_L_law_1190 : decode b_L_law 1190 = .ok (.iconst 0, 1) := by decide +kernel
theorem d_L_law_1191 : decode b_L_law 1191 = .ok (.ireturn, 1) := by decide +kernel
theorem d_L_law_1192 : decode b_L_law 1192 = .ok (.iload 5, 2) := by decide +kernel
theorem d_L_law_1194 : decode b_L_law 1194 = .ok (.ifCond .ne 15, 3) := by decide +kernel
theorem d_L_law_1197 : decode b_L_law 1197 = .ok (.aload_n 3, 1) := by decide +kernel
theorem d_L_law_1198 : decode b_L_law 1198 = .ok (.iconst 0, 1) := by decide +kernel
theorem d_L_law_1199 : decode b_L_law 1199 = .ok (.laload, 1) := by decide +kernel
theorem d_L_law_1200 : decode b_L_law 1200 = .ok (.iload 6, 2) := by decide +kernel
theorem d_L_law_1202 : decode b_L_law 1202 = .ok (.i2l, 1) := by decide +kernel
theorem d_L_law_1203 : decode b_L_law 1203 = .ok (.lcmp, 1) := by decide +kernel
theorem d_L_law_1204 : decode b_L_law 1204 = .ok (.ifCond .eq 5, 3) := by decide +kernel
theorem d_L_law_1207 : decode b_L_law 1207 = .ok (.iconst 0, 1) := by decide +kernel
theorem d_L_law_1208 : decode b_L_law 1208 = .ok (.ireturn, 1) := by decide +kernel
theorem d_L_law_1209 : decode b_L_law 1209 = .ok (.goto 59, 3) := by decide +kernel
theorem d_L_law_1212 : decode b_L_law 1212 = .ok (.aload_n 1, 1) := by decide +kernel
theorem d_L_law_1213 : decode b_L_law 1213 = .ok (.aload_n 0, 1) := by decide +kernel
theorem d_L_law_1214 : decode b_L_law 1214 = .ok (.iload 4, 2) := by decide +kernel
theorem d_L_law_1216 : decode b_L_law 1216 = .ok (.iconst 1, 1) := by decide +kernel
theorem d_L_law_1217 : decode b_L_law 1217 = .ok (.iadd, 1) := by decide +kernel
theorem d_L_law_1218 : decode b_L_law 1218 = .ok (.iaload, 1) := by decide +kernel
theorem d_L_law_1219 : decode b_L_law 1219 = .ok (.aload_n 3, 1) := by decide +kernel
theorem d_L_law_1220 : decode b_L_law 1220 = .ok (.invokestatic 138, 3) := by decide +kernel
theorem d_L_law_1223 : decode b_L_law 1223 = .ok (.istore 5, 2) := by decide +kernel
theorem d_L_law_1225 : decode b_L_law 1225 = .ok (.aload_n 2, 1) := by decide +kernel
theorem d_L_law_1226 : decode b_L_law 1226 = .ok (.aload_n 0, 1) := by decide +kernel
theorem d_L_law_1227 : decode b_L_law 1227 = .ok (.iload 4, 2) := by decide +kernel
theorem d_L_law_1229 : decode b_L_law 1229 = .ok (.iconst 1, 1) := by decide +kernel
theorem d_L_law_1230 : decode b_L_law 1230 = .ok (.iadd, 1) := by decide +kernel
theorem d_L_law_1231 : decode b_L_law 1231 = .ok (.iaload, 1) := by decide +kernel
theorem d_L_law_1232 : decode b_L_law 1232 = .ok (.invokevirtual 140, 3) := by decide +kernel
theorem d_L_law_1235 : decode b_L_law 1235 = .ok (.istore 6, 2) := by decide +kernel
theorem d_L_law_1237 : decode b_L_law 1237 = .ok (.aload_n 2, 1) := by decide +kernel
theorem d_L_law_1238 : decode b_L_law 1238 = .ok (.invokevirtual 80, 3) := by decide +kernel
theorem d_L_law_1241 : decode b_L_law 1241 = .ok (.iload 5, 2) := by decide +kernel
theorem d_L_law_1243 : decode b_L_law 1243 = .ok (.if_icmp .eq 5, 3) := by decide +kernel
theorem d_L_law_1246 : decode b_L_law 1246 = .ok (.iconst 0, 1) := by decide +kernel
theorem d_L_law_1247 : decode b_L_law 1247 = .ok (.ireturn, 1) := by decide +kernel
theorem d_L_law_1248 : decode b_L_law 1248 = .ok (.iload 5, 2) := by decide +kernel
theorem d_L_law_1250 : decode b_L_law 1250 = .ok (.ifCond .ne 15, 3) := by decide +kernel
theorem d_L_law_1253 : decode b_L_law 1253 = .ok (.aload_n 3, 1) := by decide +kernel
theorem d_L_law_1254 : decode b_L_law 1254 = .ok (.iconst 0, 1) := by decide +kernel
theorem d_L_law_1255 : decode b_L_law 1255 = .ok (.laload, 1) := by decide +kernel
theorem d_L_law_1256 : decode b_L_law 1256 = .ok (.iload 6, 2) := by decide +kernel
theorem d_L_law_1258 : decode b_L_law 1258 = .ok (.i2l, 1) := by decide +kernel
theorem d_L_law_1259 : decode b_L_law 1259 = .ok (.lcmp, 1) := by decide +kernel
theorem d_L_law_1260 : decode b_L_law 1260 = .ok (.ifCond .eq 5, 3) := by decide +kernel
theorem d_L_law_1263 : decode b_L_law 1263 = .ok (.iconst 0, 1) := by decide +kernel
theorem d_L_law_1264 : decode b_L_law 1264 = .ok (.ireturn, 1) := by decide +kernel
theorem d_L_law_1265 : decode b_L_law 1265 = .ok (.goto 3, 3) := by decide +kernel
theorem d_L_law_1268 : decode b_L_law 1268 = .ok (.iinc 4 6, 3) := by decide +kernel
theorem d_L_law_1271 : decode b_L_law 1271 = .ok (.goto (-1248), 3) := by decide +kernel
theorem d_L_law_1274 : decode b_L_law 1274 = .ok (.iconst 1, 1) := by decide +kernel
theorem d_L_law_1275 : decode b_L_law 1275 = .ok (.ireturn, 1) := by decide +kernel
