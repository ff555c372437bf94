theorem d_T_init_0 : decode b_T_init 0 = .ok (.aload_n 0, 1) := by decide +kernel
theorem d_T_init_1 : decode b_T_init 1 = .ok (.invokespecial 1, 3) := by decide +kernel
theorem d_T_init_4 : decode b_T_init 4 = .ok (.aload_n 0, 1) := by decide +kernel
theorem d_T_init_5 : decode b_T_init 5 = .ok (.new 7, 3) := by decide +kernel
theorem d_T_init_8 : decode b_T_init 8 = .ok (.dup, 1) := by decide +kernel
theorem d_T_init_9 : decode b_T_init 9 = .ok (.bipush 24, 2) := by decide +kernel
theorem d_T_init_11 : decode b_T_init 11 = .ok (.invokespecial 11, 3) := by decide +kernel
theorem d_T_init_14 : decode b_T_init 14 = .ok (.putfield 14, 3) := by decide +kernel
theorem d_T_init_17 : decode b_T_init 17 = .ok (.aload_n 0, 1) := by decide +kernel
theorem d_T_init_18 : decode b_T_init 18 = .ok (.new 18, 3) := by decide +kernel
theorem d_T_init_21 : decode b_T_init 21 = .ok (.dup, 1) := by decide +kernel
theorem d_T_init_22 : decode b_T_init 22 = .ok (.invokespecial 20, 3) := by decide +kernel
theorem d_T_init_25 : decode b_T_init 25 = .ok (.putfield 21, 3) := by decide +kernel
theorem d_T_init_28 : decode b_T_init 28 = .ok (.aload_n 0, 1) := by decide +kernel
theorem d_T_init_29 : decode b_T_init 29 = .ok (.new 18, 3) := by decide +kernel
theorem d_T_init_32 : decode b_T_init 32 = .ok (.dup, 1) := by decide +kernel
theorem d_T_init_33 : decode b_T_init 33 = .ok (.invokespecial 20, 3) := by decide +kernel
theorem d_T_init_36 : decode b_T_init 36 = .ok (.putfield 25, 3) := by decide +kernel
theorem d_T_init_39 : decode b_T_init 39 = .ok (.aload_n 0, 1) := by decide +kernel
theorem d_T_init_40 : decode b_T_init 40 = .ok (.bipush 25, 2) := by decide +kernel
theorem d_T_init_42 : decode b_T_init 42 = .ok (.putfield 28, 3) := by decide +kernel
theorem d_T_init_45 : decode b_T_init 45 = .ok (.aload_n 0, 1) := by decide +kernel
theorem d_T_init_46 : decode b_T_init 46 = .ok (.new 32, 3) := by decide +kernel
theorem d_T_init_49 : decode b_T_init 49 = .ok (.dup, 1) := by decide +kernel
theorem d_T_init_50 : decode b_T_init 50 = .ok (.iconst 0, 1) := by decide +kernel
theorem d_T_init_51 : decode b_T_init 51 = .ok (.iconst 0, 1) := by decide +kernel
theorem d_T_init_52 : decode b_T_init 52 = .ok (.invokespecial 34, 3) := by decide +kernel
theorem d_T_init_55 : decode b_T_init 55 = .ok (.putfield 37, 3) := by decide +kernel
theorem d_T_init_58 : decode b_T_init 58 = .ok (.aload_n 0, 1) := by decide +kernel
theorem d_T_init_59 : decode b_T_init 59 = .ok (.new 7, 3) := by decide +kernel
theorem d_T_init_62 : decode b_T_init 62 = .ok (.dup, 1) := by decide +kernel
theorem d_T_init_63 : decode b_T_init 63 = .ok (.bipush 24, 2) := by decide +kernel
theorem d_T_init_65 : decode b_T_init 65 = .ok (.invokespecial 11, 3) := by decide +kernel
theorem d_T_init_68 : decode b_T_init 68 = .ok (.putfield 41, 3) := by decide +kernel
theorem d_T_init_71 : decode b_T_init 71 = .ok (.aload_n 0, 1) := by decide +kernel
theorem d_T_init_72 : decode b_T_init 72 = .ok (.new 7, 3) := by decide +kernel
theorem d_T_init_75 : decode b_T_init 75 = .ok (.dup, 1) := by decide +kernel
theorem d_T_init_76 : decode b_T_init 76 = .ok (.bipush 24, 2) := by decide +kernel
theorem d_T_init_78 : decode b_T_init 78 = .ok (.invokespecial 11, 3) := by decide +kernel
theorem d_T_init_81 : decode b_T_init 81 = .ok (.putfield 44, 3) := by decide +kernel
theorem d_T_init_84 : decode b_T_init 84 = .ok (.aload_n 0, 1) := by decide +kernel
theorem d_T_init_85 : decode b_T_init 85 = .ok (.bipush 9, 2) := by decide +kernel
theorem d_T_init_87 : decode b_T_init 87 = .ok (.newarray .int, 2) := by decide +kernel
theorem d_T_init_89 : decode b_T_init 89 = .ok (.putfield 47, 3) := by decide +kernel
theorem d_T_init_92 : decode b_T_init 92 = .ok (.return_, 1) := by decide +kernel
theorem d_T_clear_0 : decode b_T_clear 0 = .ok (.aload_n 0, 1) := by decide +kernel
theorem d_T_clear_1 : decode b_T_clear 1 = .ok (.getfield 14, 3) := by decide +kernel
theorem d_T_clear_4 : decode b_T_clear 4 = .ok (.getfield 62, 3) := by decide +kernel
theorem d_T_clear_7 : decode b_T_clear 7 = .ok (.istore_n 1, 1) := by decide +kernel
theorem d_T_clear_8 : decode b_T_clear 8 = .ok (.aload_n 0, 1) := by decide +kernel
theorem d_T_clear_9 : decode b_T_clear 9 = .ok (.getfield 14, 3) := by decide +kernel
theorem d_T_clear_12 : decode b_T_clear 12 = .ok (.invokevirtual 73, 3) := by decide +kernel
theorem d_T_clear_15 : decode b_T_clear 15 = .ok (.iload_n 1, 1) := by decide +kernel
theorem d_T_clear_16 : decode b_T_clear 16 = .ok (.ireturn, 1) := by decide +kernel
theorem d_T_near_0 : decode b_T_near 0 = .ok (.iconst (-1), 1) := by decide +kernel
theorem d_T_near_1 : decode b_T_near 1 = .ok (.istore_n 1, 1) := by decide +kernel
theorem d_T_near_2 : decode b_T_near 2 = .ok (.iconst 0, 1) := by decide +kernel
theorem d_T_near_3 : decode b_T_near 3 = .ok (.istore_n 2, 1) := by decide +kernel
theorem d_T_near_4 : decode b_T_near 4 = .ok (.iconst 0, 1) := by decide +kernel
theorem d_T_near_5 : decode b_T_near 5 = .ok (.istore_n 3, 1) := by decide +kernel
theorem d_T_near_6 : decode b_T_near 6 = .ok (.iload_n 3, 1) := by decide +kernel
theorem d_T_near_7 : decode b_T_near 7 = .ok (.aload_n 0, 1) := by decide +kernel
theorem d_T_near_8 : decode b_T_near 8 = .ok (.getfield 21, 3) := by decide +kernel
theorem d_T_near_11 : decode b_T_near 11 = .ok (.invokevirtual 86, 3) := by decide +kernel
theorem d_T_near_14 : decode b_T_near 14 = .ok (.if_icmp .ge 45, 3) := by decide +kernel
theorem d_T_near_17 : decode b_T_near 17 = .ok (.aload_n 0, 1) := by decide +kernel
theorem d_T_near_18 : decode b_T_near 18 = .ok (.aload_n 0, 1) := by decide +kernel
theorem d_T_near_19 : decode b_T_near 19 = .ok (.getfield 21, 3) := by decide +kernel
theorem d_T_near_22 : decode b_T_near 22 = .ok (.iload_n 3, 1) := by decide +kernel
theorem d_T_near_23 : decode b_T_near 23 = .ok (.invokevirtual 192, 3) := by decide +kernel
theorem d_T_near_26 : decode b_T_near 26 = .ok (.checkcast 92, 3) := by decide +kernel
theorem d_T_near_29 : decode b_T_near 29 = .ok (.getfield 196, 3) := by decide +kernel
theorem d_T_near_32 : decode b_T_near 32 = .ok (.invokevirtual 199, 3) := by decide +kernel
theorem d_T_near_35 : decode b_T_near 35 = .ok (.istore 4, 2) := by decide +kernel
theorem d_T_near_37 : decode b_T_near 37 = .ok (.iload_n 1, 1) := by decide +kernel
theorem d_T_near_38 : decode b_T_near 38 = .ok (.iconst (-1), 1) := by decide +kernel
theorem d_T_near_39 : decode b_T_near 39 = .ok (.if_icmp .eq 9, 3) := by decide +kernel
theorem d_T_near_42 : decode b_T_near 42 = .ok (.iload 4, 2) := by decide +kernel
theorem d_T_near_44 : decode b_T_near 44 = .ok (.iload_n 2, 1) := by decide +kernel
theorem d_T_near_45 : decode b_T_near 45 = .ok (.if_icmp .ge 8, 3) := by decide +kernel
theorem d_T_near_48 : decode b_T_near 48 = .ok (.iload_n 3, 1) := by decide +kernel
theorem d_T_near_49 : decode b_T_near 49 = .ok (.istore_n 1, 1) := by decide +kernel
theorem d_T_near_50 : decode b_T_near 50 = .ok (.iload 4, 2) := by decide +kernel
theorem d_T_near_52 : decode b_T_near 52 = .ok (.istore_n 2, 1) := by decide +kernel
theorem d_T_near_53 : decode b_T_near 53 = .ok (.iinc 3 1, 3) := by decide +kernel
theorem d_T_near_56 : decode b_T_near 56 = .ok (.goto (-50), 3) := by decide +kernel
theorem d_T_near_59 : decode b_T_near 59 = .ok (.iload_n 1, 1) := by decide +kernel
theorem d_T_near_60 : decode b_T_near 60 = .ok (.ireturn, 1) := by decide +kernel
theorem d_T_changesTo_0 : decode b_T_changesTo 0 = .ok (.iconst 0, 1) := by decide +kernel
theorem d_T_changesTo_1 : decode b_T_changesTo 1 = .ok (.istore_n 2, 1) := by decide +kernel
theorem d_T_changesTo_2 : decode b_T_changesTo 2 = .ok (.iload_n 2, 1) := by decide +kernel
theorem d_T_changesTo_3 : decode b_T_changesTo 3 = .ok (.aload_n 1, 1) := by decide +kernel
theorem d_T_changesTo_4 : decode b_T_changesTo 4 = .ok (.getfield 62, 3) := by decide +kernel
theorem d_T_changesTo_7 : decode b_T_changesTo 7 = .ok (.if_icmp .gt 25, 3) := by decide +kernel
theorem d_T_changesTo_10 : decode b_T_changesTo 10 = .ok (.iload_n 2, 1) := by decide +kernel
theorem d_T_changesTo_11 : decode b_T_changesTo 11 = .ok (.aload_n 0, 1) := by decide +kernel
theorem d_T_changesTo_12 : decode b_T_changesTo 12 = .ok (.getfield 47, 3) := by decide +kernel
theorem d_T_changesTo_15 : decode b_T_changesTo 15 = .ok (.arraylength, 1) := by decide +kernel
theorem d_T_changesTo_16 : decode b_T_changesTo 16 = .ok (.if_icmp .ge 16, 3) := by decide +kernel
theorem d_T_changesTo_19 : decode b_T_changesTo 19 = .ok (.aload_n 0, 1) := by decide +kernel
theorem d_T_changesTo_20 : decode b_T_changesTo 20 = .ok (.getfield 47, 3) := by decide +kernel
theorem d_T_changesTo_23 : decode b_T_changesTo 23 = .ok (.iload_n 2, 1) := by decide +kernel
theorem d_T_changesTo_24 : decode b_T_changesTo 24 = .ok (.iload_n 2, 1) := by decide +kernel
theorem d_T_changesTo_25 : decode b_T_changesTo 25 = .ok (.iastore, 1) := by decide +kernel
theorem d_T_changesTo_26 : decode b_T_changesTo 26 = .ok (.iinc 2 1, 3) := by decide +kernel
theorem d_T_changesTo_29 : decode b_T_changesTo 29 = .ok (.goto (-27), 3) := by decide +kernel
theorem d_T_changesTo_32 : decode b_T_changesTo 32 = .ok (.aload_n 1, 1) := by decide +kernel
theorem d_T_changesTo_33 : decode b_T_changesTo 33 = .ok (.getfield 62, 3) := by decide +kernel
theorem d_T_changesTo_36 : decode b_T_changesTo 36 = .ok (.istore_n 2, 1) := by decide +kernel
theorem d_T_changesTo_37 : decode b_T_changesTo 37 = .ok (.iconst 0, 1) := by decide +kernel
theorem d_T_changesTo_38 : decode b_T_changesTo 38 = .ok (.istore_n 3, 1) := by decide +kernel
theorem d_T_changesTo_39 : decode b_T_changesTo 39 = .ok (.iload_n 3, 1) := by decide +kernel
theorem d_T_changesTo_40 : decode b_T_changesTo 40 = .ok (.aload_n 0, 1) := by decide +kernel
theorem d_T_changesTo_41 : decode b_T_changesTo 41 = .ok (.getfield 14, 3) := by decide +kernel
theorem d_T_changesTo_44 : decode b_T_changesTo 44 = .ok (.getfield 62, 3) := by decide +kernel
theorem d_T_changesTo_47 : decode b_T_changesTo 47 = .ok (.if_icmp .ge 16, 3) := by decide +kernel
theorem d_T_changesTo_50 : decode b_T_changesTo 50 = .ok (.aload_n 0, 1) := by decide +kernel
theorem d_T_changesTo_51 : decode b_T_changesTo 51 = .ok (.iload_n 3, 1) := by decide +kernel
theorem d_T_changesTo_52 : decode b_T_changesTo 52 = .ok (.aload_n 1, 1) := by decide +kernel
theorem d_T_changesTo_53 : decode b_T_changesTo 53 = .ok (.invokevirtual 361, 3) := by decide +kernel
theorem d_T_changesTo_56 : decode b_T_changesTo 56 = .ok (.istore_n 2, 1) := by decide +kernel
theorem d_T_changesTo_57 : decode b_T_changesTo 57 = .ok (.iinc 3 1, 3) := by decide +kernel
theorem d_T_changesTo_60 : decode b_T_changesTo 60 = .ok (.goto (-21), 3) := by decide +kernel
theorem d_T_changesTo_63 : decode b_T_changesTo 63 = .ok (.iload_n 2, 1) := by decide +kernel
theorem d_T_changesTo_64 : decode b_T_changesTo 64 = .ok (.ireturn, 1) := by decide +kernel
theorem d_T_changesWithSign_0 : decode b_T_changesWithSign 0 = .ok (.aload_n 0, 1) := by decide +kernel
theorem d_T_changesWithSign_1 : decode b_T_changesWithSign 1 = .ok (.getfield 47, 3) := by decide +kernel
theorem d_T_changesWithSign_4 : decode b_T_changesWithSign 4 = .ok (.iconst 0, 1) := by decide +kernel
theorem d_T_changesWithSign_5 : decode b_T_changesWithSign 5 = .ok (.iaload, 1) := by decide +kernel
theorem d_T_changesWithSign_6 : decode b_T_changesWithSign 6 = .ok (.istore_n 3, 1) := by decide +kernel
theorem d_T_changesWithSign_7 : decode b_T_changesWithSign 7 = .ok (.iload_n 1, 1) := by decide +kernel
theorem d_T_changesWithSign_8 : decode b_T_changesWithSign 8 = .ok (.iconst 1, 1) := by decide +kernel
theorem d_T_changesWithSign_9 : decode b_T_changesWithSign 9 = .ok (.iadd, 1) := by decide +kernel
theorem d_T_changesWithSign_10 : decode b_T_changesWithSign 10 = .ok (.istore 4, 2) := by decide +kernel
theorem d_T_changesWithSign_12 : decode b_T_changesWithSign 12 = .ok (.aload_n 0, 1) := by decide +kernel
theorem d_T_changesWithSign_13 : decode b_T_changesWithSign 13 = .ok (.getfield 47, 3) := by decide +kernel
theorem d_T_changesWithSign_16 : decode b_T_changesWithSign 16 = .ok (.iconst 0, 1) := by decide +kernel
theorem d_T_changesWithSign_17 : decode b_T_changesWithSign 17 = .ok (.iload 4, 2) := by decide +kernel
theorem d_T_changesWithSign_19 : decode b_T_changesWithSign 19 = .ok (.iastore, 1) := by decide +kernel
theorem d_T_changesWithSign_20 : decode b_T_changesWithSign 20 = .ok (.iconst 1, 1) := by decide +kernel
theorem d_T_changesWithSign_21 : decode b_T_changesWithSign 21 = .ok (.istore 5, 2) := by decide +kernel
theorem d_T_changesWithSign_23 : decode b_T_changesWithSign 23 = .ok (.iload 5, 2) := by decide +kernel
theorem d_T_changesWithSign_25 : decode b_T_changesWithSign 25 = .ok (.aload_n 2, 1) := by decide +kernel
theorem d_T_changesWithSign_26 : decode b_T_changesWithSign 26 = .ok (.getfield 62, 3) := by decide +kernel
theorem d_T_changesWithSign_29 : decode b_T_changesWithSign 29 = .ok (.if_icmp .gt 79, 3) := by decide +kernel
theorem d_T_changesWithSign_32 : decode b_T_changesWithSign 32 = .ok (.iload 5, 2) := by decide +kernel
theorem d_T_changesWithSign_34 : decode b_T_changesWithSign 34 = .ok (.aload_n 0, 1) := by decide +kernel
theorem d_T_changesWithSign_35 : decode b_T_changesWithSign 35 = .ok (.getfield 47, 3) := by decide +kernel
theorem d_T_changesWithSign_38 : decode b_T_changesWithSign 38 = .ok (.arraylength, 1) := by decide +kernel
theorem d_T_changesWithSign_39 : decode b_T_changesWithSign 39 = .ok (.if_icmp .ge 69, 3) := by decide +kernel
theorem d_T_changesWithSign_42 : decode b_T_changesWithSign 42 = .ok (.iload_n 3, 1) := by decide +kernel
theorem d_T_changesWithSign_43 : decode b_T_changesWithSign 43 = .ok (.aload_n 0, 1) := by decide +kernel
theorem d_T_changesWithSign_44 : decode b_T_changesWithSign 44 = .ok (.getfield 14, 3) := by decide +kernel
theorem d_T_changesWithSign_47 : decode b_T_changesWithSign 47 = .ok (.iload_n 1, 1) := by decide +kernel
theorem d_T_changesWithSign_48 : decode b_T_changesWithSign 48 = .ok (.invokevirtual 189, 3) := by decide +kernel
theorem d_T_changesWithSign_51 : decode b_T_changesWithSign 51 = .ok (.aload_n 2, 1) := by decide +kernel
theorem d_T_changesWithSign_52 : decode b_T_changesWithSign 52 = .ok (.iload 5, 2) := by decide +kernel
theorem d_T_changesWithSign_54 : decode b_T_changesWithSign 54 = .ok (.iconst 1, 1) := by decide +kernel
theorem d_T_changesWithSign_55 : decode b_T_changesWithSign 55 = .ok (.isub, 1) := by decide +kernel
theorem d_T_changesWithSign_56 : decode b_T_changesWithSign 56 = .ok (.invokevirtual 189, 3) := by decide +kernel
theorem d_T_changesWithSign_59 : decode b_T_changesWithSign 59 = .ok (.if_icmp .ne 7, 3) := by decide +kernel
theorem d_T_changesWithSign_62 : decode b_T_changesWithSign 62 = .ok (.iconst 0, 1) := by decide +kernel
theorem d_T_changesWithSign_63 : decode b_T_changesWithSign 63 = .ok (.goto 4, 3) := by decide +kernel
theorem d_T_changesWithSign_66 : decode b_T_changesWithSign 66 = .ok (.iconst 1, 1) := by decide +kernel
theorem d_T_changesWithSign_67 : decode b_T_changesWithSign 67 = .ok (.iadd, 1) := by decide +kernel
theorem d_T_changesWithSign_68 : decode b_T_changesWithSign 68 = .ok (.istore 6, 2) := by decide +kernel
theorem d_T_changesWithSign_70 : decode b_T_changesWithSign 70 = .ok (.aload_n 0, 1) := by decide +kernel
theorem d_T_changesWithSign_71 : decode b_T_changesWithSign 71 = .ok (.getfield 47, 3) := by decide +kernel
theorem d_T_changesWithSign_74 : decode b_T_changesWithSign 74 = .ok (.iload 5, 2) := by decide +kernel
theorem d_T_changesWithSign_76 : decode b_T_changesWithSign 76 = .ok (.iaload, 1) := by decide +kernel
theorem d_T_changesWithSign_77 : decode b_T_changesWithSign 77 = .ok (.istore_n 3, 1) := by decide +kernel
theorem d_T_changesWithSign_78 : decode b_T_changesWithSign 78 = .ok (.iload 6, 2) := by decide +kernel
theorem d_T_changesWithSign_80 : decode b_T_changesWithSign 80 = .ok (.iload_n 3, 1) := by decide +kernel
theorem d_T_changesWithSign_81 : decode b_T_changesWithSign 81 = .ok (.iload 4, 2) := by decide +kernel
theorem d_T_changesWithSign_83 : decode b_T_changesWithSign 83 = .ok (.invokestatic 365, 3) := by decide +kernel
theorem d_T_changesWithSign_86 : decode b_T_changesWithSign 86 = .ok (.iconst 1, 1) := by decide +kernel
theorem d_T_changesWithSign_87 : decode b_T_changesWithSign 87 = .ok (.iadd, 1) := by decide +kernel
theorem d_T_changesWithSign_88 : decode b_T_changesWithSign 88 = .ok (.invokestatic 365, 3) := by decide +kernel
theorem d_T_changesWithSign_91 : decode b_T_changesWithSign 91 = .ok (.istore 4, 2) := by decide +kernel
theorem d_T_changesWithSign_93 : decode b_T_changesWithSign 93 = .ok (.aload_n 0, 1) := by decide +kernel
theorem d_T_changesWithSign_94 : decode b_T_changesWithSign 94 = .ok (.getfield 47, 3) := by decide +kernel
theorem d_T_changesWithSign_97 : decode b_T_changesWithSign 97 = .ok (.iload 5, 2) := by decide +kernel
theorem d_T_changesWithSign_99 : decode b_T_changesWithSign 99 = .ok (.iload 4, 2) := by decide +kernel
theorem d_T_changesWithSign_101 : decode b_T_changesWithSign 101 = .ok (.iastore, 1) := by decide +kernel
theorem d_T_changesWithSign_102 : decode b_T_changesWithSign 102 = .ok (.iinc 5 1, 3) := by decide +kernel
theorem d_T_changesWithSign_105 : decode b_T_changesWithSign 105 = .ok (.goto (-82), 3) := by decide +kernel
theorem d_T_changesWithSign_108 : decode b_T_changesWithSign 108 = .ok (.iload 4, 2) := by decide +kernel
theorem d_T_changesWithSign_110 : decode b_T_changesWithSign 110 = .ok (.ireturn, 1) := by decide +kernel
theorem d_T_unit_0 : decode b_T_unit 0 = .ok (.iload_n 1, 1) := by decide +kernel
theorem d_T_unit_1 : decode b_T_unit 1 = .ok (.invokestatic 51, 3) := by decide +kernel
theorem d_T_unit_4 : decode b_T_unit 4 = .ok (.ifCond .ne 13, 3) := by decide +kernel
theorem d_T_unit_7 : decode b_T_unit 7 = .ok (.new 55, 3) := by decide +kernel
theorem d_T_unit_10 : decode b_T_unit 10 = .ok (.dup, 1) := by decide +kernel
theorem d_T_unit_11 : decode b_T_unit 11 = .ok (.ldc 57, 2) := by decide +kernel
theorem d_T_unit_13 : decode b_T_unit 13 = .ok (.invokespecial 59, 3) := by decide +kernel
theorem d_T_unit_16 : decode b_T_unit 16 = .ok (.athrow, 1) := by decide +kernel
theorem d_T_unit_17 : decode b_T_unit 17 = .ok (.aload_n 0, 1) := by decide +kernel
theorem d_T_unit_18 : decode b_T_unit 18 = .ok (.getfield 14, 3) := by decide +kernel
theorem d_T_unit_21 : decode b_T_unit 21 = .ok (.getfield 62, 3) := by decide +kernel
theorem d_T_unit_24 : decode b_T_unit 24 = .ok (.bipush 24, 2) := by decide +kernel
theorem d_T_unit_26 : decode b_T_unit 26 = .ok (.if_icmp .lt 13, 3) := by decide +kernel
theorem d_T_unit_29 : decode b_T_unit 29 = .ok (.new 65, 3) := by decide +kernel
theorem d_T_unit_32 : decode b_T_unit 32 = .ok (.dup, 1) := by decide +kernel
theorem d_T_unit_33 : decode b_T_unit 33 = .ok (.ldc 67, 2) := by decide +kernel
theorem d_T_unit_35 : decode b_T_unit 35 = .ok (.invokespecial 69, 3) := by decide +kernel
theorem d_T_unit_38 : decode b_T_unit 38 = .ok (.athrow, 1) := by decide +kernel
theorem d_T_unit_39 : decode b_T_unit 39 = .ok (.aload_n 0, 1) := by decide +kernel
theorem d_T_unit_40 : decode b_T_unit 40 = .ok (.getfield 14, 3) := by decide +kernel
theorem d_T_unit_43 : decode b_T_unit 43 = .ok (.iload_n 1, 1) := by decide +kernel
theorem d_T_unit_44 : decode b_T_unit 44 = .ok (.invokevirtual 70, 3) := by decide +kernel
theorem d_T_unit_47 : decode b_T_unit 47 = .ok (.aload_n 0, 1) := by decide +kernel
theorem d_T_unit_48 : decode b_T_unit 48 = .ok (.getfield 14, 3) := by decide +kernel
theorem d_T_unit_51 : decode b_T_unit 51 = .ok (.getfield 62, 3) := by decide +kernel
theorem d_T_unit_54 : decode b_T_unit 54 = .ok (.ireturn, 1) := by decide +kernel
theorem d_T_isSign_0 : decode b_T_isSign 0 = .ok (.iload_n 0, 1) := by decide +kernel
theorem d_T_isSign_1 : decode b_T_isSign 1 = .ok (.invokestatic 248, 3) := by decide +kernel
theorem d_T_isSign_4 : decode b_T_isSign 4 = .ok (.ifCond .ne 16, 3) := by decide +kernel
theorem d_T_isSign_7 : decode b_T_isSign 7 = .ok (.iload_n 0, 1) := by decide +kernel
theorem d_T_isSign_8 : decode b_T_isSign 8 = .ok (.invokestatic 251, 3) := by decide +kernel
theorem d_T_isSign_11 : decode b_T_isSign 11 = .ok (.ifCond .ne 9, 3) := by decide +kernel
theorem d_T_isSign_14 : decode b_T_isSign 14 = .ok (.iload_n 0, 1) := by decide +kernel
theorem d_T_isSign_15 : decode b_T_isSign 15 = .ok (.bipush 32, 2) := by decide +kernel
theorem d_T_isSign_17 : decode b_T_isSign 17 = .ok (.if_icmp .ne 7, 3) := by decide +kernel
theorem d_T_isSign_20 : decode b_T_isSign 20 = .ok (.iconst 1, 1) := by decide +kernel
theorem d_T_isSign_21 : decode b_T_isSign 21 = .ok (.goto 4, 3) := by decide +kernel
theorem d_T_isSign_24 : decode b_T_isSign 24 = .ok (.iconst 0, 1) := by decide +kernel
theorem d_T_isSign_25 : decode b_T_isSign 25 = .ok (.ireturn, 1) := by decide +kernel
theorem d_T_isLetter_0 : decode b_T_isLetter 0 = .ok (.iload_n 0, 1) := by decide +kernel
theorem d_T_isLetter_1 : decode b_T_isLetter 1 = .ok (.bipush 97, 2) := by decide +kernel
theorem d_T_isLetter_3 : decode b_T_isLetter 3 = .ok (.if_icmp .lt 13, 3) := by decide +kernel
theorem d_T_isLetter_6 : decode b_T_isLetter 6 = .ok (.iload_n 0, 1) := by decide +kernel
theorem d_T_isLetter_7 : decode b_T_isLetter 7 = .ok (.bipush 122, 2) := by decide +kernel
theorem d_T_isLetter_9 : decode b_T_isLetter 9 = .ok (.if_icmp .gt 7, 3) := by decide +kernel
theorem d_T_isLetter_12 : decode b_T_isLetter 12 = .ok (.iconst 1, 1) := by decide +kernel
theorem d_T_isLetter_13 : decode b_T_isLetter 13 = .ok (.goto 4, 3) := by decide +kernel
theorem d_T_isLetter_16 : decode b_T_isLetter 16 = .ok (.iconst 0, 1) := by decide +kernel
theorem d_T_isLetter_17 : decode b_T_isLetter 17 = .ok (.ireturn, 1) := by decide +kernel
theorem d_T_isDigit_0 : decode b_T_isDigit 0 = .ok (.iload_n 0, 1) := by decide +kernel
theorem d_T_isDigit_1 : decode b_T_isDigit 1 = .ok (.bipush 48, 2) := by decide +kernel
theorem d_T_isDigit_3 : decode b_T_isDigit 3 = .ok (.if_icmp .lt 13, 3) := by decide +kernel
theorem d_T_isDigit_6 : decode b_T_isDigit 6 = .ok (.iload_n 0, 1) := by decide +kernel
theorem d_T_isDigit_7 : decode b_T_isDigit 7 = .ok (.bipush 57, 2) := by decide +kernel
theorem d_T_isDigit_9 : decode b_T_isDigit 9 = .ok (.if_icmp .gt 7, 3) := by decide +kernel
theorem d_T_isDigit_12 : decode b_T_isDigit 12 = .ok (.iconst 1, 1) := by decide +kernel
theorem d_T_isDigit_13 : decode b_T_isDigit 13 = .ok (.goto 4, 3) := by decide +kernel
theorem d_T_isDigit_16 : decode b_T_isDigit 16 = .ok (.iconst 0, 1) := by decide +kernel
theorem d_T_isDigit_17 : decode b_T_isDigit 17 = .ok (.ireturn, 1) := by decide +kernel
theorem d_T_name_0 : decode b_T_name 0 = .ok (.aload_n 0, 1) := by decide +kernel
theorem d_T_name_1 : decode b_T_name 1 = .ok (.invokevirtual 76, 3) := by decide +kernel
theorem d_T_name_4 : decode b_T_name 4 = .ok (.ifCond .ne 13, 3) := by decide +kernel
theorem d_T_name_7 : decode b_T_name 7 = .ok (.new 55, 3) := by decide +kernel
theorem d_T_name_10 : decode b_T_name 10 = .ok (.dup, 1) := by decide +kernel
theorem d_T_name_11 : decode b_T_name 11 = .ok (.ldc 80, 2) := by decide +kernel
theorem d_T_name_13 : decode b_T_name 13 = .ok (.invokespecial 59, 3) := by decide +kernel
theorem d_T_name_16 : decode b_T_name 16 = .ok (.athrow, 1) := by decide +kernel
theorem d_T_name_17 : decode b_T_name 17 = .ok (.aload_n 0, 1) := by decide +kernel
theorem d_T_name_18 : decode b_T_name 18 = .ok (.iconst 0, 1) := by decide +kernel
theorem d_T_name_19 : decode b_T_name 19 = .ok (.invokevirtual 82, 3) := by decide +kernel
theorem d_T_name_22 : decode b_T_name 22 = .ok (.istore_n 1, 1) := by decide +kernel
theorem d_T_name_23 : decode b_T_name 23 = .ok (.iload_n 1, 1) := by decide +kernel
theorem d_T_name_24 : decode b_T_name 24 = .ok (.iconst (-1), 1) := by decide +kernel
theorem d_T_name_25 : decode b_T_name 25 = .ok (.if_icmp .ne 52, 3) := by decide +kernel
theorem d_T_name_28 : decode b_T_name 28 = .ok (.aload_n 0, 1) := by decide +kernel
theorem d_T_name_29 : decode b_T_name 29 = .ok (.getfield 21, 3) := by decide +kernel
theorem d_T_name_32 : decode b_T_name 32 = .ok (.invokevirtual 86, 3) := by decide +kernel
theorem d_T_name_35 : decode b_T_name 35 = .ok (.bipush 24, 2) := by decide +kernel
theorem d_T_name_37 : decode b_T_name 37 = .ok (.if_icmp .lt 13, 3) := by decide +kernel
theorem d_T_name_40 : decode b_T_name 40 = .ok (.new 65, 3) := by decide +kernel
theorem d_T_name_43 : decode b_T_name 43 = .ok (.dup, 1) := by decide +kernel
theorem d_T_name_44 : decode b_T_name 44 = .ok (.ldc 90, 2) := by decide +kernel
theorem d_T_name_46 : decode b_T_name 46 = .ok (.invokespecial 69, 3) := by decide +kernel
theorem d_T_name_49 : decode b_T_name 49 = .ok (.athrow, 1) := by decide +kernel
theorem d_T_name_50 : decode b_T_name 50 = .ok (.aload_n 0, 1) := by decide +kernel
theorem d_T_name_51 : decode b_T_name 51 = .ok (.getfield 21, 3) := by decide +kernel
theorem d_T_name_54 : decode b_T_name 54 = .ok (.invokevirtual 86, 3) := by decide +kernel
theorem d_T_name_57 : decode b_T_name 57 = .ok (.istore_n 1, 1) := by decide +kernel
theorem d_T_name_58 : decode b_T_name 58 = .ok (.aload_n 0, 1) := by decide +kernel
theorem d_T_name_59 : decode b_T_name 59 = .ok (.getfield 21, 3) := by decide +kernel
theorem d_T_name_62 : decode b_T_name 62 = .ok (.new 92, 3) := by decide +kernel
theorem d_T_name_65 : decode b_T_name 65 = .ok (.dup, 1) := by decide +kernel
theorem d_T_name_66 : decode b_T_name 66 = .ok (.aload_n 0, 1) := by decide +kernel
theorem d_T_name_67 : decode b_T_name 67 = .ok (.getfield 14, 3) := by decide +kernel
theorem d_T_name_70 : decode b_T_name 70 = .ok (.invokespecial 94, 3) := by decide +kernel
theorem d_T_name_73 : decode b_T_name 73 = .ok (.invokevirtual 97, 3) := by decide +kernel
theorem d_T_name_76 : decode b_T_name 76 = .ok (.pop, 1) := by decide +kernel
theorem d_T_name_77 : decode b_T_name 77 = .ok (.aload_n 0, 1) := by decide +kernel
theorem d_T_name_78 : decode b_T_name 78 = .ok (.getfield 14, 3) := by decide +kernel
theorem d_T_name_81 : decode b_T_name 81 = .ok (.invokevirtual 73, 3) := by decide +kernel
theorem d_T_name_84 : decode b_T_name 84 = .ok (.iload_n 1, 1) := by decide +kernel
theorem d_T_name_85 : decode b_T_name 85 = .ok (.ireturn, 1) := by decide +kernel
theorem d_T_padMayBeName_0 : decode b_T_padMayBeName 0 = .ok (.aload_n 0, 1) := by decide +kernel
theorem d_T_padMayBeName_1 : decode b_T_padMayBeName 1 = .ok (.getfield 14, 3) := by decide +kernel
theorem d_T_padMayBeName_4 : decode b_T_padMayBeName 4 = .ok (.getfield 62, 3) := by decide +kernel
theorem d_T_padMayBeName_7 : decode b_T_padMayBeName 7 = .ok (.iconst 1, 1) := by decide +kernel
theorem d_T_padMayBeName_8 : decode b_T_padMayBeName 8 = .ok (.if_icmp .lt 15, 3) := by decide +kernel
theorem d_T_padMayBeName_11 : decode b_T_padMayBeName 11 = .ok (.aload_n 0, 1) := by decide +kernel
theorem d_T_padMayBeName_12 : decode b_T_padMayBeName 12 = .ok (.getfield 14, 3) := by decide +kernel
theorem d_T_padMayBeName_15 : decode b_T_padMayBeName 15 = .ok (.getfield 62, 3) := by decide +kernel
theorem d_T_padMayBeName_18 : decode b_T_padMayBeName 18 = .ok (.bipush 8, 2) := by decide +kernel
theorem d_T_padMayBeName_20 : decode b_T_padMayBeName 20 = .ok (.if_icmp .le 5, 3) := by decide +kernel
theorem d_T_padMayBeName_23 : decode b_T_padMayBeName 23 = .ok (.iconst 0, 1) := by decide +kernel
theorem d_T_padMayBeName_24 : decode b_T_padMayBeName 24 = .ok (.ireturn, 1) := by decide +kernel
theorem d_T_padMayBeName_25 : decode b_T_padMayBeName 25 = .ok (.iconst 0, 1) := by decide +kernel
theorem d_T_padMayBeName_26 : decode b_T_padMayBeName 26 = .ok (.istore_n 1, 1) := by decide +kernel
theorem d_T_padMayBeName_27 : decode b_T_padMayBeName 27 = .ok (.iload_n 1, 1) := by decide +kernel
theorem d_T_padMayBeName_28 : decode b_T_padMayBeName 28 = .ok (.aload_n 0, 1) := by decide +kernel
theorem d_T_padMayBeName_29 : decode b_T_padMayBeName 29 = .ok (.getfield 14, 3) := by decide +kernel
theorem d_T_padMayBeName_32 : decode b_T_padMayBeName 32 = .ok (.getfield 62, 3) := by decide +kernel
theorem d_T_padMayBeName_35 : decode b_T_padMayBeName 35 = .ok (.if_icmp .ge 25, 3) := by decide +kernel
theorem d_T_padMayBeName_38 : decode b_T_padMayBeName 38 = .ok (.aload_n 0, 1) := by decide +kernel
theorem d_T_padMayBeName_39 : decode b_T_padMayBeName 39 = .ok (.getfield 14, 3) := by decide +kernel
theorem d_T_padMayBeName_42 : decode b_T_padMayBeName 42 = .ok (.iload_n 1, 1) := by decide +kernel
theorem d_T_padMayBeName_43 : decode b_T_padMayBeName 43 = .ok (.invokevirtual 189, 3) := by decide +kernel
theorem d_T_padMayBeName_46 : decode b_T_padMayBeName 46 = .ok (.invokestatic 248, 3) := by decide +kernel
theorem d_T_padMayBeName_49 : decode b_T_padMayBeName 49 = .ok (.ifCond .ne 5, 3) := by decide +kernel
theorem d_T_padMayBeName_52 : decode b_T_padMayBeName 52 = .ok (.iconst 0, 1) := by decide +kernel
theorem d_T_padMayBeName_53 : decode b_T_padMayBeName 53 = .ok (.ireturn, 1) := by decide +kernel
theorem d_T_padMayBeName_54 : decode b_T_padMayBeName 54 = .ok (.iinc 1 1, 3) := by decide +kernel
theorem d_T_padMayBeName_57 : decode b_T_padMayBeName 57 = .ok (.goto (-30), 3) := by decide +kernel
theorem d_T_padMayBeName_60 : decode b_T_padMayBeName 60 = .ok (.iconst 1, 1) := by decide +kernel
theorem d_T_padMayBeName_61 : decode b_T_padMayBeName 61 = .ok (.ireturn, 1) := by decide +kernel
theorem d_T_nameFrom_0 : decode b_T_nameFrom 0 = .ok (.iconst 0, 1) := by decide +kernel
theorem d_T_nameFrom_1 : decode b_T_nameFrom 1 = .ok (.istore_n 2, 1) := by decide +kernel
theorem d_T_nameFrom_2 : decode b_T_nameFrom 2 = .ok (.iload_n 2, 1) := by decide +kernel
theorem d_T_nameFrom_3 : decode b_T_nameFrom 3 = .ok (.aload_n 0, 1) := by decide +kernel
theorem d_T_nameFrom_4 : decode b_T_nameFrom 4 = .ok (.getfield 21, 3) := by decide +kernel
theorem d_T_nameFrom_7 : decode b_T_nameFrom 7 = .ok (.invokevirtual 86, 3) := by decide +kernel
theorem d_T_nameFrom_10 : decode b_T_nameFrom 10 = .ok (.if_icmp .ge 36, 3) := by decide +kernel
theorem d_T_nameFrom_13 : decode b_T_nameFrom 13 = .ok (.aload_n 0, 1) := by decide +kernel
theorem d_T_nameFrom_14 : decode b_T_nameFrom 14 = .ok (.getfield 14, 3) := by decide +kernel
theorem d_T_nameFrom_17 : decode b_T_nameFrom 17 = .ok (.iload_n 1, 1) := by decide +kernel
theorem d_T_nameFrom_18 : decode b_T_nameFrom 18 = .ok (.aload_n 0, 1) := by decide +kernel
theorem d_T_nameFrom_19 : decode b_T_nameFrom 19 = .ok (.getfield 21, 3) := by decide +kernel
theorem d_T_nameFrom_22 : decode b_T_nameFrom 22 = .ok (.iload_n 2, 1) := by decide +kernel
theorem d_T_nameFrom_23 : decode b_T_nameFrom 23 = .ok (.invokevirtual 192, 3) := by decide +kernel
theorem d_T_nameFrom_26 : decode b_T_nameFrom 26 = .ok (.checkcast 92, 3) := by decide +kernel
theorem d_T_nameFrom_29 : decode b_T_nameFrom 29 = .ok (.getfield 196, 3) := by decide +kernel
theorem d_T_nameFrom_32 : decode b_T_nameFrom 32 = .ok (.invokevirtual 254, 3) := by decide +kernel
theorem d_T_nameFrom_35 : decode b_T_nameFrom 35 = .ok (.ifCond .eq 5, 3) := by decide +kernel
theorem d_T_nameFrom_38 : decode b_T_nameFrom 38 = .ok (.iload_n 2, 1) := by decide +kernel
theorem d_T_nameFrom_39 : decode b_T_nameFrom 39 = .ok (.ireturn, 1) := by decide +kernel
theorem d_T_nameFrom_40 : decode b_T_nameFrom 40 = .ok (.iinc 2 1, 3) := by decide +kernel
theorem d_T_nameFrom_43 : decode b_T_nameFrom 43 = .ok (.goto (-41), 3) := by decide +kernel
theorem d_T_nameFrom_46 : decode b_T_nameFrom 46 = .ok (.iconst (-1), 1) := by decide +kernel
theorem d_T_nameFrom_47 : decode b_T_nameFrom 47 = .ok (.ireturn, 1) := by decide +kernel
theorem d_T_reign_0 : decode b_T_reign 0 = .ok (.aload_n 0, 1) := by decide +kernel
theorem d_T_reign_1 : decode b_T_reign 1 = .ok (.iload_n 1, 1) := by decide +kernel
theorem d_T_reign_2 : decode b_T_reign 2 = .ok (.invokevirtual 100, 3) := by decide +kernel
theorem d_T_reign_5 : decode b_T_reign 5 = .ok (.astore 4, 2) := by decide +kernel
theorem d_T_reign_7 : decode b_T_reign 7 = .ok (.iload_n 2, 1) := by decide +kernel
theorem d_T_reign_8 : decode b_T_reign 8 = .ok (.iload_n 3, 1) := by decide +kernel
theorem d_T_reign_9 : decode b_T_reign 9 = .ok (.invokestatic 104, 3) := by decide +kernel
theorem d_T_reign_12 : decode b_T_reign 12 = .ok (.aload 4, 2) := by decide +kernel
theorem d_T_reign_14 : decode b_T_reign 14 = .ok (.getfield 107, 3) := by decide +kernel
theorem d_T_reign_17 : decode b_T_reign 17 = .ok (.ifnonnull 7, 3) := by decide +kernel
theorem d_T_reign_20 : decode b_T_reign 20 = .ok (.iconst 1, 1) := by decide +kernel
theorem d_T_reign_21 : decode b_T_reign 21 = .ok (.goto 4, 3) := by decide +kernel
theorem d_T_reign_24 : decode b_T_reign 24 = .ok (.iconst 0, 1) := by decide +kernel
theorem d_T_reign_25 : decode b_T_reign 25 = .ok (.istore 5, 2) := by decide +kernel
theorem d_T_reign_27 : decode b_T_reign 27 = .ok (.aload 4, 2) := by decide +kernel
theorem d_T_reign_29 : decode b_T_reign 29 = .ok (.new 32, 3) := by decide +kernel
theorem d_T_reign_32 : decode b_T_reign 32 = .ok (.dup, 1) := by decide +kernel
theorem d_T_reign_33 : decode b_T_reign 33 = .ok (.iload_n 2, 1) := by decide +kernel
theorem d_T_reign_34 : decode b_T_reign 34 = .ok (.iload_n 3, 1) := by decide +kernel
theorem d_T_reign_35 : decode b_T_reign 35 = .ok (.invokespecial 34, 3) := by decide +kernel
theorem d_T_reign_38 : decode b_T_reign 38 = .ok (.putfield 107, 3) := by decide +kernel
theorem d_T_reign_41 : decode b_T_reign 41 = .ok (.iload 5, 2) := by decide +kernel
theorem d_T_reign_43 : decode b_T_reign 43 = .ok (.ireturn, 1) := by decide +kernel
theorem d_T_nameNumbered_0 : decode b_T_nameNumbered 0 = .ok (.iload_n 1, 1) := by decide +kernel
theorem d_T_nameNumbered_1 : decode b_T_nameNumbered 1 = .ok (.ifCond .lt 14, 3) := by decide +kernel
theorem d_T_nameNumbered_4 : decode b_T_nameNumbered 4 = .ok (.iload_n 1, 1) := by decide +kernel
theorem d_T_nameNumbered_5 : decode b_T_nameNumbered 5 = .ok (.aload_n 0, 1) := by decide +kernel
theorem d_T_nameNumbered_6 : decode b_T_nameNumbered 6 = .ok (.getfield 21, 3) := by decide +kernel
theorem d_T_nameNumbered_9 : decode b_T_nameNumbered 9 = .ok (.invokevirtual 86, 3) := by decide +kernel
theorem d_T_nameNumbered_12 : decode b_T_nameNumbered 12 = .ok (.if_icmp .lt 13, 3) := by decide +kernel
theorem d_T_nameNumbered_15 : decode b_T_nameNumbered 15 = .ok (.new 184, 3) := by decide +kernel
theorem d_T_nameNumbered_18 : decode b_T_nameNumbered 18 = .ok (.dup, 1) := by decide +kernel
theorem d_T_nameNumbered_19 : decode b_T_nameNumbered 19 = .ok (.ldc 233, 2) := by decide +kernel
theorem d_T_nameNumbered_21 : decode b_T_nameNumbered 21 = .ok (.invokespecial 188, 3) := by decide +kernel
theorem d_T_nameNumbered_24 : decode b_T_nameNumbered 24 = .ok (.athrow, 1) := by decide +kernel
theorem d_T_nameNumbered_25 : decode b_T_nameNumbered 25 = .ok (.aload_n 0, 1) := by decide +kernel
theorem d_T_nameNumbered_26 : decode b_T_nameNumbered 26 = .ok (.getfield 21, 3) := by decide +kernel
theorem d_T_nameNumbered_29 : decode b_T_nameNumbered 29 = .ok (.iload_n 1, 1) := by decide +kernel
theorem d_T_nameNumbered_30 : decode b_T_nameNumbered 30 = .ok (.invokevirtual 192, 3) := by decide +kernel
theorem d_T_nameNumbered_33 : decode b_T_nameNumbered 33 = .ok (.checkcast 92, 3) := by decide +kernel
theorem d_T_nameNumbered_36 : decode b_T_nameNumbered 36 = .ok (.areturn, 1) := by decide +kernel
theorem d_T_checkYears_0 : decode b_T_checkYears 0 = .ok (.iload_n 0, 1) := by decide +kernel
theorem d_T_checkYears_1 : decode b_T_checkYears 1 = .ok (.invokestatic 203, 3) := by decide +kernel
theorem d_T_checkYears_4 : decode b_T_checkYears 4 = .ok (.ifCond .eq 15, 3) := by decide +kernel
theorem d_T_checkYears_7 : decode b_T_checkYears 7 = .ok (.iload_n 1, 1) := by decide +kernel
theorem d_T_checkYears_8 : decode b_T_checkYears 8 = .ok (.invokestatic 203, 3) := by decide +kernel
theorem d_T_checkYears_11 : decode b_T_checkYears 11 = .ok (.ifCond .eq 8, 3) := by decide +kernel
theorem d_T_checkYears_14 : decode b_T_checkYears 14 = .ok (.iload_n 0, 1) := by decide +kernel
theorem d_T_checkYears_15 : decode b_T_checkYears 15 = .ok (.iload_n 1, 1) := by decide +kernel
theorem d_T_checkYears_16 : decode b_T_checkYears 16 = .ok (.if_icmp .le 13, 3) := by decide +kernel
theorem d_T_checkYears_19 : decode b_T_checkYears 19 = .ok (.new 55, 3) := by decide +kernel
theorem d_T_checkYears_22 : decode b_T_checkYears 22 = .ok (.dup, 1) := by decide +kernel
theorem d_T_checkYears_23 : decode b_T_checkYears 23 = .ok (.ldc 243, 2) := by decide +kernel
theorem d_T_checkYears_25 : decode b_T_checkYears 25 = .ok (.invokespecial 59, 3) := by decide +kernel
theorem d_T_checkYears_28 : decode b_T_checkYears 28 = .ok (.athrow, 1) := by decide +kernel
theorem d_T_checkYears_29 : decode b_T_checkYears 29 = .ok (.return_, 1) := by decide +kernel
theorem d_T_isYear_0 : decode b_T_isYear 0 = .ok (.iload_n 0, 1) := by decide +kernel
theorem d_T_isYear_1 : decode b_T_isYear 1 = .ok (.sipush (-9999), 3) := by decide +kernel
theorem d_T_isYear_4 : decode b_T_isYear 4 = .ok (.if_icmp .lt 14, 3) := by decide +kernel
theorem d_T_isYear_7 : decode b_T_isYear 7 = .ok (.iload_n 0, 1) := by decide +kernel
theorem d_T_isYear_8 : decode b_T_isYear 8 = .ok (.sipush 9999, 3) := by decide +kernel
theorem d_T_isYear_11 : decode b_T_isYear 11 = .ok (.if_icmp .gt 7, 3) := by decide +kernel
theorem d_T_isYear_14 : decode b_T_isYear 14 = .ok (.iconst 1, 1) := by decide +kernel
theorem d_T_isYear_15 : decode b_T_isYear 15 = .ok (.goto 4, 3) := by decide +kernel
theorem d_T_isYear_18 : decode b_T_isYear 18 = .ok (.iconst 0, 1) := by decide +kernel
theorem d_T_isYear_19 : decode b_T_isYear 19 = .ok (.ireturn, 1) := by decide +kernel
theorem d_T_phase_0 : decode b_T_phase 0 = .ok (.aload_n 0, 1) := by decide +kernel
theorem d_T_phase_1 : decode b_T_phase 1 = .ok (.iload_n 1, 1) := by decide +kernel
theorem d_T_phase_2 : decode b_T_phase 2 = .ok (.invokevirtual 100, 3) := by decide +kernel
theorem d_T_phase_5 : decode b_T_phase 5 = .ok (.astore 6, 2) := by decide +kernel
theorem d_T_phase_7 : decode b_T_phase 7 = .ok (.iload_n 2, 1) := by decide +kernel
theorem d_T_phase_8 : decode b_T_phase 8 = .ok (.invokestatic 110, 3) := by decide +kernel
theorem d_T_phase_11 : decode b_T_phase 11 = .ok (.iload_n 3, 1) := by decide +kernel
theorem d_T_phase_12 : decode b_T_phase 12 = .ok (.iload 4, 2) := by decide +kernel
theorem d_T_phase_14 : decode b_T_phase 14 = .ok (.invokestatic 104, 3) := by decide +kernel
theorem d_T_phase_17 : decode b_T_phase 17 = .ok (.iload 5, 2) := by decide +kernel
theorem d_T_phase_19 : decode b_T_phase 19 = .ok (.invokestatic 113, 3) := by decide +kernel
theorem d_T_phase_22 : decode b_T_phase 22 = .ok (.aload 6, 2) := by decide +kernel
theorem d_T_phase_24 : decode b_T_phase 24 = .ok (.getfield 116, 3) := by decide +kernel
theorem d_T_phase_27 : decode b_T_phase 27 = .ok (.invokevirtual 86, 3) := by decide +kernel
theorem d_T_phase_30 : decode b_T_phase 30 = .ok (.bipush 6, 2) := by decide +kernel
theorem d_T_phase_32 : decode b_T_phase 32 = .ok (.if_icmp .lt 13, 3) := by decide +kernel
theorem d_T_phase_35 : decode b_T_phase 35 = .ok (.new 65, 3) := by decide +kernel
theorem d_T_phase_38 : decode b_T_phase 38 = .ok (.dup, 1) := by decide +kernel
theorem d_T_phase_39 : decode b_T_phase 39 = .ok (.ldc 119, 2) := by decide +kernel
theorem d_T_phase_41 : decode b_T_phase 41 = .ok (.invokespecial 69, 3) := by decide +kernel
theorem d_T_phase_44 : decode b_T_phase 44 = .ok (.athrow, 1) := by decide +kernel
theorem d_T_phase_45 : decode b_T_phase 45 = .ok (.aload 6, 2) := by decide +kernel
theorem d_T_phase_47 : decode b_T_phase 47 = .ok (.getfield 116, 3) := by decide +kernel
theorem d_T_phase_50 : decode b_T_phase 50 = .ok (.new 121, 3) := by decide +kernel
theorem d_T_phase_53 : decode b_T_phase 53 = .ok (.dup, 1) := by decide +kernel
theorem d_T_phase_54 : decode b_T_phase 54 = .ok (.iload_n 2, 1) := by decide +kernel
theorem d_T_phase_55 : decode b_T_phase 55 = .ok (.iload 5, 2) := by decide +kernel
theorem d_T_phase_57 : decode b_T_phase 57 = .ok (.new 32, 3) := by decide +kernel
theorem d_T_phase_60 : decode b_T_phase 60 = .ok (.dup, 1) := by decide +kernel
theorem d_T_phase_61 : decode b_T_phase 61 = .ok (.iload_n 3, 1) := by decide +kernel
theorem d_T_phase_62 : decode b_T_phase 62 = .ok (.iload 4, 2) := by decide +kernel
theorem d_T_phase_64 : decode b_T_phase 64 = .ok (.invokespecial 34, 3) := by decide +kernel
theorem d_T_phase_67 : decode b_T_phase 67 = .ok (.invokespecial 123, 3) := by decide +kernel
theorem d_T_phase_70 : decode b_T_phase 70 = .ok (.invokevirtual 97, 3) := by decide +kernel
theorem d_T_phase_73 : decode b_T_phase 73 = .ok (.pop, 1) := by decide +kernel
theorem d_T_phase_74 : decode b_T_phase 74 = .ok (.aload 6, 2) := by decide +kernel
theorem d_T_phase_76 : decode b_T_phase 76 = .ok (.getfield 116, 3) := by decide +kernel
theorem d_T_phase_79 : decode b_T_phase 79 = .ok (.invokevirtual 86, 3) := by decide +kernel
theorem d_T_phase_82 : decode b_T_phase 82 = .ok (.ireturn, 1) := by decide +kernel
theorem d_T_checkPlace_0 : decode b_T_checkPlace 0 = .ok (.iload_n 0, 1) := by decide +kernel
theorem d_T_checkPlace_1 : decode b_T_checkPlace 1 = .ok (.ifCond .lt 9, 3) := by decide +kernel
theorem d_T_checkPlace_4 : decode b_T_checkPlace 4 = .ok (.iload_n 0, 1) := by decide +kernel
theorem d_T_checkPlace_5 : decode b_T_checkPlace 5 = .ok (.bipush 8, 2) := by decide +kernel
theorem d_T_checkPlace_7 : decode b_T_checkPlace 7 = .ok (.if_icmp .lt 13, 3) := by decide +kernel
theorem d_T_checkPlace_10 : decode b_T_checkPlace 10 = .ok (.new 184, 3) := by decide +kernel
theorem d_T_checkPlace_13 : decode b_T_checkPlace 13 = .ok (.dup, 1) := by decide +kernel
theorem d_T_checkPlace_14 : decode b_T_checkPlace 14 = .ok (.ldc 239, 2) := by decide +kernel
theorem d_T_checkPlace_16 : decode b_T_checkPlace 16 = .ok (.invokespecial 188, 3) := by decide +kernel
theorem d_T_checkPlace_19 : decode b_T_checkPlace 19 = .ok (.athrow, 1) := by decide +kernel
theorem d_T_checkPlace_20 : decode b_T_checkPlace 20 = .ok (.return_, 1) := by decide +kernel
theorem d_T_checkDay_0 : decode b_T_checkDay 0 = .ok (.iload_n 0, 1) := by decide +kernel
theorem d_T_checkDay_1 : decode b_T_checkDay 1 = .ok (.ifCond .lt 9, 3) := by decide +kernel
theorem d_T_checkDay_4 : decode b_T_checkDay 4 = .ok (.iload_n 0, 1) := by decide +kernel
theorem d_T_checkDay_5 : decode b_T_checkDay 5 = .ok (.ldc 245, 2) := by decide +kernel
theorem d_T_checkDay_7 : decode b_T_checkDay 7 = .ok (.if_icmp .le 13, 3) := by decide +kernel
theorem d_T_checkDay_10 : decode b_T_checkDay 10 = .ok (.new 55, 3) := by decide +kernel
theorem d_T_checkDay_13 : decode b_T_checkDay 13 = .ok (.dup, 1) := by decide +kernel
theorem d_T_checkDay_14 : decode b_T_checkDay 14 = .ok (.ldc 246, 2) := by decide +kernel
theorem d_T_checkDay_16 : decode b_T_checkDay 16 = .ok (.invokespecial 59, 3) := by decide +kernel
theorem d_T_checkDay_19 : decode b_T_checkDay 19 = .ok (.athrow, 1) := by decide +kernel
theorem d_T_checkDay_20 : decode b_T_checkDay 20 = .ok (.return_, 1) := by decide +kernel
theorem d_T_width_0 : decode b_T_width 0 = .ok (.iload_n 1, 1) := by decide +kernel
theorem d_T_width_1 : decode b_T_width 1 = .ok (.ifCond .lt 10, 3) := by decide +kernel
theorem d_T_width_4 : decode b_T_width 4 = .ok (.iload_n 1, 1) := by decide +kernel
theorem d_T_width_5 : decode b_T_width 5 = .ok (.sipush 1000, 3) := by decide +kernel
theorem d_T_width_8 : decode b_T_width 8 = .ok (.if_icmp .le 13, 3) := by decide +kernel
theorem d_T_width_11 : decode b_T_width 11 = .ok (.new 55, 3) := by decide +kernel
theorem d_T_width_14 : decode b_T_width 14 = .ok (.dup, 1) := by decide +kernel
theorem d_T_width_15 : decode b_T_width 15 = .ok (.ldc 126, 2) := by decide +kernel
theorem d_T_width_17 : decode b_T_width 17 = .ok (.invokespecial 59, 3) := by decide +kernel
theorem d_T_width_20 : decode b_T_width 20 = .ok (.athrow, 1) := by decide +kernel
theorem d_T_width_21 : decode b_T_width 21 = .ok (.aload_n 0, 1) := by decide +kernel
theorem d_T_width_22 : decode b_T_width 22 = .ok (.getfield 28, 3) := by decide +kernel
theorem d_T_width_25 : decode b_T_width 25 = .ok (.istore_n 2, 1) := by decide +kernel
theorem d_T_width_26 : decode b_T_width 26 = .ok (.aload_n 0, 1) := by decide +kernel
theorem d_T_width_27 : decode b_T_width 27 = .ok (.iload_n 1, 1) := by decide +kernel
theorem d_T_width_28 : decode b_T_width 28 = .ok (.putfield 28, 3) := by decide +kernel
theorem d_T_width_31 : decode b_T_width 31 = .ok (.iload_n 2, 1) := by decide +kernel
theorem d_T_width_32 : decode b_T_width 32 = .ok (.ireturn, 1) := by decide +kernel
theorem d_T_read_0 : decode b_T_read 0 = .ok (.iload_n 1, 1) := by decide +kernel
theorem d_T_read_1 : decode b_T_read 1 = .ok (.invokestatic 110, 3) := by decide +kernel
theorem d_T_read_4 : decode b_T_read 4 = .ok (.iload_n 2, 1) := by decide +kernel
theorem d_T_read_5 : decode b_T_read 5 = .ok (.invokestatic 113, 3) := by decide +kernel
theorem d_T_read_8 : decode b_T_read 8 = .ok (.aload_n 0, 1) := by decide +kernel
theorem d_T_read_9 : decode b_T_read 9 = .ok (.invokevirtual 128, 3) := by decide +kernel
theorem d_T_read_12 : decode b_T_read 12 = .ok (.aload_n 0, 1) := by decide +kernel
theorem d_T_read_13 : decode b_T_read 13 = .ok (.iconst 0, 1) := by decide +kernel
theorem d_T_read_14 : decode b_T_read 14 = .ok (.iconst 0, 1) := by decide +kernel
theorem d_T_read_15 : decode b_T_read 15 = .ok (.iload_n 1, 1) := by decide +kernel
theorem d_T_read_16 : decode b_T_read 16 = .ok (.iload_n 2, 1) := by decide +kernel
theorem d_T_read_17 : decode b_T_read 17 = .ok (.invokevirtual 131, 3) := by decide +kernel
theorem d_T_read_20 : decode b_T_read 20 = .ok (.istore_n 3, 1) := by decide +kernel
theorem d_T_read_21 : decode b_T_read 21 = .ok (.aload_n 0, 1) := by decide +kernel
theorem d_T_read_22 : decode b_T_read 22 = .ok (.getfield 14, 3) := by decide +kernel
theorem d_T_read_25 : decode b_T_read 25 = .ok (.invokevirtual 73, 3) := by decide +kernel
theorem d_T_read_28 : decode b_T_read 28 = .ok (.iload_n 3, 1) := by decide +kernel
theorem d_T_read_29 : decode b_T_read 29 = .ok (.ifCond .eq 10, 3) := by decide +kernel
theorem d_T_read_32 : decode b_T_read 32 = .ok (.aload_n 0, 1) := by decide +kernel
theorem d_T_read_33 : decode b_T_read 33 = .ok (.invokevirtual 135, 3) := by decide +kernel
theorem d_T_read_36 : decode b_T_read 36 = .ok (.goto 4, 3) := by decide +kernel
theorem d_T_read_39 : decode b_T_read 39 = .ok (.iconst (-1), 1) := by decide +kernel
theorem d_T_read_40 : decode b_T_read 40 = .ok (.ireturn, 1) := by decide +kernel
theorem d_T_checkRoomForSpan_0 : decode b_T_checkRoomForSpan 0 = .ok (.aload_n 0, 1) := by decide +kernel
theorem d_T_checkRoomForSpan_1 : decode b_T_checkRoomForSpan 1 = .ok (.getfield 25, 3) := by decide +kernel
theorem d_T_checkRoomForSpan_4 : decode b_T_checkRoomForSpan 4 = .ok (.invokevirtual 86, 3) := by decide +kernel
theorem d_T_checkRoomForSpan_7 : decode b_T_checkRoomForSpan 7 = .ok (.bipush 60, 2) := by decide +kernel
theorem d_T_checkRoomForSpan_9 : decode b_T_checkRoomForSpan 9 = .ok (.if_icmp .lt 13, 3) := by decide +kernel
theorem d_T_checkRoomForSpan_12 : decode b_T_checkRoomForSpan 12 = .ok (.new 65, 3) := by decide +kernel
theorem d_T_checkRoomForSpan_15 : decode b_T_checkRoomForSpan 15 = .ok (.dup, 1) := by decide +kernel
theorem d_T_checkRoomForSpan_16 : decode b_T_checkRoomForSpan 16 = .ok (.ldc 237, 2) := by decide +kernel
theorem d_T_checkRoomForSpan_18 : decode b_T_checkRoomForSpan 18 = .ok (.invokespecial 69, 3) := by decide +kernel
theorem d_T_checkRoomForSpan_21 : decode b_T_checkRoomForSpan 21 = .ok (.athrow, 1) := by decide +kernel
theorem d_T_checkRoomForSpan_22 : decode b_T_checkRoomForSpan 22 = .ok (.return_, 1) := by decide +kernel
theorem d_T_findWordFrom_0 : decode b_T_findWordFrom 0 = .ok (.aload_n 0, 1) := by decide +kernel
theorem d_T_findWordFrom_1 : decode b_T_findWordFrom 1 = .ok (.iload_n 1, 1) := by decide +kernel
theorem d_T_findWordFrom_2 : decode b_T_findWordFrom 2 = .ok (.invokevirtual 258, 3) := by decide +kernel
theorem d_T_findWordFrom_5 : decode b_T_findWordFrom 5 = .ok (.istore 5, 2) := by decide +kernel
theorem d_T_findWordFrom_7 : decode b_T_findWordFrom 7 = .ok (.iload 5, 2) := by decide +kernel
theorem d_T_findWordFrom_9 : decode b_T_findWordFrom 9 = .ok (.iconst (-1), 1) := by decide +kernel
theorem d_T_findWordFrom_10 : decode b_T_findWordFrom 10 = .ok (.if_icmp .ne 28, 3) := by decide +kernel
theorem d_T_findWordFrom_13 : decode b_T_findWordFrom 13 = .ok (.aload_n 0, 1) := by decide +kernel
theorem d_T_findWordFrom_14 : decode b_T_findWordFrom 14 = .ok (.iload_n 1, 1) := by decide +kernel
theorem d_T_findWordFrom_15 : decode b_T_findWordFrom 15 = .ok (.invokevirtual 261, 3) := by decide +kernel
theorem d_T_findWordFrom_18 : decode b_T_findWordFrom 18 = .ok (.ifCond .ne 14, 3) := by decide +kernel
theorem d_T_findWordFrom_21 : decode b_T_findWordFrom 21 = .ok (.aload_n 0, 1) := by decide +kernel
theorem d_T_findWordFrom_22 : decode b_T_findWordFrom 22 = .ok (.iload_n 1, 1) := by decide +kernel
theorem d_T_findWordFrom_23 : decode b_T_findWordFrom 23 = .ok (.iload_n 3, 1) := by decide +kernel
theorem d_T_findWordFrom_24 : decode b_T_findWordFrom 24 = .ok (.iload 4, 2) := by decide +kernel
theorem d_T_findWordFrom_26 : decode b_T_findWordFrom 26 = .ok (.invokevirtual 264, 3) := by decide +kernel
theorem d_T_findWordFrom_29 : decode b_T_findWordFrom 29 = .ok (.ifCond .eq 7, 3) := by decide +kernel
theorem d_T_findWordFrom_32 : decode b_T_findWordFrom 32 = .ok (.iconst 1, 1) := by decide +kernel
theorem d_T_findWordFrom_33 : decode b_T_findWordFrom 33 = .ok (.goto 4, 3) := by decide +kernel
theorem d_T_findWordFrom_36 : decode b_T_findWordFrom 36 = .ok (.iconst 0, 1) := by decide +kernel
theorem d_T_findWordFrom_37 : decode b_T_findWordFrom 37 = .ok (.ireturn, 1) := by decide +kernel
theorem d_T_findWordFrom_38 : decode b_T_findWordFrom 38 = .ok (.iload_n 2, 1) := by decide +kernel
theorem d_T_findWordFrom_39 : decode b_T_findWordFrom 39 = .ok (.iconst 5, 1) := by decide +kernel
theorem d_T_findWordFrom_40 : decode b_T_findWordFrom 40 = .ok (.if_icmp .lt 5, 3) := by decide +kernel
theorem d_T_findWordFrom_43 : decode b_T_findWordFrom 43 = .ok (.iconst 0, 1) := by decide +kernel
theorem d_T_findWordFrom_44 : decode b_T_findWordFrom 44 = .ok (.ireturn, 1) := by decide +kernel
theorem d_T_findWordFrom_45 : decode b_T_findWordFrom 45 = .ok (.aload_n 0, 1) := by decide +kernel
theorem d_T_findWordFrom_46 : decode b_T_findWordFrom 46 = .ok (.iload_n 1, 1) := by decide +kernel
theorem d_T_findWordFrom_47 : decode b_T_findWordFrom 47 = .ok (.iload 5, 2) := by decide +kernel
theorem d_T_findWordFrom_49 : decode b_T_findWordFrom 49 = .ok (.invokestatic 268, 3) := by decide +kernel
theorem d_T_findWordFrom_52 : decode b_T_findWordFrom 52 = .ok (.invokevirtual 272, 3) := by decide +kernel
theorem d_T_findWordFrom_55 : decode b_T_findWordFrom 55 = .ok (.iadd, 1) := by decide +kernel
theorem d_T_findWordFrom_56 : decode b_T_findWordFrom 56 = .ok (.iload_n 2, 1) := by decide +kernel
theorem d_T_findWordFrom_57 : decode b_T_findWordFrom 57 = .ok (.iconst 1, 1) := by decide +kernel
theorem d_T_findWordFrom_58 : decode b_T_findWordFrom 58 = .ok (.iadd, 1) := by decide +kernel
theorem d_T_findWordFrom_59 : decode b_T_findWordFrom 59 = .ok (.iload_n 3, 1) := by decide +kernel
theorem d_T_findWordFrom_60 : decode b_T_findWordFrom 60 = .ok (.iload 4, 2) := by decide +kernel
theorem d_T_findWordFrom_62 : decode b_T_findWordFrom 62 = .ok (.invokevirtual 131, 3) := by decide +kernel
theorem d_T_findWordFrom_65 : decode b_T_findWordFrom 65 = .ok (.ifCond .eq 16, 3) := by decide +kernel
theorem d_T_findWordFrom_68 : decode b_T_findWordFrom 68 = .ok (.aload_n 0, 1) := by decide +kernel
theorem d_T_findWordFrom_69 : decode b_T_findWordFrom 69 = .ok (.iload 5, 2) := by decide +kernel
theorem d_T_findWordFrom_71 : decode b_T_findWordFrom 71 = .ok (.invokevirtual 275, 3) := by decide +kernel
theorem d_T_findWordFrom_74 : decode b_T_findWordFrom 74 = .ok (.ifCond .eq 7, 3) := by decide +kernel
theorem d_T_findWordFrom_77 : decode b_T_findWordFrom 77 = .ok (.iconst 1, 1) := by decide +kernel
theorem d_T_findWordFrom_78 : decode b_T_findWordFrom 78 = .ok (.goto 4, 3) := by decide +kernel
theorem d_T_findWordFrom_81 : decode b_T_findWordFrom 81 = .ok (.iconst 0, 1) := by decide +kernel
theorem d_T_findWordFrom_82 : decode b_T_findWordFrom 82 = .ok (.ireturn, 1) := by decide +kernel
theorem d_T_beginningAt_0 : decode b_T_beginningAt 0 = .ok (.iconst 0, 1) := by decide +kernel
theorem d_T_beginningAt_1 : decode b_T_beginningAt 1 = .ok (.istore_n 2, 1) := by decide +kernel
theorem d_T_beginningAt_2 : decode b_T_beginningAt 2 = .ok (.iload_n 2, 1) := by decide +kernel
theorem d_T_beginningAt_3 : decode b_T_beginningAt 3 = .ok (.bipush 6, 2) := by decide +kernel
theorem d_T_beginningAt_5 : decode b_T_beginningAt 5 = .ok (.if_icmp .ge 26, 3) := by decide +kernel
theorem d_T_beginningAt_8 : decode b_T_beginningAt 8 = .ok (.aload_n 0, 1) := by decide +kernel
theorem d_T_beginningAt_9 : decode b_T_beginningAt 9 = .ok (.getfield 14, 3) := by decide +kernel
theorem d_T_beginningAt_12 : decode b_T_beginningAt 12 = .ok (.iload_n 1, 1) := by decide +kernel
theorem d_T_beginningAt_13 : decode b_T_beginningAt 13 = .ok (.iload_n 2, 1) := by decide +kernel
theorem d_T_beginningAt_14 : decode b_T_beginningAt 14 = .ok (.invokestatic 268, 3) := by decide +kernel
theorem d_T_beginningAt_17 : decode b_T_beginningAt 17 = .ok (.invokevirtual 278, 3) := by decide +kernel
theorem d_T_beginningAt_20 : decode b_T_beginningAt 20 = .ok (.ifCond .eq 5, 3) := by decide +kernel
theorem d_T_beginningAt_23 : decode b_T_beginningAt 23 = .ok (.iload_n 2, 1) := by decide +kernel
theorem d_T_beginningAt_24 : decode b_T_beginningAt 24 = .ok (.ireturn, 1) := by decide +kernel
theorem d_T_beginningAt_25 : decode b_T_beginningAt 25 = .ok (.iinc 2 1, 3) := by decide +kernel
theorem d_T_beginningAt_28 : decode b_T_beginningAt 28 = .ok (.goto (-26), 3) := by decide +kernel
theorem d_T_beginningAt_31 : decode b_T_beginningAt 31 = .ok (.iconst (-1), 1) := by decide +kernel
theorem d_T_beginningAt_32 : decode b_T_beginningAt 32 = .ok (.ireturn, 1) := by decide +kernel
theorem d_T_beginning_0 : decode b_T_beginning 0 = .ok (.iload_n 0, 1) := by decide +kernel
theorem d_T_beginning_1 : decode b_T_beginning 1 = .ok (.tableswitch 63 0 5 #[39, 43, 47, 51, 55, 59], 39) := by decide +kernel
theorem d_T_beginning_40 : decode b_T_beginning 40 = .ok (.ldc_w 282, 3) := by decide +kernel
theorem d_T_beginning_43 : decode b_T_beginning 43 = .ok (.areturn, 1) := by decide +kernel
theorem d_T_beginning_44 : decode b_T_beginning 44 = .ok (.ldc_w 284, 3) := by decide +kernel
theorem d_T_beginning_47 : decode b_T_beginning 47 = .ok (.areturn, 1) := by decide +kernel
theorem d_T_beginning_48 : decode b_T_beginning 48 = .ok (.ldc_w 286, 3) := by decide +kernel
theorem d_T_beginning_51 : decode b_T_beginning 51 = .ok (.areturn, 1) := by decide +kernel
theorem d_T_beginning_52 : decode b_T_beginning 52 = .ok (.ldc_w 288, 3) := by decide +kernel
theorem d_T_beginning_55 : decode b_T_beginning 55 = .ok (.areturn, 1) := by decide +kernel
theorem d_T_beginning_56 : decode b_T_beginning 56 = .ok (.ldc_w 290, 3) := by decide +kernel
theorem d_T_beginning_59 : decode b_T_beginning 59 = .ok (.areturn, 1) := by decide +kernel
theorem d_T_beginning_60 : decode b_T_beginning 60 = .ok (.ldc_w 292, 3) := by decide +kernel
theorem d_T_beginning_63 : decode b_T_beginning 63 = .ok (.areturn, 1) := by decide +kernel
theorem d_T_beginning_64 : decode b_T_beginning 64 = .ok (.ldc_w 294, 3) := by decide +kernel
theorem d_T_beginning_67 : decode b_T_beginning 67 = .ok (.areturn, 1) := by decide +kernel
theorem d_T_findCenturyFrom_0 : decode b_T_findCenturyFrom 0 = .ok (.aload_n 0, 1) := by decide +kernel
theorem d_T_findCenturyFrom_1 : decode b_T_findCenturyFrom 1 = .ok (.getfield 14, 3) := by decide +kernel
theorem d_T_findCenturyFrom_4 : decode b_T_findCenturyFrom 4 = .ok (.getfield 62, 3) := by decide +kernel
theorem d_T_findCenturyFrom_7 : decode b_T_findCenturyFrom 7 = .ok (.iconst 1, 1) := by decide +kernel
theorem d_T_findCenturyFrom_8 : decode b_T_findCenturyFrom 8 = .ok (.isub, 1) := by decide +kernel
theorem d_T_findCenturyFrom_9 : decode b_T_findCenturyFrom 9 = .ok (.istore_n 2, 1) := by decide +kernel
theorem d_T_findCenturyFrom_10 : decode b_T_findCenturyFrom 10 = .ok (.iload_n 2, 1) := by decide +kernel
theorem d_T_findCenturyFrom_11 : decode b_T_findCenturyFrom 11 = .ok (.iload_n 1, 1) := by decide +kernel
theorem d_T_findCenturyFrom_12 : decode b_T_findCenturyFrom 12 = .ok (.isub, 1) := by decide +kernel
theorem d_T_findCenturyFrom_13 : decode b_T_findCenturyFrom 13 = .ok (.istore_n 3, 1) := by decide +kernel
theorem d_T_findCenturyFrom_14 : decode b_T_findCenturyFrom 14 = .ok (.iload_n 3, 1) := by decide +kernel
theorem d_T_findCenturyFrom_15 : decode b_T_findCenturyFrom 15 = .ok (.iconst 1, 1) := by decide +kernel
theorem d_T_findCenturyFrom_16 : decode b_T_findCenturyFrom 16 = .ok (.if_icmp .lt 21, 3) := by decide +kernel
theorem d_T_findCenturyFrom_19 : decode b_T_findCenturyFrom 19 = .ok (.iload_n 3, 1) := by decide +kernel
theorem d_T_findCenturyFrom_20 : decode b_T_findCenturyFrom 20 = .ok (.iconst 2, 1) := by decide +kernel
theorem d_T_findCenturyFrom_21 : decode b_T_findCenturyFrom 21 = .ok (.if_icmp .gt 16, 3) := by decide +kernel
theorem d_T_findCenturyFrom_24 : decode b_T_findCenturyFrom 24 = .ok (.aload_n 0, 1) := by decide +kernel
theorem d_T_findCenturyFrom_25 : decode b_T_findCenturyFrom 25 = .ok (.getfield 14, 3) := by decide +kernel
theorem d_T_findCenturyFrom_28 : decode b_T_findCenturyFrom 28 = .ok (.iload_n 2, 1) := by decide +kernel
theorem d_T_findCenturyFrom_29 : decode b_T_findCenturyFrom 29 = .ok (.invokevirtual 189, 3) := by decide +kernel
theorem d_T_findCenturyFrom_32 : decode b_T_findCenturyFrom 32 = .ok (.bipush 99, 2) := by decide +kernel
theorem d_T_findCenturyFrom_34 : decode b_T_findCenturyFrom 34 = .ok (.if_icmp .eq 5, 3) := by decide +kernel
theorem d_T_findCenturyFrom_37 : decode b_T_findCenturyFrom 37 = .ok (.iconst 0, 1) := by decide +kernel
theorem d_T_findCenturyFrom_38 : decode b_T_findCenturyFrom 38 = .ok (.ireturn, 1) := by decide +kernel
theorem d_T_findCenturyFrom_39 : decode b_T_findCenturyFrom 39 = .ok (.iconst 0, 1) := by decide +kernel
theorem d_T_findCenturyFrom_40 : decode b_T_findCenturyFrom 40 = .ok (.istore 4, 2) := by decide +kernel
theorem d_T_findCenturyFrom_42 : decode b_T_findCenturyFrom 42 = .ok (.iload_n 1, 1) := by decide +kernel
theorem d_T_findCenturyFrom_43 : decode b_T_findCenturyFrom 43 = .ok (.istore 5, 2) := by decide +kernel
theorem d_T_findCenturyFrom_45 : decode b_T_findCenturyFrom 45 = .ok (.iload 5, 2) := by decide +kernel
theorem d_T_findCenturyFrom_47 : decode b_T_findCenturyFrom 47 = .ok (.iload_n 2, 1) := by decide +kernel
theorem d_T_findCenturyFrom_48 : decode b_T_findCenturyFrom 48 = .ok (.if_icmp .ge 46, 3) := by decide +kernel
theorem d_T_findCenturyFrom_51 : decode b_T_findCenturyFrom 51 = .ok (.aload_n 0, 1) := by decide +kernel
theorem d_T_findCenturyFrom_52 : decode b_T_findCenturyFrom 52 = .ok (.getfield 14, 3) := by decide +kernel
theorem d_T_findCenturyFrom_55 : decode b_T_findCenturyFrom 55 = .ok (.iload 5, 2) := by decide +kernel
theorem d_T_findCenturyFrom_57 : decode b_T_findCenturyFrom 57 = .ok (.invokevirtual 189, 3) := by decide +kernel
theorem d_T_findCenturyFrom_60 : decode b_T_findCenturyFrom 60 = .ok (.invokestatic 251, 3) := by decide +kernel
theorem d_T_findCenturyFrom_63 : decode b_T_findCenturyFrom 63 = .ok (.ifCond .ne 5, 3) := by decide +kernel
theorem d_T_findCenturyFrom_66 : decode b_T_findCenturyFrom 66 = .ok (.iconst 0, 1) := by decide +kernel
theorem d_T_findCenturyFrom_67 : decode b_T_findCenturyFrom 67 = .ok (.ireturn, 1) := by decide +kernel
theorem d_T_findCenturyFrom_68 : decode b_T_findCenturyFrom 68 = .ok (.bipush 10, 2) := by decide +kernel
theorem d_T_findCenturyFrom_70 : decode b_T_findCenturyFrom 70 = .ok (.iload 4, 2) := by decide +kernel
theorem d_T_findCenturyFrom_72 : decode b_T_findCenturyFrom 72 = .ok (.imul, 1) := by decide +kernel
theorem d_T_findCenturyFrom_73 : decode b_T_findCenturyFrom 73 = .ok (.aload_n 0, 1) := by decide +kernel
theorem d_T_findCenturyFrom_74 : decode b_T_findCenturyFrom 74 = .ok (.getfield 14, 3) := by decide +kernel
theorem d_T_findCenturyFrom_77 : decode b_T_findCenturyFrom 77 = .ok (.iload 5, 2) := by decide +kernel
theorem d_T_findCenturyFrom_79 : decode b_T_findCenturyFrom 79 = .ok (.invokevirtual 189, 3) := by decide +kernel
theorem d_T_findCenturyFrom_82 : decode b_T_findCenturyFrom 82 = .ok (.iadd, 1) := by decide +kernel
theorem d_T_findCenturyFrom_83 : decode b_T_findCenturyFrom 83 = .ok (.bipush 48, 2) := by decide +kernel
theorem d_T_findCenturyFrom_85 : decode b_T_findCenturyFrom 85 = .ok (.isub, 1) := by decide +kernel
theorem d_T_findCenturyFrom_86 : decode b_T_findCenturyFrom 86 = .ok (.istore 4, 2) := by decide +kernel
theorem d_T_findCenturyFrom_88 : decode b_T_findCenturyFrom 88 = .ok (.iinc 5 1, 3) := by decide +kernel
theorem d_T_findCenturyFrom_91 : decode b_T_findCenturyFrom 91 = .ok (.goto (-46), 3) := by decide +kernel
theorem d_T_findCenturyFrom_94 : decode b_T_findCenturyFrom 94 = .ok (.aload_n 0, 1) := by decide +kernel
theorem d_T_findCenturyFrom_95 : decode b_T_findCenturyFrom 95 = .ok (.iload 4, 2) := by decide +kernel
theorem d_T_findCenturyFrom_97 : decode b_T_findCenturyFrom 97 = .ok (.invokevirtual 308, 3) := by decide +kernel
theorem d_T_findCenturyFrom_100 : decode b_T_findCenturyFrom 100 = .ok (.ireturn, 1) := by decide +kernel
theorem d_T_findCentury_0 : decode b_T_findCentury 0 = .ok (.iload_n 1, 1) := by decide +kernel
theorem d_T_findCentury_1 : decode b_T_findCentury 1 = .ok (.iconst 1, 1) := by decide +kernel
theorem d_T_findCentury_2 : decode b_T_findCentury 2 = .ok (.if_icmp .lt 9, 3) := by decide +kernel
theorem d_T_findCentury_5 : decode b_T_findCentury 5 = .ok (.iload_n 1, 1) := by decide +kernel
theorem d_T_findCentury_6 : decode b_T_findCentury 6 = .ok (.bipush 99, 2) := by decide +kernel
theorem d_T_findCentury_8 : decode b_T_findCentury 8 = .ok (.if_icmp .le 5, 3) := by decide +kernel
theorem d_T_findCentury_11 : decode b_T_findCentury 11 = .ok (.iconst 0, 1) := by decide +kernel
theorem d_T_findCentury_12 : decode b_T_findCentury 12 = .ok (.ireturn, 1) := by decide +kernel
theorem d_T_findCentury_13 : decode b_T_findCentury 13 = .ok (.aload_n 0, 1) := by decide +kernel
theorem d_T_findCentury_14 : decode b_T_findCentury 14 = .ok (.getfield 37, 3) := by decide +kernel
theorem d_T_findCentury_17 : decode b_T_findCentury 17 = .ok (.bipush 100, 2) := by decide +kernel
theorem d_T_findCentury_19 : decode b_T_findCentury 19 = .ok (.iload_n 1, 1) := by decide +kernel
theorem d_T_findCentury_20 : decode b_T_findCentury 20 = .ok (.iconst 1, 1) := by decide +kernel
theorem d_T_findCentury_21 : decode b_T_findCentury 21 = .ok (.isub, 1) := by decide +kernel
theorem d_T_findCentury_22 : decode b_T_findCentury 22 = .ok (.imul, 1) := by decide +kernel
theorem d_T_findCentury_23 : decode b_T_findCentury 23 = .ok (.iconst 1, 1) := by decide +kernel
theorem d_T_findCentury_24 : decode b_T_findCentury 24 = .ok (.iadd, 1) := by decide +kernel
theorem d_T_findCentury_25 : decode b_T_findCentury 25 = .ok (.bipush 100, 2) := by decide +kernel
theorem d_T_findCentury_27 : decode b_T_findCentury 27 = .ok (.iload_n 1, 1) := by decide +kernel
theorem d_T_findCentury_28 : decode b_T_findCentury 28 = .ok (.imul, 1) := by decide +kernel
theorem d_T_findCentury_29 : decode b_T_findCentury 29 = .ok (.invokevirtual 138, 3) := by decide +kernel
theorem d_T_findCentury_32 : decode b_T_findCentury 32 = .ok (.iconst 1, 1) := by decide +kernel
theorem d_T_findCentury_33 : decode b_T_findCentury 33 = .ok (.ireturn, 1) := by decide +kernel
theorem d_T_findNameFrom_0 : decode b_T_findNameFrom 0 = .ok (.aload_n 0, 1) := by decide +kernel
theorem d_T_findNameFrom_1 : decode b_T_findNameFrom 1 = .ok (.iload_n 1, 1) := by decide +kernel
theorem d_T_findNameFrom_2 : decode b_T_findNameFrom 2 = .ok (.invokevirtual 82, 3) := by decide +kernel
theorem d_T_findNameFrom_5 : decode b_T_findNameFrom 5 = .ok (.istore 4, 2) := by decide +kernel
theorem d_T_findNameFrom_7 : decode b_T_findNameFrom 7 = .ok (.iload 4, 2) := by decide +kernel
theorem d_T_findNameFrom_9 : decode b_T_findNameFrom 9 = .ok (.iconst (-1), 1) := by decide +kernel
theorem d_T_findNameFrom_10 : decode b_T_findNameFrom 10 = .ok (.if_icmp .eq 28, 3) := by decide +kernel
theorem d_T_findNameFrom_13 : decode b_T_findNameFrom 13 = .ok (.aload_n 0, 1) := by decide +kernel
theorem d_T_findNameFrom_14 : decode b_T_findNameFrom 14 = .ok (.aload_n 0, 1) := by decide +kernel
theorem d_T_findNameFrom_15 : decode b_T_findNameFrom 15 = .ok (.getfield 21, 3) := by decide +kernel
theorem d_T_findNameFrom_18 : decode b_T_findNameFrom 18 = .ok (.iload 4, 2) := by decide +kernel
theorem d_T_findNameFrom_20 : decode b_T_findNameFrom 20 = .ok (.invokevirtual 192, 3) := by decide +kernel
theorem d_T_findNameFrom_23 : decode b_T_findNameFrom 23 = .ok (.checkcast 92, 3) := by decide +kernel
theorem d_T_findNameFrom_26 : decode b_T_findNameFrom 26 = .ok (.iload_n 2, 1) := by decide +kernel
theorem d_T_findNameFrom_27 : decode b_T_findNameFrom 27 = .ok (.iload_n 3, 1) := by decide +kernel
theorem d_T_findNameFrom_28 : decode b_T_findNameFrom 28 = .ok (.invokevirtual 311, 3) := by decide +kernel
theorem d_T_findNameFrom_31 : decode b_T_findNameFrom 31 = .ok (.ifCond .eq 7, 3) := by decide +kernel
theorem d_T_findNameFrom_34 : decode b_T_findNameFrom 34 = .ok (.iconst 1, 1) := by decide +kernel
theorem d_T_findNameFrom_35 : decode b_T_findNameFrom 35 = .ok (.goto 4, 3) := by decide +kernel
theorem d_T_findNameFrom_38 : decode b_T_findNameFrom 38 = .ok (.iconst 0, 1) := by decide +kernel
theorem d_T_findNameFrom_39 : decode b_T_findNameFrom 39 = .ok (.ireturn, 1) := by decide +kernel
theorem d_T_findName_0 : decode b_T_findName 0 = .ok (.aload_n 1, 1) := by decide +kernel
theorem d_T_findName_1 : decode b_T_findName 1 = .ok (.iload_n 2, 1) := by decide +kernel
theorem d_T_findName_2 : decode b_T_findName 2 = .ok (.iload_n 3, 1) := by decide +kernel
theorem d_T_findName_3 : decode b_T_findName 3 = .ok (.invokevirtual 315, 3) := by decide +kernel
theorem d_T_findName_6 : decode b_T_findName 6 = .ok (.astore 4, 2) := by decide +kernel
theorem d_T_findName_8 : decode b_T_findName 8 = .ok (.aload 4, 2) := by decide +kernel
theorem d_T_findName_10 : decode b_T_findName 10 = .ok (.ifnonnull 5, 3) := by decide +kernel
theorem d_T_findName_13 : decode b_T_findName 13 = .ok (.iconst 0, 1) := by decide +kernel
theorem d_T_findName_14 : decode b_T_findName 14 = .ok (.ireturn, 1) := by decide +kernel
theorem d_T_findName_15 : decode b_T_findName 15 = .ok (.aload_n 0, 1) := by decide +kernel
theorem d_T_findName_16 : decode b_T_findName 16 = .ok (.getfield 37, 3) := by decide +kernel
theorem d_T_findName_19 : decode b_T_findName 19 = .ok (.aload 4, 2) := by decide +kernel
theorem d_T_findName_21 : decode b_T_findName 21 = .ok (.invokevirtual 159, 3) := by decide +kernel
theorem d_T_findName_24 : decode b_T_findName 24 = .ok (.iconst 1, 1) := by decide +kernel
theorem d_T_findName_25 : decode b_T_findName 25 = .ok (.ireturn, 1) := by decide +kernel
theorem d_T_begin_0 : decode b_T_begin 0 = .ok (.iload_n 1, 1) := by decide +kernel
theorem d_T_begin_1 : decode b_T_begin 1 = .ok (.tableswitch 55 3 5 #[27, 39, 47], 27) := by decide +kernel
theorem d_T_begin_28 : decode b_T_begin 28 = .ok (.aload_n 0, 1) := by decide +kernel
theorem d_T_begin_29 : decode b_T_begin 29 = .ok (.getfield 37, 3) := by decide +kernel
theorem d_T_begin_32 : decode b_T_begin 32 = .ok (.aload_n 0, 1) := by decide +kernel
theorem d_T_begin_33 : decode b_T_begin 33 = .ok (.getfield 28, 3) := by decide +kernel
theorem d_T_begin_36 : decode b_T_begin 36 = .ok (.invokevirtual 296, 3) := by decide +kernel
theorem d_T_begin_39 : decode b_T_begin 39 = .ok (.ireturn, 1) := by decide +kernel
theorem d_T_begin_40 : decode b_T_begin 40 = .ok (.aload_n 0, 1) := by decide +kernel
theorem d_T_begin_41 : decode b_T_begin 41 = .ok (.getfield 37, 3) := by decide +kernel
theorem d_T_begin_44 : decode b_T_begin 44 = .ok (.invokevirtual 299, 3) := by decide +kernel
theorem d_T_begin_47 : decode b_T_begin 47 = .ok (.ireturn, 1) := by decide +kernel
theorem d_T_begin_48 : decode b_T_begin 48 = .ok (.aload_n 0, 1) := by decide +kernel
theorem d_T_begin_49 : decode b_T_begin 49 = .ok (.getfield 37, 3) := by decide +kernel
theorem d_T_begin_52 : decode b_T_begin 52 = .ok (.invokevirtual 302, 3) := by decide +kernel
theorem d_T_begin_55 : decode b_T_begin 55 = .ok (.ireturn, 1) := by decide +kernel
theorem d_T_begin_56 : decode b_T_begin 56 = .ok (.aload_n 0, 1) := by decide +kernel
theorem d_T_begin_57 : decode b_T_begin 57 = .ok (.getfield 37, 3) := by decide +kernel
theorem d_T_begin_60 : decode b_T_begin 60 = .ok (.iload_n 1, 1) := by decide +kernel
theorem d_T_begin_61 : decode b_T_begin 61 = .ok (.invokevirtual 305, 3) := by decide +kernel
theorem d_T_begin_64 : decode b_T_begin 64 = .ok (.ireturn, 1) := by decide +kernel
theorem d_T_keepFound_0 : decode b_T_keepFound 0 = .ok (.new 32, 3) := by decide +kernel
theorem d_T_keepFound_3 : decode b_T_keepFound 3 = .ok (.dup, 1) := by decide +kernel
theorem d_T_keepFound_4 : decode b_T_keepFound 4 = .ok (.iconst 0, 1) := by decide +kernel
theorem d_T_keepFound_5 : decode b_T_keepFound 5 = .ok (.iconst 0, 1) := by decide +kernel
theorem d_T_keepFound_6 : decode b_T_keepFound 6 = .ok (.invokespecial 34, 3) := by decide +kernel
theorem d_T_keepFound_9 : decode b_T_keepFound 9 = .ok (.astore_n 1, 1) := by decide +kernel
theorem d_T_keepFound_10 : decode b_T_keepFound 10 = .ok (.aload_n 1, 1) := by decide +kernel
theorem d_T_keepFound_11 : decode b_T_keepFound 11 = .ok (.aload_n 0, 1) := by decide +kernel
theorem d_T_keepFound_12 : decode b_T_keepFound 12 = .ok (.getfield 37, 3) := by decide +kernel
theorem d_T_keepFound_15 : decode b_T_keepFound 15 = .ok (.invokevirtual 159, 3) := by decide +kernel
theorem d_T_keepFound_18 : decode b_T_keepFound 18 = .ok (.aload_n 0, 1) := by decide +kernel
theorem d_T_keepFound_19 : decode b_T_keepFound 19 = .ok (.getfield 25, 3) := by decide +kernel
theorem d_T_keepFound_22 : decode b_T_keepFound 22 = .ok (.aload_n 1, 1) := by decide +kernel
theorem d_T_keepFound_23 : decode b_T_keepFound 23 = .ok (.invokevirtual 97, 3) := by decide +kernel
theorem d_T_keepFound_26 : decode b_T_keepFound 26 = .ok (.pop, 1) := by decide +kernel
theorem d_T_keepFound_27 : decode b_T_keepFound 27 = .ok (.aload_n 0, 1) := by decide +kernel
theorem d_T_keepFound_28 : decode b_T_keepFound 28 = .ok (.getfield 25, 3) := by decide +kernel
theorem d_T_keepFound_31 : decode b_T_keepFound 31 = .ok (.invokevirtual 86, 3) := by decide +kernel
theorem d_T_keepFound_34 : decode b_T_keepFound 34 = .ok (.iconst 1, 1) := by decide +kernel
theorem d_T_keepFound_35 : decode b_T_keepFound 35 = .ok (.isub, 1) := by decide +kernel
theorem d_T_keepFound_36 : decode b_T_keepFound 36 = .ok (.ireturn, 1) := by decide +kernel
theorem d_T_span_0 : decode b_T_span 0 = .ok (.iload_n 1, 1) := by decide +kernel
theorem d_T_span_1 : decode b_T_span 1 = .ok (.iload_n 2, 1) := by decide +kernel
theorem d_T_span_2 : decode b_T_span 2 = .ok (.invokestatic 104, 3) := by decide +kernel
theorem d_T_span_5 : decode b_T_span 5 = .ok (.aload_n 0, 1) := by decide +kernel
theorem d_T_span_6 : decode b_T_span 6 = .ok (.invokevirtual 128, 3) := by decide +kernel
theorem d_T_span_9 : decode b_T_span 9 = .ok (.aload_n 0, 1) := by decide +kernel
theorem d_T_span_10 : decode b_T_span 10 = .ok (.getfield 37, 3) := by decide +kernel
theorem d_T_span_13 : decode b_T_span 13 = .ok (.iload_n 1, 1) := by decide +kernel
theorem d_T_span_14 : decode b_T_span 14 = .ok (.iload_n 2, 1) := by decide +kernel
theorem d_T_span_15 : decode b_T_span 15 = .ok (.invokevirtual 138, 3) := by decide +kernel
theorem d_T_span_18 : decode b_T_span 18 = .ok (.aload_n 0, 1) := by decide +kernel
theorem d_T_span_19 : decode b_T_span 19 = .ok (.invokevirtual 135, 3) := by decide +kernel
theorem d_T_span_22 : decode b_T_span 22 = .ok (.ireturn, 1) := by decide +kernel
theorem d_T_end_0 : decode b_T_end 0 = .ok (.aload_n 0, 1) := by decide +kernel
theorem d_T_end_1 : decode b_T_end 1 = .ok (.iload_n 1, 1) := by decide +kernel
theorem d_T_end_2 : decode b_T_end 2 = .ok (.invokevirtual 141, 3) := by decide +kernel
theorem d_T_end_5 : decode b_T_end 5 = .ok (.astore_n 3, 1) := by decide +kernel
theorem d_T_end_6 : decode b_T_end 6 = .ok (.iload_n 2, 1) := by decide +kernel
theorem d_T_end_7 : decode b_T_end 7 = .ok (.invokestatic 145, 3) := by decide +kernel
theorem d_T_end_10 : decode b_T_end 10 = .ok (.aload_n 3, 1) := by decide +kernel
theorem d_T_end_11 : decode b_T_end 11 = .ok (.iload_n 2, 1) := by decide +kernel
theorem d_T_end_12 : decode b_T_end 12 = .ok (.invokevirtual 148, 3) := by decide +kernel
theorem d_T_end_15 : decode b_T_end 15 = .ok (.ifCond .eq 13, 3) := by decide +kernel
theorem d_T_end_18 : decode b_T_end 18 = .ok (.new 65, 3) := by decide +kernel
theorem d_T_end_21 : decode b_T_end 21 = .ok (.dup, 1) := by decide +kernel
theorem d_T_end_22 : decode b_T_end 22 = .ok (.ldc 151, 2) := by decide +kernel
theorem d_T_end_24 : decode b_T_end 24 = .ok (.invokespecial 69, 3) := by decide +kernel
theorem d_T_end_27 : decode b_T_end 27 = .ok (.athrow, 1) := by decide +kernel
theorem d_T_end_28 : decode b_T_end 28 = .ok (.iload_n 2, 1) := by decide +kernel
theorem d_T_end_29 : decode b_T_end 29 = .ok (.ifCond .ne 10, 3) := by decide +kernel
theorem d_T_end_32 : decode b_T_end 32 = .ok (.aload_n 3, 1) := by decide +kernel
theorem d_T_end_33 : decode b_T_end 33 = .ok (.getfield 153, 3) := by decide +kernel
theorem d_T_end_36 : decode b_T_end 36 = .ok (.goto 7, 3) := by decide +kernel
theorem d_T_end_39 : decode b_T_end 39 = .ok (.aload_n 3, 1) := by decide +kernel
theorem d_T_end_40 : decode b_T_end 40 = .ok (.getfield 156, 3) := by decide +kernel
theorem d_T_end_43 : decode b_T_end 43 = .ok (.ireturn, 1) := by decide +kernel
theorem d_T_spanNumbered_0 : decode b_T_spanNumbered 0 = .ok (.iload_n 1, 1) := by decide +kernel
theorem d_T_spanNumbered_1 : decode b_T_spanNumbered 1 = .ok (.ifCond .lt 14, 3) := by decide +kernel
theorem d_T_spanNumbered_4 : decode b_T_spanNumbered 4 = .ok (.iload_n 1, 1) := by decide +kernel
theorem d_T_spanNumbered_5 : decode b_T_spanNumbered 5 = .ok (.aload_n 0, 1) := by decide +kernel
theorem d_T_spanNumbered_6 : decode b_T_spanNumbered 6 = .ok (.getfield 25, 3) := by decide +kernel
theorem d_T_spanNumbered_9 : decode b_T_spanNumbered 9 = .ok (.invokevirtual 86, 3) := by decide +kernel
theorem d_T_spanNumbered_12 : decode b_T_spanNumbered 12 = .ok (.if_icmp .lt 13, 3) := by decide +kernel
theorem d_T_spanNumbered_15 : decode b_T_spanNumbered 15 = .ok (.new 184, 3) := by decide +kernel
theorem d_T_spanNumbered_18 : decode b_T_spanNumbered 18 = .ok (.dup, 1) := by decide +kernel
theorem d_T_spanNumbered_19 : decode b_T_spanNumbered 19 = .ok (.ldc 235, 2) := by decide +kernel
theorem d_T_spanNumbered_21 : decode b_T_spanNumbered 21 = .ok (.invokespecial 188, 3) := by decide +kernel
theorem d_T_spanNumbered_24 : decode b_T_spanNumbered 24 = .ok (.athrow, 1) := by decide +kernel
theorem d_T_spanNumbered_25 : decode b_T_spanNumbered 25 = .ok (.aload_n 0, 1) := by decide +kernel
theorem d_T_spanNumbered_26 : decode b_T_spanNumbered 26 = .ok (.getfield 25, 3) := by decide +kernel
theorem d_T_spanNumbered_29 : decode b_T_spanNumbered 29 = .ok (.iload_n 1, 1) := by decide +kernel
theorem d_T_spanNumbered_30 : decode b_T_spanNumbered 30 = .ok (.invokevirtual 192, 3) := by decide +kernel
theorem d_T_spanNumbered_33 : decode b_T_spanNumbered 33 = .ok (.checkcast 32, 3) := by decide +kernel
theorem d_T_spanNumbered_36 : decode b_T_spanNumbered 36 = .ok (.areturn, 1) := by decide +kernel
theorem d_T_checkEnd_0 : decode b_T_checkEnd 0 = .ok (.iload_n 0, 1) := by decide +kernel
theorem d_T_checkEnd_1 : decode b_T_checkEnd 1 = .ok (.ifCond .eq 18, 3) := by decide +kernel
theorem d_T_checkEnd_4 : decode b_T_checkEnd 4 = .ok (.iload_n 0, 1) := by decide +kernel
theorem d_T_checkEnd_5 : decode b_T_checkEnd 5 = .ok (.iconst 1, 1) := by decide +kernel
theorem d_T_checkEnd_6 : decode b_T_checkEnd 6 = .ok (.if_icmp .eq 13, 3) := by decide +kernel
theorem d_T_checkEnd_9 : decode b_T_checkEnd 9 = .ok (.new 184, 3) := by decide +kernel
theorem d_T_checkEnd_12 : decode b_T_checkEnd 12 = .ok (.dup, 1) := by decide +kernel
theorem d_T_checkEnd_13 : decode b_T_checkEnd 13 = .ok (.ldc 241, 2) := by decide +kernel
theorem d_T_checkEnd_15 : decode b_T_checkEnd 15 = .ok (.invokespecial 188, 3) := by decide +kernel
theorem d_T_checkEnd_18 : decode b_T_checkEnd 18 = .ok (.athrow, 1) := by decide +kernel
theorem d_T_checkEnd_19 : decode b_T_checkEnd 19 = .ok (.return_, 1) := by decide +kernel
theorem d_T_open_0 : decode b_T_open 0 = .ok (.aload_n 0, 1) := by decide +kernel
theorem d_T_open_1 : decode b_T_open 1 = .ok (.iload_n 1, 1) := by decide +kernel
theorem d_T_open_2 : decode b_T_open 2 = .ok (.invokevirtual 141, 3) := by decide +kernel
theorem d_T_open_5 : decode b_T_open 5 = .ok (.astore_n 3, 1) := by decide +kernel
theorem d_T_open_6 : decode b_T_open 6 = .ok (.iload_n 2, 1) := by decide +kernel
theorem d_T_open_7 : decode b_T_open 7 = .ok (.invokestatic 145, 3) := by decide +kernel
theorem d_T_open_10 : decode b_T_open 10 = .ok (.aload_n 3, 1) := by decide +kernel
theorem d_T_open_11 : decode b_T_open 11 = .ok (.iload_n 2, 1) := by decide +kernel
theorem d_T_open_12 : decode b_T_open 12 = .ok (.invokevirtual 148, 3) := by decide +kernel
theorem d_T_open_15 : decode b_T_open 15 = .ok (.ireturn, 1) := by decide +kernel
theorem d_T_join_0 : decode b_T_join 0 = .ok (.aload_n 0, 1) := by decide +kernel
theorem d_T_join_1 : decode b_T_join 1 = .ok (.iload_n 1, 1) := by decide +kernel
theorem d_T_join_2 : decode b_T_join 2 = .ok (.invokevirtual 141, 3) := by decide +kernel
theorem d_T_join_5 : decode b_T_join 5 = .ok (.astore_n 3, 1) := by decide +kernel
theorem d_T_join_6 : decode b_T_join 6 = .ok (.aload_n 0, 1) := by decide +kernel
theorem d_T_join_7 : decode b_T_join 7 = .ok (.iload_n 2, 1) := by decide +kernel
theorem d_T_join_8 : decode b_T_join 8 = .ok (.invokevirtual 141, 3) := by decide +kernel
theorem d_T_join_11 : decode b_T_join 11 = .ok (.astore 4, 2) := by decide +kernel
theorem d_T_join_13 : decode b_T_join 13 = .ok (.aload_n 0, 1) := by decide +kernel
theorem d_T_join_14 : decode b_T_join 14 = .ok (.invokevirtual 128, 3) := by decide +kernel
theorem d_T_join_17 : decode b_T_join 17 = .ok (.aload_n 0, 1) := by decide +kernel
theorem d_T_join_18 : decode b_T_join 18 = .ok (.getfield 37, 3) := by decide +kernel
theorem d_T_join_21 : decode b_T_join 21 = .ok (.aload_n 3, 1) := by decide +kernel
theorem d_T_join_22 : decode b_T_join 22 = .ok (.invokevirtual 159, 3) := by decide +kernel
theorem d_T_join_25 : decode b_T_join 25 = .ok (.aload_n 0, 1) := by decide +kernel
theorem d_T_join_26 : decode b_T_join 26 = .ok (.getfield 37, 3) := by decide +kernel
theorem d_T_join_29 : decode b_T_join 29 = .ok (.aload 4, 2) := by decide +kernel
theorem d_T_join_31 : decode b_T_join 31 = .ok (.invokevirtual 163, 3) := by decide +kernel
theorem d_T_join_34 : decode b_T_join 34 = .ok (.aload_n 0, 1) := by decide +kernel
theorem d_T_join_35 : decode b_T_join 35 = .ok (.invokevirtual 135, 3) := by decide +kernel
theorem d_T_join_38 : decode b_T_join 38 = .ok (.ireturn, 1) := by decide +kernel
theorem d_T_relations_0 : decode b_T_relations 0 = .ok (.aload_n 0, 1) := by decide +kernel
theorem d_T_relations_1 : decode b_T_relations 1 = .ok (.iload_n 1, 1) := by decide +kernel
theorem d_T_relations_2 : decode b_T_relations 2 = .ok (.invokevirtual 141, 3) := by decide +kernel
theorem d_T_relations_5 : decode b_T_relations 5 = .ok (.astore_n 3, 1) := by decide +kernel
theorem d_T_relations_6 : decode b_T_relations 6 = .ok (.aload_n 0, 1) := by decide +kernel
theorem d_T_relations_7 : decode b_T_relations 7 = .ok (.iload_n 2, 1) := by decide +kernel
theorem d_T_relations_8 : decode b_T_relations 8 = .ok (.invokevirtual 141, 3) := by decide +kernel
theorem d_T_relations_11 : decode b_T_relations 11 = .ok (.astore 4, 2) := by decide +kernel
theorem d_T_relations_13 : decode b_T_relations 13 = .ok (.aload_n 3, 1) := by decide +kernel
theorem d_T_relations_14 : decode b_T_relations 14 = .ok (.aload 4, 2) := by decide +kernel
theorem d_T_relations_16 : decode b_T_relations 16 = .ok (.invokestatic 166, 3) := by decide +kernel
theorem d_T_relations_19 : decode b_T_relations 19 = .ok (.aload_n 3, 1) := by decide +kernel
theorem d_T_relations_20 : decode b_T_relations 20 = .ok (.aload 4, 2) := by decide +kernel
theorem d_T_relations_22 : decode b_T_relations 22 = .ok (.invokestatic 170, 3) := by decide +kernel
theorem d_T_relations_25 : decode b_T_relations 25 = .ok (.ior, 1) := by decide +kernel
theorem d_T_relations_26 : decode b_T_relations 26 = .ok (.istore 5, 2) := by decide +kernel
theorem d_T_relations_28 : decode b_T_relations 28 = .ok (.aload 4, 2) := by decide +kernel
theorem d_T_relations_30 : decode b_T_relations 30 = .ok (.aload_n 3, 1) := by decide +kernel
theorem d_T_relations_31 : decode b_T_relations 31 = .ok (.invokestatic 166, 3) := by decide +kernel
theorem d_T_relations_34 : decode b_T_relations 34 = .ok (.ifCond .eq 10, 3) := by decide +kernel
theorem d_T_relations_37 : decode b_T_relations 37 = .ok (.iload 5, 2) := by decide +kernel
theorem d_T_relations_39 : decode b_T_relations 39 = .ok (.bipush 64, 2) := by decide +kernel
theorem d_T_relations_41 : decode b_T_relations 41 = .ok (.ior, 1) := by decide +kernel
theorem d_T_relations_42 : decode b_T_relations 42 = .ok (.istore 5, 2) := by decide +kernel
theorem d_T_relations_44 : decode b_T_relations 44 = .ok (.iload 5, 2) := by decide +kernel
theorem d_T_relations_46 : decode b_T_relations 46 = .ok (.ireturn, 1) := by decide +kernel
theorem d_T_relationsAhead_0 : decode b_T_relationsAhead 0 = .ok (.iconst 0, 1) := by decide +kernel
theorem d_T_relationsAhead_1 : decode b_T_relationsAhead 1 = .ok (.istore_n 2, 1) := by decide +kernel
theorem d_T_relationsAhead_2 : decode b_T_relationsAhead 2 = .ok (.aload_n 0, 1) := by decide +kernel
theorem d_T_relationsAhead_3 : decode b_T_relationsAhead 3 = .ok (.getfield 153, 3) := by decide +kernel
theorem d_T_relationsAhead_6 : decode b_T_relationsAhead 6 = .ok (.iconst 1, 1) := by decide +kernel
theorem d_T_relationsAhead_7 : decode b_T_relationsAhead 7 = .ok (.iadd, 1) := by decide +kernel
theorem d_T_relationsAhead_8 : decode b_T_relationsAhead 8 = .ok (.aload_n 1, 1) := by decide +kernel
theorem d_T_relationsAhead_9 : decode b_T_relationsAhead 9 = .ok (.getfield 153, 3) := by decide +kernel
theorem d_T_relationsAhead_12 : decode b_T_relationsAhead 12 = .ok (.invokestatic 368, 3) := by decide +kernel
theorem d_T_relationsAhead_15 : decode b_T_relationsAhead 15 = .ok (.istore_n 3, 1) := by decide +kernel
theorem d_T_relationsAhead_16 : decode b_T_relationsAhead 16 = .ok (.aload_n 0, 1) := by decide +kernel
theorem d_T_relationsAhead_17 : decode b_T_relationsAhead 17 = .ok (.getfield 153, 3) := by decide +kernel
theorem d_T_relationsAhead_20 : decode b_T_relationsAhead 20 = .ok (.iconst 1, 1) := by decide +kernel
theorem d_T_relationsAhead_21 : decode b_T_relationsAhead 21 = .ok (.iadd, 1) := by decide +kernel
theorem d_T_relationsAhead_22 : decode b_T_relationsAhead 22 = .ok (.aload_n 1, 1) := by decide +kernel
theorem d_T_relationsAhead_23 : decode b_T_relationsAhead 23 = .ok (.getfield 156, 3) := by decide +kernel
theorem d_T_relationsAhead_26 : decode b_T_relationsAhead 26 = .ok (.if_icmp .ge 7, 3) := by decide +kernel
theorem d_T_relationsAhead_29 : decode b_T_relationsAhead 29 = .ok (.iload_n 2, 1) := by decide +kernel
theorem d_T_relationsAhead_30 : decode b_T_relationsAhead 30 = .ok (.iconst 1, 1) := by decide +kernel
theorem d_T_relationsAhead_31 : decode b_T_relationsAhead 31 = .ok (.ior, 1) := by decide +kernel
theorem d_T_relationsAhead_32 : decode b_T_relationsAhead 32 = .ok (.istore_n 2, 1) := by decide +kernel
theorem d_T_relationsAhead_33 : decode b_T_relationsAhead 33 = .ok (.iload_n 3, 1) := by decide +kernel
theorem d_T_relationsAhead_34 : decode b_T_relationsAhead 34 = .ok (.aload_n 0, 1) := by decide +kernel
theorem d_T_relationsAhead_35 : decode b_T_relationsAhead 35 = .ok (.getfield 156, 3) := by decide +kernel
theorem d_T_relationsAhead_38 : decode b_T_relationsAhead 38 = .ok (.iconst 1, 1) := by decide +kernel
theorem d_T_relationsAhead_39 : decode b_T_relationsAhead 39 = .ok (.iadd, 1) := by decide +kernel
theorem d_T_relationsAhead_40 : decode b_T_relationsAhead 40 = .ok (.aload_n 1, 1) := by decide +kernel
theorem d_T_relationsAhead_41 : decode b_T_relationsAhead 41 = .ok (.getfield 156, 3) := by decide +kernel
theorem d_T_relationsAhead_44 : decode b_T_relationsAhead 44 = .ok (.invokestatic 365, 3) := by decide +kernel
theorem d_T_relationsAhead_47 : decode b_T_relationsAhead 47 = .ok (.if_icmp .gt 7, 3) := by decide +kernel
theorem d_T_relationsAhead_50 : decode b_T_relationsAhead 50 = .ok (.iload_n 2, 1) := by decide +kernel
theorem d_T_relationsAhead_51 : decode b_T_relationsAhead 51 = .ok (.iconst 2, 1) := by decide +kernel
theorem d_T_relationsAhead_52 : decode b_T_relationsAhead 52 = .ok (.ior, 1) := by decide +kernel
theorem d_T_relationsAhead_53 : decode b_T_relationsAhead 53 = .ok (.istore_n 2, 1) := by decide +kernel
theorem d_T_relationsAhead_54 : decode b_T_relationsAhead 54 = .ok (.iload_n 3, 1) := by decide +kernel
theorem d_T_relationsAhead_55 : decode b_T_relationsAhead 55 = .ok (.aload_n 0, 1) := by decide +kernel
theorem d_T_relationsAhead_56 : decode b_T_relationsAhead 56 = .ok (.getfield 156, 3) := by decide +kernel
theorem d_T_relationsAhead_59 : decode b_T_relationsAhead 59 = .ok (.aload_n 1, 1) := by decide +kernel
theorem d_T_relationsAhead_60 : decode b_T_relationsAhead 60 = .ok (.getfield 156, 3) := by decide +kernel
theorem d_T_relationsAhead_63 : decode b_T_relationsAhead 63 = .ok (.iconst 1, 1) := by decide +kernel
theorem d_T_relationsAhead_64 : decode b_T_relationsAhead 64 = .ok (.isub, 1) := by decide +kernel
theorem d_T_relationsAhead_65 : decode b_T_relationsAhead 65 = .ok (.invokestatic 365, 3) := by decide +kernel
theorem d_T_relationsAhead_68 : decode b_T_relationsAhead 68 = .ok (.if_icmp .gt 7, 3) := by decide +kernel
theorem d_T_relationsAhead_71 : decode b_T_relationsAhead 71 = .ok (.iload_n 2, 1) := by decide +kernel
theorem d_T_relationsAhead_72 : decode b_T_relationsAhead 72 = .ok (.iconst 4, 1) := by decide +kernel
theorem d_T_relationsAhead_73 : decode b_T_relationsAhead 73 = .ok (.ior, 1) := by decide +kernel
theorem d_T_relationsAhead_74 : decode b_T_relationsAhead 74 = .ok (.istore_n 2, 1) := by decide +kernel
theorem d_T_relationsAhead_75 : decode b_T_relationsAhead 75 = .ok (.iload_n 2, 1) := by decide +kernel
theorem d_T_relationsAhead_76 : decode b_T_relationsAhead 76 = .ok (.ireturn, 1) := by decide +kernel
theorem d_T_relationsOfSharing_0 : decode b_T_relationsOfSharing 0 = .ok (.aload_n 0, 1) := by decide +kernel
theorem d_T_relationsOfSharing_1 : decode b_T_relationsOfSharing 1 = .ok (.getfield 153, 3) := by decide +kernel
theorem d_T_relationsOfSharing_4 : decode b_T_relationsOfSharing 4 = .ok (.aload_n 1, 1) := by decide +kernel
theorem d_T_relationsOfSharing_5 : decode b_T_relationsOfSharing 5 = .ok (.getfield 153, 3) := by decide +kernel
theorem d_T_relationsOfSharing_8 : decode b_T_relationsOfSharing 8 = .ok (.invokestatic 368, 3) := by decide +kernel
theorem d_T_relationsOfSharing_11 : decode b_T_relationsOfSharing 11 = .ok (.aload_n 0, 1) := by decide +kernel
theorem d_T_relationsOfSharing_12 : decode b_T_relationsOfSharing 12 = .ok (.getfield 156, 3) := by decide +kernel
theorem d_T_relationsOfSharing_15 : decode b_T_relationsOfSharing 15 = .ok (.aload_n 1, 1) := by decide +kernel
theorem d_T_relationsOfSharing_16 : decode b_T_relationsOfSharing 16 = .ok (.getfield 156, 3) := by decide +kernel
theorem d_T_relationsOfSharing_19 : decode b_T_relationsOfSharing 19 = .ok (.invokestatic 365, 3) := by decide +kernel
theorem d_T_relationsOfSharing_22 : decode b_T_relationsOfSharing 22 = .ok (.if_icmp .le 5, 3) := by decide +kernel
theorem d_T_relationsOfSharing_25 : decode b_T_relationsOfSharing 25 = .ok (.iconst 0, 1) := by decide +kernel
theorem d_T_relationsOfSharing_26 : decode b_T_relationsOfSharing 26 = .ok (.ireturn, 1) := by decide +kernel
theorem d_T_relationsOfSharing_27 : decode b_T_relationsOfSharing 27 = .ok (.bipush 8, 2) := by decide +kernel
theorem d_T_relationsOfSharing_29 : decode b_T_relationsOfSharing 29 = .ok (.istore_n 2, 1) := by decide +kernel
theorem d_T_relationsOfSharing_30 : decode b_T_relationsOfSharing 30 = .ok (.aload_n 1, 1) := by decide +kernel
theorem d_T_relationsOfSharing_31 : decode b_T_relationsOfSharing 31 = .ok (.invokevirtual 227, 3) := by decide +kernel
theorem d_T_relationsOfSharing_34 : decode b_T_relationsOfSharing 34 = .ok (.iconst 1, 1) := by decide +kernel
theorem d_T_relationsOfSharing_35 : decode b_T_relationsOfSharing 35 = .ok (.if_icmp .le 8, 3) := by decide +kernel
theorem d_T_relationsOfSharing_38 : decode b_T_relationsOfSharing 38 = .ok (.iload_n 2, 1) := by decide +kernel
theorem d_T_relationsOfSharing_39 : decode b_T_relationsOfSharing 39 = .ok (.bipush 16, 2) := by decide +kernel
theorem d_T_relationsOfSharing_41 : decode b_T_relationsOfSharing 41 = .ok (.ior, 1) := by decide +kernel
theorem d_T_relationsOfSharing_42 : decode b_T_relationsOfSharing 42 = .ok (.istore_n 2, 1) := by decide +kernel
theorem d_T_relationsOfSharing_43 : decode b_T_relationsOfSharing 43 = .ok (.aload_n 0, 1) := by decide +kernel
theorem d_T_relationsOfSharing_44 : decode b_T_relationsOfSharing 44 = .ok (.invokevirtual 227, 3) := by decide +kernel
theorem d_T_relationsOfSharing_47 : decode b_T_relationsOfSharing 47 = .ok (.iconst 1, 1) := by decide +kernel
theorem d_T_relationsOfSharing_48 : decode b_T_relationsOfSharing 48 = .ok (.if_icmp .le 8, 3) := by decide +kernel
theorem d_T_relationsOfSharing_51 : decode b_T_relationsOfSharing 51 = .ok (.iload_n 2, 1) := by decide +kernel
theorem d_T_relationsOfSharing_52 : decode b_T_relationsOfSharing 52 = .ok (.bipush 32, 2) := by decide +kernel
theorem d_T_relationsOfSharing_54 : decode b_T_relationsOfSharing 54 = .ok (.ior, 1) := by decide +kernel
theorem d_T_relationsOfSharing_55 : decode b_T_relationsOfSharing 55 = .ok (.istore_n 2, 1) := by decide +kernel
theorem d_T_relationsOfSharing_56 : decode b_T_relationsOfSharing 56 = .ok (.iload_n 2, 1) := by decide +kernel
theorem d_T_relationsOfSharing_57 : decode b_T_relationsOfSharing 57 = .ok (.ireturn, 1) := by decide +kernel
theorem d_T_relation_0 : decode b_T_relation 0 = .ok (.aload_n 0, 1) := by decide +kernel
theorem d_T_relation_1 : decode b_T_relation 1 = .ok (.iload_n 1, 1) := by decide +kernel
theorem d_T_relation_2 : decode b_T_relation 2 = .ok (.invokevirtual 141, 3) := by decide +kernel
theorem d_T_relation_5 : decode b_T_relation 5 = .ok (.astore_n 3, 1) := by decide +kernel
theorem d_T_relation_6 : decode b_T_relation 6 = .ok (.aload_n 0, 1) := by decide +kernel
theorem d_T_relation_7 : decode b_T_relation 7 = .ok (.iload_n 2, 1) := by decide +kernel
theorem d_T_relation_8 : decode b_T_relation 8 = .ok (.invokevirtual 141, 3) := by decide +kernel
theorem d_T_relation_11 : decode b_T_relation 11 = .ok (.astore 4, 2) := by decide +kernel
theorem d_T_relation_13 : decode b_T_relation 13 = .ok (.aload_n 3, 1) := by decide +kernel
theorem d_T_relation_14 : decode b_T_relation 14 = .ok (.invokevirtual 173, 3) := by decide +kernel
theorem d_T_relation_17 : decode b_T_relation 17 = .ok (.ifCond .ne 11, 3) := by decide +kernel
theorem d_T_relation_20 : decode b_T_relation 20 = .ok (.aload 4, 2) := by decide +kernel
theorem d_T_relation_22 : decode b_T_relation 22 = .ok (.invokevirtual 173, 3) := by decide +kernel
theorem d_T_relation_25 : decode b_T_relation 25 = .ok (.ifCond .eq 13, 3) := by decide +kernel
theorem d_T_relation_28 : decode b_T_relation 28 = .ok (.new 65, 3) := by decide +kernel
theorem d_T_relation_31 : decode b_T_relation 31 = .ok (.dup, 1) := by decide +kernel
theorem d_T_relation_32 : decode b_T_relation 32 = .ok (.ldc 176, 2) := by decide +kernel
theorem d_T_relation_34 : decode b_T_relation 34 = .ok (.invokespecial 69, 3) := by decide +kernel
theorem d_T_relation_37 : decode b_T_relation 37 = .ok (.athrow, 1) := by decide +kernel
theorem d_T_relation_38 : decode b_T_relation 38 = .ok (.aload_n 3, 1) := by decide +kernel
theorem d_T_relation_39 : decode b_T_relation 39 = .ok (.aload 4, 2) := by decide +kernel
theorem d_T_relation_41 : decode b_T_relation 41 = .ok (.invokestatic 178, 3) := by decide +kernel
theorem d_T_relation_44 : decode b_T_relation 44 = .ok (.ireturn, 1) := by decide +kernel
theorem d_T_relationOf_0 : decode b_T_relationOf 0 = .ok (.aload_n 0, 1) := by decide +kernel
theorem d_T_relationOf_1 : decode b_T_relationOf 1 = .ok (.getfield 153, 3) := by decide +kernel
theorem d_T_relationOf_4 : decode b_T_relationOf 4 = .ok (.aload_n 1, 1) := by decide +kernel
theorem d_T_relationOf_5 : decode b_T_relationOf 5 = .ok (.getfield 153, 3) := by decide +kernel
theorem d_T_relationOf_8 : decode b_T_relationOf 8 = .ok (.if_icmp .ne 16, 3) := by decide +kernel
theorem d_T_relationOf_11 : decode b_T_relationOf 11 = .ok (.aload_n 0, 1) := by decide +kernel
theorem d_T_relationOf_12 : decode b_T_relationOf 12 = .ok (.getfield 156, 3) := by decide +kernel
theorem d_T_relationOf_15 : decode b_T_relationOf 15 = .ok (.aload_n 1, 1) := by decide +kernel
theorem d_T_relationOf_16 : decode b_T_relationOf 16 = .ok (.getfield 156, 3) := by decide +kernel
theorem d_T_relationOf_19 : decode b_T_relationOf 19 = .ok (.if_icmp .ne 5, 3) := by decide +kernel
theorem d_T_relationOf_22 : decode b_T_relationOf 22 = .ok (.iconst 3, 1) := by decide +kernel
theorem d_T_relationOf_23 : decode b_T_relationOf 23 = .ok (.ireturn, 1) := by decide +kernel
theorem d_T_relationOf_24 : decode b_T_relationOf 24 = .ok (.aload_n 0, 1) := by decide +kernel
theorem d_T_relationOf_25 : decode b_T_relationOf 25 = .ok (.getfield 153, 3) := by decide +kernel
theorem d_T_relationOf_28 : decode b_T_relationOf 28 = .ok (.aload_n 1, 1) := by decide +kernel
theorem d_T_relationOf_29 : decode b_T_relationOf 29 = .ok (.getfield 153, 3) := by decide +kernel
theorem d_T_relationOf_32 : decode b_T_relationOf 32 = .ok (.if_icmp .lt 16, 3) := by decide +kernel
theorem d_T_relationOf_35 : decode b_T_relationOf 35 = .ok (.aload_n 0, 1) := by decide +kernel
theorem d_T_relationOf_36 : decode b_T_relationOf 36 = .ok (.getfield 156, 3) := by decide +kernel
theorem d_T_relationOf_39 : decode b_T_relationOf 39 = .ok (.aload_n 1, 1) := by decide +kernel
theorem d_T_relationOf_40 : decode b_T_relationOf 40 = .ok (.getfield 156, 3) := by decide +kernel
theorem d_T_relationOf_43 : decode b_T_relationOf 43 = .ok (.if_icmp .gt 5, 3) := by decide +kernel
theorem d_T_relationOf_46 : decode b_T_relationOf 46 = .ok (.iconst 4, 1) := by decide +kernel
theorem d_T_relationOf_47 : decode b_T_relationOf 47 = .ok (.ireturn, 1) := by decide +kernel
theorem d_T_relationOf_48 : decode b_T_relationOf 48 = .ok (.aload_n 0, 1) := by decide +kernel
theorem d_T_relationOf_49 : decode b_T_relationOf 49 = .ok (.getfield 153, 3) := by decide +kernel
theorem d_T_relationOf_52 : decode b_T_relationOf 52 = .ok (.aload_n 1, 1) := by decide +kernel
theorem d_T_relationOf_53 : decode b_T_relationOf 53 = .ok (.getfield 153, 3) := by decide +kernel
theorem d_T_relationOf_56 : decode b_T_relationOf 56 = .ok (.if_icmp .gt 16, 3) := by decide +kernel
theorem d_T_relationOf_59 : decode b_T_relationOf 59 = .ok (.aload_n 0, 1) := by decide +kernel
theorem d_T_relationOf_60 : decode b_T_relationOf 60 = .ok (.getfield 156, 3) := by decide +kernel
theorem d_T_relationOf_63 : decode b_T_relationOf 63 = .ok (.aload_n 1, 1) := by decide +kernel
theorem d_T_relationOf_64 : decode b_T_relationOf 64 = .ok (.getfield 156, 3) := by decide +kernel
theorem d_T_relationOf_67 : decode b_T_relationOf 67 = .ok (.if_icmp .lt 5, 3) := by decide +kernel
theorem d_T_relationOf_70 : decode b_T_relationOf 70 = .ok (.iconst 5, 1) := by decide +kernel
theorem d_T_relationOf_71 : decode b_T_relationOf 71 = .ok (.ireturn, 1) := by decide +kernel
theorem d_T_relationOf_72 : decode b_T_relationOf 72 = .ok (.aload_n 0, 1) := by decide +kernel
theorem d_T_relationOf_73 : decode b_T_relationOf 73 = .ok (.getfield 153, 3) := by decide +kernel
theorem d_T_relationOf_76 : decode b_T_relationOf 76 = .ok (.aload_n 1, 1) := by decide +kernel
theorem d_T_relationOf_77 : decode b_T_relationOf 77 = .ok (.getfield 153, 3) := by decide +kernel
theorem d_T_relationOf_80 : decode b_T_relationOf 80 = .ok (.if_icmp .le 6, 3) := by decide +kernel
theorem d_T_relationOf_83 : decode b_T_relationOf 83 = .ok (.bipush 6, 2) := by decide +kernel
theorem d_T_relationOf_85 : decode b_T_relationOf 85 = .ok (.ireturn, 1) := by decide +kernel
theorem d_T_relationOf_86 : decode b_T_relationOf 86 = .ok (.aload_n 0, 1) := by decide +kernel
theorem d_T_relationOf_87 : decode b_T_relationOf 87 = .ok (.getfield 156, 3) := by decide +kernel
theorem d_T_relationOf_90 : decode b_T_relationOf 90 = .ok (.iconst 1, 1) := by decide +kernel
theorem d_T_relationOf_91 : decode b_T_relationOf 91 = .ok (.iadd, 1) := by decide +kernel
theorem d_T_relationOf_92 : decode b_T_relationOf 92 = .ok (.aload_n 1, 1) := by decide +kernel
theorem d_T_relationOf_93 : decode b_T_relationOf 93 = .ok (.getfield 153, 3) := by decide +kernel
theorem d_T_relationOf_96 : decode b_T_relationOf 96 = .ok (.if_icmp .ge 5, 3) := by decide +kernel
theorem d_T_relationOf_99 : decode b_T_relationOf 99 = .ok (.iconst 0, 1) := by decide +kernel
theorem d_T_relationOf_100 : decode b_T_relationOf 100 = .ok (.ireturn, 1) := by decide +kernel
theorem d_T_relationOf_101 : decode b_T_relationOf 101 = .ok (.aload_n 0, 1) := by decide +kernel
theorem d_T_relationOf_102 : decode b_T_relationOf 102 = .ok (.getfield 156, 3) := by decide +kernel
theorem d_T_relationOf_105 : decode b_T_relationOf 105 = .ok (.iconst 1, 1) := by decide +kernel
theorem d_T_relationOf_106 : decode b_T_relationOf 106 = .ok (.iadd, 1) := by decide +kernel
theorem d_T_relationOf_107 : decode b_T_relationOf 107 = .ok (.aload_n 1, 1) := by decide +kernel
theorem d_T_relationOf_108 : decode b_T_relationOf 108 = .ok (.getfield 153, 3) := by decide +kernel
theorem d_T_relationOf_111 : decode b_T_relationOf 111 = .ok (.if_icmp .ne 7, 3) := by decide +kernel
theorem d_T_relationOf_114 : decode b_T_relationOf 114 = .ok (.iconst 1, 1) := by decide +kernel
theorem d_T_relationOf_115 : decode b_T_relationOf 115 = .ok (.goto 4, 3) := by decide +kernel
theorem d_T_relationOf_118 : decode b_T_relationOf 118 = .ok (.iconst 2, 1) := by decide +kernel
theorem d_T_relationOf_119 : decode b_T_relationOf 119 = .ok (.ireturn, 1) := by decide +kernel
theorem d_T_word_0 : decode b_T_word 0 = .ok (.aload_n 0, 1) := by decide +kernel
theorem d_T_word_1 : decode b_T_word 1 = .ok (.aload_n 0, 1) := by decide +kernel
theorem d_T_word_2 : decode b_T_word 2 = .ok (.iload_n 1, 1) := by decide +kernel
theorem d_T_word_3 : decode b_T_word 3 = .ok (.invokevirtual 141, 3) := by decide +kernel
theorem d_T_word_6 : decode b_T_word 6 = .ok (.invokevirtual 181, 3) := by decide +kernel
theorem d_T_word_9 : decode b_T_word 9 = .ok (.iload_n 2, 1) := by decide +kernel
theorem d_T_word_10 : decode b_T_word 10 = .ok (.iconst (-1), 1) := by decide +kernel
theorem d_T_word_11 : decode b_T_word 11 = .ok (.if_icmp .ne 25, 3) := by decide +kernel
theorem d_T_word_14 : decode b_T_word 14 = .ok (.aload_n 0, 1) := by decide +kernel
theorem d_T_word_15 : decode b_T_word 15 = .ok (.getfield 44, 3) := by decide +kernel
theorem d_T_word_18 : decode b_T_word 18 = .ok (.getfield 62, 3) := by decide +kernel
theorem d_T_word_21 : decode b_T_word 21 = .ok (.ifCond .ne 7, 3) := by decide +kernel
theorem d_T_word_24 : decode b_T_word 24 = .ok (.iconst (-1), 1) := by decide +kernel
theorem d_T_word_25 : decode b_T_word 25 = .ok (.goto 10, 3) := by decide +kernel
theorem d_T_word_28 : decode b_T_word 28 = .ok (.aload_n 0, 1) := by decide +kernel
theorem d_T_word_29 : decode b_T_word 29 = .ok (.getfield 44, 3) := by decide +kernel
theorem d_T_word_32 : decode b_T_word 32 = .ok (.getfield 62, 3) := by decide +kernel
theorem d_T_word_35 : decode b_T_word 35 = .ok (.ireturn, 1) := by decide +kernel
theorem d_T_word_36 : decode b_T_word 36 = .ok (.iload_n 2, 1) := by decide +kernel
theorem d_T_word_37 : decode b_T_word 37 = .ok (.ifCond .lt 14, 3) := by decide +kernel
theorem d_T_word_40 : decode b_T_word 40 = .ok (.iload_n 2, 1) := by decide +kernel
theorem d_T_word_41 : decode b_T_word 41 = .ok (.aload_n 0, 1) := by decide +kernel
theorem d_T_word_42 : decode b_T_word 42 = .ok (.getfield 44, 3) := by decide +kernel
theorem d_T_word_45 : decode b_T_word 45 = .ok (.getfield 62, 3) := by decide +kernel
theorem d_T_word_48 : decode b_T_word 48 = .ok (.if_icmp .lt 13, 3) := by decide +kernel
theorem d_T_word_51 : decode b_T_word 51 = .ok (.new 184, 3) := by decide +kernel
theorem d_T_word_54 : decode b_T_word 54 = .ok (.dup, 1) := by decide +kernel
theorem d_T_word_55 : decode b_T_word 55 = .ok (.ldc 186, 2) := by decide +kernel
theorem d_T_word_57 : decode b_T_word 57 = .ok (.invokespecial 188, 3) := by decide +kernel
theorem d_T_word_60 : decode b_T_word 60 = .ok (.athrow, 1) := by decide +kernel
theorem d_T_word_61 : decode b_T_word 61 = .ok (.aload_n 0, 1) := by decide +kernel
theorem d_T_word_62 : decode b_T_word 62 = .ok (.getfield 44, 3) := by decide +kernel
theorem d_T_word_65 : decode b_T_word 65 = .ok (.iload_n 2, 1) := by decide +kernel
theorem d_T_word_66 : decode b_T_word 66 = .ok (.invokevirtual 189, 3) := by decide +kernel
theorem d_T_word_69 : decode b_T_word 69 = .ok (.ireturn, 1) := by decide +kernel
theorem d_T_findShortest_0 : decode b_T_findShortest 0 = .ok (.aload_n 0, 1) := by decide +kernel
theorem d_T_findShortest_1 : decode b_T_findShortest 1 = .ok (.getfield 44, 3) := by decide +kernel
theorem d_T_findShortest_4 : decode b_T_findShortest 4 = .ok (.invokevirtual 73, 3) := by decide +kernel
theorem d_T_findShortest_7 : decode b_T_findShortest 7 = .ok (.aload_n 1, 1) := by decide +kernel
theorem d_T_findShortest_8 : decode b_T_findShortest 8 = .ok (.getfield 319, 3) := by decide +kernel
theorem d_T_findShortest_11 : decode b_T_findShortest 11 = .ok (.ifCond .eq 11, 3) := by decide +kernel
theorem d_T_findShortest_14 : decode b_T_findShortest 14 = .ok (.aload_n 1, 1) := by decide +kernel
theorem d_T_findShortest_15 : decode b_T_findShortest 15 = .ok (.getfield 323, 3) := by decide +kernel
theorem d_T_findShortest_18 : decode b_T_findShortest 18 = .ok (.ifCond .eq 4, 3) := by decide +kernel
theorem d_T_findShortest_21 : decode b_T_findShortest 21 = .ok (.return_, 1) := by decide +kernel
theorem d_T_findShortest_22 : decode b_T_findShortest 22 = .ok (.aload_n 1, 1) := by decide +kernel
theorem d_T_findShortest_23 : decode b_T_findShortest 23 = .ok (.invokestatic 326, 3) := by decide +kernel
theorem d_T_findShortest_26 : decode b_T_findShortest 26 = .ok (.iconst 1, 1) := by decide +kernel
theorem d_T_findShortest_27 : decode b_T_findShortest 27 = .ok (.isub, 1) := by decide +kernel
theorem d_T_findShortest_28 : decode b_T_findShortest 28 = .ok (.bipush 100, 2) := by decide +kernel
theorem d_T_findShortest_30 : decode b_T_findShortest 30 = .ok (.invokestatic 330, 3) := by decide +kernel
theorem d_T_findShortest_33 : decode b_T_findShortest 33 = .ok (.iconst 1, 1) := by decide +kernel
theorem d_T_findShortest_34 : decode b_T_findShortest 34 = .ok (.iadd, 1) := by decide +kernel
theorem d_T_findShortest_35 : decode b_T_findShortest 35 = .ok (.istore_n 2, 1) := by decide +kernel
theorem d_T_findShortest_36 : decode b_T_findShortest 36 = .ok (.iconst (-1), 1) := by decide +kernel
theorem d_T_findShortest_37 : decode b_T_findShortest 37 = .ok (.istore_n 3, 1) := by decide +kernel
theorem d_T_findShortest_38 : decode b_T_findShortest 38 = .ok (.iload_n 3, 1) := by decide +kernel
theorem d_T_findShortest_39 : decode b_T_findShortest 39 = .ok (.iconst 2, 1) := by decide +kernel
theorem d_T_findShortest_40 : decode b_T_findShortest 40 = .ok (.if_icmp .gt 16, 3) := by decide +kernel
theorem d_T_findShortest_43 : decode b_T_findShortest 43 = .ok (.aload_n 0, 1) := by decide +kernel
theorem d_T_findShortest_44 : decode b_T_findShortest 44 = .ok (.aload_n 1, 1) := by decide +kernel
theorem d_T_findShortest_45 : decode b_T_findShortest 45 = .ok (.iload_n 2, 1) := by decide +kernel
theorem d_T_findShortest_46 : decode b_T_findShortest 46 = .ok (.iload_n 3, 1) := by decide +kernel
theorem d_T_findShortest_47 : decode b_T_findShortest 47 = .ok (.invokevirtual 333, 3) := by decide +kernel
theorem d_T_findShortest_50 : decode b_T_findShortest 50 = .ok (.iinc 3 1, 3) := by decide +kernel
theorem d_T_findShortest_53 : decode b_T_findShortest 53 = .ok (.goto (-15), 3) := by decide +kernel
theorem d_T_findShortest_56 : decode b_T_findShortest 56 = .ok (.iconst 0, 1) := by decide +kernel
theorem d_T_findShortest_57 : decode b_T_findShortest 57 = .ok (.istore_n 3, 1) := by decide +kernel
theorem d_T_findShortest_58 : decode b_T_findShortest 58 = .ok (.iload_n 3, 1) := by decide +kernel
theorem d_T_findShortest_59 : decode b_T_findShortest 59 = .ok (.aload_n 0, 1) := by decide +kernel
theorem d_T_findShortest_60 : decode b_T_findShortest 60 = .ok (.getfield 21, 3) := by decide +kernel
theorem d_T_findShortest_63 : decode b_T_findShortest 63 = .ok (.invokevirtual 86, 3) := by decide +kernel
theorem d_T_findShortest_66 : decode b_T_findShortest 66 = .ok (.if_icmp .ge 25, 3) := by decide +kernel
theorem d_T_findShortest_69 : decode b_T_findShortest 69 = .ok (.aload_n 0, 1) := by decide +kernel
theorem d_T_findShortest_70 : decode b_T_findShortest 70 = .ok (.aload_n 1, 1) := by decide +kernel
theorem d_T_findShortest_71 : decode b_T_findShortest 71 = .ok (.aload_n 0, 1) := by decide +kernel
theorem d_T_findShortest_72 : decode b_T_findShortest 72 = .ok (.getfield 21, 3) := by decide +kernel
theorem d_T_findShortest_75 : decode b_T_findShortest 75 = .ok (.iload_n 3, 1) := by decide +kernel
theorem d_T_findShortest_76 : decode b_T_findShortest 76 = .ok (.invokevirtual 192, 3) := by decide +kernel
theorem d_T_findShortest_79 : decode b_T_findShortest 79 = .ok (.checkcast 92, 3) := by decide +kernel
theorem d_T_findShortest_82 : decode b_T_findShortest 82 = .ok (.invokevirtual 337, 3) := by decide +kernel
theorem d_T_findShortest_85 : decode b_T_findShortest 85 = .ok (.iinc 3 1, 3) := by decide +kernel
theorem d_T_findShortest_88 : decode b_T_findShortest 88 = .ok (.goto (-30), 3) := by decide +kernel
theorem d_T_findShortest_91 : decode b_T_findShortest 91 = .ok (.return_, 1) := by decide +kernel
theorem d_T_yearSaid_0 : decode b_T_yearSaid 0 = .ok (.aload_n 0, 1) := by decide +kernel
theorem d_T_yearSaid_1 : decode b_T_yearSaid 1 = .ok (.getfield 319, 3) := by decide +kernel
theorem d_T_yearSaid_4 : decode b_T_yearSaid 4 = .ok (.ifCond .eq 10, 3) := by decide +kernel
theorem d_T_yearSaid_7 : decode b_T_yearSaid 7 = .ok (.aload_n 0, 1) := by decide +kernel
theorem d_T_yearSaid_8 : decode b_T_yearSaid 8 = .ok (.getfield 156, 3) := by decide +kernel
theorem d_T_yearSaid_11 : decode b_T_yearSaid 11 = .ok (.iconst 1, 1) := by decide +kernel
theorem d_T_yearSaid_12 : decode b_T_yearSaid 12 = .ok (.iadd, 1) := by decide +kernel
theorem d_T_yearSaid_13 : decode b_T_yearSaid 13 = .ok (.ireturn, 1) := by decide +kernel
theorem d_T_yearSaid_14 : decode b_T_yearSaid 14 = .ok (.aload_n 0, 1) := by decide +kernel
theorem d_T_yearSaid_15 : decode b_T_yearSaid 15 = .ok (.getfield 323, 3) := by decide +kernel
theorem d_T_yearSaid_18 : decode b_T_yearSaid 18 = .ok (.ifCond .eq 12, 3) := by decide +kernel
theorem d_T_yearSaid_21 : decode b_T_yearSaid 21 = .ok (.aload_n 0, 1) := by decide +kernel
theorem d_T_yearSaid_22 : decode b_T_yearSaid 22 = .ok (.getfield 153, 3) := by decide +kernel
theorem d_T_yearSaid_25 : decode b_T_yearSaid 25 = .ok (.iconst 1, 1) := by decide +kernel
theorem d_T_yearSaid_26 : decode b_T_yearSaid 26 = .ok (.isub, 1) := by decide +kernel
theorem d_T_yearSaid_27 : decode b_T_yearSaid 27 = .ok (.goto 7, 3) := by decide +kernel
theorem d_T_yearSaid_30 : decode b_T_yearSaid 30 = .ok (.aload_n 0, 1) := by decide +kernel
theorem d_T_yearSaid_31 : decode b_T_yearSaid 31 = .ok (.getfield 153, 3) := by decide +kernel
theorem d_T_yearSaid_34 : decode b_T_yearSaid 34 = .ok (.ireturn, 1) := by decide +kernel
theorem d_T_tryCentury_0 : decode b_T_tryCentury 0 = .ok (.aload_n 0, 1) := by decide +kernel
theorem d_T_tryCentury_1 : decode b_T_tryCentury 1 = .ok (.iload_n 2, 1) := by decide +kernel
theorem d_T_tryCentury_2 : decode b_T_tryCentury 2 = .ok (.invokevirtual 308, 3) := by decide +kernel
theorem d_T_tryCentury_5 : decode b_T_tryCentury 5 = .ok (.ifCond .eq 23, 3) := by decide +kernel
theorem d_T_tryCentury_8 : decode b_T_tryCentury 8 = .ok (.iload_n 3, 1) := by decide +kernel
theorem d_T_tryCentury_9 : decode b_T_tryCentury 9 = .ok (.iconst (-1), 1) := by decide +kernel
theorem d_T_tryCentury_10 : decode b_T_tryCentury 10 = .ok (.if_icmp .eq 14, 3) := by decide +kernel
theorem d_T_tryCentury_13 : decode b_T_tryCentury 13 = .ok (.aload_n 0, 1) := by decide +kernel
theorem d_T_tryCentury_14 : decode b_T_tryCentury 14 = .ok (.getfield 37, 3) := by decide +kernel
theorem d_T_tryCentury_17 : decode b_T_tryCentury 17 = .ok (.iload_n 3, 1) := by decide +kernel
theorem d_T_tryCentury_18 : decode b_T_tryCentury 18 = .ok (.invokevirtual 305, 3) := by decide +kernel
theorem d_T_tryCentury_21 : decode b_T_tryCentury 21 = .ok (.ifCond .eq 7, 3) := by decide +kernel
theorem d_T_tryCentury_24 : decode b_T_tryCentury 24 = .ok (.iconst 1, 1) := by decide +kernel
theorem d_T_tryCentury_25 : decode b_T_tryCentury 25 = .ok (.goto 4, 3) := by decide +kernel
theorem d_T_tryCentury_28 : decode b_T_tryCentury 28 = .ok (.iconst 0, 1) := by decide +kernel
theorem d_T_tryCentury_29 : decode b_T_tryCentury 29 = .ok (.istore 4, 2) := by decide +kernel
theorem d_T_tryCentury_31 : decode b_T_tryCentury 31 = .ok (.iload 4, 2) := by decide +kernel
theorem d_T_tryCentury_33 : decode b_T_tryCentury 33 = .ok (.ifCond .eq 11, 3) := by decide +kernel
theorem d_T_tryCentury_36 : decode b_T_tryCentury 36 = .ok (.aload_n 0, 1) := by decide +kernel
theorem d_T_tryCentury_37 : decode b_T_tryCentury 37 = .ok (.aload_n 1, 1) := by decide +kernel
theorem d_T_tryCentury_38 : decode b_T_tryCentury 38 = .ok (.invokevirtual 341, 3) := by decide +kernel
theorem d_T_tryCentury_41 : decode b_T_tryCentury 41 = .ok (.ifCond .ne 4, 3) := by decide +kernel
theorem d_T_tryCentury_44 : decode b_T_tryCentury 44 = .ok (.return_, 1) := by decide +kernel
theorem d_T_tryCentury_45 : decode b_T_tryCentury 45 = .ok (.aload_n 0, 1) := by decide +kernel
theorem d_T_tryCentury_46 : decode b_T_tryCentury 46 = .ok (.aload_n 1, 1) := by decide +kernel
theorem d_T_tryCentury_47 : decode b_T_tryCentury 47 = .ok (.invokevirtual 345, 3) := by decide +kernel
theorem d_T_tryCentury_50 : decode b_T_tryCentury 50 = .ok (.aload_n 0, 1) := by decide +kernel
theorem d_T_tryCentury_51 : decode b_T_tryCentury 51 = .ok (.getfield 41, 3) := by decide +kernel
theorem d_T_tryCentury_54 : decode b_T_tryCentury 54 = .ok (.iload_n 3, 1) := by decide +kernel
theorem d_T_tryCentury_55 : decode b_T_tryCentury 55 = .ok (.invokestatic 268, 3) := by decide +kernel
theorem d_T_tryCentury_58 : decode b_T_tryCentury 58 = .ok (.invokevirtual 348, 3) := by decide +kernel
theorem d_T_tryCentury_61 : decode b_T_tryCentury 61 = .ok (.iload_n 2, 1) := by decide +kernel
theorem d_T_tryCentury_62 : decode b_T_tryCentury 62 = .ok (.bipush 10, 2) := by decide +kernel
theorem d_T_tryCentury_64 : decode b_T_tryCentury 64 = .ok (.if_icmp .lt 17, 3) := by decide +kernel
theorem d_T_tryCentury_67 : decode b_T_tryCentury 67 = .ok (.aload_n 0, 1) := by decide +kernel
theorem d_T_tryCentury_68 : decode b_T_tryCentury 68 = .ok (.getfield 41, 3) := by decide +kernel
theorem d_T_tryCentury_71 : decode b_T_tryCentury 71 = .ok (.bipush 48, 2) := by decide +kernel
theorem d_T_tryCentury_73 : decode b_T_tryCentury 73 = .ok (.iload_n 2, 1) := by decide +kernel
theorem d_T_tryCentury_74 : decode b_T_tryCentury 74 = .ok (.bipush 10, 2) := by decide +kernel
theorem d_T_tryCentury_76 : decode b_T_tryCentury 76 = .ok (.idiv, 1) := by decide +kernel
theorem d_T_tryCentury_77 : decode b_T_tryCentury 77 = .ok (.iadd, 1) := by decide +kernel
theorem d_T_tryCentury_78 : decode b_T_tryCentury 78 = .ok (.invokevirtual 70, 3) := by decide +kernel
theorem d_T_tryCentury_81 : decode b_T_tryCentury 81 = .ok (.aload_n 0, 1) := by decide +kernel
theorem d_T_tryCentury_82 : decode b_T_tryCentury 82 = .ok (.getfield 41, 3) := by decide +kernel
theorem d_T_tryCentury_85 : decode b_T_tryCentury 85 = .ok (.bipush 48, 2) := by decide +kernel
theorem d_T_tryCentury_87 : decode b_T_tryCentury 87 = .ok (.iload_n 2, 1) := by decide +kernel
theorem d_T_tryCentury_88 : decode b_T_tryCentury 88 = .ok (.bipush 10, 2) := by decide +kernel
theorem d_T_tryCentury_90 : decode b_T_tryCentury 90 = .ok (.irem, 1) := by decide +kernel
theorem d_T_tryCentury_91 : decode b_T_tryCentury 91 = .ok (.iadd, 1) := by decide +kernel
theorem d_T_tryCentury_92 : decode b_T_tryCentury 92 = .ok (.invokevirtual 70, 3) := by decide +kernel
theorem d_T_tryCentury_95 : decode b_T_tryCentury 95 = .ok (.aload_n 0, 1) := by decide +kernel
theorem d_T_tryCentury_96 : decode b_T_tryCentury 96 = .ok (.getfield 41, 3) := by decide +kernel
theorem d_T_tryCentury_99 : decode b_T_tryCentury 99 = .ok (.bipush 99, 2) := by decide +kernel
theorem d_T_tryCentury_101 : decode b_T_tryCentury 101 = .ok (.invokevirtual 70, 3) := by decide +kernel
theorem d_T_tryCentury_104 : decode b_T_tryCentury 104 = .ok (.aload_n 0, 1) := by decide +kernel
theorem d_T_tryCentury_105 : decode b_T_tryCentury 105 = .ok (.invokevirtual 351, 3) := by decide +kernel
theorem d_T_tryCentury_108 : decode b_T_tryCentury 108 = .ok (.return_, 1) := by decide +kernel
theorem d_T_foundSays_0 : decode b_T_foundSays 0 = .ok (.aload_n 1, 1) := by decide +kernel
theorem d_T_foundSays_1 : decode b_T_foundSays 1 = .ok (.getfield 319, 3) := by decide +kernel
theorem d_T_foundSays_4 : decode b_T_foundSays 4 = .ok (.ifCond .eq 25, 3) := by decide +kernel
theorem d_T_foundSays_7 : decode b_T_foundSays 7 = .ok (.aload_n 0, 1) := by decide +kernel
theorem d_T_foundSays_8 : decode b_T_foundSays 8 = .ok (.getfield 37, 3) := by decide +kernel
theorem d_T_foundSays_11 : decode b_T_foundSays 11 = .ok (.getfield 153, 3) := by decide +kernel
theorem d_T_foundSays_14 : decode b_T_foundSays 14 = .ok (.aload_n 1, 1) := by decide +kernel
theorem d_T_foundSays_15 : decode b_T_foundSays 15 = .ok (.getfield 156, 3) := by decide +kernel
theorem d_T_foundSays_18 : decode b_T_foundSays 18 = .ok (.iconst 1, 1) := by decide +kernel
theorem d_T_foundSays_19 : decode b_T_foundSays 19 = .ok (.iadd, 1) := by decide +kernel
theorem d_T_foundSays_20 : decode b_T_foundSays 20 = .ok (.if_icmp .ne 7, 3) := by decide +kernel
theorem d_T_foundSays_23 : decode b_T_foundSays 23 = .ok (.iconst 1, 1) := by decide +kernel
theorem d_T_foundSays_24 : decode b_T_foundSays 24 = .ok (.goto 4, 3) := by decide +kernel
theorem d_T_foundSays_27 : decode b_T_foundSays 27 = .ok (.iconst 0, 1) := by decide +kernel
theorem d_T_foundSays_28 : decode b_T_foundSays 28 = .ok (.ireturn, 1) := by decide +kernel
theorem d_T_foundSays_29 : decode b_T_foundSays 29 = .ok (.aload_n 1, 1) := by decide +kernel
theorem d_T_foundSays_30 : decode b_T_foundSays 30 = .ok (.getfield 323, 3) := by decide +kernel
theorem d_T_foundSays_33 : decode b_T_foundSays 33 = .ok (.ifCond .eq 25, 3) := by decide +kernel
theorem d_T_foundSays_36 : decode b_T_foundSays 36 = .ok (.aload_n 0, 1) := by decide +kernel
theorem d_T_foundSays_37 : decode b_T_foundSays 37 = .ok (.getfield 37, 3) := by decide +kernel
theorem d_T_foundSays_40 : decode b_T_foundSays 40 = .ok (.getfield 156, 3) := by decide +kernel
theorem d_T_foundSays_43 : decode b_T_foundSays 43 = .ok (.aload_n 1, 1) := by decide +kernel
theorem d_T_foundSays_44 : decode b_T_foundSays 44 = .ok (.getfield 153, 3) := by decide +kernel
theorem d_T_foundSays_47 : decode b_T_foundSays 47 = .ok (.iconst 1, 1) := by decide +kernel
theorem d_T_foundSays_48 : decode b_T_foundSays 48 = .ok (.isub, 1) := by decide +kernel
theorem d_T_foundSays_49 : decode b_T_foundSays 49 = .ok (.if_icmp .ne 7, 3) := by decide +kernel
theorem d_T_foundSays_52 : decode b_T_foundSays 52 = .ok (.iconst 1, 1) := by decide +kernel
theorem d_T_foundSays_53 : decode b_T_foundSays 53 = .ok (.goto 4, 3) := by decide +kernel
theorem d_T_foundSays_56 : decode b_T_foundSays 56 = .ok (.iconst 0, 1) := by decide +kernel
theorem d_T_foundSays_57 : decode b_T_foundSays 57 = .ok (.ireturn, 1) := by decide +kernel
theorem d_T_foundSays_58 : decode b_T_foundSays 58 = .ok (.aload_n 0, 1) := by decide +kernel
theorem d_T_foundSays_59 : decode b_T_foundSays 59 = .ok (.getfield 37, 3) := by decide +kernel
theorem d_T_foundSays_62 : decode b_T_foundSays 62 = .ok (.getfield 153, 3) := by decide +kernel
theorem d_T_foundSays_65 : decode b_T_foundSays 65 = .ok (.aload_n 1, 1) := by decide +kernel
theorem d_T_foundSays_66 : decode b_T_foundSays 66 = .ok (.getfield 153, 3) := by decide +kernel
theorem d_T_foundSays_69 : decode b_T_foundSays 69 = .ok (.if_icmp .ne 21, 3) := by decide +kernel
theorem d_T_foundSays_72 : decode b_T_foundSays 72 = .ok (.aload_n 0, 1) := by decide +kernel
theorem d_T_foundSays_73 : decode b_T_foundSays 73 = .ok (.getfield 37, 3) := by decide +kernel
theorem d_T_foundSays_76 : decode b_T_foundSays 76 = .ok (.getfield 156, 3) := by decide +kernel
theorem d_T_foundSays_79 : decode b_T_foundSays 79 = .ok (.aload_n 1, 1) := by decide +kernel
theorem d_T_foundSays_80 : decode b_T_foundSays 80 = .ok (.getfield 156, 3) := by decide +kernel
theorem d_T_foundSays_83 : decode b_T_foundSays 83 = .ok (.if_icmp .ne 7, 3) := by decide +kernel
theorem d_T_foundSays_86 : decode b_T_foundSays 86 = .ok (.iconst 1, 1) := by decide +kernel
theorem d_T_foundSays_87 : decode b_T_foundSays 87 = .ok (.goto 4, 3) := by decide +kernel
theorem d_T_foundSays_90 : decode b_T_foundSays 90 = .ok (.iconst 0, 1) := by decide +kernel
theorem d_T_foundSays_91 : decode b_T_foundSays 91 = .ok (.ireturn, 1) := by decide +kernel
theorem d_T_startTrial_0 : decode b_T_startTrial 0 = .ok (.aload_n 0, 1) := by decide +kernel
theorem d_T_startTrial_1 : decode b_T_startTrial 1 = .ok (.getfield 41, 3) := by decide +kernel
theorem d_T_startTrial_4 : decode b_T_startTrial 4 = .ok (.invokevirtual 73, 3) := by decide +kernel
theorem d_T_startTrial_7 : decode b_T_startTrial 7 = .ok (.aload_n 1, 1) := by decide +kernel
theorem d_T_startTrial_8 : decode b_T_startTrial 8 = .ok (.getfield 319, 3) := by decide +kernel
theorem d_T_startTrial_11 : decode b_T_startTrial 11 = .ok (.ifCond .eq 17, 3) := by decide +kernel
theorem d_T_startTrial_14 : decode b_T_startTrial 14 = .ok (.aload_n 0, 1) := by decide +kernel
theorem d_T_startTrial_15 : decode b_T_startTrial 15 = .ok (.getfield 41, 3) := by decide +kernel
theorem d_T_startTrial_18 : decode b_T_startTrial 18 = .ok (.iconst 4, 1) := by decide +kernel
theorem d_T_startTrial_19 : decode b_T_startTrial 19 = .ok (.invokestatic 268, 3) := by decide +kernel
theorem d_T_startTrial_22 : decode b_T_startTrial 22 = .ok (.invokevirtual 348, 3) := by decide +kernel
theorem d_T_startTrial_25 : decode b_T_startTrial 25 = .ok (.goto 21, 3) := by decide +kernel
theorem d_T_startTrial_28 : decode b_T_startTrial 28 = .ok (.aload_n 1, 1) := by decide +kernel
theorem d_T_startTrial_29 : decode b_T_startTrial 29 = .ok (.getfield 323, 3) := by decide +kernel
theorem d_T_startTrial_32 : decode b_T_startTrial 32 = .ok (.ifCond .eq 14, 3) := by decide +kernel
theorem d_T_startTrial_35 : decode b_T_startTrial 35 = .ok (.aload_n 0, 1) := by decide +kernel
theorem d_T_startTrial_36 : decode b_T_startTrial 36 = .ok (.getfield 41, 3) := by decide +kernel
theorem d_T_startTrial_39 : decode b_T_startTrial 39 = .ok (.iconst 5, 1) := by decide +kernel
theorem d_T_startTrial_40 : decode b_T_startTrial 40 = .ok (.invokestatic 268, 3) := by decide +kernel
theorem d_T_startTrial_43 : decode b_T_startTrial 43 = .ok (.invokevirtual 348, 3) := by decide +kernel
theorem d_T_startTrial_46 : decode b_T_startTrial 46 = .ok (.return_, 1) := by decide +kernel
theorem d_T_keepShorter_0 : decode b_T_keepShorter 0 = .ok (.aload_n 0, 1) := by decide +kernel
theorem d_T_keepShorter_1 : decode b_T_keepShorter 1 = .ok (.getfield 44, 3) := by decide +kernel
theorem d_T_keepShorter_4 : decode b_T_keepShorter 4 = .ok (.getfield 62, 3) := by decide +kernel
theorem d_T_keepShorter_7 : decode b_T_keepShorter 7 = .ok (.ifCond .eq 17, 3) := by decide +kernel
theorem d_T_keepShorter_10 : decode b_T_keepShorter 10 = .ok (.aload_n 0, 1) := by decide +kernel
theorem d_T_keepShorter_11 : decode b_T_keepShorter 11 = .ok (.getfield 41, 3) := by decide +kernel
theorem d_T_keepShorter_14 : decode b_T_keepShorter 14 = .ok (.aload_n 0, 1) := by decide +kernel
theorem d_T_keepShorter_15 : decode b_T_keepShorter 15 = .ok (.getfield 44, 3) := by decide +kernel
theorem d_T_keepShorter_18 : decode b_T_keepShorter 18 = .ok (.invokevirtual 357, 3) := by decide +kernel
theorem d_T_keepShorter_21 : decode b_T_keepShorter 21 = .ok (.ifCond .eq 21, 3) := by decide +kernel
theorem d_T_keepShorter_24 : decode b_T_keepShorter 24 = .ok (.aload_n 0, 1) := by decide +kernel
theorem d_T_keepShorter_25 : decode b_T_keepShorter 25 = .ok (.getfield 44, 3) := by decide +kernel
theorem d_T_keepShorter_28 : decode b_T_keepShorter 28 = .ok (.invokevirtual 73, 3) := by decide +kernel
theorem d_T_keepShorter_31 : decode b_T_keepShorter 31 = .ok (.aload_n 0, 1) := by decide +kernel
theorem d_T_keepShorter_32 : decode b_T_keepShorter 32 = .ok (.getfield 44, 3) := by decide +kernel
theorem d_T_keepShorter_35 : decode b_T_keepShorter 35 = .ok (.aload_n 0, 1) := by decide +kernel
theorem d_T_keepShorter_36 : decode b_T_keepShorter 36 = .ok (.getfield 41, 3) := by decide +kernel
theorem d_T_keepShorter_39 : decode b_T_keepShorter 39 = .ok (.invokevirtual 354, 3) := by decide +kernel
theorem d_T_keepShorter_42 : decode b_T_keepShorter 42 = .ok (.return_, 1) := by decide +kernel
theorem d_T_tryName_0 : decode b_T_tryName 0 = .ok (.aload_n 0, 1) := by decide +kernel
theorem d_T_tryName_1 : decode b_T_tryName 1 = .ok (.aload_n 2, 1) := by decide +kernel
theorem d_T_tryName_2 : decode b_T_tryName 2 = .ok (.iconst 0, 1) := by decide +kernel
theorem d_T_tryName_3 : decode b_T_tryName 3 = .ok (.ldc 245, 2) := by decide +kernel
theorem d_T_tryName_5 : decode b_T_tryName 5 = .ok (.invokevirtual 311, 3) := by decide +kernel
theorem d_T_tryName_8 : decode b_T_tryName 8 = .ok (.ifCond .eq 11, 3) := by decide +kernel
theorem d_T_tryName_11 : decode b_T_tryName 11 = .ok (.aload_n 0, 1) := by decide +kernel
theorem d_T_tryName_12 : decode b_T_tryName 12 = .ok (.aload_n 1, 1) := by decide +kernel
theorem d_T_tryName_13 : decode b_T_tryName 13 = .ok (.invokevirtual 341, 3) := by decide +kernel
theorem d_T_tryName_16 : decode b_T_tryName 16 = .ok (.ifCond .ne 4, 3) := by decide +kernel
theorem d_T_tryName_19 : decode b_T_tryName 19 = .ok (.return_, 1) := by decide +kernel
theorem d_T_tryName_20 : decode b_T_tryName 20 = .ok (.aload_n 0, 1) := by decide +kernel
theorem d_T_tryName_21 : decode b_T_tryName 21 = .ok (.aload_n 1, 1) := by decide +kernel
theorem d_T_tryName_22 : decode b_T_tryName 22 = .ok (.invokevirtual 345, 3) := by decide +kernel
theorem d_T_tryName_25 : decode b_T_tryName 25 = .ok (.aload_n 0, 1) := by decide +kernel
theorem d_T_tryName_26 : decode b_T_tryName 26 = .ok (.getfield 41, 3) := by decide +kernel
theorem d_T_tryName_29 : decode b_T_tryName 29 = .ok (.aload_n 2, 1) := by decide +kernel
theorem d_T_tryName_30 : decode b_T_tryName 30 = .ok (.getfield 196, 3) := by decide +kernel
theorem d_T_tryName_33 : decode b_T_tryName 33 = .ok (.invokevirtual 354, 3) := by decide +kernel
theorem d_T_tryName_36 : decode b_T_tryName 36 = .ok (.aload_n 0, 1) := by decide +kernel
theorem d_T_tryName_37 : decode b_T_tryName 37 = .ok (.invokevirtual 351, 3) := by decide +kernel
theorem d_T_tryName_40 : decode b_T_tryName 40 = .ok (.return_, 1) := by decide +kernel
theorem d_T_feast_0 : decode b_T_feast 0 = .ok (.iload_n 1, 1) := by decide +kernel
theorem d_T_feast_1 : decode b_T_feast 1 = .ok (.invokestatic 203, 3) := by decide +kernel
theorem d_T_feast_4 : decode b_T_feast 4 = .ok (.ifCond .eq 26, 3) := by decide +kernel
theorem d_T_feast_7 : decode b_T_feast 7 = .ok (.iload_n 2, 1) := by decide +kernel
theorem d_T_feast_8 : decode b_T_feast 8 = .ok (.iconst 1, 1) := by decide +kernel
theorem d_T_feast_9 : decode b_T_feast 9 = .ok (.if_icmp .lt 21, 3) := by decide +kernel
theorem d_T_feast_12 : decode b_T_feast 12 = .ok (.iload_n 2, 1) := by decide +kernel
theorem d_T_feast_13 : decode b_T_feast 13 = .ok (.getstatic 206, 3) := by decide +kernel
theorem d_T_feast_16 : decode b_T_feast 16 = .ok (.arraylength, 1) := by decide +kernel
theorem d_T_feast_17 : decode b_T_feast 17 = .ok (.if_icmp .gt 13, 3) := by decide +kernel
theorem d_T_feast_20 : decode b_T_feast 20 = .ok (.iload_n 3, 1) := by decide +kernel
theorem d_T_feast_21 : decode b_T_feast 21 = .ok (.ifCond .lt 9, 3) := by decide +kernel
theorem d_T_feast_24 : decode b_T_feast 24 = .ok (.iload_n 3, 1) := by decide +kernel
theorem d_T_feast_25 : decode b_T_feast 25 = .ok (.bipush 7, 2) := by decide +kernel
theorem d_T_feast_27 : decode b_T_feast 27 = .ok (.if_icmp .lt 13, 3) := by decide +kernel
theorem d_T_feast_30 : decode b_T_feast 30 = .ok (.new 55, 3) := by decide +kernel
theorem d_T_feast_33 : decode b_T_feast 33 = .ok (.dup, 1) := by decide +kernel
theorem d_T_feast_34 : decode b_T_feast 34 = .ok (.ldc 209, 2) := by decide +kernel
theorem d_T_feast_36 : decode b_T_feast 36 = .ok (.invokespecial 59, 3) := by decide +kernel
theorem d_T_feast_39 : decode b_T_feast 39 = .ok (.athrow, 1) := by decide +kernel
theorem d_T_feast_40 : decode b_T_feast 40 = .ok (.iload 4, 2) := by decide +kernel
theorem d_T_feast_42 : decode b_T_feast 42 = .ok (.iconst (-1), 1) := by decide +kernel
theorem d_T_feast_43 : decode b_T_feast 43 = .ok (.if_icmp .eq 25, 3) := by decide +kernel
theorem d_T_feast_46 : decode b_T_feast 46 = .ok (.iload 4, 2) := by decide +kernel
theorem d_T_feast_48 : decode b_T_feast 48 = .ok (.iconst 1, 1) := by decide +kernel
theorem d_T_feast_49 : decode b_T_feast 49 = .ok (.if_icmp .lt 9, 3) := by decide +kernel
theorem d_T_feast_52 : decode b_T_feast 52 = .ok (.iload 4, 2) := by decide +kernel
theorem d_T_feast_54 : decode b_T_feast 54 = .ok (.iconst 5, 1) := by decide +kernel
theorem d_T_feast_55 : decode b_T_feast 55 = .ok (.if_icmp .le 13, 3) := by decide +kernel
theorem d_T_feast_58 : decode b_T_feast 58 = .ok (.new 55, 3) := by decide +kernel
theorem d_T_feast_61 : decode b_T_feast 61 = .ok (.dup, 1) := by decide +kernel
theorem d_T_feast_62 : decode b_T_feast 62 = .ok (.ldc 211, 2) := by decide +kernel
theorem d_T_feast_64 : decode b_T_feast 64 = .ok (.invokespecial 59, 3) := by decide +kernel
theorem d_T_feast_67 : decode b_T_feast 67 = .ok (.athrow, 1) := by decide +kernel
theorem d_T_feast_68 : decode b_T_feast 68 = .ok (.iload_n 1, 1) := by decide +kernel
theorem d_T_feast_69 : decode b_T_feast 69 = .ok (.iload_n 2, 1) := by decide +kernel
theorem d_T_feast_70 : decode b_T_feast 70 = .ok (.invokestatic 213, 3) := by decide +kernel
theorem d_T_feast_73 : decode b_T_feast 73 = .ok (.istore 5, 2) := by decide +kernel
theorem d_T_feast_75 : decode b_T_feast 75 = .ok (.iconst 1, 1) := by decide +kernel
theorem d_T_feast_76 : decode b_T_feast 76 = .ok (.iload_n 3, 1) := by decide +kernel
theorem d_T_feast_77 : decode b_T_feast 77 = .ok (.iload_n 1, 1) := by decide +kernel
theorem d_T_feast_78 : decode b_T_feast 78 = .ok (.iload_n 2, 1) := by decide +kernel
theorem d_T_feast_79 : decode b_T_feast 79 = .ok (.invokestatic 217, 3) := by decide +kernel
theorem d_T_feast_82 : decode b_T_feast 82 = .ok (.isub, 1) := by decide +kernel
theorem d_T_feast_83 : decode b_T_feast 83 = .ok (.bipush 7, 2) := by decide +kernel
theorem d_T_feast_85 : decode b_T_feast 85 = .ok (.invokestatic 220, 3) := by decide +kernel
theorem d_T_feast_88 : decode b_T_feast 88 = .ok (.iadd, 1) := by decide +kernel
theorem d_T_feast_89 : decode b_T_feast 89 = .ok (.istore 6, 2) := by decide +kernel
theorem d_T_feast_91 : decode b_T_feast 91 = .ok (.iload 4, 2) := by decide +kernel
theorem d_T_feast_93 : decode b_T_feast 93 = .ok (.iconst (-1), 1) := by decide +kernel
theorem d_T_feast_94 : decode b_T_feast 94 = .ok (.if_icmp .ne 18, 3) := by decide +kernel
theorem d_T_feast_97 : decode b_T_feast 97 = .ok (.iload 6, 2) := by decide +kernel
theorem d_T_feast_99 : decode b_T_feast 99 = .ok (.iload 5, 2) := by decide +kernel
theorem d_T_feast_101 : decode b_T_feast 101 = .ok (.iload 6, 2) := by decide +kernel
theorem d_T_feast_103 : decode b_T_feast 103 = .ok (.isub, 1) := by decide +kernel
theorem d_T_feast_104 : decode b_T_feast 104 = .ok (.bipush 7, 2) := by decide +kernel
theorem d_T_feast_106 : decode b_T_feast 106 = .ok (.idiv, 1) := by decide +kernel
theorem d_T_feast_107 : decode b_T_feast 107 = .ok (.bipush 7, 2) := by decide +kernel
theorem d_T_feast_109 : decode b_T_feast 109 = .ok (.imul, 1) := by decide +kernel
theorem d_T_feast_110 : decode b_T_feast 110 = .ok (.iadd, 1) := by decide +kernel
theorem d_T_feast_111 : decode b_T_feast 111 = .ok (.ireturn, 1) := by decide +kernel
theorem d_T_feast_112 : decode b_T_feast 112 = .ok (.iload 6, 2) := by decide +kernel
theorem d_T_feast_114 : decode b_T_feast 114 = .ok (.iload 4, 2) := by decide +kernel
theorem d_T_feast_116 : decode b_T_feast 116 = .ok (.iconst 1, 1) := by decide +kernel
theorem d_T_feast_117 : decode b_T_feast 117 = .ok (.isub, 1) := by decide +kernel
theorem d_T_feast_118 : decode b_T_feast 118 = .ok (.bipush 7, 2) := by decide +kernel
theorem d_T_feast_120 : decode b_T_feast 120 = .ok (.imul, 1) := by decide +kernel
theorem d_T_feast_121 : decode b_T_feast 121 = .ok (.iadd, 1) := by decide +kernel
theorem d_T_feast_122 : decode b_T_feast 122 = .ok (.istore 7, 2) := by decide +kernel
theorem d_T_feast_124 : decode b_T_feast 124 = .ok (.iload 7, 2) := by decide +kernel
theorem d_T_feast_126 : decode b_T_feast 126 = .ok (.iload 5, 2) := by decide +kernel
theorem d_T_feast_128 : decode b_T_feast 128 = .ok (.if_icmp .gt 8, 3) := by decide +kernel
theorem d_T_feast_131 : decode b_T_feast 131 = .ok (.iload 7, 2) := by decide +kernel
theorem d_T_feast_133 : decode b_T_feast 133 = .ok (.goto 4, 3) := by decide +kernel
theorem d_T_feast_136 : decode b_T_feast 136 = .ok (.iconst 0, 1) := by decide +kernel
theorem d_T_feast_137 : decode b_T_feast 137 = .ok (.ireturn, 1) := by decide +kernel
theorem d_T_daysIn_0 : decode b_T_daysIn 0 = .ok (.iload_n 1, 1) := by decide +kernel
theorem d_T_daysIn_1 : decode b_T_daysIn 1 = .ok (.iconst 1, 1) := by decide +kernel
theorem d_T_daysIn_2 : decode b_T_daysIn 2 = .ok (.if_icmp .lt 11, 3) := by decide +kernel
theorem d_T_daysIn_5 : decode b_T_daysIn 5 = .ok (.iload_n 1, 1) := by decide +kernel
theorem d_T_daysIn_6 : decode b_T_daysIn 6 = .ok (.getstatic 206, 3) := by decide +kernel
theorem d_T_daysIn_9 : decode b_T_daysIn 9 = .ok (.arraylength, 1) := by decide +kernel
theorem d_T_daysIn_10 : decode b_T_daysIn 10 = .ok (.if_icmp .le 5, 3) := by decide +kernel
theorem d_T_daysIn_13 : decode b_T_daysIn 13 = .ok (.iconst 0, 1) := by decide +kernel
theorem d_T_daysIn_14 : decode b_T_daysIn 14 = .ok (.ireturn, 1) := by decide +kernel
theorem d_T_daysIn_15 : decode b_T_daysIn 15 = .ok (.getstatic 206, 3) := by decide +kernel
theorem d_T_daysIn_18 : decode b_T_daysIn 18 = .ok (.iload_n 1, 1) := by decide +kernel
theorem d_T_daysIn_19 : decode b_T_daysIn 19 = .ok (.iconst 1, 1) := by decide +kernel
theorem d_T_daysIn_20 : decode b_T_daysIn 20 = .ok (.isub, 1) := by decide +kernel
theorem d_T_daysIn_21 : decode b_T_daysIn 21 = .ok (.iaload, 1) := by decide +kernel
theorem d_T_daysIn_22 : decode b_T_daysIn 22 = .ok (.iload_n 1, 1) := by decide +kernel
theorem d_T_daysIn_23 : decode b_T_daysIn 23 = .ok (.iconst 2, 1) := by decide +kernel
theorem d_T_daysIn_24 : decode b_T_daysIn 24 = .ok (.if_icmp .ne 14, 3) := by decide +kernel
theorem d_T_daysIn_27 : decode b_T_daysIn 27 = .ok (.iload_n 0, 1) := by decide +kernel
theorem d_T_daysIn_28 : decode b_T_daysIn 28 = .ok (.invokestatic 371, 3) := by decide +kernel
theorem d_T_daysIn_31 : decode b_T_daysIn 31 = .ok (.ifCond .eq 7, 3) := by decide +kernel
theorem d_T_daysIn_34 : decode b_T_daysIn 34 = .ok (.iconst 1, 1) := by decide +kernel
theorem d_T_daysIn_35 : decode b_T_daysIn 35 = .ok (.goto 4, 3) := by decide +kernel
theorem d_T_daysIn_38 : decode b_T_daysIn 38 = .ok (.iconst 0, 1) := by decide +kernel
theorem d_T_daysIn_39 : decode b_T_daysIn 39 = .ok (.iadd, 1) := by decide +kernel
theorem d_T_daysIn_40 : decode b_T_daysIn 40 = .ok (.ireturn, 1) := by decide +kernel
theorem d_T_isLeapYear_0 : decode b_T_isLeapYear 0 = .ok (.iload_n 0, 1) := by decide +kernel
theorem d_T_isLeapYear_1 : decode b_T_isLeapYear 1 = .ok (.iconst 4, 1) := by decide +kernel
theorem d_T_isLeapYear_2 : decode b_T_isLeapYear 2 = .ok (.irem, 1) := by decide +kernel
theorem d_T_isLeapYear_3 : decode b_T_isLeapYear 3 = .ok (.ifCond .ne 22, 3) := by decide +kernel
theorem d_T_isLeapYear_6 : decode b_T_isLeapYear 6 = .ok (.iload_n 0, 1) := by decide +kernel
theorem d_T_isLeapYear_7 : decode b_T_isLeapYear 7 = .ok (.bipush 100, 2) := by decide +kernel
theorem d_T_isLeapYear_9 : decode b_T_isLeapYear 9 = .ok (.irem, 1) := by decide +kernel
theorem d_T_isLeapYear_10 : decode b_T_isLeapYear 10 = .ok (.ifCond .ne 11, 3) := by decide +kernel
theorem d_T_isLeapYear_13 : decode b_T_isLeapYear 13 = .ok (.iload_n 0, 1) := by decide +kernel
theorem d_T_isLeapYear_14 : decode b_T_isLeapYear 14 = .ok (.sipush 400, 3) := by decide +kernel
theorem d_T_isLeapYear_17 : decode b_T_isLeapYear 17 = .ok (.irem, 1) := by decide +kernel
theorem d_T_isLeapYear_18 : decode b_T_isLeapYear 18 = .ok (.ifCond .ne 7, 3) := by decide +kernel
theorem d_T_isLeapYear_21 : decode b_T_isLeapYear 21 = .ok (.iconst 1, 1) := by decide +kernel
theorem d_T_isLeapYear_22 : decode b_T_isLeapYear 22 = .ok (.goto 4, 3) := by decide +kernel
theorem d_T_isLeapYear_25 : decode b_T_isLeapYear 25 = .ok (.iconst 0, 1) := by decide +kernel
theorem d_T_isLeapYear_26 : decode b_T_isLeapYear 26 = .ok (.ireturn, 1) := by decide +kernel
theorem d_T_firstWeekday_0 : decode b_T_firstWeekday 0 = .ok (.iload_n 0, 1) := by decide +kernel
theorem d_T_firstWeekday_1 : decode b_T_firstWeekday 1 = .ok (.iconst 1, 1) := by decide +kernel
theorem d_T_firstWeekday_2 : decode b_T_firstWeekday 2 = .ok (.isub, 1) := by decide +kernel
theorem d_T_firstWeekday_3 : decode b_T_firstWeekday 3 = .ok (.istore_n 2, 1) := by decide +kernel
theorem d_T_firstWeekday_4 : decode b_T_firstWeekday 4 = .ok (.sipush 365, 3) := by decide +kernel
theorem d_T_firstWeekday_7 : decode b_T_firstWeekday 7 = .ok (.iload_n 2, 1) := by decide +kernel
theorem d_T_firstWeekday_8 : decode b_T_firstWeekday 8 = .ok (.imul, 1) := by decide +kernel
theorem d_T_firstWeekday_9 : decode b_T_firstWeekday 9 = .ok (.iload_n 2, 1) := by decide +kernel
theorem d_T_firstWeekday_10 : decode b_T_firstWeekday 10 = .ok (.iconst 4, 1) := by decide +kernel
theorem d_T_firstWeekday_11 : decode b_T_firstWeekday 11 = .ok (.invokestatic 330, 3) := by decide +kernel
theorem d_T_firstWeekday_14 : decode b_T_firstWeekday 14 = .ok (.iadd, 1) := by decide +kernel
theorem d_T_firstWeekday_15 : decode b_T_firstWeekday 15 = .ok (.iload_n 2, 1) := by decide +kernel
theorem d_T_firstWeekday_16 : decode b_T_firstWeekday 16 = .ok (.bipush 100, 2) := by decide +kernel
theorem d_T_firstWeekday_18 : decode b_T_firstWeekday 18 = .ok (.invokestatic 330, 3) := by decide +kernel
theorem d_T_firstWeekday_21 : decode b_T_firstWeekday 21 = .ok (.isub, 1) := by decide +kernel
theorem d_T_firstWeekday_22 : decode b_T_firstWeekday 22 = .ok (.iload_n 2, 1) := by decide +kernel
theorem d_T_firstWeekday_23 : decode b_T_firstWeekday 23 = .ok (.sipush 400, 3) := by decide +kernel
theorem d_T_firstWeekday_26 : decode b_T_firstWeekday 26 = .ok (.invokestatic 330, 3) := by decide +kernel
theorem d_T_firstWeekday_29 : decode b_T_firstWeekday 29 = .ok (.iadd, 1) := by decide +kernel
theorem d_T_firstWeekday_30 : decode b_T_firstWeekday 30 = .ok (.istore_n 3, 1) := by decide +kernel
theorem d_T_firstWeekday_31 : decode b_T_firstWeekday 31 = .ok (.iconst 1, 1) := by decide +kernel
theorem d_T_firstWeekday_32 : decode b_T_firstWeekday 32 = .ok (.istore 4, 2) := by decide +kernel
theorem d_T_firstWeekday_34 : decode b_T_firstWeekday 34 = .ok (.iload 4, 2) := by decide +kernel
theorem d_T_firstWeekday_36 : decode b_T_firstWeekday 36 = .ok (.iload_n 1, 1) := by decide +kernel
theorem d_T_firstWeekday_37 : decode b_T_firstWeekday 37 = .ok (.if_icmp .ge 27, 3) := by decide +kernel
theorem d_T_firstWeekday_40 : decode b_T_firstWeekday 40 = .ok (.iload 4, 2) := by decide +kernel
theorem d_T_firstWeekday_42 : decode b_T_firstWeekday 42 = .ok (.getstatic 206, 3) := by decide +kernel
theorem d_T_firstWeekday_45 : decode b_T_firstWeekday 45 = .ok (.arraylength, 1) := by decide +kernel
theorem d_T_firstWeekday_46 : decode b_T_firstWeekday 46 = .ok (.if_icmp .gt 18, 3) := by decide +kernel
theorem d_T_firstWeekday_49 : decode b_T_firstWeekday 49 = .ok (.iload_n 3, 1) := by decide +kernel
theorem d_T_firstWeekday_50 : decode b_T_firstWeekday 50 = .ok (.iload_n 0, 1) := by decide +kernel
theorem d_T_firstWeekday_51 : decode b_T_firstWeekday 51 = .ok (.iload 4, 2) := by decide +kernel
theorem d_T_firstWeekday_53 : decode b_T_firstWeekday 53 = .ok (.invokestatic 213, 3) := by decide +kernel
theorem d_T_firstWeekday_56 : decode b_T_firstWeekday 56 = .ok (.iadd, 1) := by decide +kernel
theorem d_T_firstWeekday_57 : decode b_T_firstWeekday 57 = .ok (.istore_n 3, 1) := by decide +kernel
theorem d_T_firstWeekday_58 : decode b_T_firstWeekday 58 = .ok (.iinc 4 1, 3) := by decide +kernel
theorem d_T_firstWeekday_61 : decode b_T_firstWeekday 61 = .ok (.goto (-27), 3) := by decide +kernel
theorem d_T_firstWeekday_64 : decode b_T_firstWeekday 64 = .ok (.iload_n 3, 1) := by decide +kernel
theorem d_T_firstWeekday_65 : decode b_T_firstWeekday 65 = .ok (.bipush 7, 2) := by decide +kernel
theorem d_T_firstWeekday_67 : decode b_T_firstWeekday 67 = .ok (.invokestatic 220, 3) := by decide +kernel
theorem d_T_firstWeekday_70 : decode b_T_firstWeekday 70 = .ok (.ireturn, 1) := by decide +kernel
theorem d_T_regnal_0 : decode b_T_regnal 0 = .ok (.aload_n 0, 1) := by decide +kernel
theorem d_T_regnal_1 : decode b_T_regnal 1 = .ok (.iload_n 1, 1) := by decide +kernel
theorem d_T_regnal_2 : decode b_T_regnal 2 = .ok (.invokevirtual 100, 3) := by decide +kernel
theorem d_T_regnal_5 : decode b_T_regnal 5 = .ok (.getfield 107, 3) := by decide +kernel
theorem d_T_regnal_8 : decode b_T_regnal 8 = .ok (.astore_n 3, 1) := by decide +kernel
theorem d_T_regnal_9 : decode b_T_regnal 9 = .ok (.iload_n 2, 1) := by decide +kernel
theorem d_T_regnal_10 : decode b_T_regnal 10 = .ok (.iconst 1, 1) := by decide +kernel
theorem d_T_regnal_11 : decode b_T_regnal 11 = .ok (.if_icmp .ge 13, 3) := by decide +kernel
theorem d_T_regnal_14 : decode b_T_regnal 14 = .ok (.new 55, 3) := by decide +kernel
theorem d_T_regnal_17 : decode b_T_regnal 17 = .ok (.dup, 1) := by decide +kernel
theorem d_T_regnal_18 : decode b_T_regnal 18 = .ok (.ldc 225, 2) := by decide +kernel
theorem d_T_regnal_20 : decode b_T_regnal 20 = .ok (.invokespecial 59, 3) := by decide +kernel
theorem d_T_regnal_23 : decode b_T_regnal 23 = .ok (.athrow, 1) := by decide +kernel
theorem d_T_regnal_24 : decode b_T_regnal 24 = .ok (.aload_n 3, 1) := by decide +kernel
theorem d_T_regnal_25 : decode b_T_regnal 25 = .ok (.ifnull 11, 3) := by decide +kernel
theorem d_T_regnal_28 : decode b_T_regnal 28 = .ok (.iload_n 2, 1) := by decide +kernel
theorem d_T_regnal_29 : decode b_T_regnal 29 = .ok (.aload_n 3, 1) := by decide +kernel
theorem d_T_regnal_30 : decode b_T_regnal 30 = .ok (.invokevirtual 227, 3) := by decide +kernel
theorem d_T_regnal_33 : decode b_T_regnal 33 = .ok (.if_icmp .le 13, 3) := by decide +kernel
theorem d_T_regnal_36 : decode b_T_regnal 36 = .ok (.new 65, 3) := by decide +kernel
theorem d_T_regnal_39 : decode b_T_regnal 39 = .ok (.dup, 1) := by decide +kernel
theorem d_T_regnal_40 : decode b_T_regnal 40 = .ok (.ldc 229, 2) := by decide +kernel
theorem d_T_regnal_42 : decode b_T_regnal 42 = .ok (.invokespecial 69, 3) := by decide +kernel
theorem d_T_regnal_45 : decode b_T_regnal 45 = .ok (.athrow, 1) := by decide +kernel
theorem d_T_regnal_46 : decode b_T_regnal 46 = .ok (.aload_n 3, 1) := by decide +kernel
theorem d_T_regnal_47 : decode b_T_regnal 47 = .ok (.getfield 153, 3) := by decide +kernel
theorem d_T_regnal_50 : decode b_T_regnal 50 = .ok (.iload_n 2, 1) := by decide +kernel
theorem d_T_regnal_51 : decode b_T_regnal 51 = .ok (.iadd, 1) := by decide +kernel
theorem d_T_regnal_52 : decode b_T_regnal 52 = .ok (.iconst 1, 1) := by decide +kernel
theorem d_T_regnal_53 : decode b_T_regnal 53 = .ok (.isub, 1) := by decide +kernel
theorem d_T_regnal_54 : decode b_T_regnal 54 = .ok (.ireturn, 1) := by decide +kernel
theorem d_T_count_0 : decode b_T_count 0 = .ok (.iload_n 1, 1) := by decide +kernel
theorem d_T_count_1 : decode b_T_count 1 = .ok (.tableswitch 51 0 2 #[27, 35, 43], 27) := by decide +kernel
theorem d_T_count_28 : decode b_T_count 28 = .ok (.aload_n 0, 1) := by decide +kernel
theorem d_T_count_29 : decode b_T_count 29 = .ok (.getfield 14, 3) := by decide +kernel
theorem d_T_count_32 : decode b_T_count 32 = .ok (.getfield 62, 3) := by decide +kernel
theorem d_T_count_35 : decode b_T_count 35 = .ok (.ireturn, 1) := by decide +kernel
theorem d_T_count_36 : decode b_T_count 36 = .ok (.aload_n 0, 1) := by decide +kernel
theorem d_T_count_37 : decode b_T_count 37 = .ok (.getfield 21, 3) := by decide +kernel
theorem d_T_count_40 : decode b_T_count 40 = .ok (.invokevirtual 86, 3) := by decide +kernel
theorem d_T_count_43 : decode b_T_count 43 = .ok (.ireturn, 1) := by decide +kernel
theorem d_T_count_44 : decode b_T_count 44 = .ok (.aload_n 0, 1) := by decide +kernel
theorem d_T_count_45 : decode b_T_count 45 = .ok (.getfield 25, 3) := by decide +kernel
theorem d_T_count_48 : decode b_T_count 48 = .ok (.invokevirtual 86, 3) := by decide +kernel
theorem d_T_count_51 : decode b_T_count 51 = .ok (.ireturn, 1) := by decide +kernel
theorem d_T_count_52 : decode b_T_count 52 = .ok (.new 184, 3) := by decide +kernel
theorem d_T_count_55 : decode b_T_count 55 = .ok (.dup, 1) := by decide +kernel
theorem d_T_count_56 : decode b_T_count 56 = .ok (.ldc 231, 2) := by decide +kernel
theorem d_T_count_58 : decode b_T_count 58 = .ok (.invokespecial 188, 3) := by decide +kernel
theorem d_T_count_61 : decode b_T_count 61 = .ok (.athrow, 1) := by decide +kernel
