theorem d_M_init_0 : decode b_M_init 0 = .ok (.aload_n 0, 1) := by decide +kernel
theorem d_M_init_1 : decode b_M_init 1 = .ok (.invokespecial 1, 3) := by decide +kernel
theorem d_M_init_4 : decode b_M_init 4 = .ok (.aload_n 0, 1) := by decide +kernel
theorem d_M_init_5 : decode b_M_init 5 = .ok (.bipush 24, 2) := by decide +kernel
theorem d_M_init_7 : decode b_M_init 7 = .ok (.newarray .int, 2) := by decide +kernel
theorem d_M_init_9 : decode b_M_init 9 = .ok (.putfield 7, 3) := by decide +kernel
theorem d_M_init_12 : decode b_M_init 12 = .ok (.aload_n 0, 1) := by decide +kernel
theorem d_M_init_13 : decode b_M_init 13 = .ok (.sipush 192, 3) := by decide +kernel
theorem d_M_init_16 : decode b_M_init 16 = .ok (.newarray .int, 2) := by decide +kernel
theorem d_M_init_18 : decode b_M_init 18 = .ok (.putfield 13, 3) := by decide +kernel
theorem d_M_init_21 : decode b_M_init 21 = .ok (.aload_n 0, 1) := by decide +kernel
theorem d_M_init_22 : decode b_M_init 22 = .ok (.bipush 24, 2) := by decide +kernel
theorem d_M_init_24 : decode b_M_init 24 = .ok (.newarray .int, 2) := by decide +kernel
theorem d_M_init_26 : decode b_M_init 26 = .ok (.putfield 16, 3) := by decide +kernel
theorem d_M_init_29 : decode b_M_init 29 = .ok (.aload_n 0, 1) := by decide +kernel
theorem d_M_init_30 : decode b_M_init 30 = .ok (.bipush 24, 2) := by decide +kernel
theorem d_M_init_32 : decode b_M_init 32 = .ok (.newarray .boolean, 2) := by decide +kernel
theorem d_M_init_34 : decode b_M_init 34 = .ok (.putfield 19, 3) := by decide +kernel
theorem d_M_init_37 : decode b_M_init 37 = .ok (.aload_n 0, 1) := by decide +kernel
theorem d_M_init_38 : decode b_M_init 38 = .ok (.bipush 24, 2) := by decide +kernel
theorem d_M_init_40 : decode b_M_init 40 = .ok (.newarray .int, 2) := by decide +kernel
theorem d_M_init_42 : decode b_M_init 42 = .ok (.putfield 23, 3) := by decide +kernel
theorem d_M_init_45 : decode b_M_init 45 = .ok (.aload_n 0, 1) := by decide +kernel
theorem d_M_init_46 : decode b_M_init 46 = .ok (.bipush 24, 2) := by decide +kernel
theorem d_M_init_48 : decode b_M_init 48 = .ok (.newarray .int, 2) := by decide +kernel
theorem d_M_init_50 : decode b_M_init 50 = .ok (.putfield 26, 3) := by decide +kernel
theorem d_M_init_53 : decode b_M_init 53 = .ok (.aload_n 0, 1) := by decide +kernel
theorem d_M_init_54 : decode b_M_init 54 = .ok (.bipush 24, 2) := by decide +kernel
theorem d_M_init_56 : decode b_M_init 56 = .ok (.newarray .int, 2) := by decide +kernel
theorem d_M_init_58 : decode b_M_init 58 = .ok (.putfield 29, 3) := by decide +kernel
theorem d_M_init_61 : decode b_M_init 61 = .ok (.aload_n 0, 1) := by decide +kernel
theorem d_M_init_62 : decode b_M_init 62 = .ok (.sipush 144, 3) := by decide +kernel
theorem d_M_init_65 : decode b_M_init 65 = .ok (.newarray .int, 2) := by decide +kernel
theorem d_M_init_67 : decode b_M_init 67 = .ok (.putfield 32, 3) := by decide +kernel
theorem d_M_init_70 : decode b_M_init 70 = .ok (.aload_n 0, 1) := by decide +kernel
theorem d_M_init_71 : decode b_M_init 71 = .ok (.sipush 144, 3) := by decide +kernel
theorem d_M_init_74 : decode b_M_init 74 = .ok (.newarray .int, 2) := by decide +kernel
theorem d_M_init_76 : decode b_M_init 76 = .ok (.putfield 35, 3) := by decide +kernel
theorem d_M_init_79 : decode b_M_init 79 = .ok (.aload_n 0, 1) := by decide +kernel
theorem d_M_init_80 : decode b_M_init 80 = .ok (.sipush 144, 3) := by decide +kernel
theorem d_M_init_83 : decode b_M_init 83 = .ok (.newarray .int, 2) := by decide +kernel
theorem d_M_init_85 : decode b_M_init 85 = .ok (.putfield 38, 3) := by decide +kernel
theorem d_M_init_88 : decode b_M_init 88 = .ok (.aload_n 0, 1) := by decide +kernel
theorem d_M_init_89 : decode b_M_init 89 = .ok (.sipush 144, 3) := by decide +kernel
theorem d_M_init_92 : decode b_M_init 92 = .ok (.newarray .int, 2) := by decide +kernel
theorem d_M_init_94 : decode b_M_init 94 = .ok (.putfield 41, 3) := by decide +kernel
theorem d_M_init_97 : decode b_M_init 97 = .ok (.aload_n 0, 1) := by decide +kernel
theorem d_M_init_98 : decode b_M_init 98 = .ok (.bipush 60, 2) := by decide +kernel
theorem d_M_init_100 : decode b_M_init 100 = .ok (.newarray .int, 2) := by decide +kernel
theorem d_M_init_102 : decode b_M_init 102 = .ok (.putfield 44, 3) := by decide +kernel
theorem d_M_init_105 : decode b_M_init 105 = .ok (.aload_n 0, 1) := by decide +kernel
theorem d_M_init_106 : decode b_M_init 106 = .ok (.bipush 60, 2) := by decide +kernel
theorem d_M_init_108 : decode b_M_init 108 = .ok (.newarray .int, 2) := by decide +kernel
theorem d_M_init_110 : decode b_M_init 110 = .ok (.putfield 47, 3) := by decide +kernel
theorem d_M_init_113 : decode b_M_init 113 = .ok (.aload_n 0, 1) := by decide +kernel
theorem d_M_init_114 : decode b_M_init 114 = .ok (.bipush 60, 2) := by decide +kernel
theorem d_M_init_116 : decode b_M_init 116 = .ok (.newarray .int, 2) := by decide +kernel
theorem d_M_init_118 : decode b_M_init 118 = .ok (.putfield 50, 3) := by decide +kernel
theorem d_M_init_121 : decode b_M_init 121 = .ok (.aload_n 0, 1) := by decide +kernel
theorem d_M_init_122 : decode b_M_init 122 = .ok (.bipush 25, 2) := by decide +kernel
theorem d_M_init_124 : decode b_M_init 124 = .ok (.putfield 53, 3) := by decide +kernel
theorem d_M_init_127 : decode b_M_init 127 = .ok (.aload_n 0, 1) := by decide +kernel
theorem d_M_init_128 : decode b_M_init 128 = .ok (.bipush 6, 2) := by decide +kernel
theorem d_M_init_130 : decode b_M_init 130 = .ok (.newarray .int, 2) := by decide +kernel
theorem d_M_init_132 : decode b_M_init 132 = .ok (.putfield 57, 3) := by decide +kernel
theorem d_M_init_135 : decode b_M_init 135 = .ok (.aload_n 0, 1) := by decide +kernel
theorem d_M_init_136 : decode b_M_init 136 = .ok (.bipush 40, 2) := by decide +kernel
theorem d_M_init_138 : decode b_M_init 138 = .ok (.newarray .int, 2) := by decide +kernel
theorem d_M_init_140 : decode b_M_init 140 = .ok (.putfield 60, 3) := by decide +kernel
theorem d_M_init_143 : decode b_M_init 143 = .ok (.aload_n 0, 1) := by decide +kernel
theorem d_M_init_144 : decode b_M_init 144 = .ok (.bipush 40, 2) := by decide +kernel
theorem d_M_init_146 : decode b_M_init 146 = .ok (.newarray .int, 2) := by decide +kernel
theorem d_M_init_148 : decode b_M_init 148 = .ok (.putfield 63, 3) := by decide +kernel
theorem d_M_init_151 : decode b_M_init 151 = .ok (.aload_n 0, 1) := by decide +kernel
theorem d_M_init_152 : decode b_M_init 152 = .ok (.bipush 25, 2) := by decide +kernel
theorem d_M_init_154 : decode b_M_init 154 = .ok (.newarray .int, 2) := by decide +kernel
theorem d_M_init_156 : decode b_M_init 156 = .ok (.putfield 66, 3) := by decide +kernel
theorem d_M_init_159 : decode b_M_init 159 = .ok (.return_, 1) := by decide +kernel
theorem d_M_thrown_0 : decode b_M_thrown 0 = .ok (.aload_n 0, 1) := by decide +kernel
theorem d_M_thrown_1 : decode b_M_thrown 1 = .ok (.getfield 69, 3) := by decide +kernel
theorem d_M_thrown_4 : decode b_M_thrown 4 = .ok (.ireturn, 1) := by decide +kernel
theorem d_M_unit_0 : decode b_M_unit 0 = .ok (.iload_n 1, 1) := by decide +kernel
theorem d_M_unit_1 : decode b_M_unit 1 = .ok (.invokestatic 82, 3) := by decide +kernel
theorem d_M_unit_4 : decode b_M_unit 4 = .ok (.ifCond .ne 22, 3) := by decide +kernel
theorem d_M_unit_7 : decode b_M_unit 7 = .ok (.iload_n 1, 1) := by decide +kernel
theorem d_M_unit_8 : decode b_M_unit 8 = .ok (.invokestatic 86, 3) := by decide +kernel
theorem d_M_unit_11 : decode b_M_unit 11 = .ok (.ifCond .ne 15, 3) := by decide +kernel
theorem d_M_unit_14 : decode b_M_unit 14 = .ok (.iload_n 1, 1) := by decide +kernel
theorem d_M_unit_15 : decode b_M_unit 15 = .ok (.bipush 32, 2) := by decide +kernel
theorem d_M_unit_17 : decode b_M_unit 17 = .ok (.if_icmp .eq 9, 3) := by decide +kernel
theorem d_M_unit_20 : decode b_M_unit 20 = .ok (.aload_n 0, 1) := by decide +kernel
theorem d_M_unit_21 : decode b_M_unit 21 = .ok (.iconst 1, 1) := by decide +kernel
theorem d_M_unit_22 : decode b_M_unit 22 = .ok (.invokevirtual 89, 3) := by decide +kernel
theorem d_M_unit_25 : decode b_M_unit 25 = .ok (.ireturn, 1) := by decide +kernel
theorem d_M_unit_26 : decode b_M_unit 26 = .ok (.aload_n 0, 1) := by decide +kernel
theorem d_M_unit_27 : decode b_M_unit 27 = .ok (.getfield 93, 3) := by decide +kernel
theorem d_M_unit_30 : decode b_M_unit 30 = .ok (.bipush 24, 2) := by decide +kernel
theorem d_M_unit_32 : decode b_M_unit 32 = .ok (.if_icmp .ne 9, 3) := by decide +kernel
theorem d_M_unit_35 : decode b_M_unit 35 = .ok (.aload_n 0, 1) := by decide +kernel
theorem d_M_unit_36 : decode b_M_unit 36 = .ok (.iconst 2, 1) := by decide +kernel
theorem d_M_unit_37 : decode b_M_unit 37 = .ok (.invokevirtual 89, 3) := by decide +kernel
theorem d_M_unit_40 : decode b_M_unit 40 = .ok (.ireturn, 1) := by decide +kernel
theorem d_M_unit_41 : decode b_M_unit 41 = .ok (.aload_n 0, 1) := by decide +kernel
theorem d_M_unit_42 : decode b_M_unit 42 = .ok (.iconst 0, 1) := by decide +kernel
theorem d_M_unit_43 : decode b_M_unit 43 = .ok (.putfield 69, 3) := by decide +kernel
theorem d_M_unit_46 : decode b_M_unit 46 = .ok (.aload_n 0, 1) := by decide +kernel
theorem d_M_unit_47 : decode b_M_unit 47 = .ok (.getfield 7, 3) := by decide +kernel
theorem d_M_unit_50 : decode b_M_unit 50 = .ok (.aload_n 0, 1) := by decide +kernel
theorem d_M_unit_51 : decode b_M_unit 51 = .ok (.getfield 93, 3) := by decide +kernel
theorem d_M_unit_54 : decode b_M_unit 54 = .ok (.iload_n 1, 1) := by decide +kernel
theorem d_M_unit_55 : decode b_M_unit 55 = .ok (.iastore, 1) := by decide +kernel
theorem d_M_unit_56 : decode b_M_unit 56 = .ok (.aload_n 0, 1) := by decide +kernel
theorem d_M_unit_57 : decode b_M_unit 57 = .ok (.dup, 1) := by decide +kernel
theorem d_M_unit_58 : decode b_M_unit 58 = .ok (.getfield 93, 3) := by decide +kernel
theorem d_M_unit_61 : decode b_M_unit 61 = .ok (.iconst 1, 1) := by decide +kernel
theorem d_M_unit_62 : decode b_M_unit 62 = .ok (.iadd, 1) := by decide +kernel
theorem d_M_unit_63 : decode b_M_unit 63 = .ok (.putfield 93, 3) := by decide +kernel
theorem d_M_unit_66 : decode b_M_unit 66 = .ok (.aload_n 0, 1) := by decide +kernel
theorem d_M_unit_67 : decode b_M_unit 67 = .ok (.getfield 93, 3) := by decide +kernel
theorem d_M_unit_70 : decode b_M_unit 70 = .ok (.ireturn, 1) := by decide +kernel
theorem d_M_isLetter_0 : decode b_M_isLetter 0 = .ok (.iload_n 0, 1) := by decide +kernel
theorem d_M_isLetter_1 : decode b_M_isLetter 1 = .ok (.bipush 97, 2) := by decide +kernel
theorem d_M_isLetter_3 : decode b_M_isLetter 3 = .ok (.bipush 122, 2) := by decide +kernel
theorem d_M_isLetter_5 : decode b_M_isLetter 5 = .ok (.invokestatic 72, 3) := by decide +kernel
theorem d_M_isLetter_8 : decode b_M_isLetter 8 = .ok (.ireturn, 1) := by decide +kernel
theorem d_M_in_0 : decode b_M_in 0 = .ok (.iload_n 0, 1) := by decide +kernel
theorem d_M_in_1 : decode b_M_in 1 = .ok (.iload_n 1, 1) := by decide +kernel
theorem d_M_in_2 : decode b_M_in 2 = .ok (.if_icmp .lt 12, 3) := by decide +kernel
theorem d_M_in_5 : decode b_M_in 5 = .ok (.iload_n 0, 1) := by decide +kernel
theorem d_M_in_6 : decode b_M_in 6 = .ok (.iload_n 2, 1) := by decide +kernel
theorem d_M_in_7 : decode b_M_in 7 = .ok (.if_icmp .gt 7, 3) := by decide +kernel
theorem d_M_in_10 : decode b_M_in 10 = .ok (.iconst 1, 1) := by decide +kernel
theorem d_M_in_11 : decode b_M_in 11 = .ok (.goto 4, 3) := by decide +kernel
theorem d_M_in_14 : decode b_M_in 14 = .ok (.iconst 0, 1) := by decide +kernel
theorem d_M_in_15 : decode b_M_in 15 = .ok (.ireturn, 1) := by decide +kernel
theorem d_M_isDigit_0 : decode b_M_isDigit 0 = .ok (.iload_n 0, 1) := by decide +kernel
theorem d_M_isDigit_1 : decode b_M_isDigit 1 = .ok (.bipush 48, 2) := by decide +kernel
theorem d_M_isDigit_3 : decode b_M_isDigit 3 = .ok (.bipush 57, 2) := by decide +kernel
theorem d_M_isDigit_5 : decode b_M_isDigit 5 = .ok (.invokestatic 72, 3) := by decide +kernel
theorem d_M_isDigit_8 : decode b_M_isDigit 8 = .ok (.ireturn, 1) := by decide +kernel
theorem d_M_fails_0 : decode b_M_fails 0 = .ok (.aload_n 0, 1) := by decide +kernel
theorem d_M_fails_1 : decode b_M_fails 1 = .ok (.iload_n 1, 1) := by decide +kernel
theorem d_M_fails_2 : decode b_M_fails 2 = .ok (.putfield 69, 3) := by decide +kernel
theorem d_M_fails_5 : decode b_M_fails 5 = .ok (.iconst 0, 1) := by decide +kernel
theorem d_M_fails_6 : decode b_M_fails 6 = .ok (.ireturn, 1) := by decide +kernel
theorem d_M_clear_0 : decode b_M_clear 0 = .ok (.aload_n 0, 1) := by decide +kernel
theorem d_M_clear_1 : decode b_M_clear 1 = .ok (.iconst 0, 1) := by decide +kernel
theorem d_M_clear_2 : decode b_M_clear 2 = .ok (.putfield 69, 3) := by decide +kernel
theorem d_M_clear_5 : decode b_M_clear 5 = .ok (.aload_n 0, 1) := by decide +kernel
theorem d_M_clear_6 : decode b_M_clear 6 = .ok (.getfield 93, 3) := by decide +kernel
theorem d_M_clear_9 : decode b_M_clear 9 = .ok (.istore_n 1, 1) := by decide +kernel
theorem d_M_clear_10 : decode b_M_clear 10 = .ok (.aload_n 0, 1) := by decide +kernel
theorem d_M_clear_11 : decode b_M_clear 11 = .ok (.iconst 0, 1) := by decide +kernel
theorem d_M_clear_12 : decode b_M_clear 12 = .ok (.putfield 93, 3) := by decide +kernel
theorem d_M_clear_15 : decode b_M_clear 15 = .ok (.iload_n 1, 1) := by decide +kernel
theorem d_M_clear_16 : decode b_M_clear 16 = .ok (.ireturn, 1) := by decide +kernel
theorem d_M_name_0 : decode b_M_name 0 = .ok (.aload_n 0, 1) := by decide +kernel
theorem d_M_name_1 : decode b_M_name 1 = .ok (.getfield 93, 3) := by decide +kernel
theorem d_M_name_4 : decode b_M_name 4 = .ok (.iconst 1, 1) := by decide +kernel
theorem d_M_name_5 : decode b_M_name 5 = .ok (.bipush 8, 2) := by decide +kernel
theorem d_M_name_7 : decode b_M_name 7 = .ok (.invokestatic 72, 3) := by decide +kernel
theorem d_M_name_10 : decode b_M_name 10 = .ok (.istore_n 1, 1) := by decide +kernel
theorem d_M_name_11 : decode b_M_name 11 = .ok (.iconst 0, 1) := by decide +kernel
theorem d_M_name_12 : decode b_M_name 12 = .ok (.istore_n 2, 1) := by decide +kernel
theorem d_M_name_13 : decode b_M_name 13 = .ok (.iload_n 2, 1) := by decide +kernel
theorem d_M_name_14 : decode b_M_name 14 = .ok (.aload_n 0, 1) := by decide +kernel
theorem d_M_name_15 : decode b_M_name 15 = .ok (.getfield 93, 3) := by decide +kernel
theorem d_M_name_18 : decode b_M_name 18 = .ok (.if_icmp .ge 31, 3) := by decide +kernel
theorem d_M_name_21 : decode b_M_name 21 = .ok (.iload_n 1, 1) := by decide +kernel
theorem d_M_name_22 : decode b_M_name 22 = .ok (.ifCond .eq 19, 3) := by decide +kernel
theorem d_M_name_25 : decode b_M_name 25 = .ok (.aload_n 0, 1) := by decide +kernel
theorem d_M_name_26 : decode b_M_name 26 = .ok (.getfield 7, 3) := by decide +kernel
theorem d_M_name_29 : decode b_M_name 29 = .ok (.iload_n 2, 1) := by decide +kernel
theorem d_M_name_30 : decode b_M_name 30 = .ok (.iaload, 1) := by decide +kernel
theorem d_M_name_31 : decode b_M_name 31 = .ok (.invokestatic 82, 3) := by decide +kernel
theorem d_M_name_34 : decode b_M_name 34 = .ok (.ifCond .eq 7, 3) := by decide +kernel
theorem d_M_name_37 : decode b_M_name 37 = .ok (.iconst 1, 1) := by decide +kernel
theorem d_M_name_38 : decode b_M_name 38 = .ok (.goto 4, 3) := by decide +kernel
theorem d_M_name_41 : decode b_M_name 41 = .ok (.iconst 0, 1) := by decide +kernel
theorem d_M_name_42 : decode b_M_name 42 = .ok (.istore_n 1, 1) := by decide +kernel
theorem d_M_name_43 : decode b_M_name 43 = .ok (.iinc 2 1, 3) := by decide +kernel
theorem d_M_name_46 : decode b_M_name 46 = .ok (.goto (-33), 3) := by decide +kernel
theorem d_M_name_49 : decode b_M_name 49 = .ok (.iload_n 1, 1) := by decide +kernel
theorem d_M_name_50 : decode b_M_name 50 = .ok (.ifCond .ne 9, 3) := by decide +kernel
theorem d_M_name_53 : decode b_M_name 53 = .ok (.aload_n 0, 1) := by decide +kernel
theorem d_M_name_54 : decode b_M_name 54 = .ok (.iconst 1, 1) := by decide +kernel
theorem d_M_name_55 : decode b_M_name 55 = .ok (.invokevirtual 89, 3) := by decide +kernel
theorem d_M_name_58 : decode b_M_name 58 = .ok (.ireturn, 1) := by decide +kernel
theorem d_M_name_59 : decode b_M_name 59 = .ok (.aload_n 0, 1) := by decide +kernel
theorem d_M_name_60 : decode b_M_name 60 = .ok (.iconst 0, 1) := by decide +kernel
theorem d_M_name_61 : decode b_M_name 61 = .ok (.invokevirtual 96, 3) := by decide +kernel
theorem d_M_name_64 : decode b_M_name 64 = .ok (.istore_n 2, 1) := by decide +kernel
theorem d_M_name_65 : decode b_M_name 65 = .ok (.iload_n 2, 1) := by decide +kernel
theorem d_M_name_66 : decode b_M_name 66 = .ok (.ifCond .ge 18, 3) := by decide +kernel
theorem d_M_name_69 : decode b_M_name 69 = .ok (.aload_n 0, 1) := by decide +kernel
theorem d_M_name_70 : decode b_M_name 70 = .ok (.getfield 76, 3) := by decide +kernel
theorem d_M_name_73 : decode b_M_name 73 = .ok (.bipush 24, 2) := by decide +kernel
theorem d_M_name_75 : decode b_M_name 75 = .ok (.if_icmp .ne 9, 3) := by decide +kernel
theorem d_M_name_78 : decode b_M_name 78 = .ok (.aload_n 0, 1) := by decide +kernel
theorem d_M_name_79 : decode b_M_name 79 = .ok (.iconst 2, 1) := by decide +kernel
theorem d_M_name_80 : decode b_M_name 80 = .ok (.invokevirtual 89, 3) := by decide +kernel
theorem d_M_name_83 : decode b_M_name 83 = .ok (.ireturn, 1) := by decide +kernel
theorem d_M_name_84 : decode b_M_name 84 = .ok (.aload_n 0, 1) := by decide +kernel
theorem d_M_name_85 : decode b_M_name 85 = .ok (.iconst 0, 1) := by decide +kernel
theorem d_M_name_86 : decode b_M_name 86 = .ok (.putfield 69, 3) := by decide +kernel
theorem d_M_name_89 : decode b_M_name 89 = .ok (.iload_n 2, 1) := by decide +kernel
theorem d_M_name_90 : decode b_M_name 90 = .ok (.ifCond .ge 61, 3) := by decide +kernel
theorem d_M_name_93 : decode b_M_name 93 = .ok (.aload_n 0, 1) := by decide +kernel
theorem d_M_name_94 : decode b_M_name 94 = .ok (.getfield 76, 3) := by decide +kernel
theorem d_M_name_97 : decode b_M_name 97 = .ok (.istore_n 2, 1) := by decide +kernel
theorem d_M_name_98 : decode b_M_name 98 = .ok (.aload_n 0, 1) := by decide +kernel
theorem d_M_name_99 : decode b_M_name 99 = .ok (.getfield 16, 3) := by decide +kernel
theorem d_M_name_102 : decode b_M_name 102 = .ok (.iload_n 2, 1) := by decide +kernel
theorem d_M_name_103 : decode b_M_name 103 = .ok (.aload_n 0, 1) := by decide +kernel
theorem d_M_name_104 : decode b_M_name 104 = .ok (.getfield 93, 3) := by decide +kernel
theorem d_M_name_107 : decode b_M_name 107 = .ok (.iastore, 1) := by decide +kernel
theorem d_M_name_108 : decode b_M_name 108 = .ok (.iconst 0, 1) := by decide +kernel
theorem d_M_name_109 : decode b_M_name 109 = .ok (.istore_n 3, 1) := by decide +kernel
theorem d_M_name_110 : decode b_M_name 110 = .ok (.iload_n 3, 1) := by decide +kernel
theorem d_M_name_111 : decode b_M_name 111 = .ok (.aload_n 0, 1) := by decide +kernel
theorem d_M_name_112 : decode b_M_name 112 = .ok (.getfield 93, 3) := by decide +kernel
theorem d_M_name_115 : decode b_M_name 115 = .ok (.if_icmp .ge 26, 3) := by decide +kernel
theorem d_M_name_118 : decode b_M_name 118 = .ok (.aload_n 0, 1) := by decide +kernel
theorem d_M_name_119 : decode b_M_name 119 = .ok (.getfield 13, 3) := by decide +kernel
theorem d_M_name_122 : decode b_M_name 122 = .ok (.bipush 8, 2) := by decide +kernel
theorem d_M_name_124 : decode b_M_name 124 = .ok (.iload_n 2, 1) := by decide +kernel
theorem d_M_name_125 : decode b_M_name 125 = .ok (.imul, 1) := by decide +kernel
theorem d_M_name_126 : decode b_M_name 126 = .ok (.iload_n 3, 1) := by decide +kernel
theorem d_M_name_127 : decode b_M_name 127 = .ok (.iadd, 1) := by decide +kernel
theorem d_M_name_128 : decode b_M_name 128 = .ok (.aload_n 0, 1) := by decide +kernel
theorem d_M_name_129 : decode b_M_name 129 = .ok (.getfield 7, 3) := by decide +kernel
theorem d_M_name_132 : decode b_M_name 132 = .ok (.iload_n 3, 1) := by decide +kernel
theorem d_M_name_133 : decode b_M_name 133 = .ok (.iaload, 1) := by decide +kernel
theorem d_M_name_134 : decode b_M_name 134 = .ok (.iastore, 1) := by decide +kernel
theorem d_M_name_135 : decode b_M_name 135 = .ok (.iinc 3 1, 3) := by decide +kernel
theorem d_M_name_138 : decode b_M_name 138 = .ok (.goto (-28), 3) := by decide +kernel
theorem d_M_name_141 : decode b_M_name 141 = .ok (.aload_n 0, 1) := by decide +kernel
theorem d_M_name_142 : decode b_M_name 142 = .ok (.dup, 1) := by decide +kernel
theorem d_M_name_143 : decode b_M_name 143 = .ok (.getfield 76, 3) := by decide +kernel
theorem d_M_name_146 : decode b_M_name 146 = .ok (.iconst 1, 1) := by decide +kernel
theorem d_M_name_147 : decode b_M_name 147 = .ok (.iadd, 1) := by decide +kernel
theorem d_M_name_148 : decode b_M_name 148 = .ok (.putfield 76, 3) := by decide +kernel
theorem d_M_name_151 : decode b_M_name 151 = .ok (.aload_n 0, 1) := by decide +kernel
theorem d_M_name_152 : decode b_M_name 152 = .ok (.iconst 0, 1) := by decide +kernel
theorem d_M_name_153 : decode b_M_name 153 = .ok (.putfield 93, 3) := by decide +kernel
theorem d_M_name_156 : decode b_M_name 156 = .ok (.iload_n 2, 1) := by decide +kernel
theorem d_M_name_157 : decode b_M_name 157 = .ok (.ireturn, 1) := by decide +kernel
theorem d_M_nameAt_0 : decode b_M_nameAt 0 = .ok (.iconst (-1), 1) := by decide +kernel
theorem d_M_nameAt_1 : decode b_M_nameAt 1 = .ok (.istore_n 2, 1) := by decide +kernel
theorem d_M_nameAt_2 : decode b_M_nameAt 2 = .ok (.iconst 0, 1) := by decide +kernel
theorem d_M_nameAt_3 : decode b_M_nameAt 3 = .ok (.istore_n 3, 1) := by decide +kernel
theorem d_M_nameAt_4 : decode b_M_nameAt 4 = .ok (.iload_n 3, 1) := by decide +kernel
theorem d_M_nameAt_5 : decode b_M_nameAt 5 = .ok (.aload_n 0, 1) := by decide +kernel
theorem d_M_nameAt_6 : decode b_M_nameAt 6 = .ok (.getfield 76, 3) := by decide +kernel
theorem d_M_nameAt_9 : decode b_M_nameAt 9 = .ok (.if_icmp .ge 98, 3) := by decide +kernel
theorem d_M_nameAt_12 : decode b_M_nameAt 12 = .ok (.aload_n 0, 1) := by decide +kernel
theorem d_M_nameAt_13 : decode b_M_nameAt 13 = .ok (.getfield 16, 3) := by decide +kernel
theorem d_M_nameAt_16 : decode b_M_nameAt 16 = .ok (.iload_n 3, 1) := by decide +kernel
theorem d_M_nameAt_17 : decode b_M_nameAt 17 = .ok (.iaload, 1) := by decide +kernel
theorem d_M_nameAt_18 : decode b_M_nameAt 18 = .ok (.aload_n 0, 1) := by decide +kernel
theorem d_M_nameAt_19 : decode b_M_nameAt 19 = .ok (.getfield 93, 3) := by decide +kernel
theorem d_M_nameAt_22 : decode b_M_nameAt 22 = .ok (.iload_n 1, 1) := by decide +kernel
theorem d_M_nameAt_23 : decode b_M_nameAt 23 = .ok (.isub, 1) := by decide +kernel
theorem d_M_nameAt_24 : decode b_M_nameAt 24 = .ok (.if_icmp .ne 7, 3) := by decide +kernel
theorem d_M_nameAt_27 : decode b_M_nameAt 27 = .ok (.iconst 1, 1) := by decide +kernel
theorem d_M_nameAt_28 : decode b_M_nameAt 28 = .ok (.goto 4, 3) := by decide +kernel
theorem d_M_nameAt_31 : decode b_M_nameAt 31 = .ok (.iconst 0, 1) := by decide +kernel
theorem d_M_nameAt_32 : decode b_M_nameAt 32 = .ok (.istore 4, 2) := by decide +kernel
theorem d_M_nameAt_34 : decode b_M_nameAt 34 = .ok (.iconst 0, 1) := by decide +kernel
theorem d_M_nameAt_35 : decode b_M_nameAt 35 = .ok (.istore 5, 2) := by decide +kernel
theorem d_M_nameAt_37 : decode b_M_nameAt 37 = .ok (.iload 5, 2) := by decide +kernel
theorem d_M_nameAt_39 : decode b_M_nameAt 39 = .ok (.aload_n 0, 1) := by decide +kernel
theorem d_M_nameAt_40 : decode b_M_nameAt 40 = .ok (.getfield 16, 3) := by decide +kernel
theorem d_M_nameAt_43 : decode b_M_nameAt 43 = .ok (.iload_n 3, 1) := by decide +kernel
theorem d_M_nameAt_44 : decode b_M_nameAt 44 = .ok (.iaload, 1) := by decide +kernel
theorem d_M_nameAt_45 : decode b_M_nameAt 45 = .ok (.if_icmp .ge 45, 3) := by decide +kernel
theorem d_M_nameAt_48 : decode b_M_nameAt 48 = .ok (.iload 4, 2) := by decide +kernel
theorem d_M_nameAt_50 : decode b_M_nameAt 50 = .ok (.ifCond .eq 40, 3) := by decide +kernel
theorem d_M_nameAt_53 : decode b_M_nameAt 53 = .ok (.aload_n 0, 1) := by decide +kernel
theorem d_M_nameAt_54 : decode b_M_nameAt 54 = .ok (.getfield 13, 3) := by decide +kernel
theorem d_M_nameAt_57 : decode b_M_nameAt 57 = .ok (.bipush 8, 2) := by decide +kernel
theorem d_M_nameAt_59 : decode b_M_nameAt 59 = .ok (.iload_n 3, 1) := by decide +kernel
theorem d_M_nameAt_60 : decode b_M_nameAt 60 = .ok (.imul, 1) := by decide +kernel
theorem d_M_nameAt_61 : decode b_M_nameAt 61 = .ok (.iload 5, 2) := by decide +kernel
theorem d_M_nameAt_63 : decode b_M_nameAt 63 = .ok (.iadd, 1) := by decide +kernel
theorem d_M_nameAt_64 : decode b_M_nameAt 64 = .ok (.iaload, 1) := by decide +kernel
theorem d_M_nameAt_65 : decode b_M_nameAt 65 = .ok (.aload_n 0, 1) := by decide +kernel
theorem d_M_nameAt_66 : decode b_M_nameAt 66 = .ok (.getfield 7, 3) := by decide +kernel
theorem d_M_nameAt_69 : decode b_M_nameAt 69 = .ok (.iload_n 1, 1) := by decide +kernel
theorem d_M_nameAt_70 : decode b_M_nameAt 70 = .ok (.iload 5, 2) := by decide +kernel
theorem d_M_nameAt_72 : decode b_M_nameAt 72 = .ok (.iadd, 1) := by decide +kernel
theorem d_M_nameAt_73 : decode b_M_nameAt 73 = .ok (.iaload, 1) := by decide +kernel
theorem d_M_nameAt_74 : decode b_M_nameAt 74 = .ok (.if_icmp .ne 7, 3) := by decide +kernel
theorem d_M_nameAt_77 : decode b_M_nameAt 77 = .ok (.iconst 1, 1) := by decide +kernel
theorem d_M_nameAt_78 : decode b_M_nameAt 78 = .ok (.goto 4, 3) := by decide +kernel
theorem d_M_nameAt_81 : decode b_M_nameAt 81 = .ok (.iconst 0, 1) := by decide +kernel
theorem d_M_nameAt_82 : decode b_M_nameAt 82 = .ok (.istore 4, 2) := by decide +kernel
theorem d_M_nameAt_84 : decode b_M_nameAt 84 = .ok (.iinc 5 1, 3) := by decide +kernel
theorem d_M_nameAt_87 : decode b_M_nameAt 87 = .ok (.goto (-50), 3) := by decide +kernel
theorem d_M_nameAt_90 : decode b_M_nameAt 90 = .ok (.iload 4, 2) := by decide +kernel
theorem d_M_nameAt_92 : decode b_M_nameAt 92 = .ok (.ifCond .eq 7, 3) := by decide +kernel
theorem d_M_nameAt_95 : decode b_M_nameAt 95 = .ok (.iload_n 3, 1) := by decide +kernel
theorem d_M_nameAt_96 : decode b_M_nameAt 96 = .ok (.goto 4, 3) := by decide +kernel
theorem d_M_nameAt_99 : decode b_M_nameAt 99 = .ok (.iload_n 2, 1) := by decide +kernel
theorem d_M_nameAt_100 : decode b_M_nameAt 100 = .ok (.istore_n 2, 1) := by decide +kernel
theorem d_M_nameAt_101 : decode b_M_nameAt 101 = .ok (.iinc 3 1, 3) := by decide +kernel
theorem d_M_nameAt_104 : decode b_M_nameAt 104 = .ok (.goto (-100), 3) := by decide +kernel
theorem d_M_nameAt_107 : decode b_M_nameAt 107 = .ok (.iload_n 2, 1) := by decide +kernel
theorem d_M_nameAt_108 : decode b_M_nameAt 108 = .ok (.ireturn, 1) := by decide +kernel
theorem d_M_reign_0 : decode b_M_reign 0 = .ok (.aload_n 0, 1) := by decide +kernel
theorem d_M_reign_1 : decode b_M_reign 1 = .ok (.aload_n 0, 1) := by decide +kernel
theorem d_M_reign_2 : decode b_M_reign 2 = .ok (.iload_n 1, 1) := by decide +kernel
theorem d_M_reign_3 : decode b_M_reign 3 = .ok (.invokevirtual 99, 3) := by decide +kernel
theorem d_M_reign_6 : decode b_M_reign 6 = .ok (.ifCond .ne 7, 3) := by decide +kernel
theorem d_M_reign_9 : decode b_M_reign 9 = .ok (.iconst 1, 1) := by decide +kernel
theorem d_M_reign_10 : decode b_M_reign 10 = .ok (.goto 27, 3) := by decide +kernel
theorem d_M_reign_13 : decode b_M_reign 13 = .ok (.iload_n 2, 1) := by decide +kernel
theorem d_M_reign_14 : decode b_M_reign 14 = .ok (.invokestatic 102, 3) := by decide +kernel
theorem d_M_reign_17 : decode b_M_reign 17 = .ok (.ifCond .eq 15, 3) := by decide +kernel
theorem d_M_reign_20 : decode b_M_reign 20 = .ok (.iload_n 3, 1) := by decide +kernel
theorem d_M_reign_21 : decode b_M_reign 21 = .ok (.invokestatic 102, 3) := by decide +kernel
theorem d_M_reign_24 : decode b_M_reign 24 = .ok (.ifCond .eq 8, 3) := by decide +kernel
theorem d_M_reign_27 : decode b_M_reign 27 = .ok (.iload_n 2, 1) := by decide +kernel
theorem d_M_reign_28 : decode b_M_reign 28 = .ok (.iload_n 3, 1) := by decide +kernel
theorem d_M_reign_29 : decode b_M_reign 29 = .ok (.if_icmp .le 7, 3) := by decide +kernel
theorem d_M_reign_32 : decode b_M_reign 32 = .ok (.iconst 2, 1) := by decide +kernel
theorem d_M_reign_33 : decode b_M_reign 33 = .ok (.goto 4, 3) := by decide +kernel
theorem d_M_reign_36 : decode b_M_reign 36 = .ok (.iconst 0, 1) := by decide +kernel
theorem d_M_reign_37 : decode b_M_reign 37 = .ok (.putfield 69, 3) := by decide +kernel
theorem d_M_reign_40 : decode b_M_reign 40 = .ok (.aload_n 0, 1) := by decide +kernel
theorem d_M_reign_41 : decode b_M_reign 41 = .ok (.getfield 69, 3) := by decide +kernel
theorem d_M_reign_44 : decode b_M_reign 44 = .ok (.ifCond .le 5, 3) := by decide +kernel
theorem d_M_reign_47 : decode b_M_reign 47 = .ok (.iconst 0, 1) := by decide +kernel
theorem d_M_reign_48 : decode b_M_reign 48 = .ok (.ireturn, 1) := by decide +kernel
theorem d_M_reign_49 : decode b_M_reign 49 = .ok (.aload_n 0, 1) := by decide +kernel
theorem d_M_reign_50 : decode b_M_reign 50 = .ok (.getfield 19, 3) := by decide +kernel
theorem d_M_reign_53 : decode b_M_reign 53 = .ok (.iload_n 1, 1) := by decide +kernel
theorem d_M_reign_54 : decode b_M_reign 54 = .ok (.baload, 1) := by decide +kernel
theorem d_M_reign_55 : decode b_M_reign 55 = .ok (.istore 4, 2) := by decide +kernel
theorem d_M_reign_57 : decode b_M_reign 57 = .ok (.aload_n 0, 1) := by decide +kernel
theorem d_M_reign_58 : decode b_M_reign 58 = .ok (.getfield 19, 3) := by decide +kernel
theorem d_M_reign_61 : decode b_M_reign 61 = .ok (.iload_n 1, 1) := by decide +kernel
theorem d_M_reign_62 : decode b_M_reign 62 = .ok (.iconst 1, 1) := by decide +kernel
theorem d_M_reign_63 : decode b_M_reign 63 = .ok (.bastore, 1) := by decide +kernel
theorem d_M_reign_64 : decode b_M_reign 64 = .ok (.aload_n 0, 1) := by decide +kernel
theorem d_M_reign_65 : decode b_M_reign 65 = .ok (.getfield 23, 3) := by decide +kernel
theorem d_M_reign_68 : decode b_M_reign 68 = .ok (.iload_n 1, 1) := by decide +kernel
theorem d_M_reign_69 : decode b_M_reign 69 = .ok (.iload_n 2, 1) := by decide +kernel
theorem d_M_reign_70 : decode b_M_reign 70 = .ok (.iastore, 1) := by decide +kernel
theorem d_M_reign_71 : decode b_M_reign 71 = .ok (.aload_n 0, 1) := by decide +kernel
theorem d_M_reign_72 : decode b_M_reign 72 = .ok (.getfield 26, 3) := by decide +kernel
theorem d_M_reign_75 : decode b_M_reign 75 = .ok (.iload_n 1, 1) := by decide +kernel
theorem d_M_reign_76 : decode b_M_reign 76 = .ok (.iload_n 3, 1) := by decide +kernel
theorem d_M_reign_77 : decode b_M_reign 77 = .ok (.iastore, 1) := by decide +kernel
theorem d_M_reign_78 : decode b_M_reign 78 = .ok (.iload 4, 2) := by decide +kernel
theorem d_M_reign_80 : decode b_M_reign 80 = .ok (.ifCond .ne 7, 3) := by decide +kernel
theorem d_M_reign_83 : decode b_M_reign 83 = .ok (.iconst 1, 1) := by decide +kernel
theorem d_M_reign_84 : decode b_M_reign 84 = .ok (.goto 4, 3) := by decide +kernel
theorem d_M_reign_87 : decode b_M_reign 87 = .ok (.iconst 0, 1) := by decide +kernel
theorem d_M_reign_88 : decode b_M_reign 88 = .ok (.ireturn, 1) := by decide +kernel
theorem d_M_isName_0 : decode b_M_isName 0 = .ok (.iload_n 1, 1) := by decide +kernel
theorem d_M_isName_1 : decode b_M_isName 1 = .ok (.ifCond .lt 15, 3) := by decide +kernel
theorem d_M_isName_4 : decode b_M_isName 4 = .ok (.iload_n 1, 1) := by decide +kernel
theorem d_M_isName_5 : decode b_M_isName 5 = .ok (.aload_n 0, 1) := by decide +kernel
theorem d_M_isName_6 : decode b_M_isName 6 = .ok (.getfield 76, 3) := by decide +kernel
theorem d_M_isName_9 : decode b_M_isName 9 = .ok (.if_icmp .ge 7, 3) := by decide +kernel
theorem d_M_isName_12 : decode b_M_isName 12 = .ok (.iconst 1, 1) := by decide +kernel
theorem d_M_isName_13 : decode b_M_isName 13 = .ok (.goto 4, 3) := by decide +kernel
theorem d_M_isName_16 : decode b_M_isName 16 = .ok (.iconst 0, 1) := by decide +kernel
theorem d_M_isName_17 : decode b_M_isName 17 = .ok (.ireturn, 1) := by decide +kernel
theorem d_M_isYear_0 : decode b_M_isYear 0 = .ok (.iload_n 0, 1) := by decide +kernel
theorem d_M_isYear_1 : decode b_M_isYear 1 = .ok (.sipush (-9999), 3) := by decide +kernel
theorem d_M_isYear_4 : decode b_M_isYear 4 = .ok (.sipush 9999, 3) := by decide +kernel
theorem d_M_isYear_7 : decode b_M_isYear 7 = .ok (.invokestatic 72, 3) := by decide +kernel
theorem d_M_isYear_10 : decode b_M_isYear 10 = .ok (.ireturn, 1) := by decide +kernel
theorem d_M_phase_0 : decode b_M_phase 0 = .ok (.aload_n 0, 1) := by decide +kernel
theorem d_M_phase_1 : decode b_M_phase 1 = .ok (.iload_n 1, 1) := by decide +kernel
theorem d_M_phase_2 : decode b_M_phase 2 = .ok (.invokevirtual 99, 3) := by decide +kernel
theorem d_M_phase_5 : decode b_M_phase 5 = .ok (.ifCond .eq 13, 3) := by decide +kernel
theorem d_M_phase_8 : decode b_M_phase 8 = .ok (.iload_n 2, 1) := by decide +kernel
theorem d_M_phase_9 : decode b_M_phase 9 = .ok (.iconst 0, 1) := by decide +kernel
theorem d_M_phase_10 : decode b_M_phase 10 = .ok (.bipush 7, 2) := by decide +kernel
theorem d_M_phase_12 : decode b_M_phase 12 = .ok (.invokestatic 72, 3) := by decide +kernel
theorem d_M_phase_15 : decode b_M_phase 15 = .ok (.ifCond .ne 9, 3) := by decide +kernel
theorem d_M_phase_18 : decode b_M_phase 18 = .ok (.aload_n 0, 1) := by decide +kernel
theorem d_M_phase_19 : decode b_M_phase 19 = .ok (.iconst 1, 1) := by decide +kernel
theorem d_M_phase_20 : decode b_M_phase 20 = .ok (.invokevirtual 89, 3) := by decide +kernel
theorem d_M_phase_23 : decode b_M_phase 23 = .ok (.ireturn, 1) := by decide +kernel
theorem d_M_phase_24 : decode b_M_phase 24 = .ok (.iload_n 3, 1) := by decide +kernel
theorem d_M_phase_25 : decode b_M_phase 25 = .ok (.invokestatic 102, 3) := by decide +kernel
theorem d_M_phase_28 : decode b_M_phase 28 = .ok (.ifCond .eq 28, 3) := by decide +kernel
theorem d_M_phase_31 : decode b_M_phase 31 = .ok (.iload 4, 2) := by decide +kernel
theorem d_M_phase_33 : decode b_M_phase 33 = .ok (.invokestatic 102, 3) := by decide +kernel
theorem d_M_phase_36 : decode b_M_phase 36 = .ok (.ifCond .eq 20, 3) := by decide +kernel
theorem d_M_phase_39 : decode b_M_phase 39 = .ok (.iload_n 3, 1) := by decide +kernel
theorem d_M_phase_40 : decode b_M_phase 40 = .ok (.iload 4, 2) := by decide +kernel
theorem d_M_phase_42 : decode b_M_phase 42 = .ok (.if_icmp .gt 14, 3) := by decide +kernel
theorem d_M_phase_45 : decode b_M_phase 45 = .ok (.iload 5, 2) := by decide +kernel
theorem d_M_phase_47 : decode b_M_phase 47 = .ok (.iconst 0, 1) := by decide +kernel
theorem d_M_phase_48 : decode b_M_phase 48 = .ok (.ldc 105, 2) := by decide +kernel
theorem d_M_phase_50 : decode b_M_phase 50 = .ok (.invokestatic 72, 3) := by decide +kernel
theorem d_M_phase_53 : decode b_M_phase 53 = .ok (.ifCond .ne 9, 3) := by decide +kernel
theorem d_M_phase_56 : decode b_M_phase 56 = .ok (.aload_n 0, 1) := by decide +kernel
theorem d_M_phase_57 : decode b_M_phase 57 = .ok (.iconst 2, 1) := by decide +kernel
theorem d_M_phase_58 : decode b_M_phase 58 = .ok (.invokevirtual 89, 3) := by decide +kernel
theorem d_M_phase_61 : decode b_M_phase 61 = .ok (.ireturn, 1) := by decide +kernel
theorem d_M_phase_62 : decode b_M_phase 62 = .ok (.aload_n 0, 1) := by decide +kernel
theorem d_M_phase_63 : decode b_M_phase 63 = .ok (.getfield 29, 3) := by decide +kernel
theorem d_M_phase_66 : decode b_M_phase 66 = .ok (.iload_n 1, 1) := by decide +kernel
theorem d_M_phase_67 : decode b_M_phase 67 = .ok (.iaload, 1) := by decide +kernel
theorem d_M_phase_68 : decode b_M_phase 68 = .ok (.bipush 6, 2) := by decide +kernel
theorem d_M_phase_70 : decode b_M_phase 70 = .ok (.if_icmp .ne 9, 3) := by decide +kernel
theorem d_M_phase_73 : decode b_M_phase 73 = .ok (.aload_n 0, 1) := by decide +kernel
theorem d_M_phase_74 : decode b_M_phase 74 = .ok (.iconst 3, 1) := by decide +kernel
theorem d_M_phase_75 : decode b_M_phase 75 = .ok (.invokevirtual 89, 3) := by decide +kernel
theorem d_M_phase_78 : decode b_M_phase 78 = .ok (.ireturn, 1) := by decide +kernel
theorem d_M_phase_79 : decode b_M_phase 79 = .ok (.aload_n 0, 1) := by decide +kernel
theorem d_M_phase_80 : decode b_M_phase 80 = .ok (.iconst 0, 1) := by decide +kernel
theorem d_M_phase_81 : decode b_M_phase 81 = .ok (.putfield 69, 3) := by decide +kernel
theorem d_M_phase_84 : decode b_M_phase 84 = .ok (.bipush 6, 2) := by decide +kernel
theorem d_M_phase_86 : decode b_M_phase 86 = .ok (.iload_n 1, 1) := by decide +kernel
theorem d_M_phase_87 : decode b_M_phase 87 = .ok (.imul, 1) := by decide +kernel
theorem d_M_phase_88 : decode b_M_phase 88 = .ok (.aload_n 0, 1) := by decide +kernel
theorem d_M_phase_89 : decode b_M_phase 89 = .ok (.getfield 29, 3) := by decide +kernel
theorem d_M_phase_92 : decode b_M_phase 92 = .ok (.iload_n 1, 1) := by decide +kernel
theorem d_M_phase_93 : decode b_M_phase 93 = .ok (.iaload, 1) := by decide +kernel
theorem d_M_phase_94 : decode b_M_phase 94 = .ok (.iadd, 1) := by decide +kernel
theorem d_M_phase_95 : decode b_M_phase 95 = .ok (.istore 6, 2) := by decide +kernel
theorem d_M_phase_97 : decode b_M_phase 97 = .ok (.aload_n 0, 1) := by decide +kernel
theorem d_M_phase_98 : decode b_M_phase 98 = .ok (.getfield 32, 3) := by decide +kernel
theorem d_M_phase_101 : decode b_M_phase 101 = .ok (.iload 6, 2) := by decide +kernel
theorem d_M_phase_103 : decode b_M_phase 103 = .ok (.iload_n 2, 1) := by decide +kernel
theorem d_M_phase_104 : decode b_M_phase 104 = .ok (.iastore, 1) := by decide +kernel
theorem d_M_phase_105 : decode b_M_phase 105 = .ok (.aload_n 0, 1) := by decide +kernel
theorem d_M_phase_106 : decode b_M_phase 106 = .ok (.getfield 35, 3) := by decide +kernel
theorem d_M_phase_109 : decode b_M_phase 109 = .ok (.iload 6, 2) := by decide +kernel
theorem d_M_phase_111 : decode b_M_phase 111 = .ok (.iload_n 3, 1) := by decide +kernel
theorem d_M_phase_112 : decode b_M_phase 112 = .ok (.iastore, 1) := by decide +kernel
theorem d_M_phase_113 : decode b_M_phase 113 = .ok (.aload_n 0, 1) := by decide +kernel
theorem d_M_phase_114 : decode b_M_phase 114 = .ok (.getfield 38, 3) := by decide +kernel
theorem d_M_phase_117 : decode b_M_phase 117 = .ok (.iload 6, 2) := by decide +kernel
theorem d_M_phase_119 : decode b_M_phase 119 = .ok (.iload 4, 2) := by decide +kernel
theorem d_M_phase_121 : decode b_M_phase 121 = .ok (.iastore, 1) := by decide +kernel
theorem d_M_phase_122 : decode b_M_phase 122 = .ok (.aload_n 0, 1) := by decide +kernel
theorem d_M_phase_123 : decode b_M_phase 123 = .ok (.getfield 41, 3) := by decide +kernel
theorem d_M_phase_126 : decode b_M_phase 126 = .ok (.iload 6, 2) := by decide +kernel
theorem d_M_phase_128 : decode b_M_phase 128 = .ok (.iload 5, 2) := by decide +kernel
theorem d_M_phase_130 : decode b_M_phase 130 = .ok (.iastore, 1) := by decide +kernel
theorem d_M_phase_131 : decode b_M_phase 131 = .ok (.aload_n 0, 1) := by decide +kernel
theorem d_M_phase_132 : decode b_M_phase 132 = .ok (.getfield 29, 3) := by decide +kernel
theorem d_M_phase_135 : decode b_M_phase 135 = .ok (.iload_n 1, 1) := by decide +kernel
theorem d_M_phase_136 : decode b_M_phase 136 = .ok (.dup2, 1) := by decide +kernel
theorem d_M_phase_137 : decode b_M_phase 137 = .ok (.iaload, 1) := by decide +kernel
theorem d_M_phase_138 : decode b_M_phase 138 = .ok (.iconst 1, 1) := by decide +kernel
theorem d_M_phase_139 : decode b_M_phase 139 = .ok (.iadd, 1) := by decide +kernel
theorem d_M_phase_140 : decode b_M_phase 140 = .ok (.iastore, 1) := by decide +kernel
theorem d_M_phase_141 : decode b_M_phase 141 = .ok (.aload_n 0, 1) := by decide +kernel
theorem d_M_phase_142 : decode b_M_phase 142 = .ok (.getfield 29, 3) := by decide +kernel
theorem d_M_phase_145 : decode b_M_phase 145 = .ok (.iload_n 1, 1) := by decide +kernel
theorem d_M_phase_146 : decode b_M_phase 146 = .ok (.iaload, 1) := by decide +kernel
theorem d_M_phase_147 : decode b_M_phase 147 = .ok (.ireturn, 1) := by decide +kernel
theorem d_M_width_0 : decode b_M_width 0 = .ok (.iload_n 1, 1) := by decide +kernel
theorem d_M_width_1 : decode b_M_width 1 = .ok (.iconst 0, 1) := by decide +kernel
theorem d_M_width_2 : decode b_M_width 2 = .ok (.sipush 1000, 3) := by decide +kernel
theorem d_M_width_5 : decode b_M_width 5 = .ok (.invokestatic 72, 3) := by decide +kernel
theorem d_M_width_8 : decode b_M_width 8 = .ok (.ifCond .ne 9, 3) := by decide +kernel
theorem d_M_width_11 : decode b_M_width 11 = .ok (.aload_n 0, 1) := by decide +kernel
theorem d_M_width_12 : decode b_M_width 12 = .ok (.iconst 1, 1) := by decide +kernel
theorem d_M_width_13 : decode b_M_width 13 = .ok (.invokevirtual 89, 3) := by decide +kernel
theorem d_M_width_16 : decode b_M_width 16 = .ok (.ireturn, 1) := by decide +kernel
theorem d_M_width_17 : decode b_M_width 17 = .ok (.aload_n 0, 1) := by decide +kernel
theorem d_M_width_18 : decode b_M_width 18 = .ok (.iconst 0, 1) := by decide +kernel
theorem d_M_width_19 : decode b_M_width 19 = .ok (.putfield 69, 3) := by decide +kernel
theorem d_M_width_22 : decode b_M_width 22 = .ok (.aload_n 0, 1) := by decide +kernel
theorem d_M_width_23 : decode b_M_width 23 = .ok (.getfield 53, 3) := by decide +kernel
theorem d_M_width_26 : decode b_M_width 26 = .ok (.istore_n 2, 1) := by decide +kernel
theorem d_M_width_27 : decode b_M_width 27 = .ok (.aload_n 0, 1) := by decide +kernel
theorem d_M_width_28 : decode b_M_width 28 = .ok (.iload_n 1, 1) := by decide +kernel
theorem d_M_width_29 : decode b_M_width 29 = .ok (.putfield 53, 3) := by decide +kernel
theorem d_M_width_32 : decode b_M_width 32 = .ok (.iload_n 2, 1) := by decide +kernel
theorem d_M_width_33 : decode b_M_width 33 = .ok (.ireturn, 1) := by decide +kernel
theorem d_M_read_0 : decode b_M_read 0 = .ok (.aload_n 0, 1) := by decide +kernel
theorem d_M_read_1 : decode b_M_read 1 = .ok (.iload_n 1, 1) := by decide +kernel
theorem d_M_read_2 : decode b_M_read 2 = .ok (.iconst 0, 1) := by decide +kernel
theorem d_M_read_3 : decode b_M_read 3 = .ok (.bipush 7, 2) := by decide +kernel
theorem d_M_read_5 : decode b_M_read 5 = .ok (.invokestatic 72, 3) := by decide +kernel
theorem d_M_read_8 : decode b_M_read 8 = .ok (.ifCond .ne 7, 3) := by decide +kernel
theorem d_M_read_11 : decode b_M_read 11 = .ok (.iconst 1, 1) := by decide +kernel
theorem d_M_read_12 : decode b_M_read 12 = .ok (.goto 31, 3) := by decide +kernel
theorem d_M_read_15 : decode b_M_read 15 = .ok (.iload_n 2, 1) := by decide +kernel
theorem d_M_read_16 : decode b_M_read 16 = .ok (.iconst 0, 1) := by decide +kernel
theorem d_M_read_17 : decode b_M_read 17 = .ok (.ldc 105, 2) := by decide +kernel
theorem d_M_read_19 : decode b_M_read 19 = .ok (.invokestatic 72, 3) := by decide +kernel
theorem d_M_read_22 : decode b_M_read 22 = .ok (.ifCond .ne 7, 3) := by decide +kernel
theorem d_M_read_25 : decode b_M_read 25 = .ok (.iconst 2, 1) := by decide +kernel
theorem d_M_read_26 : decode b_M_read 26 = .ok (.goto 17, 3) := by decide +kernel
theorem d_M_read_29 : decode b_M_read 29 = .ok (.aload_n 0, 1) := by decide +kernel
theorem d_M_read_30 : decode b_M_read 30 = .ok (.getfield 79, 3) := by decide +kernel
theorem d_M_read_33 : decode b_M_read 33 = .ok (.bipush 60, 2) := by decide +kernel
theorem d_M_read_35 : decode b_M_read 35 = .ok (.if_icmp .ne 7, 3) := by decide +kernel
theorem d_M_read_38 : decode b_M_read 38 = .ok (.iconst 3, 1) := by decide +kernel
theorem d_M_read_39 : decode b_M_read 39 = .ok (.goto 4, 3) := by decide +kernel
theorem d_M_read_42 : decode b_M_read 42 = .ok (.iconst 0, 1) := by decide +kernel
theorem d_M_read_43 : decode b_M_read 43 = .ok (.putfield 69, 3) := by decide +kernel
theorem d_M_read_46 : decode b_M_read 46 = .ok (.aload_n 0, 1) := by decide +kernel
theorem d_M_read_47 : decode b_M_read 47 = .ok (.getfield 69, 3) := by decide +kernel
theorem d_M_read_50 : decode b_M_read 50 = .ok (.ifCond .le 5, 3) := by decide +kernel
theorem d_M_read_53 : decode b_M_read 53 = .ok (.iconst 0, 1) := by decide +kernel
theorem d_M_read_54 : decode b_M_read 54 = .ok (.ireturn, 1) := by decide +kernel
theorem d_M_read_55 : decode b_M_read 55 = .ok (.aload_n 0, 1) := by decide +kernel
theorem d_M_read_56 : decode b_M_read 56 = .ok (.iload_n 1, 1) := by decide +kernel
theorem d_M_read_57 : decode b_M_read 57 = .ok (.iload_n 2, 1) := by decide +kernel
theorem d_M_read_58 : decode b_M_read 58 = .ok (.invokevirtual 157, 3) := by decide +kernel
theorem d_M_read_61 : decode b_M_read 61 = .ok (.istore_n 3, 1) := by decide +kernel
theorem d_M_read_62 : decode b_M_read 62 = .ok (.aload_n 0, 1) := by decide +kernel
theorem d_M_read_63 : decode b_M_read 63 = .ok (.iconst 0, 1) := by decide +kernel
theorem d_M_read_64 : decode b_M_read 64 = .ok (.putfield 93, 3) := by decide +kernel
theorem d_M_read_67 : decode b_M_read 67 = .ok (.iload_n 3, 1) := by decide +kernel
theorem d_M_read_68 : decode b_M_read 68 = .ok (.ifCond .eq 10, 3) := by decide +kernel
theorem d_M_read_71 : decode b_M_read 71 = .ok (.aload_n 0, 1) := by decide +kernel
theorem d_M_read_72 : decode b_M_read 72 = .ok (.invokevirtual 160, 3) := by decide +kernel
theorem d_M_read_75 : decode b_M_read 75 = .ok (.goto 4, 3) := by decide +kernel
theorem d_M_read_78 : decode b_M_read 78 = .ok (.iconst (-1), 1) := by decide +kernel
theorem d_M_read_79 : decode b_M_read 79 = .ok (.ireturn, 1) := by decide +kernel
theorem d_M_isWord_0 : decode b_M_isWord 0 = .ok (.iconst 0, 1) := by decide +kernel
theorem d_M_isWord_1 : decode b_M_isWord 1 = .ok (.istore_n 3, 1) := by decide +kernel
theorem d_M_isWord_2 : decode b_M_isWord 2 = .ok (.iconst 0, 1) := by decide +kernel
theorem d_M_isWord_3 : decode b_M_isWord 3 = .ok (.istore 4, 2) := by decide +kernel
theorem d_M_isWord_5 : decode b_M_isWord 5 = .ok (.iconst 1, 1) := by decide +kernel
theorem d_M_isWord_6 : decode b_M_isWord 6 = .ok (.istore 5, 2) := by decide +kernel
theorem d_M_isWord_8 : decode b_M_isWord 8 = .ok (.iload 5, 2) := by decide +kernel
theorem d_M_isWord_10 : decode b_M_isWord 10 = .ok (.ifCond .eq 73, 3) := by decide +kernel
theorem d_M_isWord_13 : decode b_M_isWord 13 = .ok (.iload 4, 2) := by decide +kernel
theorem d_M_isWord_15 : decode b_M_isWord 15 = .ok (.bipush 6, 2) := by decide +kernel
theorem d_M_isWord_17 : decode b_M_isWord 17 = .ok (.if_icmp .ge 66, 3) := by decide +kernel
theorem d_M_isWord_20 : decode b_M_isWord 20 = .ok (.iconst 0, 1) := by decide +kernel
theorem d_M_isWord_21 : decode b_M_isWord 21 = .ok (.istore 5, 2) := by decide +kernel
theorem d_M_isWord_23 : decode b_M_isWord 23 = .ok (.iconst 0, 1) := by decide +kernel
theorem d_M_isWord_24 : decode b_M_isWord 24 = .ok (.istore 6, 2) := by decide +kernel
theorem d_M_isWord_26 : decode b_M_isWord 26 = .ok (.iload 6, 2) := by decide +kernel
theorem d_M_isWord_28 : decode b_M_isWord 28 = .ok (.bipush 6, 2) := by decide +kernel
theorem d_M_isWord_30 : decode b_M_isWord 30 = .ok (.if_icmp .ge 50, 3) := by decide +kernel
theorem d_M_isWord_33 : decode b_M_isWord 33 = .ok (.iload 5, 2) := by decide +kernel
theorem d_M_isWord_35 : decode b_M_isWord 35 = .ok (.ifCond .ne 45, 3) := by decide +kernel
theorem d_M_isWord_38 : decode b_M_isWord 38 = .ok (.aload_n 0, 1) := by decide +kernel
theorem d_M_isWord_39 : decode b_M_isWord 39 = .ok (.iload_n 3, 1) := by decide +kernel
theorem d_M_isWord_40 : decode b_M_isWord 40 = .ok (.iload 6, 2) := by decide +kernel
theorem d_M_isWord_42 : decode b_M_isWord 42 = .ok (.invokevirtual 148, 3) := by decide +kernel
theorem d_M_isWord_45 : decode b_M_isWord 45 = .ok (.ifCond .eq 29, 3) := by decide +kernel
theorem d_M_isWord_48 : decode b_M_isWord 48 = .ok (.iconst 1, 1) := by decide +kernel
theorem d_M_isWord_49 : decode b_M_isWord 49 = .ok (.istore 5, 2) := by decide +kernel
theorem d_M_isWord_51 : decode b_M_isWord 51 = .ok (.aload_n 0, 1) := by decide +kernel
theorem d_M_isWord_52 : decode b_M_isWord 52 = .ok (.getfield 57, 3) := by decide +kernel
theorem d_M_isWord_55 : decode b_M_isWord 55 = .ok (.iload 4, 2) := by decide +kernel
theorem d_M_isWord_57 : decode b_M_isWord 57 = .ok (.iload 6, 2) := by decide +kernel
theorem d_M_isWord_59 : decode b_M_isWord 59 = .ok (.iastore, 1) := by decide +kernel
theorem d_M_isWord_60 : decode b_M_isWord 60 = .ok (.iinc 4 1, 3) := by decide +kernel
theorem d_M_isWord_63 : decode b_M_isWord 63 = .ok (.iload_n 3, 1) := by decide +kernel
theorem d_M_isWord_64 : decode b_M_isWord 64 = .ok (.iload 6, 2) := by decide +kernel
theorem d_M_isWord_66 : decode b_M_isWord 66 = .ok (.invokestatic 124, 3) := by decide +kernel
theorem d_M_isWord_69 : decode b_M_isWord 69 = .ok (.invokestatic 106, 3) := by decide +kernel
theorem d_M_isWord_72 : decode b_M_isWord 72 = .ok (.iadd, 1) := by decide +kernel
theorem d_M_isWord_73 : decode b_M_isWord 73 = .ok (.istore_n 3, 1) := by decide +kernel
theorem d_M_isWord_74 : decode b_M_isWord 74 = .ok (.iinc 6 1, 3) := by decide +kernel
theorem d_M_isWord_77 : decode b_M_isWord 77 = .ok (.goto (-51), 3) := by decide +kernel
theorem d_M_isWord_80 : decode b_M_isWord 80 = .ok (.goto (-72), 3) := by decide +kernel
theorem d_M_isWord_83 : decode b_M_isWord 83 = .ok (.iload 4, 2) := by decide +kernel
theorem d_M_isWord_85 : decode b_M_isWord 85 = .ok (.bipush 6, 2) := by decide +kernel
theorem d_M_isWord_87 : decode b_M_isWord 87 = .ok (.if_icmp .ge 17, 3) := by decide +kernel
theorem d_M_isWord_90 : decode b_M_isWord 90 = .ok (.aload_n 0, 1) := by decide +kernel
theorem d_M_isWord_91 : decode b_M_isWord 91 = .ok (.iload_n 3, 1) := by decide +kernel
theorem d_M_isWord_92 : decode b_M_isWord 92 = .ok (.iload_n 1, 1) := by decide +kernel
theorem d_M_isWord_93 : decode b_M_isWord 93 = .ok (.iload_n 2, 1) := by decide +kernel
theorem d_M_isWord_94 : decode b_M_isWord 94 = .ok (.invokevirtual 151, 3) := by decide +kernel
theorem d_M_isWord_97 : decode b_M_isWord 97 = .ok (.ifCond .eq 7, 3) := by decide +kernel
theorem d_M_isWord_100 : decode b_M_isWord 100 = .ok (.iconst 1, 1) := by decide +kernel
theorem d_M_isWord_101 : decode b_M_isWord 101 = .ok (.goto 4, 3) := by decide +kernel
theorem d_M_isWord_104 : decode b_M_isWord 104 = .ok (.iconst 0, 1) := by decide +kernel
theorem d_M_isWord_105 : decode b_M_isWord 105 = .ok (.istore 6, 2) := by decide +kernel
theorem d_M_isWord_107 : decode b_M_isWord 107 = .ok (.iload 4, 2) := by decide +kernel
theorem d_M_isWord_109 : decode b_M_isWord 109 = .ok (.iconst 1, 1) := by decide +kernel
theorem d_M_isWord_110 : decode b_M_isWord 110 = .ok (.isub, 1) := by decide +kernel
theorem d_M_isWord_111 : decode b_M_isWord 111 = .ok (.istore 7, 2) := by decide +kernel
theorem d_M_isWord_113 : decode b_M_isWord 113 = .ok (.iload 7, 2) := by decide +kernel
theorem d_M_isWord_115 : decode b_M_isWord 115 = .ok (.ifCond .lt 27, 3) := by decide +kernel
theorem d_M_isWord_118 : decode b_M_isWord 118 = .ok (.iload 6, 2) := by decide +kernel
theorem d_M_isWord_120 : decode b_M_isWord 120 = .ok (.ifCond .eq 22, 3) := by decide +kernel
theorem d_M_isWord_123 : decode b_M_isWord 123 = .ok (.aload_n 0, 1) := by decide +kernel
theorem d_M_isWord_124 : decode b_M_isWord 124 = .ok (.aload_n 0, 1) := by decide +kernel
theorem d_M_isWord_125 : decode b_M_isWord 125 = .ok (.getfield 57, 3) := by decide +kernel
theorem d_M_isWord_128 : decode b_M_isWord 128 = .ok (.iload 7, 2) := by decide +kernel
theorem d_M_isWord_130 : decode b_M_isWord 130 = .ok (.iaload, 1) := by decide +kernel
theorem d_M_isWord_131 : decode b_M_isWord 131 = .ok (.invokevirtual 154, 3) := by decide +kernel
theorem d_M_isWord_134 : decode b_M_isWord 134 = .ok (.istore 6, 2) := by decide +kernel
theorem d_M_isWord_136 : decode b_M_isWord 136 = .ok (.iinc 7 (-1), 3) := by decide +kernel
theorem d_M_isWord_139 : decode b_M_isWord 139 = .ok (.goto (-26), 3) := by decide +kernel
theorem d_M_isWord_142 : decode b_M_isWord 142 = .ok (.iload 6, 2) := by decide +kernel
theorem d_M_isWord_144 : decode b_M_isWord 144 = .ok (.ireturn, 1) := by decide +kernel
theorem d_M_begins_0 : decode b_M_begins 0 = .ok (.iload_n 2, 1) := by decide +kernel
theorem d_M_begins_1 : decode b_M_begins 1 = .ok (.invokestatic 124, 3) := by decide +kernel
theorem d_M_begins_4 : decode b_M_begins 4 = .ok (.lstore_n 3, 1) := by decide +kernel
theorem d_M_begins_5 : decode b_M_begins 5 = .ok (.iload_n 1, 1) := by decide +kernel
theorem d_M_begins_6 : decode b_M_begins 6 = .ok (.lload_n 3, 1) := by decide +kernel
theorem d_M_begins_7 : decode b_M_begins 7 = .ok (.invokestatic 106, 3) := by decide +kernel
theorem d_M_begins_10 : decode b_M_begins 10 = .ok (.iadd, 1) := by decide +kernel
theorem d_M_begins_11 : decode b_M_begins 11 = .ok (.aload_n 0, 1) := by decide +kernel
theorem d_M_begins_12 : decode b_M_begins 12 = .ok (.getfield 93, 3) := by decide +kernel
theorem d_M_begins_15 : decode b_M_begins 15 = .ok (.if_icmp .gt 7, 3) := by decide +kernel
theorem d_M_begins_18 : decode b_M_begins 18 = .ok (.iconst 1, 1) := by decide +kernel
theorem d_M_begins_19 : decode b_M_begins 19 = .ok (.goto 4, 3) := by decide +kernel
theorem d_M_begins_22 : decode b_M_begins 22 = .ok (.iconst 0, 1) := by decide +kernel
theorem d_M_begins_23 : decode b_M_begins 23 = .ok (.istore 5, 2) := by decide +kernel
theorem d_M_begins_25 : decode b_M_begins 25 = .ok (.iconst 0, 1) := by decide +kernel
theorem d_M_begins_26 : decode b_M_begins 26 = .ok (.istore 6, 2) := by decide +kernel
theorem d_M_begins_28 : decode b_M_begins 28 = .ok (.iload 6, 2) := by decide +kernel
theorem d_M_begins_30 : decode b_M_begins 30 = .ok (.lload_n 3, 1) := by decide +kernel
theorem d_M_begins_31 : decode b_M_begins 31 = .ok (.invokestatic 106, 3) := by decide +kernel
theorem d_M_begins_34 : decode b_M_begins 34 = .ok (.if_icmp .ge 39, 3) := by decide +kernel
theorem d_M_begins_37 : decode b_M_begins 37 = .ok (.iload 5, 2) := by decide +kernel
theorem d_M_begins_39 : decode b_M_begins 39 = .ok (.ifCond .eq 34, 3) := by decide +kernel
theorem d_M_begins_42 : decode b_M_begins 42 = .ok (.aload_n 0, 1) := by decide +kernel
theorem d_M_begins_43 : decode b_M_begins 43 = .ok (.getfield 7, 3) := by decide +kernel
theorem d_M_begins_46 : decode b_M_begins 46 = .ok (.iload_n 1, 1) := by decide +kernel
theorem d_M_begins_47 : decode b_M_begins 47 = .ok (.iload 6, 2) := by decide +kernel
theorem d_M_begins_49 : decode b_M_begins 49 = .ok (.iadd, 1) := by decide +kernel
theorem d_M_begins_50 : decode b_M_begins 50 = .ok (.iaload, 1) := by decide +kernel
theorem d_M_begins_51 : decode b_M_begins 51 = .ok (.lload_n 3, 1) := by decide +kernel
theorem d_M_begins_52 : decode b_M_begins 52 = .ok (.iload 6, 2) := by decide +kernel
theorem d_M_begins_54 : decode b_M_begins 54 = .ok (.invokestatic 128, 3) := by decide +kernel
theorem d_M_begins_57 : decode b_M_begins 57 = .ok (.if_icmp .ne 7, 3) := by decide +kernel
theorem d_M_begins_60 : decode b_M_begins 60 = .ok (.iconst 1, 1) := by decide +kernel
theorem d_M_begins_61 : decode b_M_begins 61 = .ok (.goto 4, 3) := by decide +kernel
theorem d_M_begins_64 : decode b_M_begins 64 = .ok (.iconst 0, 1) := by decide +kernel
theorem d_M_begins_65 : decode b_M_begins 65 = .ok (.istore 5, 2) := by decide +kernel
theorem d_M_begins_67 : decode b_M_begins 67 = .ok (.iinc 6 1, 3) := by decide +kernel
theorem d_M_begins_70 : decode b_M_begins 70 = .ok (.goto (-42), 3) := by decide +kernel
theorem d_M_begins_73 : decode b_M_begins 73 = .ok (.iload 5, 2) := by decide +kernel
theorem d_M_begins_75 : decode b_M_begins 75 = .ok (.ireturn, 1) := by decide +kernel
theorem d_M_beginning_0 : decode b_M_beginning 0 = .ok (.iload_n 0, 1) := by decide +kernel
theorem d_M_beginning_1 : decode b_M_beginning 1 = .ok (.ifCond .ne 9, 3) := by decide +kernel
theorem d_M_beginning_4 : decode b_M_beginning 4 = .ok (.ldc2_w 112, 3) := by decide +kernel
theorem d_M_beginning_7 : decode b_M_beginning 7 = .ok (.goto 50, 3) := by decide +kernel
theorem d_M_beginning_10 : decode b_M_beginning 10 = .ok (.iload_n 0, 1) := by decide +kernel
theorem d_M_beginning_11 : decode b_M_beginning 11 = .ok (.iconst 1, 1) := by decide +kernel
theorem d_M_beginning_12 : decode b_M_beginning 12 = .ok (.if_icmp .ne 9, 3) := by decide +kernel
theorem d_M_beginning_15 : decode b_M_beginning 15 = .ok (.ldc2_w 114, 3) := by decide +kernel
theorem d_M_beginning_18 : decode b_M_beginning 18 = .ok (.goto 39, 3) := by decide +kernel
theorem d_M_beginning_21 : decode b_M_beginning 21 = .ok (.iload_n 0, 1) := by decide +kernel
theorem d_M_beginning_22 : decode b_M_beginning 22 = .ok (.iconst 2, 1) := by decide +kernel
theorem d_M_beginning_23 : decode b_M_beginning 23 = .ok (.if_icmp .ne 9, 3) := by decide +kernel
theorem d_M_beginning_26 : decode b_M_beginning 26 = .ok (.ldc2_w 116, 3) := by decide +kernel
theorem d_M_beginning_29 : decode b_M_beginning 29 = .ok (.goto 28, 3) := by decide +kernel
theorem d_M_beginning_32 : decode b_M_beginning 32 = .ok (.iload_n 0, 1) := by decide +kernel
theorem d_M_beginning_33 : decode b_M_beginning 33 = .ok (.iconst 3, 1) := by decide +kernel
theorem d_M_beginning_34 : decode b_M_beginning 34 = .ok (.if_icmp .ne 9, 3) := by decide +kernel
theorem d_M_beginning_37 : decode b_M_beginning 37 = .ok (.ldc2_w 118, 3) := by decide +kernel
theorem d_M_beginning_40 : decode b_M_beginning 40 = .ok (.goto 17, 3) := by decide +kernel
theorem d_M_beginning_43 : decode b_M_beginning 43 = .ok (.iload_n 0, 1) := by decide +kernel
theorem d_M_beginning_44 : decode b_M_beginning 44 = .ok (.iconst 4, 1) := by decide +kernel
theorem d_M_beginning_45 : decode b_M_beginning 45 = .ok (.if_icmp .ne 9, 3) := by decide +kernel
theorem d_M_beginning_48 : decode b_M_beginning 48 = .ok (.ldc2_w 120, 3) := by decide +kernel
theorem d_M_beginning_51 : decode b_M_beginning 51 = .ok (.goto 6, 3) := by decide +kernel
theorem d_M_beginning_54 : decode b_M_beginning 54 = .ok (.ldc2_w 122, 3) := by decide +kernel
theorem d_M_beginning_57 : decode b_M_beginning 57 = .ok (.lreturn, 1) := by decide +kernel
theorem d_M_signs_0 : decode b_M_signs 0 = .ok (.iconst 0, 1) := by decide +kernel
theorem d_M_signs_1 : decode b_M_signs 1 = .ok (.istore_n 2, 1) := by decide +kernel
theorem d_M_signs_2 : decode b_M_signs 2 = .ok (.lload_n 0, 1) := by decide +kernel
theorem d_M_signs_3 : decode b_M_signs 3 = .ok (.bipush 8, 2) := by decide +kernel
theorem d_M_signs_5 : decode b_M_signs 5 = .ok (.iload_n 2, 1) := by decide +kernel
theorem d_M_signs_6 : decode b_M_signs 6 = .ok (.imul, 1) := by decide +kernel
theorem d_M_signs_7 : decode b_M_signs 7 = .ok (.lushr, 1) := by decide +kernel
theorem d_M_signs_8 : decode b_M_signs 8 = .ok (.lconst 0, 1) := by decide +kernel
theorem d_M_signs_9 : decode b_M_signs 9 = .ok (.lcmp, 1) := by decide +kernel
theorem d_M_signs_10 : decode b_M_signs 10 = .ok (.ifCond .eq 9, 3) := by decide +kernel
theorem d_M_signs_13 : decode b_M_signs 13 = .ok (.iinc 2 1, 3) := by decide +kernel
theorem d_M_signs_16 : decode b_M_signs 16 = .ok (.goto (-14), 3) := by decide +kernel
theorem d_M_signs_19 : decode b_M_signs 19 = .ok (.iload_n 2, 1) := by decide +kernel
theorem d_M_signs_20 : decode b_M_signs 20 = .ok (.ireturn, 1) := by decide +kernel
theorem d_M_signOf_0 : decode b_M_signOf 0 = .ok (.lload_n 0, 1) := by decide +kernel
theorem d_M_signOf_1 : decode b_M_signOf 1 = .ok (.bipush 8, 2) := by decide +kernel
theorem d_M_signOf_3 : decode b_M_signOf 3 = .ok (.lload_n 0, 1) := by decide +kernel
theorem d_M_signOf_4 : decode b_M_signOf 4 = .ok (.invokestatic 106, 3) := by decide +kernel
theorem d_M_signOf_7 : decode b_M_signOf 7 = .ok (.iconst 1, 1) := by decide +kernel
theorem d_M_signOf_8 : decode b_M_signOf 8 = .ok (.isub, 1) := by decide +kernel
theorem d_M_signOf_9 : decode b_M_signOf 9 = .ok (.iload_n 2, 1) := by decide +kernel
theorem d_M_signOf_10 : decode b_M_signOf 10 = .ok (.isub, 1) := by decide +kernel
theorem d_M_signOf_11 : decode b_M_signOf 11 = .ok (.imul, 1) := by decide +kernel
theorem d_M_signOf_12 : decode b_M_signOf 12 = .ok (.lushr, 1) := by decide +kernel
theorem d_M_signOf_13 : decode b_M_signOf 13 = .ok (.ldc2_w 110, 3) := by decide +kernel
theorem d_M_signOf_16 : decode b_M_signOf 16 = .ok (.land, 1) := by decide +kernel
theorem d_M_signOf_17 : decode b_M_signOf 17 = .ok (.l2i, 1) := by decide +kernel
theorem d_M_signOf_18 : decode b_M_signOf 18 = .ok (.ireturn, 1) := by decide +kernel
theorem d_M_core_0 : decode b_M_core 0 = .ok (.aload_n 0, 1) := by decide +kernel
theorem d_M_core_1 : decode b_M_core 1 = .ok (.getfield 93, 3) := by decide +kernel
theorem d_M_core_4 : decode b_M_core 4 = .ok (.iload_n 1, 1) := by decide +kernel
theorem d_M_core_5 : decode b_M_core 5 = .ok (.isub, 1) := by decide +kernel
theorem d_M_core_6 : decode b_M_core 6 = .ok (.istore 4, 2) := by decide +kernel
theorem d_M_core_8 : decode b_M_core 8 = .ok (.iload 4, 2) := by decide +kernel
theorem d_M_core_10 : decode b_M_core 10 = .ok (.iconst 2, 1) := by decide +kernel
theorem d_M_core_11 : decode b_M_core 11 = .ok (.iconst 3, 1) := by decide +kernel
theorem d_M_core_12 : decode b_M_core 12 = .ok (.invokestatic 72, 3) := by decide +kernel
theorem d_M_core_15 : decode b_M_core 15 = .ok (.ifCond .eq 121, 3) := by decide +kernel
theorem d_M_core_18 : decode b_M_core 18 = .ok (.aload_n 0, 1) := by decide +kernel
theorem d_M_core_19 : decode b_M_core 19 = .ok (.getfield 7, 3) := by decide +kernel
theorem d_M_core_22 : decode b_M_core 22 = .ok (.aload_n 0, 1) := by decide +kernel
theorem d_M_core_23 : decode b_M_core 23 = .ok (.getfield 93, 3) := by decide +kernel
theorem d_M_core_26 : decode b_M_core 26 = .ok (.iconst 1, 1) := by decide +kernel
theorem d_M_core_27 : decode b_M_core 27 = .ok (.isub, 1) := by decide +kernel
theorem d_M_core_28 : decode b_M_core 28 = .ok (.iaload, 1) := by decide +kernel
theorem d_M_core_29 : decode b_M_core 29 = .ok (.bipush 99, 2) := by decide +kernel
theorem d_M_core_31 : decode b_M_core 31 = .ok (.if_icmp .ne 105, 3) := by decide +kernel
theorem d_M_core_34 : decode b_M_core 34 = .ok (.aload_n 0, 1) := by decide +kernel
theorem d_M_core_35 : decode b_M_core 35 = .ok (.getfield 7, 3) := by decide +kernel
theorem d_M_core_38 : decode b_M_core 38 = .ok (.iload_n 1, 1) := by decide +kernel
theorem d_M_core_39 : decode b_M_core 39 = .ok (.iaload, 1) := by decide +kernel
theorem d_M_core_40 : decode b_M_core 40 = .ok (.invokestatic 86, 3) := by decide +kernel
theorem d_M_core_43 : decode b_M_core 43 = .ok (.ifCond .eq 93, 3) := by decide +kernel
theorem d_M_core_46 : decode b_M_core 46 = .ok (.aload_n 0, 1) := by decide +kernel
theorem d_M_core_47 : decode b_M_core 47 = .ok (.getfield 7, 3) := by decide +kernel
theorem d_M_core_50 : decode b_M_core 50 = .ok (.iload_n 1, 1) := by decide +kernel
theorem d_M_core_51 : decode b_M_core 51 = .ok (.iload 4, 2) := by decide +kernel
theorem d_M_core_53 : decode b_M_core 53 = .ok (.iadd, 1) := by decide +kernel
theorem d_M_core_54 : decode b_M_core 54 = .ok (.iconst 2, 1) := by decide +kernel
theorem d_M_core_55 : decode b_M_core 55 = .ok (.isub, 1) := by decide +kernel
theorem d_M_core_56 : decode b_M_core 56 = .ok (.iaload, 1) := by decide +kernel
theorem d_M_core_57 : decode b_M_core 57 = .ok (.invokestatic 86, 3) := by decide +kernel
theorem d_M_core_60 : decode b_M_core 60 = .ok (.ifCond .eq 76, 3) := by decide +kernel
theorem d_M_core_63 : decode b_M_core 63 = .ok (.iload 4, 2) := by decide +kernel
theorem d_M_core_65 : decode b_M_core 65 = .ok (.iconst 2, 1) := by decide +kernel
theorem d_M_core_66 : decode b_M_core 66 = .ok (.if_icmp .ne 15, 3) := by decide +kernel
theorem d_M_core_69 : decode b_M_core 69 = .ok (.aload_n 0, 1) := by decide +kernel
theorem d_M_core_70 : decode b_M_core 70 = .ok (.getfield 7, 3) := by decide +kernel
theorem d_M_core_73 : decode b_M_core 73 = .ok (.iload_n 1, 1) := by decide +kernel
theorem d_M_core_74 : decode b_M_core 74 = .ok (.iaload, 1) := by decide +kernel
theorem d_M_core_75 : decode b_M_core 75 = .ok (.bipush 48, 2) := by decide +kernel
theorem d_M_core_77 : decode b_M_core 77 = .ok (.isub, 1) := by decide +kernel
theorem d_M_core_78 : decode b_M_core 78 = .ok (.goto 27, 3) := by decide +kernel
theorem d_M_core_81 : decode b_M_core 81 = .ok (.bipush 10, 2) := by decide +kernel
theorem d_M_core_83 : decode b_M_core 83 = .ok (.aload_n 0, 1) := by decide +kernel
theorem d_M_core_84 : decode b_M_core 84 = .ok (.getfield 7, 3) := by decide +kernel
theorem d_M_core_87 : decode b_M_core 87 = .ok (.iload_n 1, 1) := by decide +kernel
theorem d_M_core_88 : decode b_M_core 88 = .ok (.iaload, 1) := by decide +kernel
theorem d_M_core_89 : decode b_M_core 89 = .ok (.bipush 48, 2) := by decide +kernel
theorem d_M_core_91 : decode b_M_core 91 = .ok (.isub, 1) := by decide +kernel
theorem d_M_core_92 : decode b_M_core 92 = .ok (.imul, 1) := by decide +kernel
theorem d_M_core_93 : decode b_M_core 93 = .ok (.aload_n 0, 1) := by decide +kernel
theorem d_M_core_94 : decode b_M_core 94 = .ok (.getfield 7, 3) := by decide +kernel
theorem d_M_core_97 : decode b_M_core 97 = .ok (.iload_n 1, 1) := by decide +kernel
theorem d_M_core_98 : decode b_M_core 98 = .ok (.iconst 1, 1) := by decide +kernel
theorem d_M_core_99 : decode b_M_core 99 = .ok (.iadd, 1) := by decide +kernel
theorem d_M_core_100 : decode b_M_core 100 = .ok (.iaload, 1) := by decide +kernel
theorem d_M_core_101 : decode b_M_core 101 = .ok (.iadd, 1) := by decide +kernel
theorem d_M_core_102 : decode b_M_core 102 = .ok (.bipush 48, 2) := by decide +kernel
theorem d_M_core_104 : decode b_M_core 104 = .ok (.isub, 1) := by decide +kernel
theorem d_M_core_105 : decode b_M_core 105 = .ok (.istore 5, 2) := by decide +kernel
theorem d_M_core_107 : decode b_M_core 107 = .ok (.aload_n 0, 1) := by decide +kernel
theorem d_M_core_108 : decode b_M_core 108 = .ok (.bipush 100, 2) := by decide +kernel
theorem d_M_core_110 : decode b_M_core 110 = .ok (.iload 5, 2) := by decide +kernel
theorem d_M_core_112 : decode b_M_core 112 = .ok (.iconst 1, 1) := by decide +kernel
theorem d_M_core_113 : decode b_M_core 113 = .ok (.isub, 1) := by decide +kernel
theorem d_M_core_114 : decode b_M_core 114 = .ok (.imul, 1) := by decide +kernel
theorem d_M_core_115 : decode b_M_core 115 = .ok (.iconst 1, 1) := by decide +kernel
theorem d_M_core_116 : decode b_M_core 116 = .ok (.iadd, 1) := by decide +kernel
theorem d_M_core_117 : decode b_M_core 117 = .ok (.bipush 100, 2) := by decide +kernel
theorem d_M_core_119 : decode b_M_core 119 = .ok (.iload 5, 2) := by decide +kernel
theorem d_M_core_121 : decode b_M_core 121 = .ok (.imul, 1) := by decide +kernel
theorem d_M_core_122 : decode b_M_core 122 = .ok (.invokevirtual 141, 3) := by decide +kernel
theorem d_M_core_125 : decode b_M_core 125 = .ok (.iload 5, 2) := by decide +kernel
theorem d_M_core_127 : decode b_M_core 127 = .ok (.ifCond .le 7, 3) := by decide +kernel
theorem d_M_core_130 : decode b_M_core 130 = .ok (.iconst 1, 1) := by decide +kernel
theorem d_M_core_131 : decode b_M_core 131 = .ok (.goto 4, 3) := by decide +kernel
theorem d_M_core_134 : decode b_M_core 134 = .ok (.iconst 0, 1) := by decide +kernel
theorem d_M_core_135 : decode b_M_core 135 = .ok (.ireturn, 1) := by decide +kernel
theorem d_M_core_136 : decode b_M_core 136 = .ok (.aload_n 0, 1) := by decide +kernel
theorem d_M_core_137 : decode b_M_core 137 = .ok (.iload_n 1, 1) := by decide +kernel
theorem d_M_core_138 : decode b_M_core 138 = .ok (.invokevirtual 96, 3) := by decide +kernel
theorem d_M_core_141 : decode b_M_core 141 = .ok (.istore 5, 2) := by decide +kernel
theorem d_M_core_143 : decode b_M_core 143 = .ok (.iload 5, 2) := by decide +kernel
theorem d_M_core_145 : decode b_M_core 145 = .ok (.ifCond .lt 18, 3) := by decide +kernel
theorem d_M_core_148 : decode b_M_core 148 = .ok (.aload_n 0, 1) := by decide +kernel
theorem d_M_core_149 : decode b_M_core 149 = .ok (.iload 5, 2) := by decide +kernel
theorem d_M_core_151 : decode b_M_core 151 = .ok (.iload_n 2, 1) := by decide +kernel
theorem d_M_core_152 : decode b_M_core 152 = .ok (.iload_n 3, 1) := by decide +kernel
theorem d_M_core_153 : decode b_M_core 153 = .ok (.invokevirtual 145, 3) := by decide +kernel
theorem d_M_core_156 : decode b_M_core 156 = .ok (.ifCond .eq 7, 3) := by decide +kernel
theorem d_M_core_159 : decode b_M_core 159 = .ok (.iconst 1, 1) := by decide +kernel
theorem d_M_core_160 : decode b_M_core 160 = .ok (.goto 4, 3) := by decide +kernel
theorem d_M_core_163 : decode b_M_core 163 = .ok (.iconst 0, 1) := by decide +kernel
theorem d_M_core_164 : decode b_M_core 164 = .ok (.ireturn, 1) := by decide +kernel
theorem d_M_set_0 : decode b_M_set 0 = .ok (.aload_n 0, 1) := by decide +kernel
theorem d_M_set_1 : decode b_M_set 1 = .ok (.iload_n 1, 1) := by decide +kernel
theorem d_M_set_2 : decode b_M_set 2 = .ok (.putfield 132, 3) := by decide +kernel
theorem d_M_set_5 : decode b_M_set 5 = .ok (.aload_n 0, 1) := by decide +kernel
theorem d_M_set_6 : decode b_M_set 6 = .ok (.iload_n 2, 1) := by decide +kernel
theorem d_M_set_7 : decode b_M_set 7 = .ok (.putfield 135, 3) := by decide +kernel
theorem d_M_set_10 : decode b_M_set 10 = .ok (.aload_n 0, 1) := by decide +kernel
theorem d_M_set_11 : decode b_M_set 11 = .ok (.iconst 0, 1) := by decide +kernel
theorem d_M_set_12 : decode b_M_set 12 = .ok (.putfield 138, 3) := by decide +kernel
theorem d_M_set_15 : decode b_M_set 15 = .ok (.return_, 1) := by decide +kernel
theorem d_M_named_0 : decode b_M_named 0 = .ok (.iconst (-1), 1) := by decide +kernel
theorem d_M_named_1 : decode b_M_named 1 = .ok (.istore 4, 2) := by decide +kernel
theorem d_M_named_3 : decode b_M_named 3 = .ok (.bipush 6, 2) := by decide +kernel
theorem d_M_named_5 : decode b_M_named 5 = .ok (.iload_n 1, 1) := by decide +kernel
theorem d_M_named_6 : decode b_M_named 6 = .ok (.imul, 1) := by decide +kernel
theorem d_M_named_7 : decode b_M_named 7 = .ok (.istore 5, 2) := by decide +kernel
theorem d_M_named_9 : decode b_M_named 9 = .ok (.iload 5, 2) := by decide +kernel
theorem d_M_named_11 : decode b_M_named 11 = .ok (.bipush 6, 2) := by decide +kernel
theorem d_M_named_13 : decode b_M_named 13 = .ok (.iload_n 1, 1) := by decide +kernel
theorem d_M_named_14 : decode b_M_named 14 = .ok (.imul, 1) := by decide +kernel
theorem d_M_named_15 : decode b_M_named 15 = .ok (.aload_n 0, 1) := by decide +kernel
theorem d_M_named_16 : decode b_M_named 16 = .ok (.getfield 29, 3) := by decide +kernel
theorem d_M_named_19 : decode b_M_named 19 = .ok (.iload_n 1, 1) := by decide +kernel
theorem d_M_named_20 : decode b_M_named 20 = .ok (.iaload, 1) := by decide +kernel
theorem d_M_named_21 : decode b_M_named 21 = .ok (.iadd, 1) := by decide +kernel
theorem d_M_named_22 : decode b_M_named 22 = .ok (.if_icmp .ge 84, 3) := by decide +kernel
theorem d_M_named_25 : decode b_M_named 25 = .ok (.aload_n 0, 1) := by decide +kernel
theorem d_M_named_26 : decode b_M_named 26 = .ok (.getfield 32, 3) := by decide +kernel
theorem d_M_named_29 : decode b_M_named 29 = .ok (.iload 5, 2) := by decide +kernel
theorem d_M_named_31 : decode b_M_named 31 = .ok (.iaload, 1) := by decide +kernel
theorem d_M_named_32 : decode b_M_named 32 = .ok (.iload_n 2, 1) := by decide +kernel
theorem d_M_named_33 : decode b_M_named 33 = .ok (.if_icmp .ne 18, 3) := by decide +kernel
theorem d_M_named_36 : decode b_M_named 36 = .ok (.aload_n 0, 1) := by decide +kernel
theorem d_M_named_37 : decode b_M_named 37 = .ok (.getfield 41, 3) := by decide +kernel
theorem d_M_named_40 : decode b_M_named 40 = .ok (.iload 5, 2) := by decide +kernel
theorem d_M_named_42 : decode b_M_named 42 = .ok (.iaload, 1) := by decide +kernel
theorem d_M_named_43 : decode b_M_named 43 = .ok (.iload_n 3, 1) := by decide +kernel
theorem d_M_named_44 : decode b_M_named 44 = .ok (.if_icmp .gt 7, 3) := by decide +kernel
theorem d_M_named_47 : decode b_M_named 47 = .ok (.iconst 1, 1) := by decide +kernel
theorem d_M_named_48 : decode b_M_named 48 = .ok (.goto 4, 3) := by decide +kernel
theorem d_M_named_51 : decode b_M_named 51 = .ok (.iconst 0, 1) := by decide +kernel
theorem d_M_named_52 : decode b_M_named 52 = .ok (.istore 6, 2) := by decide +kernel
theorem d_M_named_54 : decode b_M_named 54 = .ok (.iload 6, 2) := by decide +kernel
theorem d_M_named_56 : decode b_M_named 56 = .ok (.ifCond .eq 40, 3) := by decide +kernel
theorem d_M_named_59 : decode b_M_named 59 = .ok (.iload 4, 2) := by decide +kernel
theorem d_M_named_61 : decode b_M_named 61 = .ok (.ifCond .lt 30, 3) := by decide +kernel
theorem d_M_named_64 : decode b_M_named 64 = .ok (.aload_n 0, 1) := by decide +kernel
theorem d_M_named_65 : decode b_M_named 65 = .ok (.getfield 41, 3) := by decide +kernel
theorem d_M_named_68 : decode b_M_named 68 = .ok (.iload 5, 2) := by decide +kernel
theorem d_M_named_70 : decode b_M_named 70 = .ok (.iaload, 1) := by decide +kernel
theorem d_M_named_71 : decode b_M_named 71 = .ok (.aload_n 0, 1) := by decide +kernel
theorem d_M_named_72 : decode b_M_named 72 = .ok (.getfield 41, 3) := by decide +kernel
theorem d_M_named_75 : decode b_M_named 75 = .ok (.iload 4, 2) := by decide +kernel
theorem d_M_named_77 : decode b_M_named 77 = .ok (.ifCond .lt 8, 3) := by decide +kernel
theorem d_M_named_80 : decode b_M_named 80 = .ok (.iload 4, 2) := by decide +kernel
theorem d_M_named_82 : decode b_M_named 82 = .ok (.goto 5, 3) := by decide +kernel
theorem d_M_named_85 : decode b_M_named 85 = .ok (.iload 5, 2) := by decide +kernel
theorem d_M_named_87 : decode b_M_named 87 = .ok (.iaload, 1) := by decide +kernel
theorem d_M_named_88 : decode b_M_named 88 = .ok (.if_icmp .lt 8, 3) := by decide +kernel
theorem d_M_named_91 : decode b_M_named 91 = .ok (.iload 5, 2) := by decide +kernel
theorem d_M_named_93 : decode b_M_named 93 = .ok (.goto 5, 3) := by decide +kernel
theorem d_M_named_96 : decode b_M_named 96 = .ok (.iload 4, 2) := by decide +kernel
theorem d_M_named_98 : decode b_M_named 98 = .ok (.istore 4, 2) := by decide +kernel
theorem d_M_named_100 : decode b_M_named 100 = .ok (.iinc 5 1, 3) := by decide +kernel
theorem d_M_named_103 : decode b_M_named 103 = .ok (.goto (-94), 3) := by decide +kernel
theorem d_M_named_106 : decode b_M_named 106 = .ok (.iload 4, 2) := by decide +kernel
theorem d_M_named_108 : decode b_M_named 108 = .ok (.ifCond .lt 24, 3) := by decide +kernel
theorem d_M_named_111 : decode b_M_named 111 = .ok (.aload_n 0, 1) := by decide +kernel
theorem d_M_named_112 : decode b_M_named 112 = .ok (.aload_n 0, 1) := by decide +kernel
theorem d_M_named_113 : decode b_M_named 113 = .ok (.getfield 35, 3) := by decide +kernel
theorem d_M_named_116 : decode b_M_named 116 = .ok (.iload 4, 2) := by decide +kernel
theorem d_M_named_118 : decode b_M_named 118 = .ok (.iaload, 1) := by decide +kernel
theorem d_M_named_119 : decode b_M_named 119 = .ok (.aload_n 0, 1) := by decide +kernel
theorem d_M_named_120 : decode b_M_named 120 = .ok (.getfield 38, 3) := by decide +kernel
theorem d_M_named_123 : decode b_M_named 123 = .ok (.iload 4, 2) := by decide +kernel
theorem d_M_named_125 : decode b_M_named 125 = .ok (.iaload, 1) := by decide +kernel
theorem d_M_named_126 : decode b_M_named 126 = .ok (.invokevirtual 141, 3) := by decide +kernel
theorem d_M_named_129 : decode b_M_named 129 = .ok (.goto 28, 3) := by decide +kernel
theorem d_M_named_132 : decode b_M_named 132 = .ok (.aload_n 0, 1) := by decide +kernel
theorem d_M_named_133 : decode b_M_named 133 = .ok (.getfield 19, 3) := by decide +kernel
theorem d_M_named_136 : decode b_M_named 136 = .ok (.iload_n 1, 1) := by decide +kernel
theorem d_M_named_137 : decode b_M_named 137 = .ok (.baload, 1) := by decide +kernel
theorem d_M_named_138 : decode b_M_named 138 = .ok (.ifCond .eq 19, 3) := by decide +kernel
theorem d_M_named_141 : decode b_M_named 141 = .ok (.aload_n 0, 1) := by decide +kernel
theorem d_M_named_142 : decode b_M_named 142 = .ok (.aload_n 0, 1) := by decide +kernel
theorem d_M_named_143 : decode b_M_named 143 = .ok (.getfield 23, 3) := by decide +kernel
theorem d_M_named_146 : decode b_M_named 146 = .ok (.iload_n 1, 1) := by decide +kernel
theorem d_M_named_147 : decode b_M_named 147 = .ok (.iaload, 1) := by decide +kernel
theorem d_M_named_148 : decode b_M_named 148 = .ok (.aload_n 0, 1) := by decide +kernel
theorem d_M_named_149 : decode b_M_named 149 = .ok (.getfield 26, 3) := by decide +kernel
theorem d_M_named_152 : decode b_M_named 152 = .ok (.iload_n 1, 1) := by decide +kernel
theorem d_M_named_153 : decode b_M_named 153 = .ok (.iaload, 1) := by decide +kernel
theorem d_M_named_154 : decode b_M_named 154 = .ok (.invokevirtual 141, 3) := by decide +kernel
theorem d_M_named_157 : decode b_M_named 157 = .ok (.iload 4, 2) := by decide +kernel
theorem d_M_named_159 : decode b_M_named 159 = .ok (.ifCond .ge 12, 3) := by decide +kernel
theorem d_M_named_162 : decode b_M_named 162 = .ok (.aload_n 0, 1) := by decide +kernel
theorem d_M_named_163 : decode b_M_named 163 = .ok (.getfield 19, 3) := by decide +kernel
theorem d_M_named_166 : decode b_M_named 166 = .ok (.iload_n 1, 1) := by decide +kernel
theorem d_M_named_167 : decode b_M_named 167 = .ok (.baload, 1) := by decide +kernel
theorem d_M_named_168 : decode b_M_named 168 = .ok (.ifCond .eq 7, 3) := by decide +kernel
theorem d_M_named_171 : decode b_M_named 171 = .ok (.iconst 1, 1) := by decide +kernel
theorem d_M_named_172 : decode b_M_named 172 = .ok (.goto 4, 3) := by decide +kernel
theorem d_M_named_175 : decode b_M_named 175 = .ok (.iconst 0, 1) := by decide +kernel
theorem d_M_named_176 : decode b_M_named 176 = .ok (.ireturn, 1) := by decide +kernel
theorem d_M_makes_0 : decode b_M_makes 0 = .ok (.aload_n 0, 1) := by decide +kernel
theorem d_M_makes_1 : decode b_M_makes 1 = .ok (.getfield 138, 3) := by decide +kernel
theorem d_M_makes_4 : decode b_M_makes 4 = .ok (.ifCond .eq 5, 3) := by decide +kernel
theorem d_M_makes_7 : decode b_M_makes 7 = .ok (.iconst 0, 1) := by decide +kernel
theorem d_M_makes_8 : decode b_M_makes 8 = .ok (.ireturn, 1) := by decide +kernel
theorem d_M_makes_9 : decode b_M_makes 9 = .ok (.aload_n 0, 1) := by decide +kernel
theorem d_M_makes_10 : decode b_M_makes 10 = .ok (.getfield 135, 3) := by decide +kernel
theorem d_M_makes_13 : decode b_M_makes 13 = .ok (.aload_n 0, 1) := by decide +kernel
theorem d_M_makes_14 : decode b_M_makes 14 = .ok (.getfield 132, 3) := by decide +kernel
theorem d_M_makes_17 : decode b_M_makes 17 = .ok (.isub, 1) := by decide +kernel
theorem d_M_makes_18 : decode b_M_makes 18 = .ok (.iconst 1, 1) := by decide +kernel
theorem d_M_makes_19 : decode b_M_makes 19 = .ok (.iadd, 1) := by decide +kernel
theorem d_M_makes_20 : decode b_M_makes 20 = .ok (.iconst 3, 1) := by decide +kernel
theorem d_M_makes_21 : decode b_M_makes 21 = .ok (.idiv, 1) := by decide +kernel
theorem d_M_makes_22 : decode b_M_makes 22 = .ok (.istore_n 2, 1) := by decide +kernel
theorem d_M_makes_23 : decode b_M_makes 23 = .ok (.iload_n 1, 1) := by decide +kernel
theorem d_M_makes_24 : decode b_M_makes 24 = .ok (.iconst 3, 1) := by decide +kernel
theorem d_M_makes_25 : decode b_M_makes 25 = .ok (.if_icmp .ge 48, 3) := by decide +kernel
theorem d_M_makes_28 : decode b_M_makes 28 = .ok (.aload_n 0, 1) := by decide +kernel
theorem d_M_makes_29 : decode b_M_makes 29 = .ok (.getfield 132, 3) := by decide +kernel
theorem d_M_makes_32 : decode b_M_makes 32 = .ok (.iload_n 1, 1) := by decide +kernel
theorem d_M_makes_33 : decode b_M_makes 33 = .ok (.iload_n 2, 1) := by decide +kernel
theorem d_M_makes_34 : decode b_M_makes 34 = .ok (.imul, 1) := by decide +kernel
theorem d_M_makes_35 : decode b_M_makes 35 = .ok (.iadd, 1) := by decide +kernel
theorem d_M_makes_36 : decode b_M_makes 36 = .ok (.istore_n 3, 1) := by decide +kernel
theorem d_M_makes_37 : decode b_M_makes 37 = .ok (.aload_n 0, 1) := by decide +kernel
theorem d_M_makes_38 : decode b_M_makes 38 = .ok (.iload_n 1, 1) := by decide +kernel
theorem d_M_makes_39 : decode b_M_makes 39 = .ok (.iconst 2, 1) := by decide +kernel
theorem d_M_makes_40 : decode b_M_makes 40 = .ok (.if_icmp .ne 10, 3) := by decide +kernel
theorem d_M_makes_43 : decode b_M_makes 43 = .ok (.aload_n 0, 1) := by decide +kernel
theorem d_M_makes_44 : decode b_M_makes 44 = .ok (.getfield 135, 3) := by decide +kernel
theorem d_M_makes_47 : decode b_M_makes 47 = .ok (.goto 8, 3) := by decide +kernel
theorem d_M_makes_50 : decode b_M_makes 50 = .ok (.iload_n 3, 1) := by decide +kernel
theorem d_M_makes_51 : decode b_M_makes 51 = .ok (.iload_n 2, 1) := by decide +kernel
theorem d_M_makes_52 : decode b_M_makes 52 = .ok (.iadd, 1) := by decide +kernel
theorem d_M_makes_53 : decode b_M_makes 53 = .ok (.iconst 1, 1) := by decide +kernel
theorem d_M_makes_54 : decode b_M_makes 54 = .ok (.isub, 1) := by decide +kernel
theorem d_M_makes_55 : decode b_M_makes 55 = .ok (.putfield 135, 3) := by decide +kernel
theorem d_M_makes_58 : decode b_M_makes 58 = .ok (.aload_n 0, 1) := by decide +kernel
theorem d_M_makes_59 : decode b_M_makes 59 = .ok (.iload_n 3, 1) := by decide +kernel
theorem d_M_makes_60 : decode b_M_makes 60 = .ok (.putfield 132, 3) := by decide +kernel
theorem d_M_makes_63 : decode b_M_makes 63 = .ok (.iload_n 2, 1) := by decide +kernel
theorem d_M_makes_64 : decode b_M_makes 64 = .ok (.ifCond .le 7, 3) := by decide +kernel
theorem d_M_makes_67 : decode b_M_makes 67 = .ok (.iconst 1, 1) := by decide +kernel
theorem d_M_makes_68 : decode b_M_makes 68 = .ok (.goto 4, 3) := by decide +kernel
theorem d_M_makes_71 : decode b_M_makes 71 = .ok (.iconst 0, 1) := by decide +kernel
theorem d_M_makes_72 : decode b_M_makes 72 = .ok (.ireturn, 1) := by decide +kernel
theorem d_M_makes_73 : decode b_M_makes 73 = .ok (.iload_n 1, 1) := by decide +kernel
theorem d_M_makes_74 : decode b_M_makes 74 = .ok (.iconst 3, 1) := by decide +kernel
theorem d_M_makes_75 : decode b_M_makes 75 = .ok (.if_icmp .ne 73, 3) := by decide +kernel
theorem d_M_makes_78 : decode b_M_makes 78 = .ok (.aload_n 0, 1) := by decide +kernel
theorem d_M_makes_79 : decode b_M_makes 79 = .ok (.aload_n 0, 1) := by decide +kernel
theorem d_M_makes_80 : decode b_M_makes 80 = .ok (.getfield 132, 3) := by decide +kernel
theorem d_M_makes_83 : decode b_M_makes 83 = .ok (.aload_n 0, 1) := by decide +kernel
theorem d_M_makes_84 : decode b_M_makes 84 = .ok (.getfield 53, 3) := by decide +kernel
theorem d_M_makes_87 : decode b_M_makes 87 = .ok (.isub, 1) := by decide +kernel
theorem d_M_makes_88 : decode b_M_makes 88 = .ok (.sipush (-9999), 3) := by decide +kernel
theorem d_M_makes_91 : decode b_M_makes 91 = .ok (.if_icmp .ge 9, 3) := by decide +kernel
theorem d_M_makes_94 : decode b_M_makes 94 = .ok (.sipush (-9999), 3) := by decide +kernel
theorem d_M_makes_97 : decode b_M_makes 97 = .ok (.goto 12, 3) := by decide +kernel
theorem d_M_makes_100 : decode b_M_makes 100 = .ok (.aload_n 0, 1) := by decide +kernel
theorem d_M_makes_101 : decode b_M_makes 101 = .ok (.getfield 132, 3) := by decide +kernel
theorem d_M_makes_104 : decode b_M_makes 104 = .ok (.aload_n 0, 1) := by decide +kernel
theorem d_M_makes_105 : decode b_M_makes 105 = .ok (.getfield 53, 3) := by decide +kernel
theorem d_M_makes_108 : decode b_M_makes 108 = .ok (.isub, 1) := by decide +kernel
theorem d_M_makes_109 : decode b_M_makes 109 = .ok (.putfield 132, 3) := by decide +kernel
theorem d_M_makes_112 : decode b_M_makes 112 = .ok (.aload_n 0, 1) := by decide +kernel
theorem d_M_makes_113 : decode b_M_makes 113 = .ok (.aload_n 0, 1) := by decide +kernel
theorem d_M_makes_114 : decode b_M_makes 114 = .ok (.getfield 135, 3) := by decide +kernel
theorem d_M_makes_117 : decode b_M_makes 117 = .ok (.aload_n 0, 1) := by decide +kernel
theorem d_M_makes_118 : decode b_M_makes 118 = .ok (.getfield 53, 3) := by decide +kernel
theorem d_M_makes_121 : decode b_M_makes 121 = .ok (.iadd, 1) := by decide +kernel
theorem d_M_makes_122 : decode b_M_makes 122 = .ok (.sipush 9999, 3) := by decide +kernel
theorem d_M_makes_125 : decode b_M_makes 125 = .ok (.if_icmp .le 9, 3) := by decide +kernel
theorem d_M_makes_128 : decode b_M_makes 128 = .ok (.sipush 9999, 3) := by decide +kernel
theorem d_M_makes_131 : decode b_M_makes 131 = .ok (.goto 12, 3) := by decide +kernel
theorem d_M_makes_134 : decode b_M_makes 134 = .ok (.aload_n 0, 1) := by decide +kernel
theorem d_M_makes_135 : decode b_M_makes 135 = .ok (.getfield 135, 3) := by decide +kernel
theorem d_M_makes_138 : decode b_M_makes 138 = .ok (.aload_n 0, 1) := by decide +kernel
theorem d_M_makes_139 : decode b_M_makes 139 = .ok (.getfield 53, 3) := by decide +kernel
theorem d_M_makes_142 : decode b_M_makes 142 = .ok (.iadd, 1) := by decide +kernel
theorem d_M_makes_143 : decode b_M_makes 143 = .ok (.putfield 135, 3) := by decide +kernel
theorem d_M_makes_146 : decode b_M_makes 146 = .ok (.iconst 1, 1) := by decide +kernel
theorem d_M_makes_147 : decode b_M_makes 147 = .ok (.ireturn, 1) := by decide +kernel
theorem d_M_makes_148 : decode b_M_makes 148 = .ok (.iload_n 1, 1) := by decide +kernel
theorem d_M_makes_149 : decode b_M_makes 149 = .ok (.iconst 4, 1) := by decide +kernel
theorem d_M_makes_150 : decode b_M_makes 150 = .ok (.if_icmp .ne 34, 3) := by decide +kernel
theorem d_M_makes_153 : decode b_M_makes 153 = .ok (.aload_n 0, 1) := by decide +kernel
theorem d_M_makes_154 : decode b_M_makes 154 = .ok (.aload_n 0, 1) := by decide +kernel
theorem d_M_makes_155 : decode b_M_makes 155 = .ok (.getfield 132, 3) := by decide +kernel
theorem d_M_makes_158 : decode b_M_makes 158 = .ok (.iconst 1, 1) := by decide +kernel
theorem d_M_makes_159 : decode b_M_makes 159 = .ok (.isub, 1) := by decide +kernel
theorem d_M_makes_160 : decode b_M_makes 160 = .ok (.putfield 135, 3) := by decide +kernel
theorem d_M_makes_163 : decode b_M_makes 163 = .ok (.aload_n 0, 1) := by decide +kernel
theorem d_M_makes_164 : decode b_M_makes 164 = .ok (.iconst 1, 1) := by decide +kernel
theorem d_M_makes_165 : decode b_M_makes 165 = .ok (.putfield 138, 3) := by decide +kernel
theorem d_M_makes_168 : decode b_M_makes 168 = .ok (.aload_n 0, 1) := by decide +kernel
theorem d_M_makes_169 : decode b_M_makes 169 = .ok (.getfield 135, 3) := by decide +kernel
theorem d_M_makes_172 : decode b_M_makes 172 = .ok (.sipush (-9999), 3) := by decide +kernel
theorem d_M_makes_175 : decode b_M_makes 175 = .ok (.if_icmp .lt 7, 3) := by decide +kernel
theorem d_M_makes_178 : decode b_M_makes 178 = .ok (.iconst 1, 1) := by decide +kernel
theorem d_M_makes_179 : decode b_M_makes 179 = .ok (.goto 4, 3) := by decide +kernel
theorem d_M_makes_182 : decode b_M_makes 182 = .ok (.iconst 0, 1) := by decide +kernel
theorem d_M_makes_183 : decode b_M_makes 183 = .ok (.ireturn, 1) := by decide +kernel
theorem d_M_makes_184 : decode b_M_makes 184 = .ok (.aload_n 0, 1) := by decide +kernel
theorem d_M_makes_185 : decode b_M_makes 185 = .ok (.aload_n 0, 1) := by decide +kernel
theorem d_M_makes_186 : decode b_M_makes 186 = .ok (.getfield 135, 3) := by decide +kernel
theorem d_M_makes_189 : decode b_M_makes 189 = .ok (.iconst 1, 1) := by decide +kernel
theorem d_M_makes_190 : decode b_M_makes 190 = .ok (.iadd, 1) := by decide +kernel
theorem d_M_makes_191 : decode b_M_makes 191 = .ok (.putfield 132, 3) := by decide +kernel
theorem d_M_makes_194 : decode b_M_makes 194 = .ok (.aload_n 0, 1) := by decide +kernel
theorem d_M_makes_195 : decode b_M_makes 195 = .ok (.iconst 2, 1) := by decide +kernel
theorem d_M_makes_196 : decode b_M_makes 196 = .ok (.putfield 138, 3) := by decide +kernel
theorem d_M_makes_199 : decode b_M_makes 199 = .ok (.aload_n 0, 1) := by decide +kernel
theorem d_M_makes_200 : decode b_M_makes 200 = .ok (.getfield 132, 3) := by decide +kernel
theorem d_M_makes_203 : decode b_M_makes 203 = .ok (.sipush 9999, 3) := by decide +kernel
theorem d_M_makes_206 : decode b_M_makes 206 = .ok (.if_icmp .gt 7, 3) := by decide +kernel
theorem d_M_makes_209 : decode b_M_makes 209 = .ok (.iconst 1, 1) := by decide +kernel
theorem d_M_makes_210 : decode b_M_makes 210 = .ok (.goto 4, 3) := by decide +kernel
theorem d_M_makes_213 : decode b_M_makes 213 = .ok (.iconst 0, 1) := by decide +kernel
theorem d_M_makes_214 : decode b_M_makes 214 = .ok (.ireturn, 1) := by decide +kernel
theorem d_M_make_0 : decode b_M_make 0 = .ok (.aload_n 0, 1) := by decide +kernel
theorem d_M_make_1 : decode b_M_make 1 = .ok (.getfield 44, 3) := by decide +kernel
theorem d_M_make_4 : decode b_M_make 4 = .ok (.aload_n 0, 1) := by decide +kernel
theorem d_M_make_5 : decode b_M_make 5 = .ok (.getfield 79, 3) := by decide +kernel
theorem d_M_make_8 : decode b_M_make 8 = .ok (.aload_n 0, 1) := by decide +kernel
theorem d_M_make_9 : decode b_M_make 9 = .ok (.getfield 132, 3) := by decide +kernel
theorem d_M_make_12 : decode b_M_make 12 = .ok (.iastore, 1) := by decide +kernel
theorem d_M_make_13 : decode b_M_make 13 = .ok (.aload_n 0, 1) := by decide +kernel
theorem d_M_make_14 : decode b_M_make 14 = .ok (.getfield 47, 3) := by decide +kernel
theorem d_M_make_17 : decode b_M_make 17 = .ok (.aload_n 0, 1) := by decide +kernel
theorem d_M_make_18 : decode b_M_make 18 = .ok (.getfield 79, 3) := by decide +kernel
theorem d_M_make_21 : decode b_M_make 21 = .ok (.aload_n 0, 1) := by decide +kernel
theorem d_M_make_22 : decode b_M_make 22 = .ok (.getfield 135, 3) := by decide +kernel
theorem d_M_make_25 : decode b_M_make 25 = .ok (.iastore, 1) := by decide +kernel
theorem d_M_make_26 : decode b_M_make 26 = .ok (.aload_n 0, 1) := by decide +kernel
theorem d_M_make_27 : decode b_M_make 27 = .ok (.getfield 50, 3) := by decide +kernel
theorem d_M_make_30 : decode b_M_make 30 = .ok (.aload_n 0, 1) := by decide +kernel
theorem d_M_make_31 : decode b_M_make 31 = .ok (.getfield 79, 3) := by decide +kernel
theorem d_M_make_34 : decode b_M_make 34 = .ok (.aload_n 0, 1) := by decide +kernel
theorem d_M_make_35 : decode b_M_make 35 = .ok (.getfield 138, 3) := by decide +kernel
theorem d_M_make_38 : decode b_M_make 38 = .ok (.iastore, 1) := by decide +kernel
theorem d_M_make_39 : decode b_M_make 39 = .ok (.aload_n 0, 1) := by decide +kernel
theorem d_M_make_40 : decode b_M_make 40 = .ok (.dup, 1) := by decide +kernel
theorem d_M_make_41 : decode b_M_make 41 = .ok (.getfield 79, 3) := by decide +kernel
theorem d_M_make_44 : decode b_M_make 44 = .ok (.iconst 1, 1) := by decide +kernel
theorem d_M_make_45 : decode b_M_make 45 = .ok (.iadd, 1) := by decide +kernel
theorem d_M_make_46 : decode b_M_make 46 = .ok (.putfield 79, 3) := by decide +kernel
theorem d_M_make_49 : decode b_M_make 49 = .ok (.aload_n 0, 1) := by decide +kernel
theorem d_M_make_50 : decode b_M_make 50 = .ok (.getfield 79, 3) := by decide +kernel
theorem d_M_make_53 : decode b_M_make 53 = .ok (.iconst 1, 1) := by decide +kernel
theorem d_M_make_54 : decode b_M_make 54 = .ok (.isub, 1) := by decide +kernel
theorem d_M_make_55 : decode b_M_make 55 = .ok (.ireturn, 1) := by decide +kernel
theorem d_M_span_0 : decode b_M_span 0 = .ok (.iload_n 1, 1) := by decide +kernel
theorem d_M_span_1 : decode b_M_span 1 = .ok (.invokestatic 102, 3) := by decide +kernel
theorem d_M_span_4 : decode b_M_span 4 = .ok (.ifCond .eq 15, 3) := by decide +kernel
theorem d_M_span_7 : decode b_M_span 7 = .ok (.iload_n 2, 1) := by decide +kernel
theorem d_M_span_8 : decode b_M_span 8 = .ok (.invokestatic 102, 3) := by decide +kernel
theorem d_M_span_11 : decode b_M_span 11 = .ok (.ifCond .eq 8, 3) := by decide +kernel
theorem d_M_span_14 : decode b_M_span 14 = .ok (.iload_n 1, 1) := by decide +kernel
theorem d_M_span_15 : decode b_M_span 15 = .ok (.iload_n 2, 1) := by decide +kernel
theorem d_M_span_16 : decode b_M_span 16 = .ok (.if_icmp .le 9, 3) := by decide +kernel
theorem d_M_span_19 : decode b_M_span 19 = .ok (.aload_n 0, 1) := by decide +kernel
theorem d_M_span_20 : decode b_M_span 20 = .ok (.iconst 1, 1) := by decide +kernel
theorem d_M_span_21 : decode b_M_span 21 = .ok (.invokevirtual 89, 3) := by decide +kernel
theorem d_M_span_24 : decode b_M_span 24 = .ok (.ireturn, 1) := by decide +kernel
theorem d_M_span_25 : decode b_M_span 25 = .ok (.aload_n 0, 1) := by decide +kernel
theorem d_M_span_26 : decode b_M_span 26 = .ok (.getfield 79, 3) := by decide +kernel
theorem d_M_span_29 : decode b_M_span 29 = .ok (.bipush 60, 2) := by decide +kernel
theorem d_M_span_31 : decode b_M_span 31 = .ok (.if_icmp .ne 9, 3) := by decide +kernel
theorem d_M_span_34 : decode b_M_span 34 = .ok (.aload_n 0, 1) := by decide +kernel
theorem d_M_span_35 : decode b_M_span 35 = .ok (.iconst 2, 1) := by decide +kernel
theorem d_M_span_36 : decode b_M_span 36 = .ok (.invokevirtual 89, 3) := by decide +kernel
theorem d_M_span_39 : decode b_M_span 39 = .ok (.ireturn, 1) := by decide +kernel
theorem d_M_span_40 : decode b_M_span 40 = .ok (.aload_n 0, 1) := by decide +kernel
theorem d_M_span_41 : decode b_M_span 41 = .ok (.iconst 0, 1) := by decide +kernel
theorem d_M_span_42 : decode b_M_span 42 = .ok (.putfield 69, 3) := by decide +kernel
theorem d_M_span_45 : decode b_M_span 45 = .ok (.aload_n 0, 1) := by decide +kernel
theorem d_M_span_46 : decode b_M_span 46 = .ok (.iload_n 1, 1) := by decide +kernel
theorem d_M_span_47 : decode b_M_span 47 = .ok (.iload_n 2, 1) := by decide +kernel
theorem d_M_span_48 : decode b_M_span 48 = .ok (.invokevirtual 141, 3) := by decide +kernel
theorem d_M_span_51 : decode b_M_span 51 = .ok (.aload_n 0, 1) := by decide +kernel
theorem d_M_span_52 : decode b_M_span 52 = .ok (.invokevirtual 160, 3) := by decide +kernel
theorem d_M_span_55 : decode b_M_span 55 = .ok (.ireturn, 1) := by decide +kernel
theorem d_M_end_0 : decode b_M_end 0 = .ok (.aload_n 0, 1) := by decide +kernel
theorem d_M_end_1 : decode b_M_end 1 = .ok (.iload_n 1, 1) := by decide +kernel
theorem d_M_end_2 : decode b_M_end 2 = .ok (.invokevirtual 164, 3) := by decide +kernel
theorem d_M_end_5 : decode b_M_end 5 = .ok (.ifCond .eq 16, 3) := by decide +kernel
theorem d_M_end_8 : decode b_M_end 8 = .ok (.iload_n 2, 1) := by decide +kernel
theorem d_M_end_9 : decode b_M_end 9 = .ok (.iconst 0, 1) := by decide +kernel
theorem d_M_end_10 : decode b_M_end 10 = .ok (.iconst 1, 1) := by decide +kernel
theorem d_M_end_11 : decode b_M_end 11 = .ok (.invokestatic 72, 3) := by decide +kernel
theorem d_M_end_14 : decode b_M_end 14 = .ok (.ifCond .eq 7, 3) := by decide +kernel
theorem d_M_end_17 : decode b_M_end 17 = .ok (.iconst 1, 1) := by decide +kernel
theorem d_M_end_18 : decode b_M_end 18 = .ok (.goto 4, 3) := by decide +kernel
theorem d_M_end_21 : decode b_M_end 21 = .ok (.iconst 0, 1) := by decide +kernel
theorem d_M_end_22 : decode b_M_end 22 = .ok (.istore_n 3, 1) := by decide +kernel
theorem d_M_end_23 : decode b_M_end 23 = .ok (.aload_n 0, 1) := by decide +kernel
theorem d_M_end_24 : decode b_M_end 24 = .ok (.iload_n 3, 1) := by decide +kernel
theorem d_M_end_25 : decode b_M_end 25 = .ok (.ifCond .ne 7, 3) := by decide +kernel
theorem d_M_end_28 : decode b_M_end 28 = .ok (.iconst 1, 1) := by decide +kernel
theorem d_M_end_29 : decode b_M_end 29 = .ok (.goto 17, 3) := by decide +kernel
theorem d_M_end_32 : decode b_M_end 32 = .ok (.aload_n 0, 1) := by decide +kernel
theorem d_M_end_33 : decode b_M_end 33 = .ok (.iload_n 1, 1) := by decide +kernel
theorem d_M_end_34 : decode b_M_end 34 = .ok (.iload_n 2, 1) := by decide +kernel
theorem d_M_end_35 : decode b_M_end 35 = .ok (.invokevirtual 167, 3) := by decide +kernel
theorem d_M_end_38 : decode b_M_end 38 = .ok (.ifCond .eq 7, 3) := by decide +kernel
theorem d_M_end_41 : decode b_M_end 41 = .ok (.iconst 2, 1) := by decide +kernel
theorem d_M_end_42 : decode b_M_end 42 = .ok (.goto 4, 3) := by decide +kernel
theorem d_M_end_45 : decode b_M_end 45 = .ok (.iconst 0, 1) := by decide +kernel
theorem d_M_end_46 : decode b_M_end 46 = .ok (.putfield 69, 3) := by decide +kernel
theorem d_M_end_49 : decode b_M_end 49 = .ok (.aload_n 0, 1) := by decide +kernel
theorem d_M_end_50 : decode b_M_end 50 = .ok (.getfield 69, 3) := by decide +kernel
theorem d_M_end_53 : decode b_M_end 53 = .ok (.ifCond .le 7, 3) := by decide +kernel
theorem d_M_end_56 : decode b_M_end 56 = .ok (.iconst 0, 1) := by decide +kernel
theorem d_M_end_57 : decode b_M_end 57 = .ok (.goto 22, 3) := by decide +kernel
theorem d_M_end_60 : decode b_M_end 60 = .ok (.iload_n 2, 1) := by decide +kernel
theorem d_M_end_61 : decode b_M_end 61 = .ok (.ifCond .ne 12, 3) := by decide +kernel
theorem d_M_end_64 : decode b_M_end 64 = .ok (.aload_n 0, 1) := by decide +kernel
theorem d_M_end_65 : decode b_M_end 65 = .ok (.getfield 44, 3) := by decide +kernel
theorem d_M_end_68 : decode b_M_end 68 = .ok (.iload_n 1, 1) := by decide +kernel
theorem d_M_end_69 : decode b_M_end 69 = .ok (.iaload, 1) := by decide +kernel
theorem d_M_end_70 : decode b_M_end 70 = .ok (.goto 9, 3) := by decide +kernel
theorem d_M_end_73 : decode b_M_end 73 = .ok (.aload_n 0, 1) := by decide +kernel
theorem d_M_end_74 : decode b_M_end 74 = .ok (.getfield 47, 3) := by decide +kernel
theorem d_M_end_77 : decode b_M_end 77 = .ok (.iload_n 1, 1) := by decide +kernel
theorem d_M_end_78 : decode b_M_end 78 = .ok (.iaload, 1) := by decide +kernel
theorem d_M_end_79 : decode b_M_end 79 = .ok (.ireturn, 1) := by decide +kernel
theorem d_M_isSpan_0 : decode b_M_isSpan 0 = .ok (.iload_n 1, 1) := by decide +kernel
theorem d_M_isSpan_1 : decode b_M_isSpan 1 = .ok (.ifCond .lt 15, 3) := by decide +kernel
theorem d_M_isSpan_4 : decode b_M_isSpan 4 = .ok (.iload_n 1, 1) := by decide +kernel
theorem d_M_isSpan_5 : decode b_M_isSpan 5 = .ok (.aload_n 0, 1) := by decide +kernel
theorem d_M_isSpan_6 : decode b_M_isSpan 6 = .ok (.getfield 79, 3) := by decide +kernel
theorem d_M_isSpan_9 : decode b_M_isSpan 9 = .ok (.if_icmp .ge 7, 3) := by decide +kernel
theorem d_M_isSpan_12 : decode b_M_isSpan 12 = .ok (.iconst 1, 1) := by decide +kernel
theorem d_M_isSpan_13 : decode b_M_isSpan 13 = .ok (.goto 4, 3) := by decide +kernel
theorem d_M_isSpan_16 : decode b_M_isSpan 16 = .ok (.iconst 0, 1) := by decide +kernel
theorem d_M_isSpan_17 : decode b_M_isSpan 17 = .ok (.ireturn, 1) := by decide +kernel
theorem d_M_isOpen_0 : decode b_M_isOpen 0 = .ok (.aload_n 0, 1) := by decide +kernel
theorem d_M_isOpen_1 : decode b_M_isOpen 1 = .ok (.getfield 50, 3) := by decide +kernel
theorem d_M_isOpen_4 : decode b_M_isOpen 4 = .ok (.iload_n 1, 1) := by decide +kernel
theorem d_M_isOpen_5 : decode b_M_isOpen 5 = .ok (.iaload, 1) := by decide +kernel
theorem d_M_isOpen_6 : decode b_M_isOpen 6 = .ok (.iload_n 2, 1) := by decide +kernel
theorem d_M_isOpen_7 : decode b_M_isOpen 7 = .ok (.ishr, 1) := by decide +kernel
theorem d_M_isOpen_8 : decode b_M_isOpen 8 = .ok (.iconst 1, 1) := by decide +kernel
theorem d_M_isOpen_9 : decode b_M_isOpen 9 = .ok (.iand, 1) := by decide +kernel
theorem d_M_isOpen_10 : decode b_M_isOpen 10 = .ok (.iconst 1, 1) := by decide +kernel
theorem d_M_isOpen_11 : decode b_M_isOpen 11 = .ok (.if_icmp .ne 7, 3) := by decide +kernel
theorem d_M_isOpen_14 : decode b_M_isOpen 14 = .ok (.iconst 1, 1) := by decide +kernel
theorem d_M_isOpen_15 : decode b_M_isOpen 15 = .ok (.goto 4, 3) := by decide +kernel
theorem d_M_isOpen_18 : decode b_M_isOpen 18 = .ok (.iconst 0, 1) := by decide +kernel
theorem d_M_isOpen_19 : decode b_M_isOpen 19 = .ok (.ireturn, 1) := by decide +kernel
theorem d_M_open_0 : decode b_M_open 0 = .ok (.aload_n 0, 1) := by decide +kernel
theorem d_M_open_1 : decode b_M_open 1 = .ok (.aload_n 0, 1) := by decide +kernel
theorem d_M_open_2 : decode b_M_open 2 = .ok (.iload_n 1, 1) := by decide +kernel
theorem d_M_open_3 : decode b_M_open 3 = .ok (.invokevirtual 164, 3) := by decide +kernel
theorem d_M_open_6 : decode b_M_open 6 = .ok (.ifCond .eq 16, 3) := by decide +kernel
theorem d_M_open_9 : decode b_M_open 9 = .ok (.iload_n 2, 1) := by decide +kernel
theorem d_M_open_10 : decode b_M_open 10 = .ok (.iconst 0, 1) := by decide +kernel
theorem d_M_open_11 : decode b_M_open 11 = .ok (.iconst 1, 1) := by decide +kernel
theorem d_M_open_12 : decode b_M_open 12 = .ok (.invokestatic 72, 3) := by decide +kernel
theorem d_M_open_15 : decode b_M_open 15 = .ok (.ifCond .eq 7, 3) := by decide +kernel
theorem d_M_open_18 : decode b_M_open 18 = .ok (.iconst 0, 1) := by decide +kernel
theorem d_M_open_19 : decode b_M_open 19 = .ok (.goto 4, 3) := by decide +kernel
theorem d_M_open_22 : decode b_M_open 22 = .ok (.iconst 1, 1) := by decide +kernel
theorem d_M_open_23 : decode b_M_open 23 = .ok (.putfield 69, 3) := by decide +kernel
theorem d_M_open_26 : decode b_M_open 26 = .ok (.aload_n 0, 1) := by decide +kernel
theorem d_M_open_27 : decode b_M_open 27 = .ok (.getfield 69, 3) := by decide +kernel
theorem d_M_open_30 : decode b_M_open 30 = .ok (.ifCond .ne 16, 3) := by decide +kernel
theorem d_M_open_33 : decode b_M_open 33 = .ok (.aload_n 0, 1) := by decide +kernel
theorem d_M_open_34 : decode b_M_open 34 = .ok (.iload_n 1, 1) := by decide +kernel
theorem d_M_open_35 : decode b_M_open 35 = .ok (.iload_n 2, 1) := by decide +kernel
theorem d_M_open_36 : decode b_M_open 36 = .ok (.invokevirtual 167, 3) := by decide +kernel
theorem d_M_open_39 : decode b_M_open 39 = .ok (.ifCond .eq 7, 3) := by decide +kernel
theorem d_M_open_42 : decode b_M_open 42 = .ok (.iconst 1, 1) := by decide +kernel
theorem d_M_open_43 : decode b_M_open 43 = .ok (.goto 4, 3) := by decide +kernel
theorem d_M_open_46 : decode b_M_open 46 = .ok (.iconst 0, 1) := by decide +kernel
theorem d_M_open_47 : decode b_M_open 47 = .ok (.ireturn, 1) := by decide +kernel
theorem d_M_join_0 : decode b_M_join 0 = .ok (.aload_n 0, 1) := by decide +kernel
theorem d_M_join_1 : decode b_M_join 1 = .ok (.iload_n 1, 1) := by decide +kernel
theorem d_M_join_2 : decode b_M_join 2 = .ok (.invokevirtual 164, 3) := by decide +kernel
theorem d_M_join_5 : decode b_M_join 5 = .ok (.ifCond .eq 11, 3) := by decide +kernel
theorem d_M_join_8 : decode b_M_join 8 = .ok (.aload_n 0, 1) := by decide +kernel
theorem d_M_join_9 : decode b_M_join 9 = .ok (.iload_n 2, 1) := by decide +kernel
theorem d_M_join_10 : decode b_M_join 10 = .ok (.invokevirtual 164, 3) := by decide +kernel
theorem d_M_join_13 : decode b_M_join 13 = .ok (.ifCond .ne 9, 3) := by decide +kernel
theorem d_M_join_16 : decode b_M_join 16 = .ok (.aload_n 0, 1) := by decide +kernel
theorem d_M_join_17 : decode b_M_join 17 = .ok (.iconst 1, 1) := by decide +kernel
theorem d_M_join_18 : decode b_M_join 18 = .ok (.invokevirtual 89, 3) := by decide +kernel
theorem d_M_join_21 : decode b_M_join 21 = .ok (.ireturn, 1) := by decide +kernel
theorem d_M_join_22 : decode b_M_join 22 = .ok (.aload_n 0, 1) := by decide +kernel
theorem d_M_join_23 : decode b_M_join 23 = .ok (.getfield 79, 3) := by decide +kernel
theorem d_M_join_26 : decode b_M_join 26 = .ok (.bipush 60, 2) := by decide +kernel
theorem d_M_join_28 : decode b_M_join 28 = .ok (.if_icmp .ne 9, 3) := by decide +kernel
theorem d_M_join_31 : decode b_M_join 31 = .ok (.aload_n 0, 1) := by decide +kernel
theorem d_M_join_32 : decode b_M_join 32 = .ok (.iconst 2, 1) := by decide +kernel
theorem d_M_join_33 : decode b_M_join 33 = .ok (.invokevirtual 89, 3) := by decide +kernel
theorem d_M_join_36 : decode b_M_join 36 = .ok (.ireturn, 1) := by decide +kernel
theorem d_M_join_37 : decode b_M_join 37 = .ok (.aload_n 0, 1) := by decide +kernel
theorem d_M_join_38 : decode b_M_join 38 = .ok (.iconst 0, 1) := by decide +kernel
theorem d_M_join_39 : decode b_M_join 39 = .ok (.putfield 69, 3) := by decide +kernel
theorem d_M_join_42 : decode b_M_join 42 = .ok (.aload_n 0, 1) := by decide +kernel
theorem d_M_join_43 : decode b_M_join 43 = .ok (.aload_n 0, 1) := by decide +kernel
theorem d_M_join_44 : decode b_M_join 44 = .ok (.getfield 44, 3) := by decide +kernel
theorem d_M_join_47 : decode b_M_join 47 = .ok (.iload_n 1, 1) := by decide +kernel
theorem d_M_join_48 : decode b_M_join 48 = .ok (.iaload, 1) := by decide +kernel
theorem d_M_join_49 : decode b_M_join 49 = .ok (.aload_n 0, 1) := by decide +kernel
theorem d_M_join_50 : decode b_M_join 50 = .ok (.getfield 44, 3) := by decide +kernel
theorem d_M_join_53 : decode b_M_join 53 = .ok (.iload_n 2, 1) := by decide +kernel
theorem d_M_join_54 : decode b_M_join 54 = .ok (.iaload, 1) := by decide +kernel
theorem d_M_join_55 : decode b_M_join 55 = .ok (.if_icmp .ge 12, 3) := by decide +kernel
theorem d_M_join_58 : decode b_M_join 58 = .ok (.aload_n 0, 1) := by decide +kernel
theorem d_M_join_59 : decode b_M_join 59 = .ok (.getfield 44, 3) := by decide +kernel
theorem d_M_join_62 : decode b_M_join 62 = .ok (.iload_n 1, 1) := by decide +kernel
theorem d_M_join_63 : decode b_M_join 63 = .ok (.iaload, 1) := by decide +kernel
theorem d_M_join_64 : decode b_M_join 64 = .ok (.goto 9, 3) := by decide +kernel
theorem d_M_join_67 : decode b_M_join 67 = .ok (.aload_n 0, 1) := by decide +kernel
theorem d_M_join_68 : decode b_M_join 68 = .ok (.getfield 44, 3) := by decide +kernel
theorem d_M_join_71 : decode b_M_join 71 = .ok (.iload_n 2, 1) := by decide +kernel
theorem d_M_join_72 : decode b_M_join 72 = .ok (.iaload, 1) := by decide +kernel
theorem d_M_join_73 : decode b_M_join 73 = .ok (.putfield 132, 3) := by decide +kernel
theorem d_M_join_76 : decode b_M_join 76 = .ok (.aload_n 0, 1) := by decide +kernel
theorem d_M_join_77 : decode b_M_join 77 = .ok (.aload_n 0, 1) := by decide +kernel
theorem d_M_join_78 : decode b_M_join 78 = .ok (.getfield 47, 3) := by decide +kernel
theorem d_M_join_81 : decode b_M_join 81 = .ok (.iload_n 1, 1) := by decide +kernel
theorem d_M_join_82 : decode b_M_join 82 = .ok (.iaload, 1) := by decide +kernel
theorem d_M_join_83 : decode b_M_join 83 = .ok (.aload_n 0, 1) := by decide +kernel
theorem d_M_join_84 : decode b_M_join 84 = .ok (.getfield 47, 3) := by decide +kernel
theorem d_M_join_87 : decode b_M_join 87 = .ok (.iload_n 2, 1) := by decide +kernel
theorem d_M_join_88 : decode b_M_join 88 = .ok (.iaload, 1) := by decide +kernel
theorem d_M_join_89 : decode b_M_join 89 = .ok (.if_icmp .le 12, 3) := by decide +kernel
theorem d_M_join_92 : decode b_M_join 92 = .ok (.aload_n 0, 1) := by decide +kernel
theorem d_M_join_93 : decode b_M_join 93 = .ok (.getfield 47, 3) := by decide +kernel
theorem d_M_join_96 : decode b_M_join 96 = .ok (.iload_n 1, 1) := by decide +kernel
theorem d_M_join_97 : decode b_M_join 97 = .ok (.iaload, 1) := by decide +kernel
theorem d_M_join_98 : decode b_M_join 98 = .ok (.goto 9, 3) := by decide +kernel
theorem d_M_join_101 : decode b_M_join 101 = .ok (.aload_n 0, 1) := by decide +kernel
theorem d_M_join_102 : decode b_M_join 102 = .ok (.getfield 47, 3) := by decide +kernel
theorem d_M_join_105 : decode b_M_join 105 = .ok (.iload_n 2, 1) := by decide +kernel
theorem d_M_join_106 : decode b_M_join 106 = .ok (.iaload, 1) := by decide +kernel
theorem d_M_join_107 : decode b_M_join 107 = .ok (.putfield 135, 3) := by decide +kernel
theorem d_M_join_110 : decode b_M_join 110 = .ok (.aload_n 0, 1) := by decide +kernel
theorem d_M_join_111 : decode b_M_join 111 = .ok (.aload_n 0, 1) := by decide +kernel
theorem d_M_join_112 : decode b_M_join 112 = .ok (.getfield 50, 3) := by decide +kernel
theorem d_M_join_115 : decode b_M_join 115 = .ok (.iload_n 1, 1) := by decide +kernel
theorem d_M_join_116 : decode b_M_join 116 = .ok (.iaload, 1) := by decide +kernel
theorem d_M_join_117 : decode b_M_join 117 = .ok (.aload_n 0, 1) := by decide +kernel
theorem d_M_join_118 : decode b_M_join 118 = .ok (.getfield 50, 3) := by decide +kernel
theorem d_M_join_121 : decode b_M_join 121 = .ok (.iload_n 2, 1) := by decide +kernel
theorem d_M_join_122 : decode b_M_join 122 = .ok (.iaload, 1) := by decide +kernel
theorem d_M_join_123 : decode b_M_join 123 = .ok (.ior, 1) := by decide +kernel
theorem d_M_join_124 : decode b_M_join 124 = .ok (.putfield 138, 3) := by decide +kernel
theorem d_M_join_127 : decode b_M_join 127 = .ok (.aload_n 0, 1) := by decide +kernel
theorem d_M_join_128 : decode b_M_join 128 = .ok (.invokevirtual 160, 3) := by decide +kernel
theorem d_M_join_131 : decode b_M_join 131 = .ok (.ireturn, 1) := by decide +kernel
theorem d_M_relations_0 : decode b_M_relations 0 = .ok (.aload_n 0, 1) := by decide +kernel
theorem d_M_relations_1 : decode b_M_relations 1 = .ok (.iload_n 1, 1) := by decide +kernel
theorem d_M_relations_2 : decode b_M_relations 2 = .ok (.invokevirtual 164, 3) := by decide +kernel
theorem d_M_relations_5 : decode b_M_relations 5 = .ok (.ifCond .eq 11, 3) := by decide +kernel
theorem d_M_relations_8 : decode b_M_relations 8 = .ok (.aload_n 0, 1) := by decide +kernel
theorem d_M_relations_9 : decode b_M_relations 9 = .ok (.iload_n 2, 1) := by decide +kernel
theorem d_M_relations_10 : decode b_M_relations 10 = .ok (.invokevirtual 164, 3) := by decide +kernel
theorem d_M_relations_13 : decode b_M_relations 13 = .ok (.ifCond .ne 9, 3) := by decide +kernel
theorem d_M_relations_16 : decode b_M_relations 16 = .ok (.aload_n 0, 1) := by decide +kernel
theorem d_M_relations_17 : decode b_M_relations 17 = .ok (.iconst 1, 1) := by decide +kernel
theorem d_M_relations_18 : decode b_M_relations 18 = .ok (.invokevirtual 89, 3) := by decide +kernel
theorem d_M_relations_21 : decode b_M_relations 21 = .ok (.ireturn, 1) := by decide +kernel
theorem d_M_relations_22 : decode b_M_relations 22 = .ok (.aload_n 0, 1) := by decide +kernel
theorem d_M_relations_23 : decode b_M_relations 23 = .ok (.iconst 0, 1) := by decide +kernel
theorem d_M_relations_24 : decode b_M_relations 24 = .ok (.putfield 69, 3) := by decide +kernel
theorem d_M_relations_27 : decode b_M_relations 27 = .ok (.aload_n 0, 1) := by decide +kernel
theorem d_M_relations_28 : decode b_M_relations 28 = .ok (.iload_n 1, 1) := by decide +kernel
theorem d_M_relations_29 : decode b_M_relations 29 = .ok (.invokevirtual 170, 3) := by decide +kernel
theorem d_M_relations_32 : decode b_M_relations 32 = .ok (.istore_n 3, 1) := by decide +kernel
theorem d_M_relations_33 : decode b_M_relations 33 = .ok (.aload_n 0, 1) := by decide +kernel
theorem d_M_relations_34 : decode b_M_relations 34 = .ok (.iload_n 1, 1) := by decide +kernel
theorem d_M_relations_35 : decode b_M_relations 35 = .ok (.invokevirtual 173, 3) := by decide +kernel
theorem d_M_relations_38 : decode b_M_relations 38 = .ok (.istore 4, 2) := by decide +kernel
theorem d_M_relations_40 : decode b_M_relations 40 = .ok (.aload_n 0, 1) := by decide +kernel
theorem d_M_relations_41 : decode b_M_relations 41 = .ok (.iload_n 2, 1) := by decide +kernel
theorem d_M_relations_42 : decode b_M_relations 42 = .ok (.invokevirtual 170, 3) := by decide +kernel
theorem d_M_relations_45 : decode b_M_relations 45 = .ok (.istore 5, 2) := by decide +kernel
theorem d_M_relations_47 : decode b_M_relations 47 = .ok (.aload_n 0, 1) := by decide +kernel
theorem d_M_relations_48 : decode b_M_relations 48 = .ok (.iload_n 2, 1) := by decide +kernel
theorem d_M_relations_49 : decode b_M_relations 49 = .ok (.invokevirtual 173, 3) := by decide +kernel
theorem d_M_relations_52 : decode b_M_relations 52 = .ok (.istore 6, 2) := by decide +kernel
theorem d_M_relations_54 : decode b_M_relations 54 = .ok (.iconst 0, 1) := by decide +kernel
theorem d_M_relations_55 : decode b_M_relations 55 = .ok (.istore 7, 2) := by decide +kernel
theorem d_M_relations_57 : decode b_M_relations 57 = .ok (.iconst 0, 1) := by decide +kernel
theorem d_M_relations_58 : decode b_M_relations 58 = .ok (.istore 8, 2) := by decide +kernel
theorem d_M_relations_60 : decode b_M_relations 60 = .ok (.iload 8, 2) := by decide +kernel
theorem d_M_relations_62 : decode b_M_relations 62 = .ok (.iconst 3, 1) := by decide +kernel
theorem d_M_relations_63 : decode b_M_relations 63 = .ok (.if_icmp .ge 63, 3) := by decide +kernel
theorem d_M_relations_66 : decode b_M_relations 66 = .ok (.iload 7, 2) := by decide +kernel
theorem d_M_relations_68 : decode b_M_relations 68 = .ok (.iload 8, 2) := by decide +kernel
theorem d_M_relations_70 : decode b_M_relations 70 = .ok (.iload_n 3, 1) := by decide +kernel
theorem d_M_relations_71 : decode b_M_relations 71 = .ok (.iload 4, 2) := by decide +kernel
theorem d_M_relations_73 : decode b_M_relations 73 = .ok (.iload 5, 2) := by decide +kernel
theorem d_M_relations_75 : decode b_M_relations 75 = .ok (.iload 6, 2) := by decide +kernel
theorem d_M_relations_77 : decode b_M_relations 77 = .ok (.invokestatic 176, 3) := by decide +kernel
theorem d_M_relations_80 : decode b_M_relations 80 = .ok (.ifCond .eq 10, 3) := by decide +kernel
theorem d_M_relations_83 : decode b_M_relations 83 = .ok (.iconst 1, 1) := by decide +kernel
theorem d_M_relations_84 : decode b_M_relations 84 = .ok (.iload 8, 2) := by decide +kernel
theorem d_M_relations_86 : decode b_M_relations 86 = .ok (.ishl, 1) := by decide +kernel
theorem d_M_relations_87 : decode b_M_relations 87 = .ok (.goto 4, 3) := by decide +kernel
theorem d_M_relations_90 : decode b_M_relations 90 = .ok (.iconst 0, 1) := by decide +kernel
theorem d_M_relations_91 : decode b_M_relations 91 = .ok (.ior, 1) := by decide +kernel
theorem d_M_relations_92 : decode b_M_relations 92 = .ok (.istore 7, 2) := by decide +kernel
theorem d_M_relations_94 : decode b_M_relations 94 = .ok (.iload 7, 2) := by decide +kernel
theorem d_M_relations_96 : decode b_M_relations 96 = .ok (.iload 8, 2) := by decide +kernel
theorem d_M_relations_98 : decode b_M_relations 98 = .ok (.iload 5, 2) := by decide +kernel
theorem d_M_relations_100 : decode b_M_relations 100 = .ok (.iload 6, 2) := by decide +kernel
theorem d_M_relations_102 : decode b_M_relations 102 = .ok (.iload_n 3, 1) := by decide +kernel
theorem d_M_relations_103 : decode b_M_relations 103 = .ok (.iload 4, 2) := by decide +kernel
theorem d_M_relations_105 : decode b_M_relations 105 = .ok (.invokestatic 176, 3) := by decide +kernel
theorem d_M_relations_108 : decode b_M_relations 108 = .ok (.ifCond .eq 8, 3) := by decide +kernel
theorem d_M_relations_111 : decode b_M_relations 111 = .ok (.bipush 64, 2) := by decide +kernel
theorem d_M_relations_113 : decode b_M_relations 113 = .ok (.goto 4, 3) := by decide +kernel
theorem d_M_relations_116 : decode b_M_relations 116 = .ok (.iconst 0, 1) := by decide +kernel
theorem d_M_relations_117 : decode b_M_relations 117 = .ok (.ior, 1) := by decide +kernel
theorem d_M_relations_118 : decode b_M_relations 118 = .ok (.istore 7, 2) := by decide +kernel
theorem d_M_relations_120 : decode b_M_relations 120 = .ok (.iinc 8 1, 3) := by decide +kernel
theorem d_M_relations_123 : decode b_M_relations 123 = .ok (.goto (-63), 3) := by decide +kernel
theorem d_M_relations_126 : decode b_M_relations 126 = .ok (.iload_n 3, 1) := by decide +kernel
theorem d_M_relations_127 : decode b_M_relations 127 = .ok (.iload 6, 2) := by decide +kernel
theorem d_M_relations_129 : decode b_M_relations 129 = .ok (.if_icmp .gt 14, 3) := by decide +kernel
theorem d_M_relations_132 : decode b_M_relations 132 = .ok (.iload 5, 2) := by decide +kernel
theorem d_M_relations_134 : decode b_M_relations 134 = .ok (.iload 4, 2) := by decide +kernel
theorem d_M_relations_136 : decode b_M_relations 136 = .ok (.if_icmp .gt 7, 3) := by decide +kernel
theorem d_M_relations_139 : decode b_M_relations 139 = .ok (.iconst 1, 1) := by decide +kernel
theorem d_M_relations_140 : decode b_M_relations 140 = .ok (.goto 4, 3) := by decide +kernel
theorem d_M_relations_143 : decode b_M_relations 143 = .ok (.iconst 0, 1) := by decide +kernel
theorem d_M_relations_144 : decode b_M_relations 144 = .ok (.istore 8, 2) := by decide +kernel
theorem d_M_relations_146 : decode b_M_relations 146 = .ok (.iload 7, 2) := by decide +kernel
theorem d_M_relations_148 : decode b_M_relations 148 = .ok (.iload 8, 2) := by decide +kernel
theorem d_M_relations_150 : decode b_M_relations 150 = .ok (.ifCond .eq 8, 3) := by decide +kernel
theorem d_M_relations_153 : decode b_M_relations 153 = .ok (.bipush 8, 2) := by decide +kernel
theorem d_M_relations_155 : decode b_M_relations 155 = .ok (.goto 4, 3) := by decide +kernel
theorem d_M_relations_158 : decode b_M_relations 158 = .ok (.iconst 0, 1) := by decide +kernel
theorem d_M_relations_159 : decode b_M_relations 159 = .ok (.ior, 1) := by decide +kernel
theorem d_M_relations_160 : decode b_M_relations 160 = .ok (.iload 8, 2) := by decide +kernel
theorem d_M_relations_162 : decode b_M_relations 162 = .ok (.ifCond .eq 15, 3) := by decide +kernel
theorem d_M_relations_165 : decode b_M_relations 165 = .ok (.iload 6, 2) := by decide +kernel
theorem d_M_relations_167 : decode b_M_relations 167 = .ok (.iload 5, 2) := by decide +kernel
theorem d_M_relations_169 : decode b_M_relations 169 = .ok (.if_icmp .le 8, 3) := by decide +kernel
theorem d_M_relations_172 : decode b_M_relations 172 = .ok (.bipush 16, 2) := by decide +kernel
theorem d_M_relations_174 : decode b_M_relations 174 = .ok (.goto 4, 3) := by decide +kernel
theorem d_M_relations_177 : decode b_M_relations 177 = .ok (.iconst 0, 1) := by decide +kernel
theorem d_M_relations_178 : decode b_M_relations 178 = .ok (.ior, 1) := by decide +kernel
theorem d_M_relations_179 : decode b_M_relations 179 = .ok (.iload 8, 2) := by decide +kernel
theorem d_M_relations_181 : decode b_M_relations 181 = .ok (.ifCond .eq 14, 3) := by decide +kernel
theorem d_M_relations_184 : decode b_M_relations 184 = .ok (.iload 4, 2) := by decide +kernel
theorem d_M_relations_186 : decode b_M_relations 186 = .ok (.iload_n 3, 1) := by decide +kernel
theorem d_M_relations_187 : decode b_M_relations 187 = .ok (.if_icmp .le 8, 3) := by decide +kernel
theorem d_M_relations_190 : decode b_M_relations 190 = .ok (.bipush 32, 2) := by decide +kernel
theorem d_M_relations_192 : decode b_M_relations 192 = .ok (.goto 4, 3) := by decide +kernel
theorem d_M_relations_195 : decode b_M_relations 195 = .ok (.iconst 0, 1) := by decide +kernel
theorem d_M_relations_196 : decode b_M_relations 196 = .ok (.ior, 1) := by decide +kernel
theorem d_M_relations_197 : decode b_M_relations 197 = .ok (.ireturn, 1) := by decide +kernel
theorem d_M_lowest_0 : decode b_M_lowest 0 = .ok (.aload_n 0, 1) := by decide +kernel
theorem d_M_lowest_1 : decode b_M_lowest 1 = .ok (.iload_n 1, 1) := by decide +kernel
theorem d_M_lowest_2 : decode b_M_lowest 2 = .ok (.iconst 0, 1) := by decide +kernel
theorem d_M_lowest_3 : decode b_M_lowest 3 = .ok (.invokevirtual 167, 3) := by decide +kernel
theorem d_M_lowest_6 : decode b_M_lowest 6 = .ok (.ifCond .eq 9, 3) := by decide +kernel
theorem d_M_lowest_9 : decode b_M_lowest 9 = .ok (.sipush (-9999), 3) := by decide +kernel
theorem d_M_lowest_12 : decode b_M_lowest 12 = .ok (.goto 9, 3) := by decide +kernel
theorem d_M_lowest_15 : decode b_M_lowest 15 = .ok (.aload_n 0, 1) := by decide +kernel
theorem d_M_lowest_16 : decode b_M_lowest 16 = .ok (.getfield 44, 3) := by decide +kernel
theorem d_M_lowest_19 : decode b_M_lowest 19 = .ok (.iload_n 1, 1) := by decide +kernel
theorem d_M_lowest_20 : decode b_M_lowest 20 = .ok (.iaload, 1) := by decide +kernel
theorem d_M_lowest_21 : decode b_M_lowest 21 = .ok (.ireturn, 1) := by decide +kernel
theorem d_M_highest_0 : decode b_M_highest 0 = .ok (.aload_n 0, 1) := by decide +kernel
theorem d_M_highest_1 : decode b_M_highest 1 = .ok (.iload_n 1, 1) := by decide +kernel
theorem d_M_highest_2 : decode b_M_highest 2 = .ok (.iconst 1, 1) := by decide +kernel
theorem d_M_highest_3 : decode b_M_highest 3 = .ok (.invokevirtual 167, 3) := by decide +kernel
theorem d_M_highest_6 : decode b_M_highest 6 = .ok (.ifCond .eq 9, 3) := by decide +kernel
theorem d_M_highest_9 : decode b_M_highest 9 = .ok (.sipush 9999, 3) := by decide +kernel
theorem d_M_highest_12 : decode b_M_highest 12 = .ok (.goto 9, 3) := by decide +kernel
theorem d_M_highest_15 : decode b_M_highest 15 = .ok (.aload_n 0, 1) := by decide +kernel
theorem d_M_highest_16 : decode b_M_highest 16 = .ok (.getfield 47, 3) := by decide +kernel
theorem d_M_highest_19 : decode b_M_highest 19 = .ok (.iload_n 1, 1) := by decide +kernel
theorem d_M_highest_20 : decode b_M_highest 20 = .ok (.iaload, 1) := by decide +kernel
theorem d_M_highest_21 : decode b_M_highest 21 = .ok (.ireturn, 1) := by decide +kernel
theorem d_M_mayBe_0 : decode b_M_mayBe 0 = .ok (.iload_n 1, 1) := by decide +kernel
theorem d_M_mayBe_1 : decode b_M_mayBe 1 = .ok (.iconst 1, 1) := by decide +kernel
theorem d_M_mayBe_2 : decode b_M_mayBe 2 = .ok (.iadd, 1) := by decide +kernel
theorem d_M_mayBe_3 : decode b_M_mayBe 3 = .ok (.iload_n 3, 1) := by decide +kernel
theorem d_M_mayBe_4 : decode b_M_mayBe 4 = .ok (.if_icmp .le 9, 3) := by decide +kernel
theorem d_M_mayBe_7 : decode b_M_mayBe 7 = .ok (.iload_n 1, 1) := by decide +kernel
theorem d_M_mayBe_8 : decode b_M_mayBe 8 = .ok (.iconst 1, 1) := by decide +kernel
theorem d_M_mayBe_9 : decode b_M_mayBe 9 = .ok (.iadd, 1) := by decide +kernel
theorem d_M_mayBe_10 : decode b_M_mayBe 10 = .ok (.goto 4, 3) := by decide +kernel
theorem d_M_mayBe_13 : decode b_M_mayBe 13 = .ok (.iload_n 3, 1) := by decide +kernel
theorem d_M_mayBe_14 : decode b_M_mayBe 14 = .ok (.istore 5, 2) := by decide +kernel
theorem d_M_mayBe_16 : decode b_M_mayBe 16 = .ok (.iload_n 2, 1) := by decide +kernel
theorem d_M_mayBe_17 : decode b_M_mayBe 17 = .ok (.iload 4, 2) := by decide +kernel
theorem d_M_mayBe_19 : decode b_M_mayBe 19 = .ok (.iconst 1, 1) := by decide +kernel
theorem d_M_mayBe_20 : decode b_M_mayBe 20 = .ok (.isub, 1) := by decide +kernel
theorem d_M_mayBe_21 : decode b_M_mayBe 21 = .ok (.if_icmp .ge 7, 3) := by decide +kernel
theorem d_M_mayBe_24 : decode b_M_mayBe 24 = .ok (.iload_n 2, 1) := by decide +kernel
theorem d_M_mayBe_25 : decode b_M_mayBe 25 = .ok (.goto 7, 3) := by decide +kernel
theorem d_M_mayBe_28 : decode b_M_mayBe 28 = .ok (.iload 4, 2) := by decide +kernel
theorem d_M_mayBe_30 : decode b_M_mayBe 30 = .ok (.iconst 1, 1) := by decide +kernel
theorem d_M_mayBe_31 : decode b_M_mayBe 31 = .ok (.isub, 1) := by decide +kernel
theorem d_M_mayBe_32 : decode b_M_mayBe 32 = .ok (.istore 6, 2) := by decide +kernel
theorem d_M_mayBe_34 : decode b_M_mayBe 34 = .ok (.iload_n 0, 1) := by decide +kernel
theorem d_M_mayBe_35 : decode b_M_mayBe 35 = .ok (.ifCond .ne 19, 3) := by decide +kernel
theorem d_M_mayBe_38 : decode b_M_mayBe 38 = .ok (.iload_n 1, 1) := by decide +kernel
theorem d_M_mayBe_39 : decode b_M_mayBe 39 = .ok (.iconst 2, 1) := by decide +kernel
theorem d_M_mayBe_40 : decode b_M_mayBe 40 = .ok (.iadd, 1) := by decide +kernel
theorem d_M_mayBe_41 : decode b_M_mayBe 41 = .ok (.iload 4, 2) := by decide +kernel
theorem d_M_mayBe_43 : decode b_M_mayBe 43 = .ok (.if_icmp .gt 7, 3) := by decide +kernel
theorem d_M_mayBe_46 : decode b_M_mayBe 46 = .ok (.iconst 1, 1) := by decide +kernel
theorem d_M_mayBe_47 : decode b_M_mayBe 47 = .ok (.goto 51, 3) := by decide +kernel
theorem d_M_mayBe_50 : decode b_M_mayBe 50 = .ok (.iconst 0, 1) := by decide +kernel
theorem d_M_mayBe_51 : decode b_M_mayBe 51 = .ok (.goto 47, 3) := by decide +kernel
theorem d_M_mayBe_54 : decode b_M_mayBe 54 = .ok (.iload_n 0, 1) := by decide +kernel
theorem d_M_mayBe_55 : decode b_M_mayBe 55 = .ok (.iconst 1, 1) := by decide +kernel
theorem d_M_mayBe_56 : decode b_M_mayBe 56 = .ok (.if_icmp .ne 30, 3) := by decide +kernel
theorem d_M_mayBe_59 : decode b_M_mayBe 59 = .ok (.iload_n 1, 1) := by decide +kernel
theorem d_M_mayBe_60 : decode b_M_mayBe 60 = .ok (.iload_n 3, 1) := by decide +kernel
theorem d_M_mayBe_61 : decode b_M_mayBe 61 = .ok (.iconst 1, 1) := by decide +kernel
theorem d_M_mayBe_62 : decode b_M_mayBe 62 = .ok (.isub, 1) := by decide +kernel
theorem d_M_mayBe_63 : decode b_M_mayBe 63 = .ok (.if_icmp .le 7, 3) := by decide +kernel
theorem d_M_mayBe_66 : decode b_M_mayBe 66 = .ok (.iload_n 1, 1) := by decide +kernel
theorem d_M_mayBe_67 : decode b_M_mayBe 67 = .ok (.goto 6, 3) := by decide +kernel
theorem d_M_mayBe_70 : decode b_M_mayBe 70 = .ok (.iload_n 3, 1) := by decide +kernel
theorem d_M_mayBe_71 : decode b_M_mayBe 71 = .ok (.iconst 1, 1) := by decide +kernel
theorem d_M_mayBe_72 : decode b_M_mayBe 72 = .ok (.isub, 1) := by decide +kernel
theorem d_M_mayBe_73 : decode b_M_mayBe 73 = .ok (.iload 6, 2) := by decide +kernel
theorem d_M_mayBe_75 : decode b_M_mayBe 75 = .ok (.if_icmp .gt 7, 3) := by decide +kernel
theorem d_M_mayBe_78 : decode b_M_mayBe 78 = .ok (.iconst 1, 1) := by decide +kernel
theorem d_M_mayBe_79 : decode b_M_mayBe 79 = .ok (.goto 19, 3) := by decide +kernel
theorem d_M_mayBe_82 : decode b_M_mayBe 82 = .ok (.iconst 0, 1) := by decide +kernel
theorem d_M_mayBe_83 : decode b_M_mayBe 83 = .ok (.goto 15, 3) := by decide +kernel
theorem d_M_mayBe_86 : decode b_M_mayBe 86 = .ok (.iload 5, 2) := by decide +kernel
theorem d_M_mayBe_88 : decode b_M_mayBe 88 = .ok (.iload 6, 2) := by decide +kernel
theorem d_M_mayBe_90 : decode b_M_mayBe 90 = .ok (.if_icmp .gt 7, 3) := by decide +kernel
theorem d_M_mayBe_93 : decode b_M_mayBe 93 = .ok (.iconst 1, 1) := by decide +kernel
theorem d_M_mayBe_94 : decode b_M_mayBe 94 = .ok (.goto 4, 3) := by decide +kernel
theorem d_M_mayBe_97 : decode b_M_mayBe 97 = .ok (.iconst 0, 1) := by decide +kernel
theorem d_M_mayBe_98 : decode b_M_mayBe 98 = .ok (.ireturn, 1) := by decide +kernel
theorem d_M_relation_0 : decode b_M_relation 0 = .ok (.aload_n 0, 1) := by decide +kernel
theorem d_M_relation_1 : decode b_M_relation 1 = .ok (.aload_n 0, 1) := by decide +kernel
theorem d_M_relation_2 : decode b_M_relation 2 = .ok (.iload_n 1, 1) := by decide +kernel
theorem d_M_relation_3 : decode b_M_relation 3 = .ok (.invokevirtual 164, 3) := by decide +kernel
theorem d_M_relation_6 : decode b_M_relation 6 = .ok (.ifCond .eq 11, 3) := by decide +kernel
theorem d_M_relation_9 : decode b_M_relation 9 = .ok (.aload_n 0, 1) := by decide +kernel
theorem d_M_relation_10 : decode b_M_relation 10 = .ok (.iload_n 2, 1) := by decide +kernel
theorem d_M_relation_11 : decode b_M_relation 11 = .ok (.invokevirtual 164, 3) := by decide +kernel
theorem d_M_relation_14 : decode b_M_relation 14 = .ok (.ifCond .ne 7, 3) := by decide +kernel
theorem d_M_relation_17 : decode b_M_relation 17 = .ok (.iconst 1, 1) := by decide +kernel
theorem d_M_relation_18 : decode b_M_relation 18 = .ok (.goto 26, 3) := by decide +kernel
theorem d_M_relation_21 : decode b_M_relation 21 = .ok (.aload_n 0, 1) := by decide +kernel
theorem d_M_relation_22 : decode b_M_relation 22 = .ok (.getfield 50, 3) := by decide +kernel
theorem d_M_relation_25 : decode b_M_relation 25 = .ok (.iload_n 1, 1) := by decide +kernel
theorem d_M_relation_26 : decode b_M_relation 26 = .ok (.iaload, 1) := by decide +kernel
theorem d_M_relation_27 : decode b_M_relation 27 = .ok (.ifCond .ne 12, 3) := by decide +kernel
theorem d_M_relation_30 : decode b_M_relation 30 = .ok (.aload_n 0, 1) := by decide +kernel
theorem d_M_relation_31 : decode b_M_relation 31 = .ok (.getfield 50, 3) := by decide +kernel
theorem d_M_relation_34 : decode b_M_relation 34 = .ok (.iload_n 2, 1) := by decide +kernel
theorem d_M_relation_35 : decode b_M_relation 35 = .ok (.iaload, 1) := by decide +kernel
theorem d_M_relation_36 : decode b_M_relation 36 = .ok (.ifCond .eq 7, 3) := by decide +kernel
theorem d_M_relation_39 : decode b_M_relation 39 = .ok (.iconst 2, 1) := by decide +kernel
theorem d_M_relation_40 : decode b_M_relation 40 = .ok (.goto 4, 3) := by decide +kernel
theorem d_M_relation_43 : decode b_M_relation 43 = .ok (.iconst 0, 1) := by decide +kernel
theorem d_M_relation_44 : decode b_M_relation 44 = .ok (.putfield 69, 3) := by decide +kernel
theorem d_M_relation_47 : decode b_M_relation 47 = .ok (.aload_n 0, 1) := by decide +kernel
theorem d_M_relation_48 : decode b_M_relation 48 = .ok (.getfield 69, 3) := by decide +kernel
theorem d_M_relation_51 : decode b_M_relation 51 = .ok (.ifCond .le 5, 3) := by decide +kernel
theorem d_M_relation_54 : decode b_M_relation 54 = .ok (.iconst 0, 1) := by decide +kernel
theorem d_M_relation_55 : decode b_M_relation 55 = .ok (.ireturn, 1) := by decide +kernel
theorem d_M_relation_56 : decode b_M_relation 56 = .ok (.aload_n 0, 1) := by decide +kernel
theorem d_M_relation_57 : decode b_M_relation 57 = .ok (.getfield 44, 3) := by decide +kernel
theorem d_M_relation_60 : decode b_M_relation 60 = .ok (.iload_n 1, 1) := by decide +kernel
theorem d_M_relation_61 : decode b_M_relation 61 = .ok (.iaload, 1) := by decide +kernel
theorem d_M_relation_62 : decode b_M_relation 62 = .ok (.istore_n 3, 1) := by decide +kernel
theorem d_M_relation_63 : decode b_M_relation 63 = .ok (.aload_n 0, 1) := by decide +kernel
theorem d_M_relation_64 : decode b_M_relation 64 = .ok (.getfield 47, 3) := by decide +kernel
theorem d_M_relation_67 : decode b_M_relation 67 = .ok (.iload_n 1, 1) := by decide +kernel
theorem d_M_relation_68 : decode b_M_relation 68 = .ok (.iaload, 1) := by decide +kernel
theorem d_M_relation_69 : decode b_M_relation 69 = .ok (.istore 4, 2) := by decide +kernel
theorem d_M_relation_71 : decode b_M_relation 71 = .ok (.aload_n 0, 1) := by decide +kernel
theorem d_M_relation_72 : decode b_M_relation 72 = .ok (.getfield 44, 3) := by decide +kernel
theorem d_M_relation_75 : decode b_M_relation 75 = .ok (.iload_n 2, 1) := by decide +kernel
theorem d_M_relation_76 : decode b_M_relation 76 = .ok (.iaload, 1) := by decide +kernel
theorem d_M_relation_77 : decode b_M_relation 77 = .ok (.istore 5, 2) := by decide +kernel
theorem d_M_relation_79 : decode b_M_relation 79 = .ok (.aload_n 0, 1) := by decide +kernel
theorem d_M_relation_80 : decode b_M_relation 80 = .ok (.getfield 47, 3) := by decide +kernel
theorem d_M_relation_83 : decode b_M_relation 83 = .ok (.iload_n 2, 1) := by decide +kernel
theorem d_M_relation_84 : decode b_M_relation 84 = .ok (.iaload, 1) := by decide +kernel
theorem d_M_relation_85 : decode b_M_relation 85 = .ok (.istore 6, 2) := by decide +kernel
theorem d_M_relation_87 : decode b_M_relation 87 = .ok (.iload_n 3, 1) := by decide +kernel
theorem d_M_relation_88 : decode b_M_relation 88 = .ok (.iload 5, 2) := by decide +kernel
theorem d_M_relation_90 : decode b_M_relation 90 = .ok (.if_icmp .ne 12, 3) := by decide +kernel
theorem d_M_relation_93 : decode b_M_relation 93 = .ok (.iload 4, 2) := by decide +kernel
theorem d_M_relation_95 : decode b_M_relation 95 = .ok (.iload 6, 2) := by decide +kernel
theorem d_M_relation_97 : decode b_M_relation 97 = .ok (.if_icmp .ne 5, 3) := by decide +kernel
theorem d_M_relation_100 : decode b_M_relation 100 = .ok (.iconst 3, 1) := by decide +kernel
theorem d_M_relation_101 : decode b_M_relation 101 = .ok (.ireturn, 1) := by decide +kernel
theorem d_M_relation_102 : decode b_M_relation 102 = .ok (.iload_n 3, 1) := by decide +kernel
theorem d_M_relation_103 : decode b_M_relation 103 = .ok (.iload 5, 2) := by decide +kernel
theorem d_M_relation_105 : decode b_M_relation 105 = .ok (.if_icmp .lt 12, 3) := by decide +kernel
theorem d_M_relation_108 : decode b_M_relation 108 = .ok (.iload 4, 2) := by decide +kernel
theorem d_M_relation_110 : decode b_M_relation 110 = .ok (.iload 6, 2) := by decide +kernel
theorem d_M_relation_112 : decode b_M_relation 112 = .ok (.if_icmp .gt 5, 3) := by decide +kernel
theorem d_M_relation_115 : decode b_M_relation 115 = .ok (.iconst 4, 1) := by decide +kernel
theorem d_M_relation_116 : decode b_M_relation 116 = .ok (.ireturn, 1) := by decide +kernel
theorem d_M_relation_117 : decode b_M_relation 117 = .ok (.iload_n 3, 1) := by decide +kernel
theorem d_M_relation_118 : decode b_M_relation 118 = .ok (.iload 5, 2) := by decide +kernel
theorem d_M_relation_120 : decode b_M_relation 120 = .ok (.if_icmp .gt 12, 3) := by decide +kernel
theorem d_M_relation_123 : decode b_M_relation 123 = .ok (.iload 4, 2) := by decide +kernel
theorem d_M_relation_125 : decode b_M_relation 125 = .ok (.iload 6, 2) := by decide +kernel
theorem d_M_relation_127 : decode b_M_relation 127 = .ok (.if_icmp .lt 5, 3) := by decide +kernel
theorem d_M_relation_130 : decode b_M_relation 130 = .ok (.iconst 5, 1) := by decide +kernel
theorem d_M_relation_131 : decode b_M_relation 131 = .ok (.ireturn, 1) := by decide +kernel
theorem d_M_relation_132 : decode b_M_relation 132 = .ok (.iload_n 3, 1) := by decide +kernel
theorem d_M_relation_133 : decode b_M_relation 133 = .ok (.iload 5, 2) := by decide +kernel
theorem d_M_relation_135 : decode b_M_relation 135 = .ok (.if_icmp .le 8, 3) := by decide +kernel
theorem d_M_relation_138 : decode b_M_relation 138 = .ok (.bipush 6, 2) := by decide +kernel
theorem d_M_relation_140 : decode b_M_relation 140 = .ok (.goto 30, 3) := by decide +kernel
theorem d_M_relation_143 : decode b_M_relation 143 = .ok (.iload 4, 2) := by decide +kernel
theorem d_M_relation_145 : decode b_M_relation 145 = .ok (.iload 5, 2) := by decide +kernel
theorem d_M_relation_147 : decode b_M_relation 147 = .ok (.iconst 1, 1) := by decide +kernel
theorem d_M_relation_148 : decode b_M_relation 148 = .ok (.isub, 1) := by decide +kernel
theorem d_M_relation_149 : decode b_M_relation 149 = .ok (.if_icmp .ge 7, 3) := by decide +kernel
theorem d_M_relation_152 : decode b_M_relation 152 = .ok (.iconst 0, 1) := by decide +kernel
theorem d_M_relation_153 : decode b_M_relation 153 = .ok (.goto 17, 3) := by decide +kernel
theorem d_M_relation_156 : decode b_M_relation 156 = .ok (.iload 4, 2) := by decide +kernel
theorem d_M_relation_158 : decode b_M_relation 158 = .ok (.iload 5, 2) := by decide +kernel
theorem d_M_relation_160 : decode b_M_relation 160 = .ok (.iconst 1, 1) := by decide +kernel
theorem d_M_relation_161 : decode b_M_relation 161 = .ok (.isub, 1) := by decide +kernel
theorem d_M_relation_162 : decode b_M_relation 162 = .ok (.if_icmp .ne 7, 3) := by decide +kernel
theorem d_M_relation_165 : decode b_M_relation 165 = .ok (.iconst 1, 1) := by decide +kernel
theorem d_M_relation_166 : decode b_M_relation 166 = .ok (.goto 4, 3) := by decide +kernel
theorem d_M_relation_169 : decode b_M_relation 169 = .ok (.iconst 2, 1) := by decide +kernel
theorem d_M_relation_170 : decode b_M_relation 170 = .ok (.ireturn, 1) := by decide +kernel
theorem d_M_word_0 : decode b_M_word 0 = .ok (.aload_n 0, 1) := by decide +kernel
theorem d_M_word_1 : decode b_M_word 1 = .ok (.iload_n 1, 1) := by decide +kernel
theorem d_M_word_2 : decode b_M_word 2 = .ok (.invokevirtual 164, 3) := by decide +kernel
theorem d_M_word_5 : decode b_M_word 5 = .ok (.ifCond .ne 9, 3) := by decide +kernel
theorem d_M_word_8 : decode b_M_word 8 = .ok (.aload_n 0, 1) := by decide +kernel
theorem d_M_word_9 : decode b_M_word 9 = .ok (.iconst 1, 1) := by decide +kernel
theorem d_M_word_10 : decode b_M_word 10 = .ok (.invokevirtual 89, 3) := by decide +kernel
theorem d_M_word_13 : decode b_M_word 13 = .ok (.ireturn, 1) := by decide +kernel
theorem d_M_word_14 : decode b_M_word 14 = .ok (.aload_n 0, 1) := by decide +kernel
theorem d_M_word_15 : decode b_M_word 15 = .ok (.iconst 0, 1) := by decide +kernel
theorem d_M_word_16 : decode b_M_word 16 = .ok (.putfield 187, 3) := by decide +kernel
theorem d_M_word_19 : decode b_M_word 19 = .ok (.aload_n 0, 1) := by decide +kernel
theorem d_M_word_20 : decode b_M_word 20 = .ok (.getfield 50, 3) := by decide +kernel
theorem d_M_word_23 : decode b_M_word 23 = .ok (.iload_n 1, 1) := by decide +kernel
theorem d_M_word_24 : decode b_M_word 24 = .ok (.iaload, 1) := by decide +kernel
theorem d_M_word_25 : decode b_M_word 25 = .ok (.iconst 1, 1) := by decide +kernel
theorem d_M_word_26 : decode b_M_word 26 = .ok (.if_icmp .ne 7, 3) := by decide +kernel
theorem d_M_word_29 : decode b_M_word 29 = .ok (.iconst 4, 1) := by decide +kernel
theorem d_M_word_30 : decode b_M_word 30 = .ok (.goto 18, 3) := by decide +kernel
theorem d_M_word_33 : decode b_M_word 33 = .ok (.aload_n 0, 1) := by decide +kernel
theorem d_M_word_34 : decode b_M_word 34 = .ok (.getfield 50, 3) := by decide +kernel
theorem d_M_word_37 : decode b_M_word 37 = .ok (.iload_n 1, 1) := by decide +kernel
theorem d_M_word_38 : decode b_M_word 38 = .ok (.iaload, 1) := by decide +kernel
theorem d_M_word_39 : decode b_M_word 39 = .ok (.iconst 2, 1) := by decide +kernel
theorem d_M_word_40 : decode b_M_word 40 = .ok (.if_icmp .ne 7, 3) := by decide +kernel
theorem d_M_word_43 : decode b_M_word 43 = .ok (.iconst 5, 1) := by decide +kernel
theorem d_M_word_44 : decode b_M_word 44 = .ok (.goto 4, 3) := by decide +kernel
theorem d_M_word_47 : decode b_M_word 47 = .ok (.iconst (-1), 1) := by decide +kernel
theorem d_M_word_48 : decode b_M_word 48 = .ok (.istore_n 3, 1) := by decide +kernel
theorem d_M_word_49 : decode b_M_word 49 = .ok (.iconst 1, 1) := by decide +kernel
theorem d_M_word_50 : decode b_M_word 50 = .ok (.istore 4, 2) := by decide +kernel
theorem d_M_word_52 : decode b_M_word 52 = .ok (.iload 4, 2) := by decide +kernel
theorem d_M_word_54 : decode b_M_word 54 = .ok (.bipush 100, 2) := by decide +kernel
theorem d_M_word_56 : decode b_M_word 56 = .ok (.aload_n 0, 1) := by decide +kernel
theorem d_M_word_57 : decode b_M_word 57 = .ok (.getfield 76, 3) := by decide +kernel
theorem d_M_word_60 : decode b_M_word 60 = .ok (.iadd, 1) := by decide +kernel
theorem d_M_word_61 : decode b_M_word 61 = .ok (.if_icmp .ge 60, 3) := by decide +kernel
theorem d_M_word_64 : decode b_M_word 64 = .ok (.aload_n 0, 1) := by decide +kernel
theorem d_M_word_65 : decode b_M_word 65 = .ok (.getfield 50, 3) := by decide +kernel
theorem d_M_word_68 : decode b_M_word 68 = .ok (.iload_n 1, 1) := by decide +kernel
theorem d_M_word_69 : decode b_M_word 69 = .ok (.iaload, 1) := by decide +kernel
theorem d_M_word_70 : decode b_M_word 70 = .ok (.iconst 3, 1) := by decide +kernel
theorem d_M_word_71 : decode b_M_word 71 = .ok (.if_icmp .eq 50, 3) := by decide +kernel
theorem d_M_word_74 : decode b_M_word 74 = .ok (.aload_n 0, 1) := by decide +kernel
theorem d_M_word_75 : decode b_M_word 75 = .ok (.iload_n 1, 1) := by decide +kernel
theorem d_M_word_76 : decode b_M_word 76 = .ok (.iload_n 3, 1) := by decide +kernel
theorem d_M_word_77 : decode b_M_word 77 = .ok (.iconst (-1), 1) := by decide +kernel
theorem d_M_word_78 : decode b_M_word 78 = .ok (.iload 4, 2) := by decide +kernel
theorem d_M_word_80 : decode b_M_word 80 = .ok (.invokevirtual 201, 3) := by decide +kernel
theorem d_M_word_83 : decode b_M_word 83 = .ok (.iconst 0, 1) := by decide +kernel
theorem d_M_word_84 : decode b_M_word 84 = .ok (.istore 5, 2) := by decide +kernel
theorem d_M_word_86 : decode b_M_word 86 = .ok (.iload 5, 2) := by decide +kernel
theorem d_M_word_88 : decode b_M_word 88 = .ok (.iconst 3, 1) := by decide +kernel
theorem d_M_word_89 : decode b_M_word 89 = .ok (.if_icmp .ge 26, 3) := by decide +kernel
theorem d_M_word_92 : decode b_M_word 92 = .ok (.iload 4, 2) := by decide +kernel
theorem d_M_word_94 : decode b_M_word 94 = .ok (.bipush 100, 2) := by decide +kernel
theorem d_M_word_96 : decode b_M_word 96 = .ok (.if_icmp .ge 19, 3) := by decide +kernel
theorem d_M_word_99 : decode b_M_word 99 = .ok (.aload_n 0, 1) := by decide +kernel
theorem d_M_word_100 : decode b_M_word 100 = .ok (.iload_n 1, 1) := by decide +kernel
theorem d_M_word_101 : decode b_M_word 101 = .ok (.iload_n 3, 1) := by decide +kernel
theorem d_M_word_102 : decode b_M_word 102 = .ok (.iload 5, 2) := by decide +kernel
theorem d_M_word_104 : decode b_M_word 104 = .ok (.iload 4, 2) := by decide +kernel
theorem d_M_word_106 : decode b_M_word 106 = .ok (.invokevirtual 201, 3) := by decide +kernel
theorem d_M_word_109 : decode b_M_word 109 = .ok (.iinc 5 1, 3) := by decide +kernel
theorem d_M_word_112 : decode b_M_word 112 = .ok (.goto (-26), 3) := by decide +kernel
theorem d_M_word_115 : decode b_M_word 115 = .ok (.iinc 4 1, 3) := by decide +kernel
theorem d_M_word_118 : decode b_M_word 118 = .ok (.goto (-66), 3) := by decide +kernel
theorem d_M_word_121 : decode b_M_word 121 = .ok (.aload_n 0, 1) := by decide +kernel
theorem d_M_word_122 : decode b_M_word 122 = .ok (.iload_n 2, 1) := by decide +kernel
theorem d_M_word_123 : decode b_M_word 123 = .ok (.iconst (-1), 1) := by decide +kernel
theorem d_M_word_124 : decode b_M_word 124 = .ok (.if_icmp .eq 17, 3) := by decide +kernel
theorem d_M_word_127 : decode b_M_word 127 = .ok (.iload_n 2, 1) := by decide +kernel
theorem d_M_word_128 : decode b_M_word 128 = .ok (.iconst 0, 1) := by decide +kernel
theorem d_M_word_129 : decode b_M_word 129 = .ok (.aload_n 0, 1) := by decide +kernel
theorem d_M_word_130 : decode b_M_word 130 = .ok (.getfield 187, 3) := by decide +kernel
theorem d_M_word_133 : decode b_M_word 133 = .ok (.iconst 1, 1) := by decide +kernel
theorem d_M_word_134 : decode b_M_word 134 = .ok (.isub, 1) := by decide +kernel
theorem d_M_word_135 : decode b_M_word 135 = .ok (.invokestatic 72, 3) := by decide +kernel
theorem d_M_word_138 : decode b_M_word 138 = .ok (.ifCond .eq 7, 3) := by decide +kernel
theorem d_M_word_141 : decode b_M_word 141 = .ok (.iconst 0, 1) := by decide +kernel
theorem d_M_word_142 : decode b_M_word 142 = .ok (.goto 4, 3) := by decide +kernel
theorem d_M_word_145 : decode b_M_word 145 = .ok (.iconst 1, 1) := by decide +kernel
theorem d_M_word_146 : decode b_M_word 146 = .ok (.putfield 69, 3) := by decide +kernel
theorem d_M_word_149 : decode b_M_word 149 = .ok (.aload_n 0, 1) := by decide +kernel
theorem d_M_word_150 : decode b_M_word 150 = .ok (.getfield 69, 3) := by decide +kernel
theorem d_M_word_153 : decode b_M_word 153 = .ok (.ifCond .le 7, 3) := by decide +kernel
theorem d_M_word_156 : decode b_M_word 156 = .ok (.iconst 0, 1) := by decide +kernel
theorem d_M_word_157 : decode b_M_word 157 = .ok (.goto 31, 3) := by decide +kernel
theorem d_M_word_160 : decode b_M_word 160 = .ok (.iload_n 2, 1) := by decide +kernel
theorem d_M_word_161 : decode b_M_word 161 = .ok (.ifCond .lt 12, 3) := by decide +kernel
theorem d_M_word_164 : decode b_M_word 164 = .ok (.aload_n 0, 1) := by decide +kernel
theorem d_M_word_165 : decode b_M_word 165 = .ok (.getfield 63, 3) := by decide +kernel
theorem d_M_word_168 : decode b_M_word 168 = .ok (.iload_n 2, 1) := by decide +kernel
theorem d_M_word_169 : decode b_M_word 169 = .ok (.iaload, 1) := by decide +kernel
theorem d_M_word_170 : decode b_M_word 170 = .ok (.goto 18, 3) := by decide +kernel
theorem d_M_word_173 : decode b_M_word 173 = .ok (.aload_n 0, 1) := by decide +kernel
theorem d_M_word_174 : decode b_M_word 174 = .ok (.getfield 187, 3) := by decide +kernel
theorem d_M_word_177 : decode b_M_word 177 = .ok (.ifCond .ne 7, 3) := by decide +kernel
theorem d_M_word_180 : decode b_M_word 180 = .ok (.iconst (-1), 1) := by decide +kernel
theorem d_M_word_181 : decode b_M_word 181 = .ok (.goto 7, 3) := by decide +kernel
theorem d_M_word_184 : decode b_M_word 184 = .ok (.aload_n 0, 1) := by decide +kernel
theorem d_M_word_185 : decode b_M_word 185 = .ok (.getfield 187, 3) := by decide +kernel
theorem d_M_word_188 : decode b_M_word 188 = .ok (.ireturn, 1) := by decide +kernel
theorem d_M_tries_0 : decode b_M_tries 0 = .ok (.iload 4, 2) := by decide +kernel
theorem d_M_tries_2 : decode b_M_tries 2 = .ok (.bipush 99, 2) := by decide +kernel
theorem d_M_tries_4 : decode b_M_tries 4 = .ok (.if_icmp .le 7, 3) := by decide +kernel
theorem d_M_tries_7 : decode b_M_tries 7 = .ok (.iconst 1, 1) := by decide +kernel
theorem d_M_tries_8 : decode b_M_tries 8 = .ok (.goto 4, 3) := by decide +kernel
theorem d_M_tries_11 : decode b_M_tries 11 = .ok (.iconst 0, 1) := by decide +kernel
theorem d_M_tries_12 : decode b_M_tries 12 = .ok (.istore 5, 2) := by decide +kernel
theorem d_M_tries_14 : decode b_M_tries 14 = .ok (.iload 4, 2) := by decide +kernel
theorem d_M_tries_16 : decode b_M_tries 16 = .ok (.bipush 99, 2) := by decide +kernel
theorem d_M_tries_18 : decode b_M_tries 18 = .ok (.if_icmp .gt 44, 3) := by decide +kernel
theorem d_M_tries_21 : decode b_M_tries 21 = .ok (.aload_n 0, 1) := by decide +kernel
theorem d_M_tries_22 : decode b_M_tries 22 = .ok (.bipush 100, 2) := by decide +kernel
theorem d_M_tries_24 : decode b_M_tries 24 = .ok (.iload 4, 2) := by decide +kernel
theorem d_M_tries_26 : decode b_M_tries 26 = .ok (.iconst 1, 1) := by decide +kernel
theorem d_M_tries_27 : decode b_M_tries 27 = .ok (.isub, 1) := by decide +kernel
theorem d_M_tries_28 : decode b_M_tries 28 = .ok (.imul, 1) := by decide +kernel
theorem d_M_tries_29 : decode b_M_tries 29 = .ok (.iconst 1, 1) := by decide +kernel
theorem d_M_tries_30 : decode b_M_tries 30 = .ok (.iadd, 1) := by decide +kernel
theorem d_M_tries_31 : decode b_M_tries 31 = .ok (.bipush 100, 2) := by decide +kernel
theorem d_M_tries_33 : decode b_M_tries 33 = .ok (.iload 4, 2) := by decide +kernel
theorem d_M_tries_35 : decode b_M_tries 35 = .ok (.imul, 1) := by decide +kernel
theorem d_M_tries_36 : decode b_M_tries 36 = .ok (.invokevirtual 141, 3) := by decide +kernel
theorem d_M_tries_39 : decode b_M_tries 39 = .ok (.iload_n 3, 1) := by decide +kernel
theorem d_M_tries_40 : decode b_M_tries 40 = .ok (.iconst (-1), 1) := by decide +kernel
theorem d_M_tries_41 : decode b_M_tries 41 = .ok (.if_icmp .eq 11, 3) := by decide +kernel
theorem d_M_tries_44 : decode b_M_tries 44 = .ok (.aload_n 0, 1) := by decide +kernel
theorem d_M_tries_45 : decode b_M_tries 45 = .ok (.iload_n 3, 1) := by decide +kernel
theorem d_M_tries_46 : decode b_M_tries 46 = .ok (.invokevirtual 154, 3) := by decide +kernel
theorem d_M_tries_49 : decode b_M_tries 49 = .ok (.ifCond .eq 7, 3) := by decide +kernel
theorem d_M_tries_52 : decode b_M_tries 52 = .ok (.iconst 1, 1) := by decide +kernel
theorem d_M_tries_53 : decode b_M_tries 53 = .ok (.goto 4, 3) := by decide +kernel
theorem d_M_tries_56 : decode b_M_tries 56 = .ok (.iconst 0, 1) := by decide +kernel
theorem d_M_tries_57 : decode b_M_tries 57 = .ok (.istore 5, 2) := by decide +kernel
theorem d_M_tries_59 : decode b_M_tries 59 = .ok (.goto 17, 3) := by decide +kernel
theorem d_M_tries_62 : decode b_M_tries 62 = .ok (.aload_n 0, 1) := by decide +kernel
theorem d_M_tries_63 : decode b_M_tries 63 = .ok (.iload 4, 2) := by decide +kernel
theorem d_M_tries_65 : decode b_M_tries 65 = .ok (.bipush 100, 2) := by decide +kernel
theorem d_M_tries_67 : decode b_M_tries 67 = .ok (.isub, 1) := by decide +kernel
theorem d_M_tries_68 : decode b_M_tries 68 = .ok (.iconst 0, 1) := by decide +kernel
theorem d_M_tries_69 : decode b_M_tries 69 = .ok (.ldc 105, 2) := by decide +kernel
theorem d_M_tries_71 : decode b_M_tries 71 = .ok (.invokevirtual 145, 3) := by decide +kernel
theorem d_M_tries_74 : decode b_M_tries 74 = .ok (.istore 5, 2) := by decide +kernel
theorem d_M_tries_76 : decode b_M_tries 76 = .ok (.iload 5, 2) := by decide +kernel
theorem d_M_tries_78 : decode b_M_tries 78 = .ok (.ifCond .eq 12, 3) := by decide +kernel
theorem d_M_tries_81 : decode b_M_tries 81 = .ok (.aload_n 0, 1) := by decide +kernel
theorem d_M_tries_82 : decode b_M_tries 82 = .ok (.iload_n 1, 1) := by decide +kernel
theorem d_M_tries_83 : decode b_M_tries 83 = .ok (.iload_n 2, 1) := by decide +kernel
theorem d_M_tries_84 : decode b_M_tries 84 = .ok (.invokevirtual 190, 3) := by decide +kernel
theorem d_M_tries_87 : decode b_M_tries 87 = .ok (.ifCond .ne 4, 3) := by decide +kernel
theorem d_M_tries_90 : decode b_M_tries 90 = .ok (.return_, 1) := by decide +kernel
theorem d_M_tries_91 : decode b_M_tries 91 = .ok (.aload_n 0, 1) := by decide +kernel
theorem d_M_tries_92 : decode b_M_tries 92 = .ok (.iconst 0, 1) := by decide +kernel
theorem d_M_tries_93 : decode b_M_tries 93 = .ok (.putfield 180, 3) := by decide +kernel
theorem d_M_tries_96 : decode b_M_tries 96 = .ok (.iload_n 2, 1) := by decide +kernel
theorem d_M_tries_97 : decode b_M_tries 97 = .ok (.iconst (-1), 1) := by decide +kernel
theorem d_M_tries_98 : decode b_M_tries 98 = .ok (.if_icmp .eq 11, 3) := by decide +kernel
theorem d_M_tries_101 : decode b_M_tries 101 = .ok (.aload_n 0, 1) := by decide +kernel
theorem d_M_tries_102 : decode b_M_tries 102 = .ok (.iload_n 2, 1) := by decide +kernel
theorem d_M_tries_103 : decode b_M_tries 103 = .ok (.invokestatic 124, 3) := by decide +kernel
theorem d_M_tries_106 : decode b_M_tries 106 = .ok (.invokevirtual 193, 3) := by decide +kernel
theorem d_M_tries_109 : decode b_M_tries 109 = .ok (.iload_n 3, 1) := by decide +kernel
theorem d_M_tries_110 : decode b_M_tries 110 = .ok (.iconst (-1), 1) := by decide +kernel
theorem d_M_tries_111 : decode b_M_tries 111 = .ok (.if_icmp .eq 11, 3) := by decide +kernel
theorem d_M_tries_114 : decode b_M_tries 114 = .ok (.aload_n 0, 1) := by decide +kernel
theorem d_M_tries_115 : decode b_M_tries 115 = .ok (.iload_n 3, 1) := by decide +kernel
theorem d_M_tries_116 : decode b_M_tries 116 = .ok (.invokestatic 124, 3) := by decide +kernel
theorem d_M_tries_119 : decode b_M_tries 119 = .ok (.invokevirtual 193, 3) := by decide +kernel
theorem d_M_tries_122 : decode b_M_tries 122 = .ok (.iload 4, 2) := by decide +kernel
theorem d_M_tries_124 : decode b_M_tries 124 = .ok (.bipush 99, 2) := by decide +kernel
theorem d_M_tries_126 : decode b_M_tries 126 = .ok (.if_icmp .le 50, 3) := by decide +kernel
theorem d_M_tries_129 : decode b_M_tries 129 = .ok (.iconst 0, 1) := by decide +kernel
theorem d_M_tries_130 : decode b_M_tries 130 = .ok (.istore 6, 2) := by decide +kernel
theorem d_M_tries_132 : decode b_M_tries 132 = .ok (.iload 6, 2) := by decide +kernel
theorem d_M_tries_134 : decode b_M_tries 134 = .ok (.aload_n 0, 1) := by decide +kernel
theorem d_M_tries_135 : decode b_M_tries 135 = .ok (.getfield 16, 3) := by decide +kernel
theorem d_M_tries_138 : decode b_M_tries 138 = .ok (.iload 4, 2) := by decide +kernel
theorem d_M_tries_140 : decode b_M_tries 140 = .ok (.bipush 100, 2) := by decide +kernel
theorem d_M_tries_142 : decode b_M_tries 142 = .ok (.isub, 1) := by decide +kernel
theorem d_M_tries_143 : decode b_M_tries 143 = .ok (.iaload, 1) := by decide +kernel
theorem d_M_tries_144 : decode b_M_tries 144 = .ok (.if_icmp .ge 29, 3) := by decide +kernel
theorem d_M_tries_147 : decode b_M_tries 147 = .ok (.aload_n 0, 1) := by decide +kernel
theorem d_M_tries_148 : decode b_M_tries 148 = .ok (.aload_n 0, 1) := by decide +kernel
theorem d_M_tries_149 : decode b_M_tries 149 = .ok (.getfield 13, 3) := by decide +kernel
theorem d_M_tries_152 : decode b_M_tries 152 = .ok (.bipush 8, 2) := by decide +kernel
theorem d_M_tries_154 : decode b_M_tries 154 = .ok (.iload 4, 2) := by decide +kernel
theorem d_M_tries_156 : decode b_M_tries 156 = .ok (.bipush 100, 2) := by decide +kernel
theorem d_M_tries_158 : decode b_M_tries 158 = .ok (.isub, 1) := by decide +kernel
theorem d_M_tries_159 : decode b_M_tries 159 = .ok (.imul, 1) := by decide +kernel
theorem d_M_tries_160 : decode b_M_tries 160 = .ok (.iload 6, 2) := by decide +kernel
theorem d_M_tries_162 : decode b_M_tries 162 = .ok (.iadd, 1) := by decide +kernel
theorem d_M_tries_163 : decode b_M_tries 163 = .ok (.iaload, 1) := by decide +kernel
theorem d_M_tries_164 : decode b_M_tries 164 = .ok (.invokevirtual 183, 3) := by decide +kernel
theorem d_M_tries_167 : decode b_M_tries 167 = .ok (.iinc 6 1, 3) := by decide +kernel
theorem d_M_tries_170 : decode b_M_tries 170 = .ok (.goto (-38), 3) := by decide +kernel
theorem d_M_tries_173 : decode b_M_tries 173 = .ok (.goto 40, 3) := by decide +kernel
theorem d_M_tries_176 : decode b_M_tries 176 = .ok (.iload 4, 2) := by decide +kernel
theorem d_M_tries_178 : decode b_M_tries 178 = .ok (.bipush 9, 2) := by decide +kernel
theorem d_M_tries_180 : decode b_M_tries 180 = .ok (.if_icmp .le 15, 3) := by decide +kernel
theorem d_M_tries_183 : decode b_M_tries 183 = .ok (.aload_n 0, 1) := by decide +kernel
theorem d_M_tries_184 : decode b_M_tries 184 = .ok (.bipush 48, 2) := by decide +kernel
theorem d_M_tries_186 : decode b_M_tries 186 = .ok (.iload 4, 2) := by decide +kernel
theorem d_M_tries_188 : decode b_M_tries 188 = .ok (.bipush 10, 2) := by decide +kernel
theorem d_M_tries_190 : decode b_M_tries 190 = .ok (.idiv, 1) := by decide +kernel
theorem d_M_tries_191 : decode b_M_tries 191 = .ok (.iadd, 1) := by decide +kernel
theorem d_M_tries_192 : decode b_M_tries 192 = .ok (.invokevirtual 183, 3) := by decide +kernel
theorem d_M_tries_195 : decode b_M_tries 195 = .ok (.aload_n 0, 1) := by decide +kernel
theorem d_M_tries_196 : decode b_M_tries 196 = .ok (.bipush 48, 2) := by decide +kernel
theorem d_M_tries_198 : decode b_M_tries 198 = .ok (.iload 4, 2) := by decide +kernel
theorem d_M_tries_200 : decode b_M_tries 200 = .ok (.bipush 10, 2) := by decide +kernel
theorem d_M_tries_202 : decode b_M_tries 202 = .ok (.irem, 1) := by decide +kernel
theorem d_M_tries_203 : decode b_M_tries 203 = .ok (.iadd, 1) := by decide +kernel
theorem d_M_tries_204 : decode b_M_tries 204 = .ok (.invokevirtual 183, 3) := by decide +kernel
theorem d_M_tries_207 : decode b_M_tries 207 = .ok (.aload_n 0, 1) := by decide +kernel
theorem d_M_tries_208 : decode b_M_tries 208 = .ok (.bipush 99, 2) := by decide +kernel
theorem d_M_tries_210 : decode b_M_tries 210 = .ok (.invokevirtual 183, 3) := by decide +kernel
theorem d_M_tries_213 : decode b_M_tries 213 = .ok (.aload_n 0, 1) := by decide +kernel
theorem d_M_tries_214 : decode b_M_tries 214 = .ok (.invokevirtual 197, 3) := by decide +kernel
theorem d_M_tries_217 : decode b_M_tries 217 = .ok (.ifCond .eq 43, 3) := by decide +kernel
theorem d_M_tries_220 : decode b_M_tries 220 = .ok (.aload_n 0, 1) := by decide +kernel
theorem d_M_tries_221 : decode b_M_tries 221 = .ok (.aload_n 0, 1) := by decide +kernel
theorem d_M_tries_222 : decode b_M_tries 222 = .ok (.getfield 180, 3) := by decide +kernel
theorem d_M_tries_225 : decode b_M_tries 225 = .ok (.putfield 187, 3) := by decide +kernel
theorem d_M_tries_228 : decode b_M_tries 228 = .ok (.iconst 0, 1) := by decide +kernel
theorem d_M_tries_229 : decode b_M_tries 229 = .ok (.istore 6, 2) := by decide +kernel
theorem d_M_tries_231 : decode b_M_tries 231 = .ok (.iload 6, 2) := by decide +kernel
theorem d_M_tries_233 : decode b_M_tries 233 = .ok (.aload_n 0, 1) := by decide +kernel
theorem d_M_tries_234 : decode b_M_tries 234 = .ok (.getfield 180, 3) := by decide +kernel
theorem d_M_tries_237 : decode b_M_tries 237 = .ok (.if_icmp .ge 23, 3) := by decide +kernel
theorem d_M_tries_240 : decode b_M_tries 240 = .ok (.aload_n 0, 1) := by decide +kernel
theorem d_M_tries_241 : decode b_M_tries 241 = .ok (.getfield 63, 3) := by decide +kernel
theorem d_M_tries_244 : decode b_M_tries 244 = .ok (.iload 6, 2) := by decide +kernel
theorem d_M_tries_246 : decode b_M_tries 246 = .ok (.aload_n 0, 1) := by decide +kernel
theorem d_M_tries_247 : decode b_M_tries 247 = .ok (.getfield 60, 3) := by decide +kernel
theorem d_M_tries_250 : decode b_M_tries 250 = .ok (.iload 6, 2) := by decide +kernel
theorem d_M_tries_252 : decode b_M_tries 252 = .ok (.iaload, 1) := by decide +kernel
theorem d_M_tries_253 : decode b_M_tries 253 = .ok (.iastore, 1) := by decide +kernel
theorem d_M_tries_254 : decode b_M_tries 254 = .ok (.iinc 6 1, 3) := by decide +kernel
theorem d_M_tries_257 : decode b_M_tries 257 = .ok (.goto (-26), 3) := by decide +kernel
theorem d_M_tries_260 : decode b_M_tries 260 = .ok (.return_, 1) := by decide +kernel
theorem d_M_says_0 : decode b_M_says 0 = .ok (.iload_n 2, 1) := by decide +kernel
theorem d_M_says_1 : decode b_M_says 1 = .ok (.iconst (-1), 1) := by decide +kernel
theorem d_M_says_2 : decode b_M_says 2 = .ok (.if_icmp .eq 11, 3) := by decide +kernel
theorem d_M_says_5 : decode b_M_says 5 = .ok (.aload_n 0, 1) := by decide +kernel
theorem d_M_says_6 : decode b_M_says 6 = .ok (.iload_n 2, 1) := by decide +kernel
theorem d_M_says_7 : decode b_M_says 7 = .ok (.invokevirtual 154, 3) := by decide +kernel
theorem d_M_says_10 : decode b_M_says 10 = .ok (.ifCond .eq 7, 3) := by decide +kernel
theorem d_M_says_13 : decode b_M_says 13 = .ok (.iconst 1, 1) := by decide +kernel
theorem d_M_says_14 : decode b_M_says 14 = .ok (.goto 4, 3) := by decide +kernel
theorem d_M_says_17 : decode b_M_says 17 = .ok (.iconst 0, 1) := by decide +kernel
theorem d_M_says_18 : decode b_M_says 18 = .ok (.istore_n 3, 1) := by decide +kernel
theorem d_M_says_19 : decode b_M_says 19 = .ok (.aload_n 0, 1) := by decide +kernel
theorem d_M_says_20 : decode b_M_says 20 = .ok (.iload_n 1, 1) := by decide +kernel
theorem d_M_says_21 : decode b_M_says 21 = .ok (.iconst 0, 1) := by decide +kernel
theorem d_M_says_22 : decode b_M_says 22 = .ok (.invokevirtual 167, 3) := by decide +kernel
theorem d_M_says_25 : decode b_M_says 25 = .ok (.ifCond .ne 16, 3) := by decide +kernel
theorem d_M_says_28 : decode b_M_says 28 = .ok (.aload_n 0, 1) := by decide +kernel
theorem d_M_says_29 : decode b_M_says 29 = .ok (.getfield 44, 3) := by decide +kernel
theorem d_M_says_32 : decode b_M_says 32 = .ok (.iload_n 1, 1) := by decide +kernel
theorem d_M_says_33 : decode b_M_says 33 = .ok (.iaload, 1) := by decide +kernel
theorem d_M_says_34 : decode b_M_says 34 = .ok (.aload_n 0, 1) := by decide +kernel
theorem d_M_says_35 : decode b_M_says 35 = .ok (.getfield 132, 3) := by decide +kernel
theorem d_M_says_38 : decode b_M_says 38 = .ok (.if_icmp .ne 7, 3) := by decide +kernel
theorem d_M_says_41 : decode b_M_says 41 = .ok (.iconst 1, 1) := by decide +kernel
theorem d_M_says_42 : decode b_M_says 42 = .ok (.goto 4, 3) := by decide +kernel
theorem d_M_says_45 : decode b_M_says 45 = .ok (.iconst 0, 1) := by decide +kernel
theorem d_M_says_46 : decode b_M_says 46 = .ok (.istore 4, 2) := by decide +kernel
theorem d_M_says_48 : decode b_M_says 48 = .ok (.iload_n 3, 1) := by decide +kernel
theorem d_M_says_49 : decode b_M_says 49 = .ok (.ifCond .eq 47, 3) := by decide +kernel
theorem d_M_says_52 : decode b_M_says 52 = .ok (.aload_n 0, 1) := by decide +kernel
theorem d_M_says_53 : decode b_M_says 53 = .ok (.getfield 138, 3) := by decide +kernel
theorem d_M_says_56 : decode b_M_says 56 = .ok (.aload_n 0, 1) := by decide +kernel
theorem d_M_says_57 : decode b_M_says 57 = .ok (.getfield 50, 3) := by decide +kernel
theorem d_M_says_60 : decode b_M_says 60 = .ok (.iload_n 1, 1) := by decide +kernel
theorem d_M_says_61 : decode b_M_says 61 = .ok (.iaload, 1) := by decide +kernel
theorem d_M_says_62 : decode b_M_says 62 = .ok (.if_icmp .ne 34, 3) := by decide +kernel
theorem d_M_says_65 : decode b_M_says 65 = .ok (.iload 4, 2) := by decide +kernel
theorem d_M_says_67 : decode b_M_says 67 = .ok (.ifCond .eq 29, 3) := by decide +kernel
theorem d_M_says_70 : decode b_M_says 70 = .ok (.aload_n 0, 1) := by decide +kernel
theorem d_M_says_71 : decode b_M_says 71 = .ok (.iload_n 1, 1) := by decide +kernel
theorem d_M_says_72 : decode b_M_says 72 = .ok (.iconst 1, 1) := by decide +kernel
theorem d_M_says_73 : decode b_M_says 73 = .ok (.invokevirtual 167, 3) := by decide +kernel
theorem d_M_says_76 : decode b_M_says 76 = .ok (.ifCond .ne 16, 3) := by decide +kernel
theorem d_M_says_79 : decode b_M_says 79 = .ok (.aload_n 0, 1) := by decide +kernel
theorem d_M_says_80 : decode b_M_says 80 = .ok (.getfield 47, 3) := by decide +kernel
theorem d_M_says_83 : decode b_M_says 83 = .ok (.iload_n 1, 1) := by decide +kernel
theorem d_M_says_84 : decode b_M_says 84 = .ok (.iaload, 1) := by decide +kernel
theorem d_M_says_85 : decode b_M_says 85 = .ok (.aload_n 0, 1) := by decide +kernel
theorem d_M_says_86 : decode b_M_says 86 = .ok (.getfield 135, 3) := by decide +kernel
theorem d_M_says_89 : decode b_M_says 89 = .ok (.if_icmp .ne 7, 3) := by decide +kernel
theorem d_M_says_92 : decode b_M_says 92 = .ok (.iconst 1, 1) := by decide +kernel
theorem d_M_says_93 : decode b_M_says 93 = .ok (.goto 4, 3) := by decide +kernel
theorem d_M_says_96 : decode b_M_says 96 = .ok (.iconst 0, 1) := by decide +kernel
theorem d_M_says_97 : decode b_M_says 97 = .ok (.ireturn, 1) := by decide +kernel
theorem d_M_putWord_0 : decode b_M_putWord 0 = .ok (.iconst 0, 1) := by decide +kernel
theorem d_M_putWord_1 : decode b_M_putWord 1 = .ok (.istore_n 3, 1) := by decide +kernel
theorem d_M_putWord_2 : decode b_M_putWord 2 = .ok (.iload_n 3, 1) := by decide +kernel
theorem d_M_putWord_3 : decode b_M_putWord 3 = .ok (.lload_n 1, 1) := by decide +kernel
theorem d_M_putWord_4 : decode b_M_putWord 4 = .ok (.invokestatic 106, 3) := by decide +kernel
theorem d_M_putWord_7 : decode b_M_putWord 7 = .ok (.if_icmp .ge 18, 3) := by decide +kernel
theorem d_M_putWord_10 : decode b_M_putWord 10 = .ok (.aload_n 0, 1) := by decide +kernel
theorem d_M_putWord_11 : decode b_M_putWord 11 = .ok (.lload_n 1, 1) := by decide +kernel
theorem d_M_putWord_12 : decode b_M_putWord 12 = .ok (.iload_n 3, 1) := by decide +kernel
theorem d_M_putWord_13 : decode b_M_putWord 13 = .ok (.invokestatic 128, 3) := by decide +kernel
theorem d_M_putWord_16 : decode b_M_putWord 16 = .ok (.invokevirtual 183, 3) := by decide +kernel
theorem d_M_putWord_19 : decode b_M_putWord 19 = .ok (.iinc 3 1, 3) := by decide +kernel
theorem d_M_putWord_22 : decode b_M_putWord 22 = .ok (.goto (-20), 3) := by decide +kernel
theorem d_M_putWord_25 : decode b_M_putWord 25 = .ok (.return_, 1) := by decide +kernel
theorem d_M_put_0 : decode b_M_put 0 = .ok (.aload_n 0, 1) := by decide +kernel
theorem d_M_put_1 : decode b_M_put 1 = .ok (.getfield 60, 3) := by decide +kernel
theorem d_M_put_4 : decode b_M_put 4 = .ok (.aload_n 0, 1) := by decide +kernel
theorem d_M_put_5 : decode b_M_put 5 = .ok (.getfield 180, 3) := by decide +kernel
theorem d_M_put_8 : decode b_M_put 8 = .ok (.iload_n 1, 1) := by decide +kernel
theorem d_M_put_9 : decode b_M_put 9 = .ok (.iastore, 1) := by decide +kernel
theorem d_M_put_10 : decode b_M_put 10 = .ok (.aload_n 0, 1) := by decide +kernel
theorem d_M_put_11 : decode b_M_put 11 = .ok (.dup, 1) := by decide +kernel
theorem d_M_put_12 : decode b_M_put 12 = .ok (.getfield 180, 3) := by decide +kernel
theorem d_M_put_15 : decode b_M_put 15 = .ok (.iconst 1, 1) := by decide +kernel
theorem d_M_put_16 : decode b_M_put 16 = .ok (.iadd, 1) := by decide +kernel
theorem d_M_put_17 : decode b_M_put 17 = .ok (.putfield 180, 3) := by decide +kernel
theorem d_M_put_20 : decode b_M_put 20 = .ok (.return_, 1) := by decide +kernel
theorem d_M_isBetter_0 : decode b_M_isBetter 0 = .ok (.aload_n 0, 1) := by decide +kernel
theorem d_M_isBetter_1 : decode b_M_isBetter 1 = .ok (.getfield 187, 3) := by decide +kernel
theorem d_M_isBetter_4 : decode b_M_isBetter 4 = .ok (.ifCond .eq 14, 3) := by decide +kernel
theorem d_M_isBetter_7 : decode b_M_isBetter 7 = .ok (.aload_n 0, 1) := by decide +kernel
theorem d_M_isBetter_8 : decode b_M_isBetter 8 = .ok (.getfield 180, 3) := by decide +kernel
theorem d_M_isBetter_11 : decode b_M_isBetter 11 = .ok (.aload_n 0, 1) := by decide +kernel
theorem d_M_isBetter_12 : decode b_M_isBetter 12 = .ok (.getfield 187, 3) := by decide +kernel
theorem d_M_isBetter_15 : decode b_M_isBetter 15 = .ok (.if_icmp .eq 27, 3) := by decide +kernel
theorem d_M_isBetter_18 : decode b_M_isBetter 18 = .ok (.aload_n 0, 1) := by decide +kernel
theorem d_M_isBetter_19 : decode b_M_isBetter 19 = .ok (.getfield 187, 3) := by decide +kernel
theorem d_M_isBetter_22 : decode b_M_isBetter 22 = .ok (.ifCond .eq 14, 3) := by decide +kernel
theorem d_M_isBetter_25 : decode b_M_isBetter 25 = .ok (.aload_n 0, 1) := by decide +kernel
theorem d_M_isBetter_26 : decode b_M_isBetter 26 = .ok (.getfield 180, 3) := by decide +kernel
theorem d_M_isBetter_29 : decode b_M_isBetter 29 = .ok (.aload_n 0, 1) := by decide +kernel
theorem d_M_isBetter_30 : decode b_M_isBetter 30 = .ok (.getfield 187, 3) := by decide +kernel
theorem d_M_isBetter_33 : decode b_M_isBetter 33 = .ok (.if_icmp .ge 7, 3) := by decide +kernel
theorem d_M_isBetter_36 : decode b_M_isBetter 36 = .ok (.iconst 1, 1) := by decide +kernel
theorem d_M_isBetter_37 : decode b_M_isBetter 37 = .ok (.goto 4, 3) := by decide +kernel
theorem d_M_isBetter_40 : decode b_M_isBetter 40 = .ok (.iconst 0, 1) := by decide +kernel
theorem d_M_isBetter_41 : decode b_M_isBetter 41 = .ok (.ireturn, 1) := by decide +kernel
theorem d_M_isBetter_42 : decode b_M_isBetter 42 = .ok (.iconst 0, 1) := by decide +kernel
theorem d_M_isBetter_43 : decode b_M_isBetter 43 = .ok (.istore_n 1, 1) := by decide +kernel
theorem d_M_isBetter_44 : decode b_M_isBetter 44 = .ok (.iload_n 1, 1) := by decide +kernel
theorem d_M_isBetter_45 : decode b_M_isBetter 45 = .ok (.aload_n 0, 1) := by decide +kernel
theorem d_M_isBetter_46 : decode b_M_isBetter 46 = .ok (.getfield 180, 3) := by decide +kernel
theorem d_M_isBetter_49 : decode b_M_isBetter 49 = .ok (.iconst 1, 1) := by decide +kernel
theorem d_M_isBetter_50 : decode b_M_isBetter 50 = .ok (.isub, 1) := by decide +kernel
theorem d_M_isBetter_51 : decode b_M_isBetter 51 = .ok (.if_icmp .ge 24, 3) := by decide +kernel
theorem d_M_isBetter_54 : decode b_M_isBetter 54 = .ok (.aload_n 0, 1) := by decide +kernel
theorem d_M_isBetter_55 : decode b_M_isBetter 55 = .ok (.getfield 60, 3) := by decide +kernel
theorem d_M_isBetter_58 : decode b_M_isBetter 58 = .ok (.iload_n 1, 1) := by decide +kernel
theorem d_M_isBetter_59 : decode b_M_isBetter 59 = .ok (.iaload, 1) := by decide +kernel
theorem d_M_isBetter_60 : decode b_M_isBetter 60 = .ok (.aload_n 0, 1) := by decide +kernel
theorem d_M_isBetter_61 : decode b_M_isBetter 61 = .ok (.getfield 63, 3) := by decide +kernel
theorem d_M_isBetter_64 : decode b_M_isBetter 64 = .ok (.iload_n 1, 1) := by decide +kernel
theorem d_M_isBetter_65 : decode b_M_isBetter 65 = .ok (.iaload, 1) := by decide +kernel
theorem d_M_isBetter_66 : decode b_M_isBetter 66 = .ok (.if_icmp .ne 9, 3) := by decide +kernel
theorem d_M_isBetter_69 : decode b_M_isBetter 69 = .ok (.iinc 1 1, 3) := by decide +kernel
theorem d_M_isBetter_72 : decode b_M_isBetter 72 = .ok (.goto (-28), 3) := by decide +kernel
theorem d_M_isBetter_75 : decode b_M_isBetter 75 = .ok (.aload_n 0, 1) := by decide +kernel
theorem d_M_isBetter_76 : decode b_M_isBetter 76 = .ok (.getfield 60, 3) := by decide +kernel
theorem d_M_isBetter_79 : decode b_M_isBetter 79 = .ok (.iload_n 1, 1) := by decide +kernel
theorem d_M_isBetter_80 : decode b_M_isBetter 80 = .ok (.iaload, 1) := by decide +kernel
theorem d_M_isBetter_81 : decode b_M_isBetter 81 = .ok (.aload_n 0, 1) := by decide +kernel
theorem d_M_isBetter_82 : decode b_M_isBetter 82 = .ok (.getfield 63, 3) := by decide +kernel
theorem d_M_isBetter_85 : decode b_M_isBetter 85 = .ok (.iload_n 1, 1) := by decide +kernel
theorem d_M_isBetter_86 : decode b_M_isBetter 86 = .ok (.iaload, 1) := by decide +kernel
theorem d_M_isBetter_87 : decode b_M_isBetter 87 = .ok (.if_icmp .ge 7, 3) := by decide +kernel
theorem d_M_isBetter_90 : decode b_M_isBetter 90 = .ok (.iconst 1, 1) := by decide +kernel
theorem d_M_isBetter_91 : decode b_M_isBetter 91 = .ok (.goto 4, 3) := by decide +kernel
theorem d_M_isBetter_94 : decode b_M_isBetter 94 = .ok (.iconst 0, 1) := by decide +kernel
theorem d_M_isBetter_95 : decode b_M_isBetter 95 = .ok (.ireturn, 1) := by decide +kernel
theorem d_M_near_0 : decode b_M_near 0 = .ok (.aload_n 0, 1) := by decide +kernel
theorem d_M_near_1 : decode b_M_near 1 = .ok (.iconst 0, 1) := by decide +kernel
theorem d_M_near_2 : decode b_M_near 2 = .ok (.putfield 69, 3) := by decide +kernel
theorem d_M_near_5 : decode b_M_near 5 = .ok (.iconst (-1), 1) := by decide +kernel
theorem d_M_near_6 : decode b_M_near 6 = .ok (.istore_n 1, 1) := by decide +kernel
theorem d_M_near_7 : decode b_M_near 7 = .ok (.bipush 100, 2) := by decide +kernel
theorem d_M_near_9 : decode b_M_near 9 = .ok (.istore_n 2, 1) := by decide +kernel
theorem d_M_near_10 : decode b_M_near 10 = .ok (.iconst 0, 1) := by decide +kernel
theorem d_M_near_11 : decode b_M_near 11 = .ok (.istore_n 3, 1) := by decide +kernel
theorem d_M_near_12 : decode b_M_near 12 = .ok (.iload_n 3, 1) := by decide +kernel
theorem d_M_near_13 : decode b_M_near 13 = .ok (.aload_n 0, 1) := by decide +kernel
theorem d_M_near_14 : decode b_M_near 14 = .ok (.getfield 76, 3) := by decide +kernel
theorem d_M_near_17 : decode b_M_near 17 = .ok (.if_icmp .ge 41, 3) := by decide +kernel
theorem d_M_near_20 : decode b_M_near 20 = .ok (.aload_n 0, 1) := by decide +kernel
theorem d_M_near_21 : decode b_M_near 21 = .ok (.iload_n 3, 1) := by decide +kernel
theorem d_M_near_22 : decode b_M_near 22 = .ok (.invokevirtual 205, 3) := by decide +kernel
theorem d_M_near_25 : decode b_M_near 25 = .ok (.istore 4, 2) := by decide +kernel
theorem d_M_near_27 : decode b_M_near 27 = .ok (.iload 4, 2) := by decide +kernel
theorem d_M_near_29 : decode b_M_near 29 = .ok (.iload_n 2, 1) := by decide +kernel
theorem d_M_near_30 : decode b_M_near 30 = .ok (.if_icmp .ge 7, 3) := by decide +kernel
theorem d_M_near_33 : decode b_M_near 33 = .ok (.iload_n 3, 1) := by decide +kernel
theorem d_M_near_34 : decode b_M_near 34 = .ok (.goto 4, 3) := by decide +kernel
theorem d_M_near_37 : decode b_M_near 37 = .ok (.iload_n 1, 1) := by decide +kernel
theorem d_M_near_38 : decode b_M_near 38 = .ok (.istore_n 1, 1) := by decide +kernel
theorem d_M_near_39 : decode b_M_near 39 = .ok (.iload 4, 2) := by decide +kernel
theorem d_M_near_41 : decode b_M_near 41 = .ok (.iload_n 2, 1) := by decide +kernel
theorem d_M_near_42 : decode b_M_near 42 = .ok (.if_icmp .ge 8, 3) := by decide +kernel
theorem d_M_near_45 : decode b_M_near 45 = .ok (.iload 4, 2) := by decide +kernel
theorem d_M_near_47 : decode b_M_near 47 = .ok (.goto 4, 3) := by decide +kernel
theorem d_M_near_50 : decode b_M_near 50 = .ok (.iload_n 2, 1) := by decide +kernel
theorem d_M_near_51 : decode b_M_near 51 = .ok (.istore_n 2, 1) := by decide +kernel
theorem d_M_near_52 : decode b_M_near 52 = .ok (.iinc 3 1, 3) := by decide +kernel
theorem d_M_near_55 : decode b_M_near 55 = .ok (.goto (-43), 3) := by decide +kernel
theorem d_M_near_58 : decode b_M_near 58 = .ok (.iload_n 1, 1) := by decide +kernel
theorem d_M_near_59 : decode b_M_near 59 = .ok (.ireturn, 1) := by decide +kernel
theorem d_M_far_0 : decode b_M_far 0 = .ok (.iconst 0, 1) := by decide +kernel
theorem d_M_far_1 : decode b_M_far 1 = .ok (.istore_n 2, 1) := by decide +kernel
theorem d_M_far_2 : decode b_M_far 2 = .ok (.iload_n 2, 1) := by decide +kernel
theorem d_M_far_3 : decode b_M_far 3 = .ok (.aload_n 0, 1) := by decide +kernel
theorem d_M_far_4 : decode b_M_far 4 = .ok (.getfield 93, 3) := by decide +kernel
theorem d_M_far_7 : decode b_M_far 7 = .ok (.if_icmp .gt 16, 3) := by decide +kernel
theorem d_M_far_10 : decode b_M_far 10 = .ok (.aload_n 0, 1) := by decide +kernel
theorem d_M_far_11 : decode b_M_far 11 = .ok (.getfield 66, 3) := by decide +kernel
theorem d_M_far_14 : decode b_M_far 14 = .ok (.iload_n 2, 1) := by decide +kernel
theorem d_M_far_15 : decode b_M_far 15 = .ok (.iload_n 2, 1) := by decide +kernel
theorem d_M_far_16 : decode b_M_far 16 = .ok (.iastore, 1) := by decide +kernel
theorem d_M_far_17 : decode b_M_far 17 = .ok (.iinc 2 1, 3) := by decide +kernel
theorem d_M_far_20 : decode b_M_far 20 = .ok (.goto (-18), 3) := by decide +kernel
theorem d_M_far_23 : decode b_M_far 23 = .ok (.iconst 1, 1) := by decide +kernel
theorem d_M_far_24 : decode b_M_far 24 = .ok (.istore_n 2, 1) := by decide +kernel
theorem d_M_far_25 : decode b_M_far 25 = .ok (.iload_n 2, 1) := by decide +kernel
theorem d_M_far_26 : decode b_M_far 26 = .ok (.aload_n 0, 1) := by decide +kernel
theorem d_M_far_27 : decode b_M_far 27 = .ok (.getfield 16, 3) := by decide +kernel
theorem d_M_far_30 : decode b_M_far 30 = .ok (.iload_n 1, 1) := by decide +kernel
theorem d_M_far_31 : decode b_M_far 31 = .ok (.iaload, 1) := by decide +kernel
theorem d_M_far_32 : decode b_M_far 32 = .ok (.if_icmp .gt 152, 3) := by decide +kernel
theorem d_M_far_35 : decode b_M_far 35 = .ok (.aload_n 0, 1) := by decide +kernel
theorem d_M_far_36 : decode b_M_far 36 = .ok (.getfield 66, 3) := by decide +kernel
theorem d_M_far_39 : decode b_M_far 39 = .ok (.iconst 0, 1) := by decide +kernel
theorem d_M_far_40 : decode b_M_far 40 = .ok (.iaload, 1) := by decide +kernel
theorem d_M_far_41 : decode b_M_far 41 = .ok (.istore_n 3, 1) := by decide +kernel
theorem d_M_far_42 : decode b_M_far 42 = .ok (.aload_n 0, 1) := by decide +kernel
theorem d_M_far_43 : decode b_M_far 43 = .ok (.getfield 66, 3) := by decide +kernel
theorem d_M_far_46 : decode b_M_far 46 = .ok (.iconst 0, 1) := by decide +kernel
theorem d_M_far_47 : decode b_M_far 47 = .ok (.iload_n 2, 1) := by decide +kernel
theorem d_M_far_48 : decode b_M_far 48 = .ok (.iastore, 1) := by decide +kernel
theorem d_M_far_49 : decode b_M_far 49 = .ok (.iconst 1, 1) := by decide +kernel
theorem d_M_far_50 : decode b_M_far 50 = .ok (.istore 4, 2) := by decide +kernel
theorem d_M_far_52 : decode b_M_far 52 = .ok (.iload 4, 2) := by decide +kernel
theorem d_M_far_54 : decode b_M_far 54 = .ok (.aload_n 0, 1) := by decide +kernel
theorem d_M_far_55 : decode b_M_far 55 = .ok (.getfield 93, 3) := by decide +kernel
theorem d_M_far_58 : decode b_M_far 58 = .ok (.if_icmp .gt 120, 3) := by decide +kernel
theorem d_M_far_61 : decode b_M_far 61 = .ok (.iload_n 3, 1) := by decide +kernel
theorem d_M_far_62 : decode b_M_far 62 = .ok (.aload_n 0, 1) := by decide +kernel
theorem d_M_far_63 : decode b_M_far 63 = .ok (.getfield 13, 3) := by decide +kernel
theorem d_M_far_66 : decode b_M_far 66 = .ok (.bipush 8, 2) := by decide +kernel
theorem d_M_far_68 : decode b_M_far 68 = .ok (.iload_n 1, 1) := by decide +kernel
theorem d_M_far_69 : decode b_M_far 69 = .ok (.imul, 1) := by decide +kernel
theorem d_M_far_70 : decode b_M_far 70 = .ok (.iload_n 2, 1) := by decide +kernel
theorem d_M_far_71 : decode b_M_far 71 = .ok (.iadd, 1) := by decide +kernel
theorem d_M_far_72 : decode b_M_far 72 = .ok (.iconst 1, 1) := by decide +kernel
theorem d_M_far_73 : decode b_M_far 73 = .ok (.isub, 1) := by decide +kernel
theorem d_M_far_74 : decode b_M_far 74 = .ok (.iaload, 1) := by decide +kernel
theorem d_M_far_75 : decode b_M_far 75 = .ok (.aload_n 0, 1) := by decide +kernel
theorem d_M_far_76 : decode b_M_far 76 = .ok (.getfield 7, 3) := by decide +kernel
theorem d_M_far_79 : decode b_M_far 79 = .ok (.iload 4, 2) := by decide +kernel
theorem d_M_far_81 : decode b_M_far 81 = .ok (.iconst 1, 1) := by decide +kernel
theorem d_M_far_82 : decode b_M_far 82 = .ok (.isub, 1) := by decide +kernel
theorem d_M_far_83 : decode b_M_far 83 = .ok (.iaload, 1) := by decide +kernel
theorem d_M_far_84 : decode b_M_far 84 = .ok (.if_icmp .ne 7, 3) := by decide +kernel
theorem d_M_far_87 : decode b_M_far 87 = .ok (.iconst 0, 1) := by decide +kernel
theorem d_M_far_88 : decode b_M_far 88 = .ok (.goto 4, 3) := by decide +kernel
theorem d_M_far_91 : decode b_M_far 91 = .ok (.iconst 1, 1) := by decide +kernel
theorem d_M_far_92 : decode b_M_far 92 = .ok (.iadd, 1) := by decide +kernel
theorem d_M_far_93 : decode b_M_far 93 = .ok (.istore 5, 2) := by decide +kernel
theorem d_M_far_95 : decode b_M_far 95 = .ok (.aload_n 0, 1) := by decide +kernel
theorem d_M_far_96 : decode b_M_far 96 = .ok (.getfield 66, 3) := by decide +kernel
theorem d_M_far_99 : decode b_M_far 99 = .ok (.iload 4, 2) := by decide +kernel
theorem d_M_far_101 : decode b_M_far 101 = .ok (.iaload, 1) := by decide +kernel
theorem d_M_far_102 : decode b_M_far 102 = .ok (.istore_n 3, 1) := by decide +kernel
theorem d_M_far_103 : decode b_M_far 103 = .ok (.aload_n 0, 1) := by decide +kernel
theorem d_M_far_104 : decode b_M_far 104 = .ok (.getfield 66, 3) := by decide +kernel
theorem d_M_far_107 : decode b_M_far 107 = .ok (.iload 4, 2) := by decide +kernel
theorem d_M_far_109 : decode b_M_far 109 = .ok (.iaload, 1) := by decide +kernel
theorem d_M_far_110 : decode b_M_far 110 = .ok (.iconst 1, 1) := by decide +kernel
theorem d_M_far_111 : decode b_M_far 111 = .ok (.iadd, 1) := by decide +kernel
theorem d_M_far_112 : decode b_M_far 112 = .ok (.iload 5, 2) := by decide +kernel
theorem d_M_far_114 : decode b_M_far 114 = .ok (.if_icmp .ge 15, 3) := by decide +kernel
theorem d_M_far_117 : decode b_M_far 117 = .ok (.aload_n 0, 1) := by decide +kernel
theorem d_M_far_118 : decode b_M_far 118 = .ok (.getfield 66, 3) := by decide +kernel
theorem d_M_far_121 : decode b_M_far 121 = .ok (.iload 4, 2) := by decide +kernel
theorem d_M_far_123 : decode b_M_far 123 = .ok (.iaload, 1) := by decide +kernel
theorem d_M_far_124 : decode b_M_far 124 = .ok (.iconst 1, 1) := by decide +kernel
theorem d_M_far_125 : decode b_M_far 125 = .ok (.iadd, 1) := by decide +kernel
theorem d_M_far_126 : decode b_M_far 126 = .ok (.goto 5, 3) := by decide +kernel
theorem d_M_far_129 : decode b_M_far 129 = .ok (.iload 5, 2) := by decide +kernel
theorem d_M_far_131 : decode b_M_far 131 = .ok (.istore 5, 2) := by decide +kernel
theorem d_M_far_133 : decode b_M_far 133 = .ok (.aload_n 0, 1) := by decide +kernel
theorem d_M_far_134 : decode b_M_far 134 = .ok (.getfield 66, 3) := by decide +kernel
theorem d_M_far_137 : decode b_M_far 137 = .ok (.iload 4, 2) := by decide +kernel
theorem d_M_far_139 : decode b_M_far 139 = .ok (.aload_n 0, 1) := by decide +kernel
theorem d_M_far_140 : decode b_M_far 140 = .ok (.getfield 66, 3) := by decide +kernel
theorem d_M_far_143 : decode b_M_far 143 = .ok (.iload 4, 2) := by decide +kernel
theorem d_M_far_145 : decode b_M_far 145 = .ok (.iconst 1, 1) := by decide +kernel
theorem d_M_far_146 : decode b_M_far 146 = .ok (.isub, 1) := by decide +kernel
theorem d_M_far_147 : decode b_M_far 147 = .ok (.iaload, 1) := by decide +kernel
theorem d_M_far_148 : decode b_M_far 148 = .ok (.iconst 1, 1) := by decide +kernel
theorem d_M_far_149 : decode b_M_far 149 = .ok (.iadd, 1) := by decide +kernel
theorem d_M_far_150 : decode b_M_far 150 = .ok (.iload 5, 2) := by decide +kernel
theorem d_M_far_152 : decode b_M_far 152 = .ok (.if_icmp .ge 17, 3) := by decide +kernel
theorem d_M_far_155 : decode b_M_far 155 = .ok (.aload_n 0, 1) := by decide +kernel
theorem d_M_far_156 : decode b_M_far 156 = .ok (.getfield 66, 3) := by decide +kernel
theorem d_M_far_159 : decode b_M_far 159 = .ok (.iload 4, 2) := by decide +kernel
theorem d_M_far_161 : decode b_M_far 161 = .ok (.iconst 1, 1) := by decide +kernel
theorem d_M_far_162 : decode b_M_far 162 = .ok (.isub, 1) := by decide +kernel
theorem d_M_far_163 : decode b_M_far 163 = .ok (.iaload, 1) := by decide +kernel
theorem d_M_far_164 : decode b_M_far 164 = .ok (.iconst 1, 1) := by decide +kernel
theorem d_M_far_165 : decode b_M_far 165 = .ok (.iadd, 1) := by decide +kernel
theorem d_M_far_166 : decode b_M_far 166 = .ok (.goto 5, 3) := by decide +kernel
theorem d_M_far_169 : decode b_M_far 169 = .ok (.iload 5, 2) := by decide +kernel
theorem d_M_far_171 : decode b_M_far 171 = .ok (.iastore, 1) := by decide +kernel
theorem d_M_far_172 : decode b_M_far 172 = .ok (.iinc 4 1, 3) := by decide +kernel
theorem d_M_far_175 : decode b_M_far 175 = .ok (.goto (-123), 3) := by decide +kernel
theorem d_M_far_178 : decode b_M_far 178 = .ok (.iinc 2 1, 3) := by decide +kernel
theorem d_M_far_181 : decode b_M_far 181 = .ok (.goto (-156), 3) := by decide +kernel
theorem d_M_far_184 : decode b_M_far 184 = .ok (.aload_n 0, 1) := by decide +kernel
theorem d_M_far_185 : decode b_M_far 185 = .ok (.getfield 66, 3) := by decide +kernel
theorem d_M_far_188 : decode b_M_far 188 = .ok (.aload_n 0, 1) := by decide +kernel
theorem d_M_far_189 : decode b_M_far 189 = .ok (.getfield 93, 3) := by decide +kernel
theorem d_M_far_192 : decode b_M_far 192 = .ok (.iaload, 1) := by decide +kernel
theorem d_M_far_193 : decode b_M_far 193 = .ok (.ireturn, 1) := by decide +kernel
theorem d_M_feast_0 : decode b_M_feast 0 = .ok (.iload_n 1, 1) := by decide +kernel
theorem d_M_feast_1 : decode b_M_feast 1 = .ok (.invokestatic 102, 3) := by decide +kernel
theorem d_M_feast_4 : decode b_M_feast 4 = .ok (.ifCond .eq 39, 3) := by decide +kernel
theorem d_M_feast_7 : decode b_M_feast 7 = .ok (.iload_n 2, 1) := by decide +kernel
theorem d_M_feast_8 : decode b_M_feast 8 = .ok (.iconst 1, 1) := by decide +kernel
theorem d_M_feast_9 : decode b_M_feast 9 = .ok (.bipush 12, 2) := by decide +kernel
theorem d_M_feast_11 : decode b_M_feast 11 = .ok (.invokestatic 72, 3) := by decide +kernel
theorem d_M_feast_14 : decode b_M_feast 14 = .ok (.ifCond .eq 29, 3) := by decide +kernel
theorem d_M_feast_17 : decode b_M_feast 17 = .ok (.iload_n 3, 1) := by decide +kernel
theorem d_M_feast_18 : decode b_M_feast 18 = .ok (.iconst 0, 1) := by decide +kernel
theorem d_M_feast_19 : decode b_M_feast 19 = .ok (.bipush 6, 2) := by decide +kernel
theorem d_M_feast_21 : decode b_M_feast 21 = .ok (.invokestatic 72, 3) := by decide +kernel
theorem d_M_feast_24 : decode b_M_feast 24 = .ok (.ifCond .eq 19, 3) := by decide +kernel
theorem d_M_feast_27 : decode b_M_feast 27 = .ok (.iload 4, 2) := by decide +kernel
theorem d_M_feast_29 : decode b_M_feast 29 = .ok (.iconst (-1), 1) := by decide +kernel
theorem d_M_feast_30 : decode b_M_feast 30 = .ok (.if_icmp .eq 19, 3) := by decide +kernel
theorem d_M_feast_33 : decode b_M_feast 33 = .ok (.iload 4, 2) := by decide +kernel
theorem d_M_feast_35 : decode b_M_feast 35 = .ok (.iconst 1, 1) := by decide +kernel
theorem d_M_feast_36 : decode b_M_feast 36 = .ok (.iconst 5, 1) := by decide +kernel
theorem d_M_feast_37 : decode b_M_feast 37 = .ok (.invokestatic 72, 3) := by decide +kernel
theorem d_M_feast_40 : decode b_M_feast 40 = .ok (.ifCond .ne 9, 3) := by decide +kernel
theorem d_M_feast_43 : decode b_M_feast 43 = .ok (.aload_n 0, 1) := by decide +kernel
theorem d_M_feast_44 : decode b_M_feast 44 = .ok (.iconst 1, 1) := by decide +kernel
theorem d_M_feast_45 : decode b_M_feast 45 = .ok (.invokevirtual 89, 3) := by decide +kernel
theorem d_M_feast_48 : decode b_M_feast 48 = .ok (.ireturn, 1) := by decide +kernel
theorem d_M_feast_49 : decode b_M_feast 49 = .ok (.aload_n 0, 1) := by decide +kernel
theorem d_M_feast_50 : decode b_M_feast 50 = .ok (.iconst 0, 1) := by decide +kernel
theorem d_M_feast_51 : decode b_M_feast 51 = .ok (.putfield 69, 3) := by decide +kernel
theorem d_M_feast_54 : decode b_M_feast 54 = .ok (.sipush 365, 3) := by decide +kernel
theorem d_M_feast_57 : decode b_M_feast 57 = .ok (.iload_n 1, 1) := by decide +kernel
theorem d_M_feast_58 : decode b_M_feast 58 = .ok (.iconst 1, 1) := by decide +kernel
theorem d_M_feast_59 : decode b_M_feast 59 = .ok (.isub, 1) := by decide +kernel
theorem d_M_feast_60 : decode b_M_feast 60 = .ok (.imul, 1) := by decide +kernel
theorem d_M_feast_61 : decode b_M_feast 61 = .ok (.iload_n 1, 1) := by decide +kernel
theorem d_M_feast_62 : decode b_M_feast 62 = .ok (.iconst 1, 1) := by decide +kernel
theorem d_M_feast_63 : decode b_M_feast 63 = .ok (.isub, 1) := by decide +kernel
theorem d_M_feast_64 : decode b_M_feast 64 = .ok (.iconst 4, 1) := by decide +kernel
theorem d_M_feast_65 : decode b_M_feast 65 = .ok (.invokestatic 211, 3) := by decide +kernel
theorem d_M_feast_68 : decode b_M_feast 68 = .ok (.iadd, 1) := by decide +kernel
theorem d_M_feast_69 : decode b_M_feast 69 = .ok (.iload_n 1, 1) := by decide +kernel
theorem d_M_feast_70 : decode b_M_feast 70 = .ok (.iconst 1, 1) := by decide +kernel
theorem d_M_feast_71 : decode b_M_feast 71 = .ok (.isub, 1) := by decide +kernel
theorem d_M_feast_72 : decode b_M_feast 72 = .ok (.bipush 100, 2) := by decide +kernel
theorem d_M_feast_74 : decode b_M_feast 74 = .ok (.invokestatic 211, 3) := by decide +kernel
theorem d_M_feast_77 : decode b_M_feast 77 = .ok (.isub, 1) := by decide +kernel
theorem d_M_feast_78 : decode b_M_feast 78 = .ok (.iload_n 1, 1) := by decide +kernel
theorem d_M_feast_79 : decode b_M_feast 79 = .ok (.iconst 1, 1) := by decide +kernel
theorem d_M_feast_80 : decode b_M_feast 80 = .ok (.isub, 1) := by decide +kernel
theorem d_M_feast_81 : decode b_M_feast 81 = .ok (.sipush 400, 3) := by decide +kernel
theorem d_M_feast_84 : decode b_M_feast 84 = .ok (.invokestatic 211, 3) := by decide +kernel
theorem d_M_feast_87 : decode b_M_feast 87 = .ok (.iadd, 1) := by decide +kernel
theorem d_M_feast_88 : decode b_M_feast 88 = .ok (.istore 5, 2) := by decide +kernel
theorem d_M_feast_90 : decode b_M_feast 90 = .ok (.iconst 1, 1) := by decide +kernel
theorem d_M_feast_91 : decode b_M_feast 91 = .ok (.istore 6, 2) := by decide +kernel
theorem d_M_feast_93 : decode b_M_feast 93 = .ok (.iload 6, 2) := by decide +kernel
theorem d_M_feast_95 : decode b_M_feast 95 = .ok (.iload_n 2, 1) := by decide +kernel
theorem d_M_feast_96 : decode b_M_feast 96 = .ok (.if_icmp .ge 20, 3) := by decide +kernel
theorem d_M_feast_99 : decode b_M_feast 99 = .ok (.iload 5, 2) := by decide +kernel
theorem d_M_feast_101 : decode b_M_feast 101 = .ok (.iload_n 1, 1) := by decide +kernel
theorem d_M_feast_102 : decode b_M_feast 102 = .ok (.iload 6, 2) := by decide +kernel
theorem d_M_feast_104 : decode b_M_feast 104 = .ok (.invokestatic 215, 3) := by decide +kernel
theorem d_M_feast_107 : decode b_M_feast 107 = .ok (.iadd, 1) := by decide +kernel
theorem d_M_feast_108 : decode b_M_feast 108 = .ok (.istore 5, 2) := by decide +kernel
theorem d_M_feast_110 : decode b_M_feast 110 = .ok (.iinc 6 1, 3) := by decide +kernel
theorem d_M_feast_113 : decode b_M_feast 113 = .ok (.goto (-20), 3) := by decide +kernel
theorem d_M_feast_116 : decode b_M_feast 116 = .ok (.iconst 0, 1) := by decide +kernel
theorem d_M_feast_117 : decode b_M_feast 117 = .ok (.istore 6, 2) := by decide +kernel
theorem d_M_feast_119 : decode b_M_feast 119 = .ok (.iconst 0, 1) := by decide +kernel
theorem d_M_feast_120 : decode b_M_feast 120 = .ok (.istore 7, 2) := by decide +kernel
theorem d_M_feast_122 : decode b_M_feast 122 = .ok (.iconst 1, 1) := by decide +kernel
theorem d_M_feast_123 : decode b_M_feast 123 = .ok (.istore 8, 2) := by decide +kernel
theorem d_M_feast_125 : decode b_M_feast 125 = .ok (.iload 8, 2) := by decide +kernel
theorem d_M_feast_127 : decode b_M_feast 127 = .ok (.iload_n 1, 1) := by decide +kernel
theorem d_M_feast_128 : decode b_M_feast 128 = .ok (.iload_n 2, 1) := by decide +kernel
theorem d_M_feast_129 : decode b_M_feast 129 = .ok (.invokestatic 215, 3) := by decide +kernel
theorem d_M_feast_132 : decode b_M_feast 132 = .ok (.if_icmp .gt 61, 3) := by decide +kernel
theorem d_M_feast_135 : decode b_M_feast 135 = .ok (.iload 5, 2) := by decide +kernel
theorem d_M_feast_137 : decode b_M_feast 137 = .ok (.iload 8, 2) := by decide +kernel
theorem d_M_feast_139 : decode b_M_feast 139 = .ok (.iadd, 1) := by decide +kernel
theorem d_M_feast_140 : decode b_M_feast 140 = .ok (.iconst 1, 1) := by decide +kernel
theorem d_M_feast_141 : decode b_M_feast 141 = .ok (.isub, 1) := by decide +kernel
theorem d_M_feast_142 : decode b_M_feast 142 = .ok (.bipush 7, 2) := by decide +kernel
theorem d_M_feast_144 : decode b_M_feast 144 = .ok (.iload 5, 2) := by decide +kernel
theorem d_M_feast_146 : decode b_M_feast 146 = .ok (.iload 8, 2) := by decide +kernel
theorem d_M_feast_148 : decode b_M_feast 148 = .ok (.iadd, 1) := by decide +kernel
theorem d_M_feast_149 : decode b_M_feast 149 = .ok (.iconst 1, 1) := by decide +kernel
theorem d_M_feast_150 : decode b_M_feast 150 = .ok (.isub, 1) := by decide +kernel
theorem d_M_feast_151 : decode b_M_feast 151 = .ok (.bipush 7, 2) := by decide +kernel
theorem d_M_feast_153 : decode b_M_feast 153 = .ok (.invokestatic 211, 3) := by decide +kernel
theorem d_M_feast_156 : decode b_M_feast 156 = .ok (.imul, 1) := by decide +kernel
theorem d_M_feast_157 : decode b_M_feast 157 = .ok (.isub, 1) := by decide +kernel
theorem d_M_feast_158 : decode b_M_feast 158 = .ok (.iload_n 3, 1) := by decide +kernel
theorem d_M_feast_159 : decode b_M_feast 159 = .ok (.if_icmp .ne 28, 3) := by decide +kernel
theorem d_M_feast_162 : decode b_M_feast 162 = .ok (.iinc 6 1, 3) := by decide +kernel
theorem d_M_feast_165 : decode b_M_feast 165 = .ok (.iload 4, 2) := by decide +kernel
theorem d_M_feast_167 : decode b_M_feast 167 = .ok (.iconst (-1), 1) := by decide +kernel
theorem d_M_feast_168 : decode b_M_feast 168 = .ok (.if_icmp .eq 10, 3) := by decide +kernel
theorem d_M_feast_171 : decode b_M_feast 171 = .ok (.iload 6, 2) := by decide +kernel
theorem d_M_feast_173 : decode b_M_feast 173 = .ok (.iload 4, 2) := by decide +kernel
theorem d_M_feast_175 : decode b_M_feast 175 = .ok (.if_icmp .ne 8, 3) := by decide +kernel
theorem d_M_feast_178 : decode b_M_feast 178 = .ok (.iload 8, 2) := by decide +kernel
theorem d_M_feast_180 : decode b_M_feast 180 = .ok (.goto 5, 3) := by decide +kernel
theorem d_M_feast_183 : decode b_M_feast 183 = .ok (.iload 7, 2) := by decide +kernel
theorem d_M_feast_185 : decode b_M_feast 185 = .ok (.istore 7, 2) := by decide +kernel
theorem d_M_feast_187 : decode b_M_feast 187 = .ok (.iinc 8 1, 3) := by decide +kernel
theorem d_M_feast_190 : decode b_M_feast 190 = .ok (.goto (-65), 3) := by decide +kernel
theorem d_M_feast_193 : decode b_M_feast 193 = .ok (.iload 4, 2) := by decide +kernel
theorem d_M_feast_195 : decode b_M_feast 195 = .ok (.iconst (-1), 1) := by decide +kernel
theorem d_M_feast_196 : decode b_M_feast 196 = .ok (.if_icmp .eq 10, 3) := by decide +kernel
theorem d_M_feast_199 : decode b_M_feast 199 = .ok (.iload 6, 2) := by decide +kernel
theorem d_M_feast_201 : decode b_M_feast 201 = .ok (.iload 4, 2) := by decide +kernel
theorem d_M_feast_203 : decode b_M_feast 203 = .ok (.if_icmp .lt 8, 3) := by decide +kernel
theorem d_M_feast_206 : decode b_M_feast 206 = .ok (.iload 7, 2) := by decide +kernel
theorem d_M_feast_208 : decode b_M_feast 208 = .ok (.goto 4, 3) := by decide +kernel
theorem d_M_feast_211 : decode b_M_feast 211 = .ok (.iconst 0, 1) := by decide +kernel
theorem d_M_feast_212 : decode b_M_feast 212 = .ok (.ireturn, 1) := by decide +kernel
theorem d_M_floor_0 : decode b_M_floor 0 = .ok (.iload_n 0, 1) := by decide +kernel
theorem d_M_floor_1 : decode b_M_floor 1 = .ok (.ifCond .ge 15, 3) := by decide +kernel
theorem d_M_floor_4 : decode b_M_floor 4 = .ok (.iload_n 0, 1) := by decide +kernel
theorem d_M_floor_5 : decode b_M_floor 5 = .ok (.ineg, 1) := by decide +kernel
theorem d_M_floor_6 : decode b_M_floor 6 = .ok (.iload_n 1, 1) := by decide +kernel
theorem d_M_floor_7 : decode b_M_floor 7 = .ok (.iadd, 1) := by decide +kernel
theorem d_M_floor_8 : decode b_M_floor 8 = .ok (.iconst 1, 1) := by decide +kernel
theorem d_M_floor_9 : decode b_M_floor 9 = .ok (.isub, 1) := by decide +kernel
theorem d_M_floor_10 : decode b_M_floor 10 = .ok (.iload_n 1, 1) := by decide +kernel
theorem d_M_floor_11 : decode b_M_floor 11 = .ok (.idiv, 1) := by decide +kernel
theorem d_M_floor_12 : decode b_M_floor 12 = .ok (.ineg, 1) := by decide +kernel
theorem d_M_floor_13 : decode b_M_floor 13 = .ok (.goto 6, 3) := by decide +kernel
theorem d_M_floor_16 : decode b_M_floor 16 = .ok (.iload_n 0, 1) := by decide +kernel
theorem d_M_floor_17 : decode b_M_floor 17 = .ok (.iload_n 1, 1) := by decide +kernel
theorem d_M_floor_18 : decode b_M_floor 18 = .ok (.idiv, 1) := by decide +kernel
theorem d_M_floor_19 : decode b_M_floor 19 = .ok (.ireturn, 1) := by decide +kernel
theorem d_M_daysOf_0 : decode b_M_daysOf 0 = .ok (.iload_n 1, 1) := by decide +kernel
theorem d_M_daysOf_1 : decode b_M_daysOf 1 = .ok (.iconst 2, 1) := by decide +kernel
theorem d_M_daysOf_2 : decode b_M_daysOf 2 = .ok (.if_icmp .ne 20, 3) := by decide +kernel
theorem d_M_daysOf_5 : decode b_M_daysOf 5 = .ok (.iload_n 0, 1) := by decide +kernel
theorem d_M_daysOf_6 : decode b_M_daysOf 6 = .ok (.invokestatic 208, 3) := by decide +kernel
theorem d_M_daysOf_9 : decode b_M_daysOf 9 = .ok (.ifCond .eq 8, 3) := by decide +kernel
theorem d_M_daysOf_12 : decode b_M_daysOf 12 = .ok (.bipush 29, 2) := by decide +kernel
theorem d_M_daysOf_14 : decode b_M_daysOf 14 = .ok (.goto 38, 3) := by decide +kernel
theorem d_M_daysOf_17 : decode b_M_daysOf 17 = .ok (.bipush 28, 2) := by decide +kernel
theorem d_M_daysOf_19 : decode b_M_daysOf 19 = .ok (.goto 33, 3) := by decide +kernel
theorem d_M_daysOf_22 : decode b_M_daysOf 22 = .ok (.iload_n 1, 1) := by decide +kernel
theorem d_M_daysOf_23 : decode b_M_daysOf 23 = .ok (.iconst 4, 1) := by decide +kernel
theorem d_M_daysOf_24 : decode b_M_daysOf 24 = .ok (.if_icmp .eq 21, 3) := by decide +kernel
theorem d_M_daysOf_27 : decode b_M_daysOf 27 = .ok (.iload_n 1, 1) := by decide +kernel
theorem d_M_daysOf_28 : decode b_M_daysOf 28 = .ok (.bipush 6, 2) := by decide +kernel
theorem d_M_daysOf_30 : decode b_M_daysOf 30 = .ok (.if_icmp .eq 15, 3) := by decide +kernel
theorem d_M_daysOf_33 : decode b_M_daysOf 33 = .ok (.iload_n 1, 1) := by decide +kernel
theorem d_M_daysOf_34 : decode b_M_daysOf 34 = .ok (.bipush 9, 2) := by decide +kernel
theorem d_M_daysOf_36 : decode b_M_daysOf 36 = .ok (.if_icmp .eq 9, 3) := by decide +kernel
theorem d_M_daysOf_39 : decode b_M_daysOf 39 = .ok (.iload_n 1, 1) := by decide +kernel
theorem d_M_daysOf_40 : decode b_M_daysOf 40 = .ok (.bipush 11, 2) := by decide +kernel
theorem d_M_daysOf_42 : decode b_M_daysOf 42 = .ok (.if_icmp .ne 8, 3) := by decide +kernel
theorem d_M_daysOf_45 : decode b_M_daysOf 45 = .ok (.bipush 30, 2) := by decide +kernel
theorem d_M_daysOf_47 : decode b_M_daysOf 47 = .ok (.goto 5, 3) := by decide +kernel
theorem d_M_daysOf_50 : decode b_M_daysOf 50 = .ok (.bipush 31, 2) := by decide +kernel
theorem d_M_daysOf_52 : decode b_M_daysOf 52 = .ok (.ireturn, 1) := by decide +kernel
theorem d_M_isLeap_0 : decode b_M_isLeap 0 = .ok (.iload_n 0, 1) := by decide +kernel
theorem d_M_isLeap_1 : decode b_M_isLeap 1 = .ok (.iconst 4, 1) := by decide +kernel
theorem d_M_isLeap_2 : decode b_M_isLeap 2 = .ok (.irem, 1) := by decide +kernel
theorem d_M_isLeap_3 : decode b_M_isLeap 3 = .ok (.ifCond .ne 22, 3) := by decide +kernel
theorem d_M_isLeap_6 : decode b_M_isLeap 6 = .ok (.iload_n 0, 1) := by decide +kernel
theorem d_M_isLeap_7 : decode b_M_isLeap 7 = .ok (.bipush 100, 2) := by decide +kernel
theorem d_M_isLeap_9 : decode b_M_isLeap 9 = .ok (.irem, 1) := by decide +kernel
theorem d_M_isLeap_10 : decode b_M_isLeap 10 = .ok (.ifCond .ne 11, 3) := by decide +kernel
theorem d_M_isLeap_13 : decode b_M_isLeap 13 = .ok (.iload_n 0, 1) := by decide +kernel
theorem d_M_isLeap_14 : decode b_M_isLeap 14 = .ok (.sipush 400, 3) := by decide +kernel
theorem d_M_isLeap_17 : decode b_M_isLeap 17 = .ok (.irem, 1) := by decide +kernel
theorem d_M_isLeap_18 : decode b_M_isLeap 18 = .ok (.ifCond .ne 7, 3) := by decide +kernel
theorem d_M_isLeap_21 : decode b_M_isLeap 21 = .ok (.iconst 1, 1) := by decide +kernel
theorem d_M_isLeap_22 : decode b_M_isLeap 22 = .ok (.goto 4, 3) := by decide +kernel
theorem d_M_isLeap_25 : decode b_M_isLeap 25 = .ok (.iconst 0, 1) := by decide +kernel
theorem d_M_isLeap_26 : decode b_M_isLeap 26 = .ok (.ireturn, 1) := by decide +kernel
theorem d_M_regnal_0 : decode b_M_regnal 0 = .ok (.aload_n 0, 1) := by decide +kernel
theorem d_M_regnal_1 : decode b_M_regnal 1 = .ok (.aload_n 0, 1) := by decide +kernel
theorem d_M_regnal_2 : decode b_M_regnal 2 = .ok (.iload_n 1, 1) := by decide +kernel
theorem d_M_regnal_3 : decode b_M_regnal 3 = .ok (.invokevirtual 99, 3) := by decide +kernel
theorem d_M_regnal_6 : decode b_M_regnal 6 = .ok (.ifCond .ne 7, 3) := by decide +kernel
theorem d_M_regnal_9 : decode b_M_regnal 9 = .ok (.iconst 1, 1) := by decide +kernel
theorem d_M_regnal_10 : decode b_M_regnal 10 = .ok (.goto 45, 3) := by decide +kernel
theorem d_M_regnal_13 : decode b_M_regnal 13 = .ok (.iload_n 2, 1) := by decide +kernel
theorem d_M_regnal_14 : decode b_M_regnal 14 = .ok (.iconst 1, 1) := by decide +kernel
theorem d_M_regnal_15 : decode b_M_regnal 15 = .ok (.if_icmp .ge 7, 3) := by decide +kernel
theorem d_M_regnal_18 : decode b_M_regnal 18 = .ok (.iconst 2, 1) := by decide +kernel
theorem d_M_regnal_19 : decode b_M_regnal 19 = .ok (.goto 36, 3) := by decide +kernel
theorem d_M_regnal_22 : decode b_M_regnal 22 = .ok (.aload_n 0, 1) := by decide +kernel
theorem d_M_regnal_23 : decode b_M_regnal 23 = .ok (.getfield 19, 3) := by decide +kernel
theorem d_M_regnal_26 : decode b_M_regnal 26 = .ok (.iload_n 1, 1) := by decide +kernel
theorem d_M_regnal_27 : decode b_M_regnal 27 = .ok (.baload, 1) := by decide +kernel
theorem d_M_regnal_28 : decode b_M_regnal 28 = .ok (.ifCond .eq 22, 3) := by decide +kernel
theorem d_M_regnal_31 : decode b_M_regnal 31 = .ok (.iload_n 2, 1) := by decide +kernel
theorem d_M_regnal_32 : decode b_M_regnal 32 = .ok (.iconst 1, 1) := by decide +kernel
theorem d_M_regnal_33 : decode b_M_regnal 33 = .ok (.isub, 1) := by decide +kernel
theorem d_M_regnal_34 : decode b_M_regnal 34 = .ok (.aload_n 0, 1) := by decide +kernel
theorem d_M_regnal_35 : decode b_M_regnal 35 = .ok (.getfield 26, 3) := by decide +kernel
theorem d_M_regnal_38 : decode b_M_regnal 38 = .ok (.iload_n 1, 1) := by decide +kernel
theorem d_M_regnal_39 : decode b_M_regnal 39 = .ok (.iaload, 1) := by decide +kernel
theorem d_M_regnal_40 : decode b_M_regnal 40 = .ok (.aload_n 0, 1) := by decide +kernel
theorem d_M_regnal_41 : decode b_M_regnal 41 = .ok (.getfield 23, 3) := by decide +kernel
theorem d_M_regnal_44 : decode b_M_regnal 44 = .ok (.iload_n 1, 1) := by decide +kernel
theorem d_M_regnal_45 : decode b_M_regnal 45 = .ok (.iaload, 1) := by decide +kernel
theorem d_M_regnal_46 : decode b_M_regnal 46 = .ok (.isub, 1) := by decide +kernel
theorem d_M_regnal_47 : decode b_M_regnal 47 = .ok (.if_icmp .le 7, 3) := by decide +kernel
theorem d_M_regnal_50 : decode b_M_regnal 50 = .ok (.iconst 3, 1) := by decide +kernel
theorem d_M_regnal_51 : decode b_M_regnal 51 = .ok (.goto 4, 3) := by decide +kernel
theorem d_M_regnal_54 : decode b_M_regnal 54 = .ok (.iconst 0, 1) := by decide +kernel
theorem d_M_regnal_55 : decode b_M_regnal 55 = .ok (.putfield 69, 3) := by decide +kernel
theorem d_M_regnal_58 : decode b_M_regnal 58 = .ok (.aload_n 0, 1) := by decide +kernel
theorem d_M_regnal_59 : decode b_M_regnal 59 = .ok (.getfield 69, 3) := by decide +kernel
theorem d_M_regnal_62 : decode b_M_regnal 62 = .ok (.ifCond .le 7, 3) := by decide +kernel
theorem d_M_regnal_65 : decode b_M_regnal 65 = .ok (.iconst 0, 1) := by decide +kernel
theorem d_M_regnal_66 : decode b_M_regnal 66 = .ok (.goto 13, 3) := by decide +kernel
theorem d_M_regnal_69 : decode b_M_regnal 69 = .ok (.aload_n 0, 1) := by decide +kernel
theorem d_M_regnal_70 : decode b_M_regnal 70 = .ok (.getfield 23, 3) := by decide +kernel
theorem d_M_regnal_73 : decode b_M_regnal 73 = .ok (.iload_n 1, 1) := by decide +kernel
theorem d_M_regnal_74 : decode b_M_regnal 74 = .ok (.iaload, 1) := by decide +kernel
theorem d_M_regnal_75 : decode b_M_regnal 75 = .ok (.iload_n 2, 1) := by decide +kernel
theorem d_M_regnal_76 : decode b_M_regnal 76 = .ok (.iadd, 1) := by decide +kernel
theorem d_M_regnal_77 : decode b_M_regnal 77 = .ok (.iconst 1, 1) := by decide +kernel
theorem d_M_regnal_78 : decode b_M_regnal 78 = .ok (.isub, 1) := by decide +kernel
theorem d_M_regnal_79 : decode b_M_regnal 79 = .ok (.ireturn, 1) := by decide +kernel
theorem d_M_count_0 : decode b_M_count 0 = .ok (.aload_n 0, 1) := by decide +kernel
theorem d_M_count_1 : decode b_M_count 1 = .ok (.iload_n 1, 1) := by decide +kernel
theorem d_M_count_2 : decode b_M_count 2 = .ok (.iconst 0, 1) := by decide +kernel
theorem d_M_count_3 : decode b_M_count 3 = .ok (.iconst 2, 1) := by decide +kernel
theorem d_M_count_4 : decode b_M_count 4 = .ok (.invokestatic 72, 3) := by decide +kernel
theorem d_M_count_7 : decode b_M_count 7 = .ok (.ifCond .eq 7, 3) := by decide +kernel
theorem d_M_count_10 : decode b_M_count 10 = .ok (.iconst 0, 1) := by decide +kernel
theorem d_M_count_11 : decode b_M_count 11 = .ok (.goto 4, 3) := by decide +kernel
theorem d_M_count_14 : decode b_M_count 14 = .ok (.iconst 1, 1) := by decide +kernel
theorem d_M_count_15 : decode b_M_count 15 = .ok (.putfield 69, 3) := by decide +kernel
theorem d_M_count_18 : decode b_M_count 18 = .ok (.aload_n 0, 1) := by decide +kernel
theorem d_M_count_19 : decode b_M_count 19 = .ok (.getfield 69, 3) := by decide +kernel
theorem d_M_count_22 : decode b_M_count 22 = .ok (.ifCond .le 7, 3) := by decide +kernel
theorem d_M_count_25 : decode b_M_count 25 = .ok (.iconst 0, 1) := by decide +kernel
theorem d_M_count_26 : decode b_M_count 26 = .ok (.goto 30, 3) := by decide +kernel
theorem d_M_count_29 : decode b_M_count 29 = .ok (.iload_n 1, 1) := by decide +kernel
theorem d_M_count_30 : decode b_M_count 30 = .ok (.ifCond .ne 10, 3) := by decide +kernel
theorem d_M_count_33 : decode b_M_count 33 = .ok (.aload_n 0, 1) := by decide +kernel
theorem d_M_count_34 : decode b_M_count 34 = .ok (.getfield 93, 3) := by decide +kernel
theorem d_M_count_37 : decode b_M_count 37 = .ok (.goto 19, 3) := by decide +kernel
theorem d_M_count_40 : decode b_M_count 40 = .ok (.iload_n 1, 1) := by decide +kernel
theorem d_M_count_41 : decode b_M_count 41 = .ok (.iconst 1, 1) := by decide +kernel
theorem d_M_count_42 : decode b_M_count 42 = .ok (.if_icmp .ne 10, 3) := by decide +kernel
theorem d_M_count_45 : decode b_M_count 45 = .ok (.aload_n 0, 1) := by decide +kernel
theorem d_M_count_46 : decode b_M_count 46 = .ok (.getfield 76, 3) := by decide +kernel
theorem d_M_count_49 : decode b_M_count 49 = .ok (.goto 7, 3) := by decide +kernel
theorem d_M_count_52 : decode b_M_count 52 = .ok (.aload_n 0, 1) := by decide +kernel
theorem d_M_count_53 : decode b_M_count 53 = .ok (.getfield 79, 3) := by decide +kernel
theorem d_M_count_56 : decode b_M_count 56 = .ok (.ireturn, 1) := by decide +kernel
