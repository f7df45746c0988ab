theorem dX4_isWord_0 : decode cX4_isWord 0 = .ok (.aload_n 0, 1) := by decide +kernel
theorem dX4_isWord_1 : decode cX4_isWord 1 = .ok (.getfield 52, 3) := by decide +kernel
theorem dX4_isWord_4 : decode cX4_isWord 4 = .ok (.iconst 1, 1) := by decide +kernel
theorem dX4_isWord_5 : decode cX4_isWord 5 = .ok (.if_icmp .ne 19, 3) := by decide +kernel
theorem dX4_isWord_8 : decode cX4_isWord 8 = .ok (.aload_n 0, 1) := by decide +kernel
theorem dX4_isWord_9 : decode cX4_isWord 9 = .ok (.getfield 46, 3) := by decide +kernel
theorem dX4_isWord_12 : decode cX4_isWord 12 = .ok (.aload_n 0, 1) := by decide +kernel
theorem dX4_isWord_13 : decode cX4_isWord 13 = .ok (.getfield 73, 3) := by decide +kernel
theorem dX4_isWord_16 : decode cX4_isWord 16 = .ok (.isub, 1) := by decide +kernel
theorem dX4_isWord_17 : decode cX4_isWord 17 = .ok (.aload_n 1, 1) := by decide +kernel
theorem dX4_isWord_18 : decode cX4_isWord 18 = .ok (.invokevirtual 161, 3) := by decide +kernel
theorem dX4_isWord_21 : decode cX4_isWord 21 = .ok (.if_icmp .eq 5, 3) := by decide +kernel
theorem dX4_isWord_24 : decode cX4_isWord 24 = .ok (.iconst 0, 1) := by decide +kernel
theorem dX4_isWord_25 : decode cX4_isWord 25 = .ok (.ireturn, 1) := by decide +kernel
theorem dX4_isWord_26 : decode cX4_isWord 26 = .ok (.iconst 0, 1) := by decide +kernel
theorem dX4_isWord_27 : decode cX4_isWord 27 = .ok (.istore_n 2, 1) := by decide +kernel
theorem dX4_isWord_28 : decode cX4_isWord 28 = .ok (.iload_n 2, 1) := by decide +kernel
theorem dX4_isWord_29 : decode cX4_isWord 29 = .ok (.aload_n 1, 1) := by decide +kernel
theorem dX4_isWord_30 : decode cX4_isWord 30 = .ok (.invokevirtual 161, 3) := by decide +kernel
theorem dX4_isWord_33 : decode cX4_isWord 33 = .ok (.if_icmp .ge 30, 3) := by decide +kernel
theorem dX4_isWord_36 : decode cX4_isWord 36 = .ok (.aload_n 0, 1) := by decide +kernel
theorem dX4_isWord_37 : decode cX4_isWord 37 = .ok (.getfield 29, 3) := by decide +kernel
theorem dX4_isWord_40 : decode cX4_isWord 40 = .ok (.aload_n 0, 1) := by decide +kernel
theorem dX4_isWord_41 : decode cX4_isWord 41 = .ok (.getfield 73, 3) := by decide +kernel
theorem dX4_isWord_44 : decode cX4_isWord 44 = .ok (.iload_n 2, 1) := by decide +kernel
theorem dX4_isWord_45 : decode cX4_isWord 45 = .ok (.iadd, 1) := by decide +kernel
theorem dX4_isWord_46 : decode cX4_isWord 46 = .ok (.iaload, 1) := by decide +kernel
theorem dX4_isWord_47 : decode cX4_isWord 47 = .ok (.aload_n 1, 1) := by decide +kernel
theorem dX4_isWord_48 : decode cX4_isWord 48 = .ok (.iload_n 2, 1) := by decide +kernel
theorem dX4_isWord_49 : decode cX4_isWord 49 = .ok (.invokevirtual 165, 3) := by decide +kernel
theorem dX4_isWord_52 : decode cX4_isWord 52 = .ok (.if_icmp .eq 5, 3) := by decide +kernel
theorem dX4_isWord_55 : decode cX4_isWord 55 = .ok (.iconst 0, 1) := by decide +kernel
theorem dX4_isWord_56 : decode cX4_isWord 56 = .ok (.ireturn, 1) := by decide +kernel
theorem dX4_isWord_57 : decode cX4_isWord 57 = .ok (.iinc 2 1, 3) := by decide +kernel
theorem dX4_isWord_60 : decode cX4_isWord 60 = .ok (.goto (-32), 3) := by decide +kernel
theorem dX4_isWord_63 : decode cX4_isWord 63 = .ok (.iconst 1, 1) := by decide +kernel
theorem dX4_isWord_64 : decode cX4_isWord 64 = .ok (.ireturn, 1) := by decide +kernel
theorem dX4_step_0 : decode cX4_step 0 = .ok (.aload_n 0, 1) := by decide +kernel
theorem dX4_step_1 : decode cX4_step 1 = .ok (.aload_n 0, 1) := by decide +kernel
theorem dX4_step_2 : decode cX4_step 2 = .ok (.getfield 46, 3) := by decide +kernel
theorem dX4_step_5 : decode cX4_step 5 = .ok (.putfield 73, 3) := by decide +kernel
theorem dX4_step_8 : decode cX4_step 8 = .ok (.aload_n 0, 1) := by decide +kernel
theorem dX4_step_9 : decode cX4_step 9 = .ok (.getfield 73, 3) := by decide +kernel
theorem dX4_step_12 : decode cX4_step 12 = .ok (.aload_n 0, 1) := by decide +kernel
theorem dX4_step_13 : decode cX4_step 13 = .ok (.getfield 43, 3) := by decide +kernel
theorem dX4_step_16 : decode cX4_step 16 = .ok (.if_icmp .ge 44, 3) := by decide +kernel
theorem dX4_step_19 : decode cX4_step 19 = .ok (.aload_n 0, 1) := by decide +kernel
theorem dX4_step_20 : decode cX4_step 20 = .ok (.getfield 29, 3) := by decide +kernel
theorem dX4_step_23 : decode cX4_step 23 = .ok (.aload_n 0, 1) := by decide +kernel
theorem dX4_step_24 : decode cX4_step 24 = .ok (.getfield 73, 3) := by decide +kernel
theorem dX4_step_27 : decode cX4_step 27 = .ok (.iaload, 1) := by decide +kernel
theorem dX4_step_28 : decode cX4_step 28 = .ok (.bipush 10, 2) := by decide +kernel
theorem dX4_step_30 : decode cX4_step 30 = .ok (.if_icmp .eq 17, 3) := by decide +kernel
theorem dX4_step_33 : decode cX4_step 33 = .ok (.aload_n 0, 1) := by decide +kernel
theorem dX4_step_34 : decode cX4_step 34 = .ok (.getfield 29, 3) := by decide +kernel
theorem dX4_step_37 : decode cX4_step 37 = .ok (.aload_n 0, 1) := by decide +kernel
theorem dX4_step_38 : decode cX4_step 38 = .ok (.getfield 73, 3) := by decide +kernel
theorem dX4_step_41 : decode cX4_step 41 = .ok (.iaload, 1) := by decide +kernel
theorem dX4_step_42 : decode cX4_step 42 = .ok (.bipush 32, 2) := by decide +kernel
theorem dX4_step_44 : decode cX4_step 44 = .ok (.if_icmp .ne 16, 3) := by decide +kernel
theorem dX4_step_47 : decode cX4_step 47 = .ok (.aload_n 0, 1) := by decide +kernel
theorem dX4_step_48 : decode cX4_step 48 = .ok (.dup, 1) := by decide +kernel
theorem dX4_step_49 : decode cX4_step 49 = .ok (.getfield 73, 3) := by decide +kernel
theorem dX4_step_52 : decode cX4_step 52 = .ok (.iconst 1, 1) := by decide +kernel
theorem dX4_step_53 : decode cX4_step 53 = .ok (.iadd, 1) := by decide +kernel
theorem dX4_step_54 : decode cX4_step 54 = .ok (.putfield 73, 3) := by decide +kernel
theorem dX4_step_57 : decode cX4_step 57 = .ok (.goto (-49), 3) := by decide +kernel
theorem dX4_step_60 : decode cX4_step 60 = .ok (.aload_n 0, 1) := by decide +kernel
theorem dX4_step_61 : decode cX4_step 61 = .ok (.aload_n 0, 1) := by decide +kernel
theorem dX4_step_62 : decode cX4_step 62 = .ok (.getfield 73, 3) := by decide +kernel
theorem dX4_step_65 : decode cX4_step 65 = .ok (.putfield 46, 3) := by decide +kernel
theorem dX4_step_68 : decode cX4_step 68 = .ok (.aload_n 0, 1) := by decide +kernel
theorem dX4_step_69 : decode cX4_step 69 = .ok (.getfield 73, 3) := by decide +kernel
theorem dX4_step_72 : decode cX4_step 72 = .ok (.aload_n 0, 1) := by decide +kernel
theorem dX4_step_73 : decode cX4_step 73 = .ok (.getfield 43, 3) := by decide +kernel
theorem dX4_step_76 : decode cX4_step 76 = .ok (.if_icmp .lt 11, 3) := by decide +kernel
theorem dX4_step_79 : decode cX4_step 79 = .ok (.aload_n 0, 1) := by decide +kernel
theorem dX4_step_80 : decode cX4_step 80 = .ok (.iconst 0, 1) := by decide +kernel
theorem dX4_step_81 : decode cX4_step 81 = .ok (.putfield 52, 3) := by decide +kernel
theorem dX4_step_84 : decode cX4_step 84 = .ok (.goto 81, 3) := by decide +kernel
theorem dX4_step_87 : decode cX4_step 87 = .ok (.aload_n 0, 1) := by decide +kernel
theorem dX4_step_88 : decode cX4_step 88 = .ok (.aload_n 0, 1) := by decide +kernel
theorem dX4_step_89 : decode cX4_step 89 = .ok (.getfield 73, 3) := by decide +kernel
theorem dX4_step_92 : decode cX4_step 92 = .ok (.invokevirtual 169, 3) := by decide +kernel
theorem dX4_step_95 : decode cX4_step 95 = .ok (.ifCond .eq 10, 3) := by decide +kernel
theorem dX4_step_98 : decode cX4_step 98 = .ok (.aload_n 0, 1) := by decide +kernel
theorem dX4_step_99 : decode cX4_step 99 = .ok (.invokevirtual 172, 3) := by decide +kernel
theorem dX4_step_102 : decode cX4_step 102 = .ok (.goto 63, 3) := by decide +kernel
theorem dX4_step_105 : decode cX4_step 105 = .ok (.aload_n 0, 1) := by decide +kernel
theorem dX4_step_106 : decode cX4_step 106 = .ok (.aload_n 0, 1) := by decide +kernel
theorem dX4_step_107 : decode cX4_step 107 = .ok (.getfield 73, 3) := by decide +kernel
theorem dX4_step_110 : decode cX4_step 110 = .ok (.invokevirtual 175, 3) := by decide +kernel
theorem dX4_step_113 : decode cX4_step 113 = .ok (.ifCond .eq 10, 3) := by decide +kernel
theorem dX4_step_116 : decode cX4_step 116 = .ok (.aload_n 0, 1) := by decide +kernel
theorem dX4_step_117 : decode cX4_step 117 = .ok (.invokevirtual 178, 3) := by decide +kernel
theorem dX4_step_120 : decode cX4_step 120 = .ok (.goto 45, 3) := by decide +kernel
theorem dX4_step_123 : decode cX4_step 123 = .ok (.aload_n 0, 1) := by decide +kernel
theorem dX4_step_124 : decode cX4_step 124 = .ok (.getfield 29, 3) := by decide +kernel
theorem dX4_step_127 : decode cX4_step 127 = .ok (.aload_n 0, 1) := by decide +kernel
theorem dX4_step_128 : decode cX4_step 128 = .ok (.getfield 73, 3) := by decide +kernel
theorem dX4_step_131 : decode cX4_step 131 = .ok (.iaload, 1) := by decide +kernel
theorem dX4_step_132 : decode cX4_step 132 = .ok (.bipush 59, 2) := by decide +kernel
theorem dX4_step_134 : decode cX4_step 134 = .ok (.if_icmp .ne 21, 3) := by decide +kernel
theorem dX4_step_137 : decode cX4_step 137 = .ok (.aload_n 0, 1) := by decide +kernel
theorem dX4_step_138 : decode cX4_step 138 = .ok (.iconst 3, 1) := by decide +kernel
theorem dX4_step_139 : decode cX4_step 139 = .ok (.putfield 52, 3) := by decide +kernel
theorem dX4_step_142 : decode cX4_step 142 = .ok (.aload_n 0, 1) := by decide +kernel
theorem dX4_step_143 : decode cX4_step 143 = .ok (.dup, 1) := by decide +kernel
theorem dX4_step_144 : decode cX4_step 144 = .ok (.getfield 46, 3) := by decide +kernel
theorem dX4_step_147 : decode cX4_step 147 = .ok (.iconst 1, 1) := by decide +kernel
theorem dX4_step_148 : decode cX4_step 148 = .ok (.iadd, 1) := by decide +kernel
theorem dX4_step_149 : decode cX4_step 149 = .ok (.putfield 46, 3) := by decide +kernel
theorem dX4_step_152 : decode cX4_step 152 = .ok (.goto 13, 3) := by decide +kernel
theorem dX4_step_155 : decode cX4_step 155 = .ok (.aload_n 0, 1) := by decide +kernel
theorem dX4_step_156 : decode cX4_step 156 = .ok (.iconst 4, 1) := by decide +kernel
theorem dX4_step_157 : decode cX4_step 157 = .ok (.putfield 52, 3) := by decide +kernel
theorem dX4_step_160 : decode cX4_step 160 = .ok (.aload_n 0, 1) := by decide +kernel
theorem dX4_step_161 : decode cX4_step 161 = .ok (.iconst 1, 1) := by decide +kernel
theorem dX4_step_162 : decode cX4_step 162 = .ok (.invokevirtual 120, 3) := by decide +kernel
theorem dX4_step_165 : decode cX4_step 165 = .ok (.return_, 1) := by decide +kernel
theorem dX4_stepNumber_0 : decode cX4_stepNumber 0 = .ok (.aload_n 0, 1) := by decide +kernel
theorem dX4_stepNumber_1 : decode cX4_stepNumber 1 = .ok (.iconst 2, 1) := by decide +kernel
theorem dX4_stepNumber_2 : decode cX4_stepNumber 2 = .ok (.putfield 52, 3) := by decide +kernel
theorem dX4_stepNumber_5 : decode cX4_stepNumber 5 = .ok (.aload_n 0, 1) := by decide +kernel
theorem dX4_stepNumber_6 : decode cX4_stepNumber 6 = .ok (.iconst 0, 1) := by decide +kernel
theorem dX4_stepNumber_7 : decode cX4_stepNumber 7 = .ok (.putfield 158, 3) := by decide +kernel
theorem dX4_stepNumber_10 : decode cX4_stepNumber 10 = .ok (.aload_n 0, 1) := by decide +kernel
theorem dX4_stepNumber_11 : decode cX4_stepNumber 11 = .ok (.getfield 46, 3) := by decide +kernel
theorem dX4_stepNumber_14 : decode cX4_stepNumber 14 = .ok (.aload_n 0, 1) := by decide +kernel
theorem dX4_stepNumber_15 : decode cX4_stepNumber 15 = .ok (.getfield 43, 3) := by decide +kernel
theorem dX4_stepNumber_18 : decode cX4_stepNumber 18 = .ok (.if_icmp .ge 64, 3) := by decide +kernel
theorem dX4_stepNumber_21 : decode cX4_stepNumber 21 = .ok (.aload_n 0, 1) := by decide +kernel
theorem dX4_stepNumber_22 : decode cX4_stepNumber 22 = .ok (.getfield 46, 3) := by decide +kernel
theorem dX4_stepNumber_25 : decode cX4_stepNumber 25 = .ok (.aload_n 0, 1) := by decide +kernel
theorem dX4_stepNumber_26 : decode cX4_stepNumber 26 = .ok (.getfield 73, 3) := by decide +kernel
theorem dX4_stepNumber_29 : decode cX4_stepNumber 29 = .ok (.isub, 1) := by decide +kernel
theorem dX4_stepNumber_30 : decode cX4_stepNumber 30 = .ok (.iconst 4, 1) := by decide +kernel
theorem dX4_stepNumber_31 : decode cX4_stepNumber 31 = .ok (.if_icmp .ge 51, 3) := by decide +kernel
theorem dX4_stepNumber_34 : decode cX4_stepNumber 34 = .ok (.aload_n 0, 1) := by decide +kernel
theorem dX4_stepNumber_35 : decode cX4_stepNumber 35 = .ok (.aload_n 0, 1) := by decide +kernel
theorem dX4_stepNumber_36 : decode cX4_stepNumber 36 = .ok (.getfield 46, 3) := by decide +kernel
theorem dX4_stepNumber_39 : decode cX4_stepNumber 39 = .ok (.invokevirtual 169, 3) := by decide +kernel
theorem dX4_stepNumber_42 : decode cX4_stepNumber 42 = .ok (.ifCond .eq 40, 3) := by decide +kernel
theorem dX4_stepNumber_45 : decode cX4_stepNumber 45 = .ok (.aload_n 0, 1) := by decide +kernel
theorem dX4_stepNumber_46 : decode cX4_stepNumber 46 = .ok (.bipush 10, 2) := by decide +kernel
theorem dX4_stepNumber_48 : decode cX4_stepNumber 48 = .ok (.aload_n 0, 1) := by decide +kernel
theorem dX4_stepNumber_49 : decode cX4_stepNumber 49 = .ok (.getfield 158, 3) := by decide +kernel
theorem dX4_stepNumber_52 : decode cX4_stepNumber 52 = .ok (.imul, 1) := by decide +kernel
theorem dX4_stepNumber_53 : decode cX4_stepNumber 53 = .ok (.aload_n 0, 1) := by decide +kernel
theorem dX4_stepNumber_54 : decode cX4_stepNumber 54 = .ok (.getfield 29, 3) := by decide +kernel
theorem dX4_stepNumber_57 : decode cX4_stepNumber 57 = .ok (.aload_n 0, 1) := by decide +kernel
theorem dX4_stepNumber_58 : decode cX4_stepNumber 58 = .ok (.getfield 46, 3) := by decide +kernel
theorem dX4_stepNumber_61 : decode cX4_stepNumber 61 = .ok (.iaload, 1) := by decide +kernel
theorem dX4_stepNumber_62 : decode cX4_stepNumber 62 = .ok (.iadd, 1) := by decide +kernel
theorem dX4_stepNumber_63 : decode cX4_stepNumber 63 = .ok (.bipush 48, 2) := by decide +kernel
theorem dX4_stepNumber_65 : decode cX4_stepNumber 65 = .ok (.isub, 1) := by decide +kernel
theorem dX4_stepNumber_66 : decode cX4_stepNumber 66 = .ok (.putfield 158, 3) := by decide +kernel
theorem dX4_stepNumber_69 : decode cX4_stepNumber 69 = .ok (.aload_n 0, 1) := by decide +kernel
theorem dX4_stepNumber_70 : decode cX4_stepNumber 70 = .ok (.dup, 1) := by decide +kernel
theorem dX4_stepNumber_71 : decode cX4_stepNumber 71 = .ok (.getfield 46, 3) := by decide +kernel
theorem dX4_stepNumber_74 : decode cX4_stepNumber 74 = .ok (.iconst 1, 1) := by decide +kernel
theorem dX4_stepNumber_75 : decode cX4_stepNumber 75 = .ok (.iadd, 1) := by decide +kernel
theorem dX4_stepNumber_76 : decode cX4_stepNumber 76 = .ok (.putfield 46, 3) := by decide +kernel
theorem dX4_stepNumber_79 : decode cX4_stepNumber 79 = .ok (.goto (-69), 3) := by decide +kernel
theorem dX4_stepNumber_82 : decode cX4_stepNumber 82 = .ok (.aload_n 0, 1) := by decide +kernel
theorem dX4_stepNumber_83 : decode cX4_stepNumber 83 = .ok (.getfield 46, 3) := by decide +kernel
theorem dX4_stepNumber_86 : decode cX4_stepNumber 86 = .ok (.aload_n 0, 1) := by decide +kernel
theorem dX4_stepNumber_87 : decode cX4_stepNumber 87 = .ok (.getfield 73, 3) := by decide +kernel
theorem dX4_stepNumber_90 : decode cX4_stepNumber 90 = .ok (.isub, 1) := by decide +kernel
theorem dX4_stepNumber_91 : decode cX4_stepNumber 91 = .ok (.iconst 3, 1) := by decide +kernel
theorem dX4_stepNumber_92 : decode cX4_stepNumber 92 = .ok (.if_icmp .le 13, 3) := by decide +kernel
theorem dX4_stepNumber_95 : decode cX4_stepNumber 95 = .ok (.aload_n 0, 1) := by decide +kernel
theorem dX4_stepNumber_96 : decode cX4_stepNumber 96 = .ok (.iconst 4, 1) := by decide +kernel
theorem dX4_stepNumber_97 : decode cX4_stepNumber 97 = .ok (.putfield 52, 3) := by decide +kernel
theorem dX4_stepNumber_100 : decode cX4_stepNumber 100 = .ok (.aload_n 0, 1) := by decide +kernel
theorem dX4_stepNumber_101 : decode cX4_stepNumber 101 = .ok (.iconst 1, 1) := by decide +kernel
theorem dX4_stepNumber_102 : decode cX4_stepNumber 102 = .ok (.invokevirtual 120, 3) := by decide +kernel
theorem dX4_stepNumber_105 : decode cX4_stepNumber 105 = .ok (.return_, 1) := by decide +kernel
theorem dX4_stepWord_0 : decode cX4_stepWord 0 = .ok (.aload_n 0, 1) := by decide +kernel
theorem dX4_stepWord_1 : decode cX4_stepWord 1 = .ok (.iconst 1, 1) := by decide +kernel
theorem dX4_stepWord_2 : decode cX4_stepWord 2 = .ok (.putfield 52, 3) := by decide +kernel
theorem dX4_stepWord_5 : decode cX4_stepWord 5 = .ok (.aload_n 0, 1) := by decide +kernel
theorem dX4_stepWord_6 : decode cX4_stepWord 6 = .ok (.getfield 46, 3) := by decide +kernel
theorem dX4_stepWord_9 : decode cX4_stepWord 9 = .ok (.aload_n 0, 1) := by decide +kernel
theorem dX4_stepWord_10 : decode cX4_stepWord 10 = .ok (.getfield 43, 3) := by decide +kernel
theorem dX4_stepWord_13 : decode cX4_stepWord 13 = .ok (.if_icmp .ge 27, 3) := by decide +kernel
theorem dX4_stepWord_16 : decode cX4_stepWord 16 = .ok (.aload_n 0, 1) := by decide +kernel
theorem dX4_stepWord_17 : decode cX4_stepWord 17 = .ok (.aload_n 0, 1) := by decide +kernel
theorem dX4_stepWord_18 : decode cX4_stepWord 18 = .ok (.getfield 46, 3) := by decide +kernel
theorem dX4_stepWord_21 : decode cX4_stepWord 21 = .ok (.invokevirtual 175, 3) := by decide +kernel
theorem dX4_stepWord_24 : decode cX4_stepWord 24 = .ok (.ifCond .eq 16, 3) := by decide +kernel
theorem dX4_stepWord_27 : decode cX4_stepWord 27 = .ok (.aload_n 0, 1) := by decide +kernel
theorem dX4_stepWord_28 : decode cX4_stepWord 28 = .ok (.dup, 1) := by decide +kernel
theorem dX4_stepWord_29 : decode cX4_stepWord 29 = .ok (.getfield 46, 3) := by decide +kernel
theorem dX4_stepWord_32 : decode cX4_stepWord 32 = .ok (.iconst 1, 1) := by decide +kernel
theorem dX4_stepWord_33 : decode cX4_stepWord 33 = .ok (.iadd, 1) := by decide +kernel
theorem dX4_stepWord_34 : decode cX4_stepWord 34 = .ok (.putfield 46, 3) := by decide +kernel
theorem dX4_stepWord_37 : decode cX4_stepWord 37 = .ok (.goto (-32), 3) := by decide +kernel
theorem dX4_stepWord_40 : decode cX4_stepWord 40 = .ok (.return_, 1) := by decide +kernel
theorem dX4_isDigit_0 : decode cX4_isDigit 0 = .ok (.aload_n 0, 1) := by decide +kernel
theorem dX4_isDigit_1 : decode cX4_isDigit 1 = .ok (.getfield 29, 3) := by decide +kernel
theorem dX4_isDigit_4 : decode cX4_isDigit 4 = .ok (.iload_n 1, 1) := by decide +kernel
theorem dX4_isDigit_5 : decode cX4_isDigit 5 = .ok (.iaload, 1) := by decide +kernel
theorem dX4_isDigit_6 : decode cX4_isDigit 6 = .ok (.bipush 48, 2) := by decide +kernel
theorem dX4_isDigit_8 : decode cX4_isDigit 8 = .ok (.if_icmp .lt 18, 3) := by decide +kernel
theorem dX4_isDigit_11 : decode cX4_isDigit 11 = .ok (.aload_n 0, 1) := by decide +kernel
theorem dX4_isDigit_12 : decode cX4_isDigit 12 = .ok (.getfield 29, 3) := by decide +kernel
theorem dX4_isDigit_15 : decode cX4_isDigit 15 = .ok (.iload_n 1, 1) := by decide +kernel
theorem dX4_isDigit_16 : decode cX4_isDigit 16 = .ok (.iaload, 1) := by decide +kernel
theorem dX4_isDigit_17 : decode cX4_isDigit 17 = .ok (.bipush 57, 2) := by decide +kernel
theorem dX4_isDigit_19 : decode cX4_isDigit 19 = .ok (.if_icmp .gt 7, 3) := by decide +kernel
theorem dX4_isDigit_22 : decode cX4_isDigit 22 = .ok (.iconst 1, 1) := by decide +kernel
theorem dX4_isDigit_23 : decode cX4_isDigit 23 = .ok (.goto 4, 3) := by decide +kernel
theorem dX4_isDigit_26 : decode cX4_isDigit 26 = .ok (.iconst 0, 1) := by decide +kernel
theorem dX4_isDigit_27 : decode cX4_isDigit 27 = .ok (.ireturn, 1) := by decide +kernel
theorem dX4_isLetter_0 : decode cX4_isLetter 0 = .ok (.aload_n 0, 1) := by decide +kernel
theorem dX4_isLetter_1 : decode cX4_isLetter 1 = .ok (.getfield 29, 3) := by decide +kernel
theorem dX4_isLetter_4 : decode cX4_isLetter 4 = .ok (.iload_n 1, 1) := by decide +kernel
theorem dX4_isLetter_5 : decode cX4_isLetter 5 = .ok (.iaload, 1) := by decide +kernel
theorem dX4_isLetter_6 : decode cX4_isLetter 6 = .ok (.bipush 97, 2) := by decide +kernel
theorem dX4_isLetter_8 : decode cX4_isLetter 8 = .ok (.if_icmp .lt 18, 3) := by decide +kernel
theorem dX4_isLetter_11 : decode cX4_isLetter 11 = .ok (.aload_n 0, 1) := by decide +kernel
theorem dX4_isLetter_12 : decode cX4_isLetter 12 = .ok (.getfield 29, 3) := by decide +kernel
theorem dX4_isLetter_15 : decode cX4_isLetter 15 = .ok (.iload_n 1, 1) := by decide +kernel
theorem dX4_isLetter_16 : decode cX4_isLetter 16 = .ok (.iaload, 1) := by decide +kernel
theorem dX4_isLetter_17 : decode cX4_isLetter 17 = .ok (.bipush 122, 2) := by decide +kernel
theorem dX4_isLetter_19 : decode cX4_isLetter 19 = .ok (.if_icmp .gt 7, 3) := by decide +kernel
theorem dX4_isLetter_22 : decode cX4_isLetter 22 = .ok (.iconst 1, 1) := by decide +kernel
theorem dX4_isLetter_23 : decode cX4_isLetter 23 = .ok (.goto 4, 3) := by decide +kernel
theorem dX4_isLetter_26 : decode cX4_isLetter 26 = .ok (.iconst 0, 1) := by decide +kernel
theorem dX4_isLetter_27 : decode cX4_isLetter 27 = .ok (.ireturn, 1) := by decide +kernel
theorem dX5_init_0 : decode cX5_init 0 = .ok (.aload_n 0, 1) := by decide +kernel
theorem dX5_init_1 : decode cX5_init 1 = .ok (.invokespecial 3, 3) := by decide +kernel
theorem dX5_init_4 : decode cX5_init 4 = .ok (.aload_n 0, 1) := by decide +kernel
theorem dX5_init_5 : decode cX5_init 5 = .ok (.iconst 3, 1) := by decide +kernel
theorem dX5_init_6 : decode cX5_init 6 = .ok (.putfield 9, 3) := by decide +kernel
theorem dX5_init_9 : decode cX5_init 9 = .ok (.aload_n 0, 1) := by decide +kernel
theorem dX5_init_10 : decode cX5_init 10 = .ok (.iconst 0, 1) := by decide +kernel
theorem dX5_init_11 : decode cX5_init 11 = .ok (.putfield 15, 3) := by decide +kernel
theorem dX5_init_14 : decode cX5_init 14 = .ok (.return_, 1) := by decide +kernel
theorem dX5_clear_0 : decode cX5_clear 0 = .ok (.aload_n 0, 1) := by decide +kernel
theorem dX5_clear_1 : decode cX5_clear 1 = .ok (.iconst 0, 1) := by decide +kernel
theorem dX5_clear_2 : decode cX5_clear 2 = .ok (.putfield 18, 3) := by decide +kernel
theorem dX5_clear_5 : decode cX5_clear 5 = .ok (.aload_n 0, 1) := by decide +kernel
theorem dX5_clear_6 : decode cX5_clear 6 = .ok (.iconst 3, 1) := by decide +kernel
theorem dX5_clear_7 : decode cX5_clear 7 = .ok (.putfield 9, 3) := by decide +kernel
theorem dX5_clear_10 : decode cX5_clear 10 = .ok (.aload_n 0, 1) := by decide +kernel
theorem dX5_clear_11 : decode cX5_clear 11 = .ok (.iconst 0, 1) := by decide +kernel
theorem dX5_clear_12 : decode cX5_clear 12 = .ok (.putfield 21, 3) := by decide +kernel
theorem dX5_clear_15 : decode cX5_clear 15 = .ok (.aload_n 0, 1) := by decide +kernel
theorem dX5_clear_16 : decode cX5_clear 16 = .ok (.iconst 0, 1) := by decide +kernel
theorem dX5_clear_17 : decode cX5_clear 17 = .ok (.putfield 24, 3) := by decide +kernel
theorem dX5_clear_20 : decode cX5_clear 20 = .ok (.aload_n 0, 1) := by decide +kernel
theorem dX5_clear_21 : decode cX5_clear 21 = .ok (.iconst 0, 1) := by decide +kernel
theorem dX5_clear_22 : decode cX5_clear 22 = .ok (.putfield 15, 3) := by decide +kernel
theorem dX5_clear_25 : decode cX5_clear 25 = .ok (.aload_n 0, 1) := by decide +kernel
theorem dX5_clear_26 : decode cX5_clear 26 = .ok (.iconst 0, 1) := by decide +kernel
theorem dX5_clear_27 : decode cX5_clear 27 = .ok (.putfield 27, 3) := by decide +kernel
theorem dX5_clear_30 : decode cX5_clear 30 = .ok (.aload_n 0, 1) := by decide +kernel
theorem dX5_clear_31 : decode cX5_clear 31 = .ok (.iconst 0, 1) := by decide +kernel
theorem dX5_clear_32 : decode cX5_clear 32 = .ok (.putfield 31, 3) := by decide +kernel
theorem dX5_clear_35 : decode cX5_clear 35 = .ok (.aload_n 0, 1) := by decide +kernel
theorem dX5_clear_36 : decode cX5_clear 36 = .ok (.iconst 0, 1) := by decide +kernel
theorem dX5_clear_37 : decode cX5_clear 37 = .ok (.putfield 34, 3) := by decide +kernel
theorem dX5_clear_40 : decode cX5_clear 40 = .ok (.aload_n 0, 1) := by decide +kernel
theorem dX5_clear_41 : decode cX5_clear 41 = .ok (.iconst 0, 1) := by decide +kernel
theorem dX5_clear_42 : decode cX5_clear 42 = .ok (.putfield 37, 3) := by decide +kernel
theorem dX5_clear_45 : decode cX5_clear 45 = .ok (.return_, 1) := by decide +kernel
theorem dX5_copy_0 : decode cX5_copy 0 = .ok (.aload_n 0, 1) := by decide +kernel
theorem dX5_copy_1 : decode cX5_copy 1 = .ok (.aload_n 1, 1) := by decide +kernel
theorem dX5_copy_2 : decode cX5_copy 2 = .ok (.getfield 18, 3) := by decide +kernel
theorem dX5_copy_5 : decode cX5_copy 5 = .ok (.putfield 18, 3) := by decide +kernel
theorem dX5_copy_8 : decode cX5_copy 8 = .ok (.aload_n 0, 1) := by decide +kernel
theorem dX5_copy_9 : decode cX5_copy 9 = .ok (.aload_n 1, 1) := by decide +kernel
theorem dX5_copy_10 : decode cX5_copy 10 = .ok (.getfield 9, 3) := by decide +kernel
theorem dX5_copy_13 : decode cX5_copy 13 = .ok (.putfield 9, 3) := by decide +kernel
theorem dX5_copy_16 : decode cX5_copy 16 = .ok (.aload_n 0, 1) := by decide +kernel
theorem dX5_copy_17 : decode cX5_copy 17 = .ok (.aload_n 1, 1) := by decide +kernel
theorem dX5_copy_18 : decode cX5_copy 18 = .ok (.getfield 21, 3) := by decide +kernel
theorem dX5_copy_21 : decode cX5_copy 21 = .ok (.putfield 21, 3) := by decide +kernel
theorem dX5_copy_24 : decode cX5_copy 24 = .ok (.aload_n 0, 1) := by decide +kernel
theorem dX5_copy_25 : decode cX5_copy 25 = .ok (.aload_n 1, 1) := by decide +kernel
theorem dX5_copy_26 : decode cX5_copy 26 = .ok (.getfield 24, 3) := by decide +kernel
theorem dX5_copy_29 : decode cX5_copy 29 = .ok (.putfield 24, 3) := by decide +kernel
theorem dX5_copy_32 : decode cX5_copy 32 = .ok (.aload_n 0, 1) := by decide +kernel
theorem dX5_copy_33 : decode cX5_copy 33 = .ok (.aload_n 1, 1) := by decide +kernel
theorem dX5_copy_34 : decode cX5_copy 34 = .ok (.getfield 15, 3) := by decide +kernel
theorem dX5_copy_37 : decode cX5_copy 37 = .ok (.putfield 15, 3) := by decide +kernel
theorem dX5_copy_40 : decode cX5_copy 40 = .ok (.aload_n 0, 1) := by decide +kernel
theorem dX5_copy_41 : decode cX5_copy 41 = .ok (.aload_n 1, 1) := by decide +kernel
theorem dX5_copy_42 : decode cX5_copy 42 = .ok (.getfield 27, 3) := by decide +kernel
theorem dX5_copy_45 : decode cX5_copy 45 = .ok (.putfield 27, 3) := by decide +kernel
theorem dX5_copy_48 : decode cX5_copy 48 = .ok (.aload_n 0, 1) := by decide +kernel
theorem dX5_copy_49 : decode cX5_copy 49 = .ok (.aload_n 1, 1) := by decide +kernel
theorem dX5_copy_50 : decode cX5_copy 50 = .ok (.getfield 31, 3) := by decide +kernel
theorem dX5_copy_53 : decode cX5_copy 53 = .ok (.putfield 31, 3) := by decide +kernel
theorem dX5_copy_56 : decode cX5_copy 56 = .ok (.aload_n 0, 1) := by decide +kernel
theorem dX5_copy_57 : decode cX5_copy 57 = .ok (.aload_n 1, 1) := by decide +kernel
theorem dX5_copy_58 : decode cX5_copy 58 = .ok (.getfield 34, 3) := by decide +kernel
theorem dX5_copy_61 : decode cX5_copy 61 = .ok (.putfield 34, 3) := by decide +kernel
theorem dX5_copy_64 : decode cX5_copy 64 = .ok (.aload_n 0, 1) := by decide +kernel
theorem dX5_copy_65 : decode cX5_copy 65 = .ok (.aload_n 1, 1) := by decide +kernel
theorem dX5_copy_66 : decode cX5_copy 66 = .ok (.getfield 37, 3) := by decide +kernel
theorem dX5_copy_69 : decode cX5_copy 69 = .ok (.putfield 37, 3) := by decide +kernel
theorem dX5_copy_72 : decode cX5_copy 72 = .ok (.return_, 1) := by decide +kernel
theorem dX5_isLacking_0 : decode cX5_isLacking 0 = .ok (.aload_n 0, 1) := by decide +kernel
theorem dX5_isLacking_1 : decode cX5_isLacking 1 = .ok (.getfield 21, 3) := by decide +kernel
theorem dX5_isLacking_4 : decode cX5_isLacking 4 = .ok (.iload_n 1, 1) := by decide +kernel
theorem dX5_isLacking_5 : decode cX5_isLacking 5 = .ok (.iushr, 1) := by decide +kernel
theorem dX5_isLacking_6 : decode cX5_isLacking 6 = .ok (.iconst 1, 1) := by decide +kernel
theorem dX5_isLacking_7 : decode cX5_isLacking 7 = .ok (.iand, 1) := by decide +kernel
theorem dX5_isLacking_8 : decode cX5_isLacking 8 = .ok (.iconst 1, 1) := by decide +kernel
theorem dX5_isLacking_9 : decode cX5_isLacking 9 = .ok (.if_icmp .ne 7, 3) := by decide +kernel
theorem dX5_isLacking_12 : decode cX5_isLacking 12 = .ok (.iconst 1, 1) := by decide +kernel
theorem dX5_isLacking_13 : decode cX5_isLacking 13 = .ok (.goto 4, 3) := by decide +kernel
theorem dX5_isLacking_16 : decode cX5_isLacking 16 = .ok (.iconst 0, 1) := by decide +kernel
theorem dX5_isLacking_17 : decode cX5_isLacking 17 = .ok (.ireturn, 1) := by decide +kernel
theorem dX5_key_0 : decode cX5_key 0 = .ok (.aload_n 0, 1) := by decide +kernel
theorem dX5_key_1 : decode cX5_key 1 = .ok (.getfield 27, 3) := by decide +kernel
theorem dX5_key_4 : decode cX5_key 4 = .ok (.ifCond .eq 7, 3) := by decide +kernel
theorem dX5_key_7 : decode cX5_key 7 = .ok (.iconst 1, 1) := by decide +kernel
theorem dX5_key_8 : decode cX5_key 8 = .ok (.goto 4, 3) := by decide +kernel
theorem dX5_key_11 : decode cX5_key 11 = .ok (.iconst 0, 1) := by decide +kernel
theorem dX5_key_12 : decode cX5_key 12 = .ok (.aload_n 0, 1) := by decide +kernel
theorem dX5_key_13 : decode cX5_key 13 = .ok (.getfield 31, 3) := by decide +kernel
theorem dX5_key_16 : decode cX5_key 16 = .ok (.ifCond .eq 7, 3) := by decide +kernel
theorem dX5_key_19 : decode cX5_key 19 = .ok (.iconst 2, 1) := by decide +kernel
theorem dX5_key_20 : decode cX5_key 20 = .ok (.goto 4, 3) := by decide +kernel
theorem dX5_key_23 : decode cX5_key 23 = .ok (.iconst 0, 1) := by decide +kernel
theorem dX5_key_24 : decode cX5_key 24 = .ok (.ior, 1) := by decide +kernel
theorem dX5_key_25 : decode cX5_key 25 = .ok (.aload_n 0, 1) := by decide +kernel
theorem dX5_key_26 : decode cX5_key 26 = .ok (.getfield 34, 3) := by decide +kernel
theorem dX5_key_29 : decode cX5_key 29 = .ok (.ifCond .eq 7, 3) := by decide +kernel
theorem dX5_key_32 : decode cX5_key 32 = .ok (.iconst 4, 1) := by decide +kernel
theorem dX5_key_33 : decode cX5_key 33 = .ok (.goto 4, 3) := by decide +kernel
theorem dX5_key_36 : decode cX5_key 36 = .ok (.iconst 0, 1) := by decide +kernel
theorem dX5_key_37 : decode cX5_key 37 = .ok (.ior, 1) := by decide +kernel
theorem dX5_key_38 : decode cX5_key 38 = .ok (.aload_n 0, 1) := by decide +kernel
theorem dX5_key_39 : decode cX5_key 39 = .ok (.getfield 37, 3) := by decide +kernel
theorem dX5_key_42 : decode cX5_key 42 = .ok (.ifCond .eq 8, 3) := by decide +kernel
theorem dX5_key_45 : decode cX5_key 45 = .ok (.bipush 8, 2) := by decide +kernel
theorem dX5_key_47 : decode cX5_key 47 = .ok (.goto 4, 3) := by decide +kernel
theorem dX5_key_50 : decode cX5_key 50 = .ok (.iconst 0, 1) := by decide +kernel
theorem dX5_key_51 : decode cX5_key 51 = .ok (.ior, 1) := by decide +kernel
theorem dX5_key_52 : decode cX5_key 52 = .ok (.istore_n 1, 1) := by decide +kernel
theorem dX5_key_53 : decode cX5_key 53 = .ok (.aload_n 0, 1) := by decide +kernel
theorem dX5_key_54 : decode cX5_key 54 = .ok (.getfield 21, 3) := by decide +kernel
theorem dX5_key_57 : decode cX5_key 57 = .ok (.iconst 3, 1) := by decide +kernel
theorem dX5_key_58 : decode cX5_key 58 = .ok (.ishl, 1) := by decide +kernel
theorem dX5_key_59 : decode cX5_key 59 = .ok (.aload_n 0, 1) := by decide +kernel
theorem dX5_key_60 : decode cX5_key 60 = .ok (.getfield 9, 3) := by decide +kernel
theorem dX5_key_63 : decode cX5_key 63 = .ok (.ior, 1) := by decide +kernel
theorem dX5_key_64 : decode cX5_key 64 = .ok (.iconst 5, 1) := by decide +kernel
theorem dX5_key_65 : decode cX5_key 65 = .ok (.ishl, 1) := by decide +kernel
theorem dX5_key_66 : decode cX5_key 66 = .ok (.aload_n 0, 1) := by decide +kernel
theorem dX5_key_67 : decode cX5_key 67 = .ok (.getfield 24, 3) := by decide +kernel
theorem dX5_key_70 : decode cX5_key 70 = .ok (.ior, 1) := by decide +kernel
theorem dX5_key_71 : decode cX5_key 71 = .ok (.bipush 6, 2) := by decide +kernel
theorem dX5_key_73 : decode cX5_key 73 = .ok (.ishl, 1) := by decide +kernel
theorem dX5_key_74 : decode cX5_key 74 = .ok (.aload_n 0, 1) := by decide +kernel
theorem dX5_key_75 : decode cX5_key 75 = .ok (.getfield 15, 3) := by decide +kernel
theorem dX5_key_78 : decode cX5_key 78 = .ok (.iconst 4, 1) := by decide +kernel
theorem dX5_key_79 : decode cX5_key 79 = .ok (.ishl, 1) := by decide +kernel
theorem dX5_key_80 : decode cX5_key 80 = .ok (.ior, 1) := by decide +kernel
theorem dX5_key_81 : decode cX5_key 81 = .ok (.iload_n 1, 1) := by decide +kernel
theorem dX5_key_82 : decode cX5_key 82 = .ok (.ior, 1) := by decide +kernel
theorem dX5_key_83 : decode cX5_key 83 = .ok (.ireturn, 1) := by decide +kernel
theorem dX6_init_0 : decode cX6_init 0 = .ok (.aload_n 0, 1) := by decide +kernel
theorem dX6_init_1 : decode cX6_init 1 = .ok (.invokespecial 3, 3) := by decide +kernel
theorem dX6_init_4 : decode cX6_init 4 = .ok (.aload_n 0, 1) := by decide +kernel
theorem dX6_init_5 : decode cX6_init 5 = .ok (.bipush 14, 2) := by decide +kernel
theorem dX6_init_7 : decode cX6_init 7 = .ok (.newarray .int, 2) := by decide +kernel
theorem dX6_init_9 : decode cX6_init 9 = .ok (.putfield 9, 3) := by decide +kernel
theorem dX6_init_12 : decode cX6_init 12 = .ok (.return_, 1) := by decide +kernel
theorem dX6_clear_0 : decode cX6_clear 0 = .ok (.iconst 0, 1) := by decide +kernel
theorem dX6_clear_1 : decode cX6_clear 1 = .ok (.istore_n 1, 1) := by decide +kernel
theorem dX6_clear_2 : decode cX6_clear 2 = .ok (.iload_n 1, 1) := by decide +kernel
theorem dX6_clear_3 : decode cX6_clear 3 = .ok (.bipush 14, 2) := by decide +kernel
theorem dX6_clear_5 : decode cX6_clear 5 = .ok (.if_icmp .ge 16, 3) := by decide +kernel
theorem dX6_clear_8 : decode cX6_clear 8 = .ok (.aload_n 0, 1) := by decide +kernel
theorem dX6_clear_9 : decode cX6_clear 9 = .ok (.getfield 9, 3) := by decide +kernel
theorem dX6_clear_12 : decode cX6_clear 12 = .ok (.iload_n 1, 1) := by decide +kernel
theorem dX6_clear_13 : decode cX6_clear 13 = .ok (.iconst 0, 1) := by decide +kernel
theorem dX6_clear_14 : decode cX6_clear 14 = .ok (.iastore, 1) := by decide +kernel
theorem dX6_clear_15 : decode cX6_clear 15 = .ok (.iinc 1 1, 3) := by decide +kernel
theorem dX6_clear_18 : decode cX6_clear 18 = .ok (.goto (-16), 3) := by decide +kernel
theorem dX6_clear_21 : decode cX6_clear 21 = .ok (.aload_n 0, 1) := by decide +kernel
theorem dX6_clear_22 : decode cX6_clear 22 = .ok (.iconst 0, 1) := by decide +kernel
theorem dX6_clear_23 : decode cX6_clear 23 = .ok (.putfield 15, 3) := by decide +kernel
theorem dX6_clear_26 : decode cX6_clear 26 = .ok (.return_, 1) := by decide +kernel
theorem dX6_copy_0 : decode cX6_copy 0 = .ok (.aload_n 1, 1) := by decide +kernel
theorem dX6_copy_1 : decode cX6_copy 1 = .ok (.getfield 9, 3) := by decide +kernel
theorem dX6_copy_4 : decode cX6_copy 4 = .ok (.iconst 0, 1) := by decide +kernel
theorem dX6_copy_5 : decode cX6_copy 5 = .ok (.aload_n 0, 1) := by decide +kernel
theorem dX6_copy_6 : decode cX6_copy 6 = .ok (.getfield 9, 3) := by decide +kernel
theorem dX6_copy_9 : decode cX6_copy 9 = .ok (.iconst 0, 1) := by decide +kernel
theorem dX6_copy_10 : decode cX6_copy 10 = .ok (.bipush 14, 2) := by decide +kernel
theorem dX6_copy_12 : decode cX6_copy 12 = .ok (.invokestatic 19, 3) := by decide +kernel
theorem dX6_copy_15 : decode cX6_copy 15 = .ok (.aload_n 0, 1) := by decide +kernel
theorem dX6_copy_16 : decode cX6_copy 16 = .ok (.aload_n 1, 1) := by decide +kernel
theorem dX6_copy_17 : decode cX6_copy 17 = .ok (.getfield 15, 3) := by decide +kernel
theorem dX6_copy_20 : decode cX6_copy 20 = .ok (.putfield 15, 3) := by decide +kernel
theorem dX6_copy_23 : decode cX6_copy 23 = .ok (.return_, 1) := by decide +kernel
theorem dX6_isLike_0 : decode cX6_isLike 0 = .ok (.iconst 0, 1) := by decide +kernel
theorem dX6_isLike_1 : decode cX6_isLike 1 = .ok (.istore_n 2, 1) := by decide +kernel
theorem dX6_isLike_2 : decode cX6_isLike 2 = .ok (.iload_n 2, 1) := by decide +kernel
theorem dX6_isLike_3 : decode cX6_isLike 3 = .ok (.bipush 14, 2) := by decide +kernel
theorem dX6_isLike_5 : decode cX6_isLike 5 = .ok (.if_icmp .ge 26, 3) := by decide +kernel
theorem dX6_isLike_8 : decode cX6_isLike 8 = .ok (.aload_n 0, 1) := by decide +kernel
theorem dX6_isLike_9 : decode cX6_isLike 9 = .ok (.getfield 9, 3) := by decide +kernel
theorem dX6_isLike_12 : decode cX6_isLike 12 = .ok (.iload_n 2, 1) := by decide +kernel
theorem dX6_isLike_13 : decode cX6_isLike 13 = .ok (.iaload, 1) := by decide +kernel
theorem dX6_isLike_14 : decode cX6_isLike 14 = .ok (.aload_n 1, 1) := by decide +kernel
theorem dX6_isLike_15 : decode cX6_isLike 15 = .ok (.getfield 9, 3) := by decide +kernel
theorem dX6_isLike_18 : decode cX6_isLike 18 = .ok (.iload_n 2, 1) := by decide +kernel
theorem dX6_isLike_19 : decode cX6_isLike 19 = .ok (.iaload, 1) := by decide +kernel
theorem dX6_isLike_20 : decode cX6_isLike 20 = .ok (.if_icmp .eq 5, 3) := by decide +kernel
theorem dX6_isLike_23 : decode cX6_isLike 23 = .ok (.iconst 0, 1) := by decide +kernel
theorem dX6_isLike_24 : decode cX6_isLike 24 = .ok (.ireturn, 1) := by decide +kernel
theorem dX6_isLike_25 : decode cX6_isLike 25 = .ok (.iinc 2 1, 3) := by decide +kernel
theorem dX6_isLike_28 : decode cX6_isLike 28 = .ok (.goto (-26), 3) := by decide +kernel
theorem dX6_isLike_31 : decode cX6_isLike 31 = .ok (.aload_n 0, 1) := by decide +kernel
theorem dX6_isLike_32 : decode cX6_isLike 32 = .ok (.getfield 15, 3) := by decide +kernel
theorem dX6_isLike_35 : decode cX6_isLike 35 = .ok (.aload_n 1, 1) := by decide +kernel
theorem dX6_isLike_36 : decode cX6_isLike 36 = .ok (.getfield 15, 3) := by decide +kernel
theorem dX6_isLike_39 : decode cX6_isLike 39 = .ok (.if_icmp .ne 7, 3) := by decide +kernel
theorem dX6_isLike_42 : decode cX6_isLike 42 = .ok (.iconst 1, 1) := by decide +kernel
theorem dX6_isLike_43 : decode cX6_isLike 43 = .ok (.goto 4, 3) := by decide +kernel
theorem dX6_isLike_46 : decode cX6_isLike 46 = .ok (.iconst 0, 1) := by decide +kernel
theorem dX6_isLike_47 : decode cX6_isLike 47 = .ok (.ireturn, 1) := by decide +kernel
theorem dX6_inPits_0 : decode cX6_inPits 0 = .ok (.iconst 0, 1) := by decide +kernel
theorem dX6_inPits_1 : decode cX6_inPits 1 = .ok (.istore_n 1, 1) := by decide +kernel
theorem dX6_inPits_2 : decode cX6_inPits 2 = .ok (.iconst 0, 1) := by decide +kernel
theorem dX6_inPits_3 : decode cX6_inPits 3 = .ok (.istore_n 2, 1) := by decide +kernel
theorem dX6_inPits_4 : decode cX6_inPits 4 = .ok (.iload_n 2, 1) := by decide +kernel
theorem dX6_inPits_5 : decode cX6_inPits 5 = .ok (.bipush 12, 2) := by decide +kernel
theorem dX6_inPits_7 : decode cX6_inPits 7 = .ok (.if_icmp .ge 18, 3) := by decide +kernel
theorem dX6_inPits_10 : decode cX6_inPits 10 = .ok (.iload_n 1, 1) := by decide +kernel
theorem dX6_inPits_11 : decode cX6_inPits 11 = .ok (.aload_n 0, 1) := by decide +kernel
theorem dX6_inPits_12 : decode cX6_inPits 12 = .ok (.getfield 9, 3) := by decide +kernel
theorem dX6_inPits_15 : decode cX6_inPits 15 = .ok (.iload_n 2, 1) := by decide +kernel
theorem dX6_inPits_16 : decode cX6_inPits 16 = .ok (.iaload, 1) := by decide +kernel
theorem dX6_inPits_17 : decode cX6_inPits 17 = .ok (.iadd, 1) := by decide +kernel
theorem dX6_inPits_18 : decode cX6_inPits 18 = .ok (.istore_n 1, 1) := by decide +kernel
theorem dX6_inPits_19 : decode cX6_inPits 19 = .ok (.iinc 2 1, 3) := by decide +kernel
theorem dX6_inPits_22 : decode cX6_inPits 22 = .ok (.goto (-18), 3) := by decide +kernel
theorem dX6_inPits_25 : decode cX6_inPits 25 = .ok (.iload_n 1, 1) := by decide +kernel
theorem dX6_inPits_26 : decode cX6_inPits 26 = .ok (.ireturn, 1) := by decide +kernel
theorem dX6_filled_0 : decode cX6_filled 0 = .ok (.iconst 0, 1) := by decide +kernel
theorem dX6_filled_1 : decode cX6_filled 1 = .ok (.istore_n 2, 1) := by decide +kernel
theorem dX6_filled_2 : decode cX6_filled 2 = .ok (.aload_n 0, 1) := by decide +kernel
theorem dX6_filled_3 : decode cX6_filled 3 = .ok (.getfield 15, 3) := by decide +kernel
theorem dX6_filled_6 : decode cX6_filled 6 = .ok (.iload_n 1, 1) := by decide +kernel
theorem dX6_filled_7 : decode cX6_filled 7 = .ok (.imul, 1) := by decide +kernel
theorem dX6_filled_8 : decode cX6_filled 8 = .ok (.istore_n 3, 1) := by decide +kernel
theorem dX6_filled_9 : decode cX6_filled 9 = .ok (.iload_n 3, 1) := by decide +kernel
theorem dX6_filled_10 : decode cX6_filled 10 = .ok (.aload_n 0, 1) := by decide +kernel
theorem dX6_filled_11 : decode cX6_filled 11 = .ok (.getfield 15, 3) := by decide +kernel
theorem dX6_filled_14 : decode cX6_filled 14 = .ok (.iconst 1, 1) := by decide +kernel
theorem dX6_filled_15 : decode cX6_filled 15 = .ok (.iadd, 1) := by decide +kernel
theorem dX6_filled_16 : decode cX6_filled 16 = .ok (.iload_n 1, 1) := by decide +kernel
theorem dX6_filled_17 : decode cX6_filled 17 = .ok (.imul, 1) := by decide +kernel
theorem dX6_filled_18 : decode cX6_filled 18 = .ok (.if_icmp .ge 24, 3) := by decide +kernel
theorem dX6_filled_21 : decode cX6_filled 21 = .ok (.aload_n 0, 1) := by decide +kernel
theorem dX6_filled_22 : decode cX6_filled 22 = .ok (.getfield 9, 3) := by decide +kernel
theorem dX6_filled_25 : decode cX6_filled 25 = .ok (.iload_n 3, 1) := by decide +kernel
theorem dX6_filled_26 : decode cX6_filled 26 = .ok (.iaload, 1) := by decide +kernel
theorem dX6_filled_27 : decode cX6_filled 27 = .ok (.ifCond .le 9, 3) := by decide +kernel
theorem dX6_filled_30 : decode cX6_filled 30 = .ok (.iload_n 2, 1) := by decide +kernel
theorem dX6_filled_31 : decode cX6_filled 31 = .ok (.iconst 1, 1) := by decide +kernel
theorem dX6_filled_32 : decode cX6_filled 32 = .ok (.iload_n 3, 1) := by decide +kernel
theorem dX6_filled_33 : decode cX6_filled 33 = .ok (.ishl, 1) := by decide +kernel
theorem dX6_filled_34 : decode cX6_filled 34 = .ok (.ior, 1) := by decide +kernel
theorem dX6_filled_35 : decode cX6_filled 35 = .ok (.istore_n 2, 1) := by decide +kernel
theorem dX6_filled_36 : decode cX6_filled 36 = .ok (.iinc 3 1, 3) := by decide +kernel
theorem dX6_filled_39 : decode cX6_filled 39 = .ok (.goto (-30), 3) := by decide +kernel
theorem dX6_filled_42 : decode cX6_filled 42 = .ok (.iload_n 2, 1) := by decide +kernel
theorem dX6_filled_43 : decode cX6_filled 43 = .ok (.ireturn, 1) := by decide +kernel
theorem dX6_inRow_0 : decode cX6_inRow 0 = .ok (.iconst 0, 1) := by decide +kernel
theorem dX6_inRow_1 : decode cX6_inRow 1 = .ok (.istore_n 3, 1) := by decide +kernel
theorem dX6_inRow_2 : decode cX6_inRow 2 = .ok (.iload_n 1, 1) := by decide +kernel
theorem dX6_inRow_3 : decode cX6_inRow 3 = .ok (.iload_n 2, 1) := by decide +kernel
theorem dX6_inRow_4 : decode cX6_inRow 4 = .ok (.imul, 1) := by decide +kernel
theorem dX6_inRow_5 : decode cX6_inRow 5 = .ok (.istore 4, 2) := by decide +kernel
theorem dX6_inRow_7 : decode cX6_inRow 7 = .ok (.iload 4, 2) := by decide +kernel
theorem dX6_inRow_9 : decode cX6_inRow 9 = .ok (.iload_n 1, 1) := by decide +kernel
theorem dX6_inRow_10 : decode cX6_inRow 10 = .ok (.iconst 1, 1) := by decide +kernel
theorem dX6_inRow_11 : decode cX6_inRow 11 = .ok (.iadd, 1) := by decide +kernel
theorem dX6_inRow_12 : decode cX6_inRow 12 = .ok (.iload_n 2, 1) := by decide +kernel
theorem dX6_inRow_13 : decode cX6_inRow 13 = .ok (.imul, 1) := by decide +kernel
theorem dX6_inRow_14 : decode cX6_inRow 14 = .ok (.if_icmp .ge 19, 3) := by decide +kernel
theorem dX6_inRow_17 : decode cX6_inRow 17 = .ok (.iload_n 3, 1) := by decide +kernel
theorem dX6_inRow_18 : decode cX6_inRow 18 = .ok (.aload_n 0, 1) := by decide +kernel
theorem dX6_inRow_19 : decode cX6_inRow 19 = .ok (.getfield 9, 3) := by decide +kernel
theorem dX6_inRow_22 : decode cX6_inRow 22 = .ok (.iload 4, 2) := by decide +kernel
theorem dX6_inRow_24 : decode cX6_inRow 24 = .ok (.iaload, 1) := by decide +kernel
theorem dX6_inRow_25 : decode cX6_inRow 25 = .ok (.iadd, 1) := by decide +kernel
theorem dX6_inRow_26 : decode cX6_inRow 26 = .ok (.istore_n 3, 1) := by decide +kernel
theorem dX6_inRow_27 : decode cX6_inRow 27 = .ok (.iinc 4 1, 3) := by decide +kernel
theorem dX6_inRow_30 : decode cX6_inRow 30 = .ok (.goto (-23), 3) := by decide +kernel
theorem dX6_inRow_33 : decode cX6_inRow 33 = .ok (.iload_n 3, 1) := by decide +kernel
theorem dX6_inRow_34 : decode cX6_inRow 34 = .ok (.ireturn, 1) := by decide +kernel
theorem dX7_init_0 : decode cX7_init 0 = .ok (.aload_n 0, 1) := by decide +kernel
theorem dX7_init_1 : decode cX7_init 1 = .ok (.invokespecial 3, 3) := by decide +kernel
theorem dX7_init_4 : decode cX7_init 4 = .ok (.aload_n 0, 1) := by decide +kernel
theorem dX7_init_5 : decode cX7_init 5 = .ok (.sipush 12000, 3) := by decide +kernel
theorem dX7_init_8 : decode cX7_init 8 = .ok (.newarray .int, 2) := by decide +kernel
theorem dX7_init_10 : decode cX7_init 10 = .ok (.putfield 9, 3) := by decide +kernel
theorem dX7_init_13 : decode cX7_init 13 = .ok (.aload_n 0, 1) := by decide +kernel
theorem dX7_init_14 : decode cX7_init 14 = .ok (.sipush 12000, 3) := by decide +kernel
theorem dX7_init_17 : decode cX7_init 17 = .ok (.newarray .int, 2) := by decide +kernel
theorem dX7_init_19 : decode cX7_init 19 = .ok (.putfield 15, 3) := by decide +kernel
theorem dX7_init_22 : decode cX7_init 22 = .ok (.aload_n 0, 1) := by decide +kernel
theorem dX7_init_23 : decode cX7_init 23 = .ok (.new 18, 3) := by decide +kernel
theorem dX7_init_26 : decode cX7_init 26 = .ok (.dup, 1) := by decide +kernel
theorem dX7_init_27 : decode cX7_init 27 = .ok (.invokespecial 20, 3) := by decide +kernel
theorem dX7_init_30 : decode cX7_init 30 = .ok (.putfield 21, 3) := by decide +kernel
theorem dX7_init_33 : decode cX7_init 33 = .ok (.aload_n 0, 1) := by decide +kernel
theorem dX7_init_34 : decode cX7_init 34 = .ok (.iconst (-1), 1) := by decide +kernel
theorem dX7_init_35 : decode cX7_init 35 = .ok (.putfield 25, 3) := by decide +kernel
theorem dX7_init_38 : decode cX7_init 38 = .ok (.aload_n 0, 1) := by decide +kernel
theorem dX7_init_39 : decode cX7_init 39 = .ok (.sipush 6006, 3) := by decide +kernel
theorem dX7_init_42 : decode cX7_init 42 = .ok (.newarray .int, 2) := by decide +kernel
theorem dX7_init_44 : decode cX7_init 44 = .ok (.putfield 29, 3) := by decide +kernel
theorem dX7_init_47 : decode cX7_init 47 = .ok (.aload_n 0, 1) := by decide +kernel
theorem dX7_init_48 : decode cX7_init 48 = .ok (.sipush 6006, 3) := by decide +kernel
theorem dX7_init_51 : decode cX7_init 51 = .ok (.newarray .int, 2) := by decide +kernel
theorem dX7_init_53 : decode cX7_init 53 = .ok (.putfield 32, 3) := by decide +kernel
theorem dX7_init_56 : decode cX7_init 56 = .ok (.aload_n 0, 1) := by decide +kernel
theorem dX7_init_57 : decode cX7_init 57 = .ok (.sipush 6006, 3) := by decide +kernel
theorem dX7_init_60 : decode cX7_init 60 = .ok (.newarray .int, 2) := by decide +kernel
theorem dX7_init_62 : decode cX7_init 62 = .ok (.putfield 35, 3) := by decide +kernel
theorem dX7_init_65 : decode cX7_init 65 = .ok (.aload_n 0, 1) := by decide +kernel
theorem dX7_init_66 : decode cX7_init 66 = .ok (.ldc 38, 2) := by decide +kernel
theorem dX7_init_68 : decode cX7_init 68 = .ok (.newarray .int, 2) := by decide +kernel
theorem dX7_init_70 : decode cX7_init 70 = .ok (.putfield 39, 3) := by decide +kernel
theorem dX7_init_73 : decode cX7_init 73 = .ok (.aload_n 0, 1) := by decide +kernel
theorem dX7_init_74 : decode cX7_init 74 = .ok (.aload_n 1, 1) := by decide +kernel
theorem dX7_init_75 : decode cX7_init 75 = .ok (.putfield 42, 3) := by decide +kernel
theorem dX7_init_78 : decode cX7_init 78 = .ok (.aload_n 0, 1) := by decide +kernel
theorem dX7_init_79 : decode cX7_init 79 = .ok (.aload_n 2, 1) := by decide +kernel
theorem dX7_init_80 : decode cX7_init 80 = .ok (.putfield 46, 3) := by decide +kernel
theorem dX7_init_83 : decode cX7_init 83 = .ok (.aload_n 0, 1) := by decide +kernel
theorem dX7_init_84 : decode cX7_init 84 = .ok (.aload_n 3, 1) := by decide +kernel
theorem dX7_init_85 : decode cX7_init 85 = .ok (.putfield 50, 3) := by decide +kernel
theorem dX7_init_88 : decode cX7_init 88 = .ok (.return_, 1) := by decide +kernel
theorem dX7_reach_0 : decode cX7_reach 0 = .ok (.aload_n 0, 1) := by decide +kernel
theorem dX7_reach_1 : decode cX7_reach 1 = .ok (.getfield 46, 3) := by decide +kernel
theorem dX7_reach_4 : decode cX7_reach 4 = .ok (.iload_n 1, 1) := by decide +kernel
theorem dX7_reach_5 : decode cX7_reach 5 = .ok (.invokevirtual 54, 3) := by decide +kernel
theorem dX7_reach_8 : decode cX7_reach 8 = .ok (.sipush 6000, 3) := by decide +kernel
theorem dX7_reach_11 : decode cX7_reach 11 = .ok (.if_icmp .le 5, 3) := by decide +kernel
theorem dX7_reach_14 : decode cX7_reach 14 = .ok (.iconst 0, 1) := by decide +kernel
theorem dX7_reach_15 : decode cX7_reach 15 = .ok (.ireturn, 1) := by decide +kernel
theorem dX7_reach_16 : decode cX7_reach 16 = .ok (.aload_n 0, 1) := by decide +kernel
theorem dX7_reach_17 : decode cX7_reach 17 = .ok (.getfield 25, 3) := by decide +kernel
theorem dX7_reach_20 : decode cX7_reach 20 = .ok (.iconst (-1), 1) := by decide +kernel
theorem dX7_reach_21 : decode cX7_reach 21 = .ok (.if_icmp .eq 17, 3) := by decide +kernel
theorem dX7_reach_24 : decode cX7_reach 24 = .ok (.aload_n 0, 1) := by decide +kernel
theorem dX7_reach_25 : decode cX7_reach 25 = .ok (.getfield 60, 3) := by decide +kernel
theorem dX7_reach_28 : decode cX7_reach 28 = .ok (.aload_n 0, 1) := by decide +kernel
theorem dX7_reach_29 : decode cX7_reach 29 = .ok (.getfield 42, 3) := by decide +kernel
theorem dX7_reach_32 : decode cX7_reach 32 = .ok (.invokevirtual 63, 3) := by decide +kernel
theorem dX7_reach_35 : decode cX7_reach 35 = .ok (.if_icmp .eq 19, 3) := by decide +kernel
theorem dX7_reach_38 : decode cX7_reach 38 = .ok (.aload_n 0, 1) := by decide +kernel
theorem dX7_reach_39 : decode cX7_reach 39 = .ok (.aload_n 0, 1) := by decide +kernel
theorem dX7_reach_40 : decode cX7_reach 40 = .ok (.getfield 42, 3) := by decide +kernel
theorem dX7_reach_43 : decode cX7_reach 43 = .ok (.invokevirtual 63, 3) := by decide +kernel
theorem dX7_reach_46 : decode cX7_reach 46 = .ok (.putfield 60, 3) := by decide +kernel
theorem dX7_reach_49 : decode cX7_reach 49 = .ok (.aload_n 0, 1) := by decide +kernel
theorem dX7_reach_50 : decode cX7_reach 50 = .ok (.iconst (-1), 1) := by decide +kernel
theorem dX7_reach_51 : decode cX7_reach 51 = .ok (.putfield 25, 3) := by decide +kernel
theorem dX7_reach_54 : decode cX7_reach 54 = .ok (.aload_n 0, 1) := by decide +kernel
theorem dX7_reach_55 : decode cX7_reach 55 = .ok (.getfield 25, 3) := by decide +kernel
theorem dX7_reach_58 : decode cX7_reach 58 = .ok (.iconst 1, 1) := by decide +kernel
theorem dX7_reach_59 : decode cX7_reach 59 = .ok (.iadd, 1) := by decide +kernel
theorem dX7_reach_60 : decode cX7_reach 60 = .ok (.istore_n 2, 1) := by decide +kernel
theorem dX7_reach_61 : decode cX7_reach 61 = .ok (.iload_n 2, 1) := by decide +kernel
theorem dX7_reach_62 : decode cX7_reach 62 = .ok (.iload_n 1, 1) := by decide +kernel
theorem dX7_reach_63 : decode cX7_reach 63 = .ok (.if_icmp .gt 71, 3) := by decide +kernel
theorem dX7_reach_66 : decode cX7_reach 66 = .ok (.aload_n 0, 1) := by decide +kernel
theorem dX7_reach_67 : decode cX7_reach 67 = .ok (.getfield 46, 3) := by decide +kernel
theorem dX7_reach_70 : decode cX7_reach 70 = .ok (.iload_n 2, 1) := by decide +kernel
theorem dX7_reach_71 : decode cX7_reach 71 = .ok (.invokevirtual 69, 3) := by decide +kernel
theorem dX7_reach_74 : decode cX7_reach 74 = .ok (.istore_n 3, 1) := by decide +kernel
theorem dX7_reach_75 : decode cX7_reach 75 = .ok (.iconst 0, 1) := by decide +kernel
theorem dX7_reach_76 : decode cX7_reach 76 = .ok (.istore 4, 2) := by decide +kernel
theorem dX7_reach_78 : decode cX7_reach 78 = .ok (.iload 4, 2) := by decide +kernel
theorem dX7_reach_80 : decode cX7_reach 80 = .ok (.aload_n 0, 1) := by decide +kernel
theorem dX7_reach_81 : decode cX7_reach 81 = .ok (.iconst 1, 1) := by decide +kernel
theorem dX7_reach_82 : decode cX7_reach 82 = .ok (.invokevirtual 72, 3) := by decide +kernel
theorem dX7_reach_85 : decode cX7_reach 85 = .ok (.if_icmp .gt 33, 3) := by decide +kernel
theorem dX7_reach_88 : decode cX7_reach 88 = .ok (.iconst 0, 1) := by decide +kernel
theorem dX7_reach_89 : decode cX7_reach 89 = .ok (.istore 5, 2) := by decide +kernel
theorem dX7_reach_91 : decode cX7_reach 91 = .ok (.iload 5, 2) := by decide +kernel
theorem dX7_reach_93 : decode cX7_reach 93 = .ok (.iload_n 3, 1) := by decide +kernel
theorem dX7_reach_94 : decode cX7_reach 94 = .ok (.if_icmp .ge 18, 3) := by decide +kernel
theorem dX7_reach_97 : decode cX7_reach 97 = .ok (.aload_n 0, 1) := by decide +kernel
theorem dX7_reach_98 : decode cX7_reach 98 = .ok (.iload 4, 2) := by decide +kernel
theorem dX7_reach_100 : decode cX7_reach 100 = .ok (.iload_n 2, 1) := by decide +kernel
theorem dX7_reach_101 : decode cX7_reach 101 = .ok (.iload 5, 2) := by decide +kernel
theorem dX7_reach_103 : decode cX7_reach 103 = .ok (.invokevirtual 75, 3) := by decide +kernel
theorem dX7_reach_106 : decode cX7_reach 106 = .ok (.iinc 5 1, 3) := by decide +kernel
theorem dX7_reach_109 : decode cX7_reach 109 = .ok (.goto (-18), 3) := by decide +kernel
theorem dX7_reach_112 : decode cX7_reach 112 = .ok (.iinc 4 1, 3) := by decide +kernel
theorem dX7_reach_115 : decode cX7_reach 115 = .ok (.goto (-37), 3) := by decide +kernel
theorem dX7_reach_118 : decode cX7_reach 118 = .ok (.aload_n 0, 1) := by decide +kernel
theorem dX7_reach_119 : decode cX7_reach 119 = .ok (.iload_n 2, 1) := by decide +kernel
theorem dX7_reach_120 : decode cX7_reach 120 = .ok (.invokevirtual 79, 3) := by decide +kernel
theorem dX7_reach_123 : decode cX7_reach 123 = .ok (.aload_n 0, 1) := by decide +kernel
theorem dX7_reach_124 : decode cX7_reach 124 = .ok (.iload_n 2, 1) := by decide +kernel
theorem dX7_reach_125 : decode cX7_reach 125 = .ok (.putfield 25, 3) := by decide +kernel
theorem dX7_reach_128 : decode cX7_reach 128 = .ok (.iinc 2 1, 3) := by decide +kernel
theorem dX7_reach_131 : decode cX7_reach 131 = .ok (.goto (-70), 3) := by decide +kernel
theorem dX7_reach_134 : decode cX7_reach 134 = .ok (.iconst 1, 1) := by decide +kernel
theorem dX7_reach_135 : decode cX7_reach 135 = .ok (.ireturn, 1) := by decide +kernel
theorem dX7_halfOf_0 : decode cX7_halfOf 0 = .ok (.aload_n 0, 1) := by decide +kernel
theorem dX7_halfOf_1 : decode cX7_halfOf 1 = .ok (.getfield 46, 3) := by decide +kernel
theorem dX7_halfOf_4 : decode cX7_halfOf 4 = .ok (.getfield 83, 3) := by decide +kernel
theorem dX7_halfOf_7 : decode cX7_halfOf 7 = .ok (.ifCond .eq 7, 3) := by decide +kernel
theorem dX7_halfOf_10 : decode cX7_halfOf 10 = .ok (.iconst 0, 1) := by decide +kernel
theorem dX7_halfOf_11 : decode cX7_halfOf 11 = .ok (.goto 4, 3) := by decide +kernel
theorem dX7_halfOf_14 : decode cX7_halfOf 14 = .ok (.iload_n 1, 1) := by decide +kernel
theorem dX7_halfOf_15 : decode cX7_halfOf 15 = .ok (.ireturn, 1) := by decide +kernel
theorem dX7_indexOf_0 : decode cX7_indexOf 0 = .ok (.aload_n 0, 1) := by decide +kernel
theorem dX7_indexOf_1 : decode cX7_indexOf 1 = .ok (.iload_n 1, 1) := by decide +kernel
theorem dX7_indexOf_2 : decode cX7_indexOf 2 = .ok (.invokevirtual 72, 3) := by decide +kernel
theorem dX7_indexOf_5 : decode cX7_indexOf 5 = .ok (.sipush 6000, 3) := by decide +kernel
theorem dX7_indexOf_8 : decode cX7_indexOf 8 = .ok (.imul, 1) := by decide +kernel
theorem dX7_indexOf_9 : decode cX7_indexOf 9 = .ok (.aload_n 0, 1) := by decide +kernel
theorem dX7_indexOf_10 : decode cX7_indexOf 10 = .ok (.getfield 46, 3) := by decide +kernel
theorem dX7_indexOf_13 : decode cX7_indexOf 13 = .ok (.iload_n 2, 1) := by decide +kernel
theorem dX7_indexOf_14 : decode cX7_indexOf 14 = .ok (.iconst 1, 1) := by decide +kernel
theorem dX7_indexOf_15 : decode cX7_indexOf 15 = .ok (.isub, 1) := by decide +kernel
theorem dX7_indexOf_16 : decode cX7_indexOf 16 = .ok (.invokevirtual 54, 3) := by decide +kernel
theorem dX7_indexOf_19 : decode cX7_indexOf 19 = .ok (.iadd, 1) := by decide +kernel
theorem dX7_indexOf_20 : decode cX7_indexOf 20 = .ok (.iload_n 3, 1) := by decide +kernel
theorem dX7_indexOf_21 : decode cX7_indexOf 21 = .ok (.iadd, 1) := by decide +kernel
theorem dX7_indexOf_22 : decode cX7_indexOf 22 = .ok (.ireturn, 1) := by decide +kernel
theorem dX7_indexAt_0 : decode cX7_indexAt 0 = .ok (.aload_n 0, 1) := by decide +kernel
theorem dX7_indexAt_1 : decode cX7_indexAt 1 = .ok (.aload_n 1, 1) := by decide +kernel
theorem dX7_indexAt_2 : decode cX7_indexAt 2 = .ok (.getfield 87, 3) := by decide +kernel
theorem dX7_indexAt_5 : decode cX7_indexAt 5 = .ok (.iload_n 2, 1) := by decide +kernel
theorem dX7_indexAt_6 : decode cX7_indexAt 6 = .ok (.aload_n 0, 1) := by decide +kernel
theorem dX7_indexAt_7 : decode cX7_indexAt 7 = .ok (.getfield 46, 3) := by decide +kernel
theorem dX7_indexAt_10 : decode cX7_indexAt 10 = .ok (.aload_n 1, 1) := by decide +kernel
theorem dX7_indexAt_11 : decode cX7_indexAt 11 = .ok (.iload_n 2, 1) := by decide +kernel
theorem dX7_indexAt_12 : decode cX7_indexAt 12 = .ok (.invokevirtual 90, 3) := by decide +kernel
theorem dX7_indexAt_15 : decode cX7_indexAt 15 = .ok (.invokevirtual 94, 3) := by decide +kernel
theorem dX7_indexAt_18 : decode cX7_indexAt 18 = .ok (.ireturn, 1) := by decide +kernel
theorem dX7_weighLevel_0 : decode cX7_weighLevel 0 = .ok (.iconst 1, 1) := by decide +kernel
theorem dX7_weighLevel_1 : decode cX7_weighLevel 1 = .ok (.istore_n 2, 1) := by decide +kernel
theorem dX7_weighLevel_2 : decode cX7_weighLevel 2 = .ok (.iconst 1, 1) := by decide +kernel
theorem dX7_weighLevel_3 : decode cX7_weighLevel 3 = .ok (.istore_n 3, 1) := by decide +kernel
theorem dX7_weighLevel_4 : decode cX7_weighLevel 4 = .ok (.iload_n 2, 1) := by decide +kernel
theorem dX7_weighLevel_5 : decode cX7_weighLevel 5 = .ok (.ifCond .eq 74, 3) := by decide +kernel
theorem dX7_weighLevel_8 : decode cX7_weighLevel 8 = .ok (.iload_n 3, 1) := by decide +kernel
theorem dX7_weighLevel_9 : decode cX7_weighLevel 9 = .ok (.sipush 6007, 3) := by decide +kernel
theorem dX7_weighLevel_12 : decode cX7_weighLevel 12 = .ok (.if_icmp .gt 67, 3) := by decide +kernel
theorem dX7_weighLevel_15 : decode cX7_weighLevel 15 = .ok (.iconst 0, 1) := by decide +kernel
theorem dX7_weighLevel_16 : decode cX7_weighLevel 16 = .ok (.istore_n 2, 1) := by decide +kernel
theorem dX7_weighLevel_17 : decode cX7_weighLevel 17 = .ok (.iconst 0, 1) := by decide +kernel
theorem dX7_weighLevel_18 : decode cX7_weighLevel 18 = .ok (.istore 4, 2) := by decide +kernel
theorem dX7_weighLevel_20 : decode cX7_weighLevel 20 = .ok (.iload 4, 2) := by decide +kernel
theorem dX7_weighLevel_22 : decode cX7_weighLevel 22 = .ok (.aload_n 0, 1) := by decide +kernel
theorem dX7_weighLevel_23 : decode cX7_weighLevel 23 = .ok (.iconst 1, 1) := by decide +kernel
theorem dX7_weighLevel_24 : decode cX7_weighLevel 24 = .ok (.invokevirtual 72, 3) := by decide +kernel
theorem dX7_weighLevel_27 : decode cX7_weighLevel 27 = .ok (.if_icmp .gt 16, 3) := by decide +kernel
theorem dX7_weighLevel_30 : decode cX7_weighLevel 30 = .ok (.aload_n 0, 1) := by decide +kernel
theorem dX7_weighLevel_31 : decode cX7_weighLevel 31 = .ok (.iload 4, 2) := by decide +kernel
theorem dX7_weighLevel_33 : decode cX7_weighLevel 33 = .ok (.iload_n 1, 1) := by decide +kernel
theorem dX7_weighLevel_34 : decode cX7_weighLevel 34 = .ok (.invokevirtual 98, 3) := by decide +kernel
theorem dX7_weighLevel_37 : decode cX7_weighLevel 37 = .ok (.iinc 4 1, 3) := by decide +kernel
theorem dX7_weighLevel_40 : decode cX7_weighLevel 40 = .ok (.goto (-20), 3) := by decide +kernel
theorem dX7_weighLevel_43 : decode cX7_weighLevel 43 = .ok (.iconst 0, 1) := by decide +kernel
theorem dX7_weighLevel_44 : decode cX7_weighLevel 44 = .ok (.istore 4, 2) := by decide +kernel
theorem dX7_weighLevel_46 : decode cX7_weighLevel 46 = .ok (.iload 4, 2) := by decide +kernel
theorem dX7_weighLevel_48 : decode cX7_weighLevel 48 = .ok (.aload_n 0, 1) := by decide +kernel
theorem dX7_weighLevel_49 : decode cX7_weighLevel 49 = .ok (.iconst 1, 1) := by decide +kernel
theorem dX7_weighLevel_50 : decode cX7_weighLevel 50 = .ok (.invokevirtual 72, 3) := by decide +kernel
theorem dX7_weighLevel_53 : decode cX7_weighLevel 53 = .ok (.if_icmp .gt 20, 3) := by decide +kernel
theorem dX7_weighLevel_56 : decode cX7_weighLevel 56 = .ok (.iload_n 2, 1) := by decide +kernel
theorem dX7_weighLevel_57 : decode cX7_weighLevel 57 = .ok (.aload_n 0, 1) := by decide +kernel
theorem dX7_weighLevel_58 : decode cX7_weighLevel 58 = .ok (.iload 4, 2) := by decide +kernel
theorem dX7_weighLevel_60 : decode cX7_weighLevel 60 = .ok (.iload_n 1, 1) := by decide +kernel
theorem dX7_weighLevel_61 : decode cX7_weighLevel 61 = .ok (.iload_n 3, 1) := by decide +kernel
theorem dX7_weighLevel_62 : decode cX7_weighLevel 62 = .ok (.invokevirtual 102, 3) := by decide +kernel
theorem dX7_weighLevel_65 : decode cX7_weighLevel 65 = .ok (.ior, 1) := by decide +kernel
theorem dX7_weighLevel_66 : decode cX7_weighLevel 66 = .ok (.istore_n 2, 1) := by decide +kernel
theorem dX7_weighLevel_67 : decode cX7_weighLevel 67 = .ok (.iinc 4 1, 3) := by decide +kernel
theorem dX7_weighLevel_70 : decode cX7_weighLevel 70 = .ok (.goto (-24), 3) := by decide +kernel
theorem dX7_weighLevel_73 : decode cX7_weighLevel 73 = .ok (.iinc 3 1, 3) := by decide +kernel
theorem dX7_weighLevel_76 : decode cX7_weighLevel 76 = .ok (.goto (-72), 3) := by decide +kernel
theorem dX7_weighLevel_79 : decode cX7_weighLevel 79 = .ok (.return_, 1) := by decide +kernel
theorem dX7_readPosition_0 : decode cX7_readPosition 0 = .ok (.iload_n 1, 1) := by decide +kernel
theorem dX7_readPosition_1 : decode cX7_readPosition 1 = .ok (.sipush 3003, 3) := by decide +kernel
theorem dX7_readPosition_4 : decode cX7_readPosition 4 = .ok (.imul, 1) := by decide +kernel
theorem dX7_readPosition_5 : decode cX7_readPosition 5 = .ok (.iload_n 3, 1) := by decide +kernel
theorem dX7_readPosition_6 : decode cX7_readPosition 6 = .ok (.iadd, 1) := by decide +kernel
theorem dX7_readPosition_7 : decode cX7_readPosition 7 = .ok (.istore 4, 2) := by decide +kernel
theorem dX7_readPosition_9 : decode cX7_readPosition 9 = .ok (.aload_n 0, 1) := by decide +kernel
theorem dX7_readPosition_10 : decode cX7_readPosition 10 = .ok (.iload_n 1, 1) := by decide +kernel
theorem dX7_readPosition_11 : decode cX7_readPosition 11 = .ok (.iload_n 2, 1) := by decide +kernel
theorem dX7_readPosition_12 : decode cX7_readPosition 12 = .ok (.iload_n 3, 1) := by decide +kernel
theorem dX7_readPosition_13 : decode cX7_readPosition 13 = .ok (.invokevirtual 94, 3) := by decide +kernel
theorem dX7_readPosition_16 : decode cX7_readPosition 16 = .ok (.istore 5, 2) := by decide +kernel
theorem dX7_readPosition_18 : decode cX7_readPosition 18 = .ok (.aload_n 0, 1) := by decide +kernel
theorem dX7_readPosition_19 : decode cX7_readPosition 19 = .ok (.getfield 46, 3) := by decide +kernel
theorem dX7_readPosition_22 : decode cX7_readPosition 22 = .ok (.aload_n 0, 1) := by decide +kernel
theorem dX7_readPosition_23 : decode cX7_readPosition 23 = .ok (.getfield 21, 3) := by decide +kernel
theorem dX7_readPosition_26 : decode cX7_readPosition 26 = .ok (.iload_n 1, 1) := by decide +kernel
theorem dX7_readPosition_27 : decode cX7_readPosition 27 = .ok (.iload_n 2, 1) := by decide +kernel
theorem dX7_readPosition_28 : decode cX7_readPosition 28 = .ok (.iload_n 3, 1) := by decide +kernel
theorem dX7_readPosition_29 : decode cX7_readPosition 29 = .ok (.invokevirtual 106, 3) := by decide +kernel
theorem dX7_readPosition_32 : decode cX7_readPosition 32 = .ok (.aload_n 0, 1) := by decide +kernel
theorem dX7_readPosition_33 : decode cX7_readPosition 33 = .ok (.getfield 29, 3) := by decide +kernel
theorem dX7_readPosition_36 : decode cX7_readPosition 36 = .ok (.iload 4, 2) := by decide +kernel
theorem dX7_readPosition_38 : decode cX7_readPosition 38 = .ok (.sipush (-1000), 3) := by decide +kernel
theorem dX7_readPosition_41 : decode cX7_readPosition 41 = .ok (.iastore, 1) := by decide +kernel
theorem dX7_readPosition_42 : decode cX7_readPosition 42 = .ok (.aload_n 0, 1) := by decide +kernel
theorem dX7_readPosition_43 : decode cX7_readPosition 43 = .ok (.getfield 35, 3) := by decide +kernel
theorem dX7_readPosition_46 : decode cX7_readPosition 46 = .ok (.iload 4, 2) := by decide +kernel
theorem dX7_readPosition_48 : decode cX7_readPosition 48 = .ok (.iconst 0, 1) := by decide +kernel
theorem dX7_readPosition_49 : decode cX7_readPosition 49 = .ok (.iastore, 1) := by decide +kernel
theorem dX7_readPosition_50 : decode cX7_readPosition 50 = .ok (.aload_n 0, 1) := by decide +kernel
theorem dX7_readPosition_51 : decode cX7_readPosition 51 = .ok (.getfield 9, 3) := by decide +kernel
theorem dX7_readPosition_54 : decode cX7_readPosition 54 = .ok (.iload 5, 2) := by decide +kernel
theorem dX7_readPosition_56 : decode cX7_readPosition 56 = .ok (.iconst 0, 1) := by decide +kernel
theorem dX7_readPosition_57 : decode cX7_readPosition 57 = .ok (.iastore, 1) := by decide +kernel
theorem dX7_readPosition_58 : decode cX7_readPosition 58 = .ok (.aload_n 0, 1) := by decide +kernel
theorem dX7_readPosition_59 : decode cX7_readPosition 59 = .ok (.getfield 15, 3) := by decide +kernel
theorem dX7_readPosition_62 : decode cX7_readPosition 62 = .ok (.iload 5, 2) := by decide +kernel
theorem dX7_readPosition_64 : decode cX7_readPosition 64 = .ok (.iconst 0, 1) := by decide +kernel
theorem dX7_readPosition_65 : decode cX7_readPosition 65 = .ok (.iastore, 1) := by decide +kernel
theorem dX7_readPosition_66 : decode cX7_readPosition 66 = .ok (.aload_n 0, 1) := by decide +kernel
theorem dX7_readPosition_67 : decode cX7_readPosition 67 = .ok (.getfield 50, 3) := by decide +kernel
theorem dX7_readPosition_70 : decode cX7_readPosition 70 = .ok (.aload_n 0, 1) := by decide +kernel
theorem dX7_readPosition_71 : decode cX7_readPosition 71 = .ok (.getfield 21, 3) := by decide +kernel
theorem dX7_readPosition_74 : decode cX7_readPosition 74 = .ok (.invokevirtual 110, 3) := by decide +kernel
theorem dX7_readPosition_77 : decode cX7_readPosition 77 = .ok (.iload_n 1, 1) := by decide +kernel
theorem dX7_readPosition_78 : decode cX7_readPosition 78 = .ok (.aload_n 0, 1) := by decide +kernel
theorem dX7_readPosition_79 : decode cX7_readPosition 79 = .ok (.getfield 42, 3) := by decide +kernel
theorem dX7_readPosition_82 : decode cX7_readPosition 82 = .ok (.getfield 116, 3) := by decide +kernel
theorem dX7_readPosition_85 : decode cX7_readPosition 85 = .ok (.imul, 1) := by decide +kernel
theorem dX7_readPosition_86 : decode cX7_readPosition 86 = .ok (.iushr, 1) := by decide +kernel
theorem dX7_readPosition_87 : decode cX7_readPosition 87 = .ok (.istore 6, 2) := by decide +kernel
theorem dX7_readPosition_89 : decode cX7_readPosition 89 = .ok (.iload 6, 2) := by decide +kernel
theorem dX7_readPosition_91 : decode cX7_readPosition 91 = .ok (.ifCond .ne 51, 3) := by decide +kernel
theorem dX7_readPosition_94 : decode cX7_readPosition 94 = .ok (.aload_n 0, 1) := by decide +kernel
theorem dX7_readPosition_95 : decode cX7_readPosition 95 = .ok (.getfield 9, 3) := by decide +kernel
theorem dX7_readPosition_98 : decode cX7_readPosition 98 = .ok (.iload 5, 2) := by decide +kernel
theorem dX7_readPosition_100 : decode cX7_readPosition 100 = .ok (.aload_n 0, 1) := by decide +kernel
theorem dX7_readPosition_101 : decode cX7_readPosition 101 = .ok (.getfield 21, 3) := by decide +kernel
theorem dX7_readPosition_104 : decode cX7_readPosition 104 = .ok (.iload_n 1, 1) := by decide +kernel
theorem dX7_readPosition_105 : decode cX7_readPosition 105 = .ok (.aload_n 0, 1) := by decide +kernel
theorem dX7_readPosition_106 : decode cX7_readPosition 106 = .ok (.getfield 42, 3) := by decide +kernel
theorem dX7_readPosition_109 : decode cX7_readPosition 109 = .ok (.getfield 116, 3) := by decide +kernel
theorem dX7_readPosition_112 : decode cX7_readPosition 112 = .ok (.invokevirtual 119, 3) := by decide +kernel
theorem dX7_readPosition_115 : decode cX7_readPosition 115 = .ok (.aload_n 0, 1) := by decide +kernel
theorem dX7_readPosition_116 : decode cX7_readPosition 116 = .ok (.getfield 21, 3) := by decide +kernel
theorem dX7_readPosition_119 : decode cX7_readPosition 119 = .ok (.iconst 1, 1) := by decide +kernel
theorem dX7_readPosition_120 : decode cX7_readPosition 120 = .ok (.iload_n 1, 1) := by decide +kernel
theorem dX7_readPosition_121 : decode cX7_readPosition 121 = .ok (.isub, 1) := by decide +kernel
theorem dX7_readPosition_122 : decode cX7_readPosition 122 = .ok (.aload_n 0, 1) := by decide +kernel
theorem dX7_readPosition_123 : decode cX7_readPosition 123 = .ok (.getfield 42, 3) := by decide +kernel
theorem dX7_readPosition_126 : decode cX7_readPosition 126 = .ok (.getfield 116, 3) := by decide +kernel
theorem dX7_readPosition_129 : decode cX7_readPosition 129 = .ok (.invokevirtual 119, 3) := by decide +kernel
theorem dX7_readPosition_132 : decode cX7_readPosition 132 = .ok (.isub, 1) := by decide +kernel
theorem dX7_readPosition_133 : decode cX7_readPosition 133 = .ok (.iastore, 1) := by decide +kernel
theorem dX7_readPosition_134 : decode cX7_readPosition 134 = .ok (.aload_n 0, 1) := by decide +kernel
theorem dX7_readPosition_135 : decode cX7_readPosition 135 = .ok (.getfield 15, 3) := by decide +kernel
theorem dX7_readPosition_138 : decode cX7_readPosition 138 = .ok (.iload 5, 2) := by decide +kernel
theorem dX7_readPosition_140 : decode cX7_readPosition 140 = .ok (.iconst (-1), 1) := by decide +kernel
theorem dX7_readPosition_141 : decode cX7_readPosition 141 = .ok (.iastore, 1) := by decide +kernel
theorem dX7_readPosition_142 : decode cX7_readPosition 142 = .ok (.iconst 0, 1) := by decide +kernel
theorem dX7_readPosition_143 : decode cX7_readPosition 143 = .ok (.istore 7, 2) := by decide +kernel
theorem dX7_readPosition_145 : decode cX7_readPosition 145 = .ok (.iload 7, 2) := by decide +kernel
theorem dX7_readPosition_147 : decode cX7_readPosition 147 = .ok (.aload_n 0, 1) := by decide +kernel
theorem dX7_readPosition_148 : decode cX7_readPosition 148 = .ok (.getfield 42, 3) := by decide +kernel
theorem dX7_readPosition_151 : decode cX7_readPosition 151 = .ok (.getfield 116, 3) := by decide +kernel
theorem dX7_readPosition_154 : decode cX7_readPosition 154 = .ok (.if_icmp .ge 28, 3) := by decide +kernel
theorem dX7_readPosition_157 : decode cX7_readPosition 157 = .ok (.iload 6, 2) := by decide +kernel
theorem dX7_readPosition_159 : decode cX7_readPosition 159 = .ok (.iload 7, 2) := by decide +kernel
theorem dX7_readPosition_161 : decode cX7_readPosition 161 = .ok (.invokestatic 123, 3) := by decide +kernel
theorem dX7_readPosition_164 : decode cX7_readPosition 164 = .ok (.ifCond .eq 12, 3) := by decide +kernel
theorem dX7_readPosition_167 : decode cX7_readPosition 167 = .ok (.aload_n 0, 1) := by decide +kernel
theorem dX7_readPosition_168 : decode cX7_readPosition 168 = .ok (.iload 4, 2) := by decide +kernel
theorem dX7_readPosition_170 : decode cX7_readPosition 170 = .ok (.iload_n 2, 1) := by decide +kernel
theorem dX7_readPosition_171 : decode cX7_readPosition 171 = .ok (.iload 7, 2) := by decide +kernel
theorem dX7_readPosition_173 : decode cX7_readPosition 173 = .ok (.invokevirtual 127, 3) := by decide +kernel
theorem dX7_readPosition_176 : decode cX7_readPosition 176 = .ok (.iinc 7 1, 3) := by decide +kernel
theorem dX7_readPosition_179 : decode cX7_readPosition 179 = .ok (.goto (-34), 3) := by decide +kernel
theorem dX7_readPosition_182 : decode cX7_readPosition 182 = .ok (.return_, 1) := by decide +kernel
theorem dX7_readMove_0 : decode cX7_readMove 0 = .ok (.aload_n 0, 1) := by decide +kernel
theorem dX7_readMove_1 : decode cX7_readMove 1 = .ok (.getfield 50, 3) := by decide +kernel
theorem dX7_readMove_4 : decode cX7_readMove 4 = .ok (.getfield 130, 3) := by decide +kernel
theorem dX7_readMove_7 : decode cX7_readMove 7 = .ok (.iload_n 3, 1) := by decide +kernel
theorem dX7_readMove_8 : decode cX7_readMove 8 = .ok (.iaload, 1) := by decide +kernel
theorem dX7_readMove_9 : decode cX7_readMove 9 = .ok (.istore 4, 2) := by decide +kernel
theorem dX7_readMove_11 : decode cX7_readMove 11 = .ok (.aload_n 0, 1) := by decide +kernel
theorem dX7_readMove_12 : decode cX7_readMove 12 = .ok (.aload_n 0, 1) := by decide +kernel
theorem dX7_readMove_13 : decode cX7_readMove 13 = .ok (.getfield 50, 3) := by decide +kernel
theorem dX7_readMove_16 : decode cX7_readMove 16 = .ok (.getfield 133, 3) := by decide +kernel
theorem dX7_readMove_19 : decode cX7_readMove 19 = .ok (.iload_n 3, 1) := by decide +kernel
theorem dX7_readMove_20 : decode cX7_readMove 20 = .ok (.aaload, 1) := by decide +kernel
theorem dX7_readMove_21 : decode cX7_readMove 21 = .ok (.iload_n 2, 1) := by decide +kernel
theorem dX7_readMove_22 : decode cX7_readMove 22 = .ok (.iload 4, 2) := by decide +kernel
theorem dX7_readMove_24 : decode cX7_readMove 24 = .ok (.isub, 1) := by decide +kernel
theorem dX7_readMove_25 : decode cX7_readMove 25 = .ok (.invokevirtual 137, 3) := by decide +kernel
theorem dX7_readMove_28 : decode cX7_readMove 28 = .ok (.istore 5, 2) := by decide +kernel
theorem dX7_readMove_30 : decode cX7_readMove 30 = .ok (.iload 4, 2) := by decide +kernel
theorem dX7_readMove_32 : decode cX7_readMove 32 = .ok (.ifCond .le 68, 3) := by decide +kernel
theorem dX7_readMove_35 : decode cX7_readMove 35 = .ok (.aload_n 0, 1) := by decide +kernel
theorem dX7_readMove_36 : decode cX7_readMove 36 = .ok (.getfield 50, 3) := by decide +kernel
theorem dX7_readMove_39 : decode cX7_readMove 39 = .ok (.getfield 133, 3) := by decide +kernel
theorem dX7_readMove_42 : decode cX7_readMove 42 = .ok (.iload_n 3, 1) := by decide +kernel
theorem dX7_readMove_43 : decode cX7_readMove 43 = .ok (.aaload, 1) := by decide +kernel
theorem dX7_readMove_44 : decode cX7_readMove 44 = .ok (.getfield 87, 3) := by decide +kernel
theorem dX7_readMove_47 : decode cX7_readMove 47 = .ok (.aload_n 0, 1) := by decide +kernel
theorem dX7_readMove_48 : decode cX7_readMove 48 = .ok (.getfield 21, 3) := by decide +kernel
theorem dX7_readMove_51 : decode cX7_readMove 51 = .ok (.getfield 87, 3) := by decide +kernel
theorem dX7_readMove_54 : decode cX7_readMove 54 = .ok (.if_icmp .ne 13, 3) := by decide +kernel
theorem dX7_readMove_57 : decode cX7_readMove 57 = .ok (.aload_n 0, 1) := by decide +kernel
theorem dX7_readMove_58 : decode cX7_readMove 58 = .ok (.getfield 9, 3) := by decide +kernel
theorem dX7_readMove_61 : decode cX7_readMove 61 = .ok (.iload 5, 2) := by decide +kernel
theorem dX7_readMove_63 : decode cX7_readMove 63 = .ok (.iaload, 1) := by decide +kernel
theorem dX7_readMove_64 : decode cX7_readMove 64 = .ok (.goto 11, 3) := by decide +kernel
theorem dX7_readMove_67 : decode cX7_readMove 67 = .ok (.aload_n 0, 1) := by decide +kernel
theorem dX7_readMove_68 : decode cX7_readMove 68 = .ok (.getfield 9, 3) := by decide +kernel
theorem dX7_readMove_71 : decode cX7_readMove 71 = .ok (.iload 5, 2) := by decide +kernel
theorem dX7_readMove_73 : decode cX7_readMove 73 = .ok (.iaload, 1) := by decide +kernel
theorem dX7_readMove_74 : decode cX7_readMove 74 = .ok (.ineg, 1) := by decide +kernel
theorem dX7_readMove_75 : decode cX7_readMove 75 = .ok (.istore 6, 2) := by decide +kernel
theorem dX7_readMove_77 : decode cX7_readMove 77 = .ok (.aload_n 0, 1) := by decide +kernel
theorem dX7_readMove_78 : decode cX7_readMove 78 = .ok (.getfield 29, 3) := by decide +kernel
theorem dX7_readMove_81 : decode cX7_readMove 81 = .ok (.iload_n 1, 1) := by decide +kernel
theorem dX7_readMove_82 : decode cX7_readMove 82 = .ok (.aload_n 0, 1) := by decide +kernel
theorem dX7_readMove_83 : decode cX7_readMove 83 = .ok (.getfield 29, 3) := by decide +kernel
theorem dX7_readMove_86 : decode cX7_readMove 86 = .ok (.iload_n 1, 1) := by decide +kernel
theorem dX7_readMove_87 : decode cX7_readMove 87 = .ok (.iaload, 1) := by decide +kernel
theorem dX7_readMove_88 : decode cX7_readMove 88 = .ok (.iload 4, 2) := by decide +kernel
theorem dX7_readMove_90 : decode cX7_readMove 90 = .ok (.iload 6, 2) := by decide +kernel
theorem dX7_readMove_92 : decode cX7_readMove 92 = .ok (.iadd, 1) := by decide +kernel
theorem dX7_readMove_93 : decode cX7_readMove 93 = .ok (.invokestatic 140, 3) := by decide +kernel
theorem dX7_readMove_96 : decode cX7_readMove 96 = .ok (.iastore, 1) := by decide +kernel
theorem dX7_readMove_97 : decode cX7_readMove 97 = .ok (.goto 31, 3) := by decide +kernel
theorem dX7_readMove_100 : decode cX7_readMove 100 = .ok (.aload_n 0, 1) := by decide +kernel
theorem dX7_readMove_101 : decode cX7_readMove 101 = .ok (.getfield 39, 3) := by decide +kernel
theorem dX7_readMove_104 : decode cX7_readMove 104 = .ok (.iload_n 1, 1) := by decide +kernel
theorem dX7_readMove_105 : decode cX7_readMove 105 = .ok (.bipush 6, 2) := by decide +kernel
theorem dX7_readMove_107 : decode cX7_readMove 107 = .ok (.imul, 1) := by decide +kernel
theorem dX7_readMove_108 : decode cX7_readMove 108 = .ok (.aload_n 0, 1) := by decide +kernel
theorem dX7_readMove_109 : decode cX7_readMove 109 = .ok (.getfield 35, 3) := by decide +kernel
theorem dX7_readMove_112 : decode cX7_readMove 112 = .ok (.iload_n 1, 1) := by decide +kernel
theorem dX7_readMove_113 : decode cX7_readMove 113 = .ok (.iaload, 1) := by decide +kernel
theorem dX7_readMove_114 : decode cX7_readMove 114 = .ok (.iadd, 1) := by decide +kernel
theorem dX7_readMove_115 : decode cX7_readMove 115 = .ok (.iload 5, 2) := by decide +kernel
theorem dX7_readMove_117 : decode cX7_readMove 117 = .ok (.iastore, 1) := by decide +kernel
theorem dX7_readMove_118 : decode cX7_readMove 118 = .ok (.aload_n 0, 1) := by decide +kernel
theorem dX7_readMove_119 : decode cX7_readMove 119 = .ok (.getfield 35, 3) := by decide +kernel
theorem dX7_readMove_122 : decode cX7_readMove 122 = .ok (.iload_n 1, 1) := by decide +kernel
theorem dX7_readMove_123 : decode cX7_readMove 123 = .ok (.dup2, 1) := by decide +kernel
theorem dX7_readMove_124 : decode cX7_readMove 124 = .ok (.iaload, 1) := by decide +kernel
theorem dX7_readMove_125 : decode cX7_readMove 125 = .ok (.iconst 1, 1) := by decide +kernel
theorem dX7_readMove_126 : decode cX7_readMove 126 = .ok (.iadd, 1) := by decide +kernel
theorem dX7_readMove_127 : decode cX7_readMove 127 = .ok (.iastore, 1) := by decide +kernel
theorem dX7_readMove_128 : decode cX7_readMove 128 = .ok (.return_, 1) := by decide +kernel
theorem dX7_weighAll_0 : decode cX7_weighAll 0 = .ok (.iload_n 1, 1) := by decide +kernel
theorem dX7_weighAll_1 : decode cX7_weighAll 1 = .ok (.sipush 3003, 3) := by decide +kernel
theorem dX7_weighAll_4 : decode cX7_weighAll 4 = .ok (.imul, 1) := by decide +kernel
theorem dX7_weighAll_5 : decode cX7_weighAll 5 = .ok (.aload_n 0, 1) := by decide +kernel
theorem dX7_weighAll_6 : decode cX7_weighAll 6 = .ok (.getfield 46, 3) := by decide +kernel
theorem dX7_weighAll_9 : decode cX7_weighAll 9 = .ok (.iload_n 2, 1) := by decide +kernel
theorem dX7_weighAll_10 : decode cX7_weighAll 10 = .ok (.invokevirtual 69, 3) := by decide +kernel
theorem dX7_weighAll_13 : decode cX7_weighAll 13 = .ok (.iadd, 1) := by decide +kernel
theorem dX7_weighAll_14 : decode cX7_weighAll 14 = .ok (.istore_n 3, 1) := by decide +kernel
theorem dX7_weighAll_15 : decode cX7_weighAll 15 = .ok (.iload_n 1, 1) := by decide +kernel
theorem dX7_weighAll_16 : decode cX7_weighAll 16 = .ok (.sipush 3003, 3) := by decide +kernel
theorem dX7_weighAll_19 : decode cX7_weighAll 19 = .ok (.imul, 1) := by decide +kernel
theorem dX7_weighAll_20 : decode cX7_weighAll 20 = .ok (.istore 4, 2) := by decide +kernel
theorem dX7_weighAll_22 : decode cX7_weighAll 22 = .ok (.iload 4, 2) := by decide +kernel
theorem dX7_weighAll_24 : decode cX7_weighAll 24 = .ok (.iload_n 3, 1) := by decide +kernel
theorem dX7_weighAll_25 : decode cX7_weighAll 25 = .ok (.if_icmp .ge 87, 3) := by decide +kernel
theorem dX7_weighAll_28 : decode cX7_weighAll 28 = .ok (.aload_n 0, 1) := by decide +kernel
theorem dX7_weighAll_29 : decode cX7_weighAll 29 = .ok (.getfield 29, 3) := by decide +kernel
theorem dX7_weighAll_32 : decode cX7_weighAll 32 = .ok (.iload 4, 2) := by decide +kernel
theorem dX7_weighAll_34 : decode cX7_weighAll 34 = .ok (.iaload, 1) := by decide +kernel
theorem dX7_weighAll_35 : decode cX7_weighAll 35 = .ok (.istore 5, 2) := by decide +kernel
theorem dX7_weighAll_37 : decode cX7_weighAll 37 = .ok (.iload 4, 2) := by decide +kernel
theorem dX7_weighAll_39 : decode cX7_weighAll 39 = .ok (.bipush 6, 2) := by decide +kernel
theorem dX7_weighAll_41 : decode cX7_weighAll 41 = .ok (.imul, 1) := by decide +kernel
theorem dX7_weighAll_42 : decode cX7_weighAll 42 = .ok (.istore 6, 2) := by decide +kernel
theorem dX7_weighAll_44 : decode cX7_weighAll 44 = .ok (.iload 6, 2) := by decide +kernel
theorem dX7_weighAll_46 : decode cX7_weighAll 46 = .ok (.aload_n 0, 1) := by decide +kernel
theorem dX7_weighAll_47 : decode cX7_weighAll 47 = .ok (.getfield 35, 3) := by decide +kernel
theorem dX7_weighAll_50 : decode cX7_weighAll 50 = .ok (.iload 4, 2) := by decide +kernel
theorem dX7_weighAll_52 : decode cX7_weighAll 52 = .ok (.iaload, 1) := by decide +kernel
theorem dX7_weighAll_53 : decode cX7_weighAll 53 = .ok (.iadd, 1) := by decide +kernel
theorem dX7_weighAll_54 : decode cX7_weighAll 54 = .ok (.iconst 1, 1) := by decide +kernel
theorem dX7_weighAll_55 : decode cX7_weighAll 55 = .ok (.isub, 1) := by decide +kernel
theorem dX7_weighAll_56 : decode cX7_weighAll 56 = .ok (.istore 7, 2) := by decide +kernel
theorem dX7_weighAll_58 : decode cX7_weighAll 58 = .ok (.iload 7, 2) := by decide +kernel
theorem dX7_weighAll_60 : decode cX7_weighAll 60 = .ok (.iload 6, 2) := by decide +kernel
theorem dX7_weighAll_62 : decode cX7_weighAll 62 = .ok (.if_icmp .lt 35, 3) := by decide +kernel
theorem dX7_weighAll_65 : decode cX7_weighAll 65 = .ok (.aload_n 0, 1) := by decide +kernel
theorem dX7_weighAll_66 : decode cX7_weighAll 66 = .ok (.getfield 9, 3) := by decide +kernel
theorem dX7_weighAll_69 : decode cX7_weighAll 69 = .ok (.aload_n 0, 1) := by decide +kernel
theorem dX7_weighAll_70 : decode cX7_weighAll 70 = .ok (.getfield 39, 3) := by decide +kernel
theorem dX7_weighAll_73 : decode cX7_weighAll 73 = .ok (.iload 7, 2) := by decide +kernel
theorem dX7_weighAll_75 : decode cX7_weighAll 75 = .ok (.iaload, 1) := by decide +kernel
theorem dX7_weighAll_76 : decode cX7_weighAll 76 = .ok (.iaload, 1) := by decide +kernel
theorem dX7_weighAll_77 : decode cX7_weighAll 77 = .ok (.ineg, 1) := by decide +kernel
theorem dX7_weighAll_78 : decode cX7_weighAll 78 = .ok (.istore 8, 2) := by decide +kernel
theorem dX7_weighAll_80 : decode cX7_weighAll 80 = .ok (.iload 8, 2) := by decide +kernel
theorem dX7_weighAll_82 : decode cX7_weighAll 82 = .ok (.iload 5, 2) := by decide +kernel
theorem dX7_weighAll_84 : decode cX7_weighAll 84 = .ok (.if_icmp .le 7, 3) := by decide +kernel
theorem dX7_weighAll_87 : decode cX7_weighAll 87 = .ok (.iload 8, 2) := by decide +kernel
theorem dX7_weighAll_89 : decode cX7_weighAll 89 = .ok (.istore 5, 2) := by decide +kernel
theorem dX7_weighAll_91 : decode cX7_weighAll 91 = .ok (.iinc 7 (-1), 3) := by decide +kernel
theorem dX7_weighAll_94 : decode cX7_weighAll 94 = .ok (.goto (-36), 3) := by decide +kernel
theorem dX7_weighAll_97 : decode cX7_weighAll 97 = .ok (.aload_n 0, 1) := by decide +kernel
theorem dX7_weighAll_98 : decode cX7_weighAll 98 = .ok (.getfield 32, 3) := by decide +kernel
theorem dX7_weighAll_101 : decode cX7_weighAll 101 = .ok (.iload 4, 2) := by decide +kernel
theorem dX7_weighAll_103 : decode cX7_weighAll 103 = .ok (.iload 5, 2) := by decide +kernel
theorem dX7_weighAll_105 : decode cX7_weighAll 105 = .ok (.iastore, 1) := by decide +kernel
theorem dX7_weighAll_106 : decode cX7_weighAll 106 = .ok (.iinc 4 1, 3) := by decide +kernel
theorem dX7_weighAll_109 : decode cX7_weighAll 109 = .ok (.goto (-87), 3) := by decide +kernel
theorem dX7_weighAll_112 : decode cX7_weighAll 112 = .ok (.return_, 1) := by decide +kernel
theorem dX7_settleAll_0 : decode cX7_settleAll 0 = .ok (.aload_n 0, 1) := by decide +kernel
theorem dX7_settleAll_1 : decode cX7_settleAll 1 = .ok (.getfield 46, 3) := by decide +kernel
theorem dX7_settleAll_4 : decode cX7_settleAll 4 = .ok (.iload_n 2, 1) := by decide +kernel
theorem dX7_settleAll_5 : decode cX7_settleAll 5 = .ok (.invokevirtual 69, 3) := by decide +kernel
theorem dX7_settleAll_8 : decode cX7_settleAll 8 = .ok (.istore 4, 2) := by decide +kernel
theorem dX7_settleAll_10 : decode cX7_settleAll 10 = .ok (.aload_n 0, 1) := by decide +kernel
theorem dX7_settleAll_11 : decode cX7_settleAll 11 = .ok (.iload_n 1, 1) := by decide +kernel
theorem dX7_settleAll_12 : decode cX7_settleAll 12 = .ok (.iload_n 2, 1) := by decide +kernel
theorem dX7_settleAll_13 : decode cX7_settleAll 13 = .ok (.iconst 0, 1) := by decide +kernel
theorem dX7_settleAll_14 : decode cX7_settleAll 14 = .ok (.invokevirtual 94, 3) := by decide +kernel
theorem dX7_settleAll_17 : decode cX7_settleAll 17 = .ok (.istore 5, 2) := by decide +kernel
theorem dX7_settleAll_19 : decode cX7_settleAll 19 = .ok (.iconst 0, 1) := by decide +kernel
theorem dX7_settleAll_20 : decode cX7_settleAll 20 = .ok (.istore 6, 2) := by decide +kernel
theorem dX7_settleAll_22 : decode cX7_settleAll 22 = .ok (.iconst 0, 1) := by decide +kernel
theorem dX7_settleAll_23 : decode cX7_settleAll 23 = .ok (.istore 7, 2) := by decide +kernel
theorem dX7_settleAll_25 : decode cX7_settleAll 25 = .ok (.iload 7, 2) := by decide +kernel
theorem dX7_settleAll_27 : decode cX7_settleAll 27 = .ok (.iload 4, 2) := by decide +kernel
theorem dX7_settleAll_29 : decode cX7_settleAll 29 = .ok (.if_icmp .ge 79, 3) := by decide +kernel
theorem dX7_settleAll_32 : decode cX7_settleAll 32 = .ok (.aload_n 0, 1) := by decide +kernel
theorem dX7_settleAll_33 : decode cX7_settleAll 33 = .ok (.getfield 32, 3) := by decide +kernel
theorem dX7_settleAll_36 : decode cX7_settleAll 36 = .ok (.iload_n 1, 1) := by decide +kernel
theorem dX7_settleAll_37 : decode cX7_settleAll 37 = .ok (.sipush 3003, 3) := by decide +kernel
theorem dX7_settleAll_40 : decode cX7_settleAll 40 = .ok (.imul, 1) := by decide +kernel
theorem dX7_settleAll_41 : decode cX7_settleAll 41 = .ok (.iload 7, 2) := by decide +kernel
theorem dX7_settleAll_43 : decode cX7_settleAll 43 = .ok (.iadd, 1) := by decide +kernel
theorem dX7_settleAll_44 : decode cX7_settleAll 44 = .ok (.iaload, 1) := by decide +kernel
theorem dX7_settleAll_45 : decode cX7_settleAll 45 = .ok (.istore 8, 2) := by decide +kernel
theorem dX7_settleAll_47 : decode cX7_settleAll 47 = .ok (.aload_n 0, 1) := by decide +kernel
theorem dX7_settleAll_48 : decode cX7_settleAll 48 = .ok (.getfield 15, 3) := by decide +kernel
theorem dX7_settleAll_51 : decode cX7_settleAll 51 = .ok (.iload 5, 2) := by decide +kernel
theorem dX7_settleAll_53 : decode cX7_settleAll 53 = .ok (.iload 7, 2) := by decide +kernel
theorem dX7_settleAll_55 : decode cX7_settleAll 55 = .ok (.iadd, 1) := by decide +kernel
theorem dX7_settleAll_56 : decode cX7_settleAll 56 = .ok (.iaload, 1) := by decide +kernel
theorem dX7_settleAll_57 : decode cX7_settleAll 57 = .ok (.iconst (-1), 1) := by decide +kernel
theorem dX7_settleAll_58 : decode cX7_settleAll 58 = .ok (.if_icmp .eq 44, 3) := by decide +kernel
theorem dX7_settleAll_61 : decode cX7_settleAll 61 = .ok (.aload_n 0, 1) := by decide +kernel
theorem dX7_settleAll_62 : decode cX7_settleAll 62 = .ok (.getfield 9, 3) := by decide +kernel
theorem dX7_settleAll_65 : decode cX7_settleAll 65 = .ok (.iload 5, 2) := by decide +kernel
theorem dX7_settleAll_67 : decode cX7_settleAll 67 = .ok (.iload 7, 2) := by decide +kernel
theorem dX7_settleAll_69 : decode cX7_settleAll 69 = .ok (.iadd, 1) := by decide +kernel
theorem dX7_settleAll_70 : decode cX7_settleAll 70 = .ok (.iaload, 1) := by decide +kernel
theorem dX7_settleAll_71 : decode cX7_settleAll 71 = .ok (.iload 8, 2) := by decide +kernel
theorem dX7_settleAll_73 : decode cX7_settleAll 73 = .ok (.if_icmp .eq 29, 3) := by decide +kernel
theorem dX7_settleAll_76 : decode cX7_settleAll 76 = .ok (.aload_n 0, 1) := by decide +kernel
theorem dX7_settleAll_77 : decode cX7_settleAll 77 = .ok (.getfield 9, 3) := by decide +kernel
theorem dX7_settleAll_80 : decode cX7_settleAll 80 = .ok (.iload 5, 2) := by decide +kernel
theorem dX7_settleAll_82 : decode cX7_settleAll 82 = .ok (.iload 7, 2) := by decide +kernel
theorem dX7_settleAll_84 : decode cX7_settleAll 84 = .ok (.iadd, 1) := by decide +kernel
theorem dX7_settleAll_85 : decode cX7_settleAll 85 = .ok (.iload 8, 2) := by decide +kernel
theorem dX7_settleAll_87 : decode cX7_settleAll 87 = .ok (.iastore, 1) := by decide +kernel
theorem dX7_settleAll_88 : decode cX7_settleAll 88 = .ok (.aload_n 0, 1) := by decide +kernel
theorem dX7_settleAll_89 : decode cX7_settleAll 89 = .ok (.getfield 15, 3) := by decide +kernel
theorem dX7_settleAll_92 : decode cX7_settleAll 92 = .ok (.iload 5, 2) := by decide +kernel
theorem dX7_settleAll_94 : decode cX7_settleAll 94 = .ok (.iload 7, 2) := by decide +kernel
theorem dX7_settleAll_96 : decode cX7_settleAll 96 = .ok (.iadd, 1) := by decide +kernel
theorem dX7_settleAll_97 : decode cX7_settleAll 97 = .ok (.iload_n 3, 1) := by decide +kernel
theorem dX7_settleAll_98 : decode cX7_settleAll 98 = .ok (.iastore, 1) := by decide +kernel
theorem dX7_settleAll_99 : decode cX7_settleAll 99 = .ok (.iconst 1, 1) := by decide +kernel
theorem dX7_settleAll_100 : decode cX7_settleAll 100 = .ok (.istore 6, 2) := by decide +kernel
theorem dX7_settleAll_102 : decode cX7_settleAll 102 = .ok (.iinc 7 1, 3) := by decide +kernel
theorem dX7_settleAll_105 : decode cX7_settleAll 105 = .ok (.goto (-80), 3) := by decide +kernel
theorem dX7_settleAll_108 : decode cX7_settleAll 108 = .ok (.iload 6, 2) := by decide +kernel
theorem dX7_settleAll_110 : decode cX7_settleAll 110 = .ok (.ireturn, 1) := by decide +kernel
theorem dX7_valueAt_0 : decode cX7_valueAt 0 = .ok (.aload_n 0, 1) := by decide +kernel
theorem dX7_valueAt_1 : decode cX7_valueAt 1 = .ok (.getfield 9, 3) := by decide +kernel
theorem dX7_valueAt_4 : decode cX7_valueAt 4 = .ok (.aload_n 0, 1) := by decide +kernel
theorem dX7_valueAt_5 : decode cX7_valueAt 5 = .ok (.aload_n 1, 1) := by decide +kernel
theorem dX7_valueAt_6 : decode cX7_valueAt 6 = .ok (.aload_n 1, 1) := by decide +kernel
theorem dX7_valueAt_7 : decode cX7_valueAt 7 = .ok (.invokevirtual 145, 3) := by decide +kernel
theorem dX7_valueAt_10 : decode cX7_valueAt 10 = .ok (.invokevirtual 137, 3) := by decide +kernel
theorem dX7_valueAt_13 : decode cX7_valueAt 13 = .ok (.iaload, 1) := by decide +kernel
theorem dX7_valueAt_14 : decode cX7_valueAt 14 = .ok (.ireturn, 1) := by decide +kernel
theorem dX7_rankAt_0 : decode cX7_rankAt 0 = .ok (.aload_n 0, 1) := by decide +kernel
theorem dX7_rankAt_1 : decode cX7_rankAt 1 = .ok (.aload_n 0, 1) := by decide +kernel
theorem dX7_rankAt_2 : decode cX7_rankAt 2 = .ok (.aload_n 1, 1) := by decide +kernel
theorem dX7_rankAt_3 : decode cX7_rankAt 3 = .ok (.aload_n 1, 1) := by decide +kernel
theorem dX7_rankAt_4 : decode cX7_rankAt 4 = .ok (.invokevirtual 145, 3) := by decide +kernel
theorem dX7_rankAt_7 : decode cX7_rankAt 7 = .ok (.invokevirtual 137, 3) := by decide +kernel
theorem dX7_rankAt_10 : decode cX7_rankAt 10 = .ok (.invokevirtual 148, 3) := by decide +kernel
theorem dX7_rankAt_13 : decode cX7_rankAt 13 = .ok (.ireturn, 1) := by decide +kernel
theorem dX7_rankOf_0 : decode cX7_rankOf 0 = .ok (.iconst 0, 1) := by decide +kernel
theorem dX7_rankOf_1 : decode cX7_rankOf 1 = .ok (.aload_n 0, 1) := by decide +kernel
theorem dX7_rankOf_2 : decode cX7_rankOf 2 = .ok (.getfield 15, 3) := by decide +kernel
theorem dX7_rankOf_5 : decode cX7_rankOf 5 = .ok (.iload_n 1, 1) := by decide +kernel
theorem dX7_rankOf_6 : decode cX7_rankOf 6 = .ok (.iaload, 1) := by decide +kernel
theorem dX7_rankOf_7 : decode cX7_rankOf 7 = .ok (.invokestatic 140, 3) := by decide +kernel
theorem dX7_rankOf_10 : decode cX7_rankOf 10 = .ok (.ireturn, 1) := by decide +kernel
theorem dX7_markOf_0 : decode cX7_markOf 0 = .ok (.aload_n 1, 1) := by decide +kernel
theorem dX7_markOf_1 : decode cX7_markOf 1 = .ok (.invokevirtual 145, 3) := by decide +kernel
theorem dX7_markOf_4 : decode cX7_markOf 4 = .ok (.istore_n 2, 1) := by decide +kernel
theorem dX7_markOf_5 : decode cX7_markOf 5 = .ok (.iconst 2, 1) := by decide +kernel
theorem dX7_markOf_6 : decode cX7_markOf 6 = .ok (.aload_n 0, 1) := by decide +kernel
theorem dX7_markOf_7 : decode cX7_markOf 7 = .ok (.getfield 46, 3) := by decide +kernel
theorem dX7_markOf_10 : decode cX7_markOf 10 = .ok (.iload_n 2, 1) := by decide +kernel
theorem dX7_markOf_11 : decode cX7_markOf 11 = .ok (.iconst 1, 1) := by decide +kernel
theorem dX7_markOf_12 : decode cX7_markOf 12 = .ok (.isub, 1) := by decide +kernel
theorem dX7_markOf_13 : decode cX7_markOf 13 = .ok (.invokevirtual 54, 3) := by decide +kernel
theorem dX7_markOf_16 : decode cX7_markOf 16 = .ok (.aload_n 0, 1) := by decide +kernel
theorem dX7_markOf_17 : decode cX7_markOf 17 = .ok (.getfield 46, 3) := by decide +kernel
theorem dX7_markOf_20 : decode cX7_markOf 20 = .ok (.aload_n 1, 1) := by decide +kernel
theorem dX7_markOf_21 : decode cX7_markOf 21 = .ok (.iload_n 2, 1) := by decide +kernel
theorem dX7_markOf_22 : decode cX7_markOf 22 = .ok (.invokevirtual 90, 3) := by decide +kernel
theorem dX7_markOf_25 : decode cX7_markOf 25 = .ok (.iadd, 1) := by decide +kernel
theorem dX7_markOf_26 : decode cX7_markOf 26 = .ok (.imul, 1) := by decide +kernel
theorem dX7_markOf_27 : decode cX7_markOf 27 = .ok (.aload_n 1, 1) := by decide +kernel
theorem dX7_markOf_28 : decode cX7_markOf 28 = .ok (.getfield 87, 3) := by decide +kernel
theorem dX7_markOf_31 : decode cX7_markOf 31 = .ok (.iadd, 1) := by decide +kernel
theorem dX7_markOf_32 : decode cX7_markOf 32 = .ok (.ireturn, 1) := by decide +kernel
theorem dX7_isOfKind_0 : decode cX7_isOfKind 0 = .ok (.iload_n 2, 1) := by decide +kernel
theorem dX7_isOfKind_1 : decode cX7_isOfKind 1 = .ok (.tableswitch 72 0 2 #[27, 42, 57], 27) := by decide +kernel
theorem dX7_isOfKind_28 : decode cX7_isOfKind 28 = .ok (.aload_n 0, 1) := by decide +kernel
theorem dX7_isOfKind_29 : decode cX7_isOfKind 29 = .ok (.getfield 9, 3) := by decide +kernel
theorem dX7_isOfKind_32 : decode cX7_isOfKind 32 = .ok (.iload_n 1, 1) := by decide +kernel
theorem dX7_isOfKind_33 : decode cX7_isOfKind 33 = .ok (.iaload, 1) := by decide +kernel
theorem dX7_isOfKind_34 : decode cX7_isOfKind 34 = .ok (.ifCond .le 7, 3) := by decide +kernel
theorem dX7_isOfKind_37 : decode cX7_isOfKind 37 = .ok (.iconst 1, 1) := by decide +kernel
theorem dX7_isOfKind_38 : decode cX7_isOfKind 38 = .ok (.goto 4, 3) := by decide +kernel
theorem dX7_isOfKind_41 : decode cX7_isOfKind 41 = .ok (.iconst 0, 1) := by decide +kernel
theorem dX7_isOfKind_42 : decode cX7_isOfKind 42 = .ok (.ireturn, 1) := by decide +kernel
theorem dX7_isOfKind_43 : decode cX7_isOfKind 43 = .ok (.aload_n 0, 1) := by decide +kernel
theorem dX7_isOfKind_44 : decode cX7_isOfKind 44 = .ok (.getfield 9, 3) := by decide +kernel
theorem dX7_isOfKind_47 : decode cX7_isOfKind 47 = .ok (.iload_n 1, 1) := by decide +kernel
theorem dX7_isOfKind_48 : decode cX7_isOfKind 48 = .ok (.iaload, 1) := by decide +kernel
theorem dX7_isOfKind_49 : decode cX7_isOfKind 49 = .ok (.ifCond .ne 7, 3) := by decide +kernel
theorem dX7_isOfKind_52 : decode cX7_isOfKind 52 = .ok (.iconst 1, 1) := by decide +kernel
theorem dX7_isOfKind_53 : decode cX7_isOfKind 53 = .ok (.goto 4, 3) := by decide +kernel
theorem dX7_isOfKind_56 : decode cX7_isOfKind 56 = .ok (.iconst 0, 1) := by decide +kernel
theorem dX7_isOfKind_57 : decode cX7_isOfKind 57 = .ok (.ireturn, 1) := by decide +kernel
theorem dX7_isOfKind_58 : decode cX7_isOfKind 58 = .ok (.aload_n 0, 1) := by decide +kernel
theorem dX7_isOfKind_59 : decode cX7_isOfKind 59 = .ok (.getfield 9, 3) := by decide +kernel
theorem dX7_isOfKind_62 : decode cX7_isOfKind 62 = .ok (.iload_n 1, 1) := by decide +kernel
theorem dX7_isOfKind_63 : decode cX7_isOfKind 63 = .ok (.iaload, 1) := by decide +kernel
theorem dX7_isOfKind_64 : decode cX7_isOfKind 64 = .ok (.ifCond .ge 7, 3) := by decide +kernel
theorem dX7_isOfKind_67 : decode cX7_isOfKind 67 = .ok (.iconst 1, 1) := by decide +kernel
theorem dX7_isOfKind_68 : decode cX7_isOfKind 68 = .ok (.goto 4, 3) := by decide +kernel
theorem dX7_isOfKind_71 : decode cX7_isOfKind 71 = .ok (.iconst 0, 1) := by decide +kernel
theorem dX7_isOfKind_72 : decode cX7_isOfKind 72 = .ok (.ireturn, 1) := by decide +kernel
theorem dX7_isOfKind_73 : decode cX7_isOfKind 73 = .ok (.aload_n 0, 1) := by decide +kernel
theorem dX7_isOfKind_74 : decode cX7_isOfKind 74 = .ok (.getfield 15, 3) := by decide +kernel
theorem dX7_isOfKind_77 : decode cX7_isOfKind 77 = .ok (.iload_n 1, 1) := by decide +kernel
theorem dX7_isOfKind_78 : decode cX7_isOfKind 78 = .ok (.iaload, 1) := by decide +kernel
theorem dX7_isOfKind_79 : decode cX7_isOfKind 79 = .ok (.iconst (-1), 1) := by decide +kernel
theorem dX7_isOfKind_80 : decode cX7_isOfKind 80 = .ok (.if_icmp .ne 7, 3) := by decide +kernel
theorem dX7_isOfKind_83 : decode cX7_isOfKind 83 = .ok (.iconst 1, 1) := by decide +kernel
theorem dX7_isOfKind_84 : decode cX7_isOfKind 84 = .ok (.goto 4, 3) := by decide +kernel
theorem dX7_isOfKind_87 : decode cX7_isOfKind 87 = .ok (.iconst 0, 1) := by decide +kernel
theorem dX7_isOfKind_88 : decode cX7_isOfKind 88 = .ok (.ireturn, 1) := by decide +kernel
theorem dX7_measure_0 : decode cX7_measure 0 = .ok (.iload_n 2, 1) := by decide +kernel
theorem dX7_measure_1 : decode cX7_measure 1 = .ok (.lookupswitch 42 #[(0, 27), (1, 34)], 27) := by decide +kernel
theorem dX7_measure_28 : decode cX7_measure 28 = .ok (.aload_n 0, 1) := by decide +kernel
theorem dX7_measure_29 : decode cX7_measure 29 = .ok (.getfield 9, 3) := by decide +kernel
theorem dX7_measure_32 : decode cX7_measure 32 = .ok (.iload_n 1, 1) := by decide +kernel
theorem dX7_measure_33 : decode cX7_measure 33 = .ok (.iaload, 1) := by decide +kernel
theorem dX7_measure_34 : decode cX7_measure 34 = .ok (.ireturn, 1) := by decide +kernel
theorem dX7_measure_35 : decode cX7_measure 35 = .ok (.aload_n 0, 1) := by decide +kernel
theorem dX7_measure_36 : decode cX7_measure 36 = .ok (.getfield 9, 3) := by decide +kernel
theorem dX7_measure_39 : decode cX7_measure 39 = .ok (.iload_n 1, 1) := by decide +kernel
theorem dX7_measure_40 : decode cX7_measure 40 = .ok (.iaload, 1) := by decide +kernel
theorem dX7_measure_41 : decode cX7_measure 41 = .ok (.ineg, 1) := by decide +kernel
theorem dX7_measure_42 : decode cX7_measure 42 = .ok (.ireturn, 1) := by decide +kernel
theorem dX7_measure_43 : decode cX7_measure 43 = .ok (.aload_n 0, 1) := by decide +kernel
theorem dX7_measure_44 : decode cX7_measure 44 = .ok (.iload_n 1, 1) := by decide +kernel
theorem dX7_measure_45 : decode cX7_measure 45 = .ok (.invokevirtual 148, 3) := by decide +kernel
theorem dX7_measure_48 : decode cX7_measure 48 = .ok (.ireturn, 1) := by decide +kernel
theorem dX7_worthOfTried_0 : decode cX7_worthOfTried 0 = .ok (.aload_n 0, 1) := by decide +kernel
theorem dX7_worthOfTried_1 : decode cX7_worthOfTried 1 = .ok (.getfield 50, 3) := by decide +kernel
theorem dX7_worthOfTried_4 : decode cX7_worthOfTried 4 = .ok (.getfield 133, 3) := by decide +kernel
theorem dX7_worthOfTried_7 : decode cX7_worthOfTried 7 = .ok (.iload_n 2, 1) := by decide +kernel
theorem dX7_worthOfTried_8 : decode cX7_worthOfTried 8 = .ok (.aaload, 1) := by decide +kernel
theorem dX7_worthOfTried_9 : decode cX7_worthOfTried 9 = .ok (.astore_n 3, 1) := by decide +kernel
theorem dX7_worthOfTried_10 : decode cX7_worthOfTried 10 = .ok (.aload_n 0, 1) := by decide +kernel
theorem dX7_worthOfTried_11 : decode cX7_worthOfTried 11 = .ok (.aload_n 3, 1) := by decide +kernel
theorem dX7_worthOfTried_12 : decode cX7_worthOfTried 12 = .ok (.aload_n 3, 1) := by decide +kernel
theorem dX7_worthOfTried_13 : decode cX7_worthOfTried 13 = .ok (.invokevirtual 145, 3) := by decide +kernel
theorem dX7_worthOfTried_16 : decode cX7_worthOfTried 16 = .ok (.invokevirtual 137, 3) := by decide +kernel
theorem dX7_worthOfTried_19 : decode cX7_worthOfTried 19 = .ok (.istore 4, 2) := by decide +kernel
theorem dX7_worthOfTried_21 : decode cX7_worthOfTried 21 = .ok (.aload_n 0, 1) := by decide +kernel
theorem dX7_worthOfTried_22 : decode cX7_worthOfTried 22 = .ok (.aload_n 0, 1) := by decide +kernel
theorem dX7_worthOfTried_23 : decode cX7_worthOfTried 23 = .ok (.getfield 50, 3) := by decide +kernel
theorem dX7_worthOfTried_26 : decode cX7_worthOfTried 26 = .ok (.getfield 130, 3) := by decide +kernel
theorem dX7_worthOfTried_29 : decode cX7_worthOfTried 29 = .ok (.iload_n 2, 1) := by decide +kernel
theorem dX7_worthOfTried_30 : decode cX7_worthOfTried 30 = .ok (.iaload, 1) := by decide +kernel
theorem dX7_worthOfTried_31 : decode cX7_worthOfTried 31 = .ok (.ifCond .le 7, 3) := by decide +kernel
theorem dX7_worthOfTried_34 : decode cX7_worthOfTried 34 = .ok (.iconst 0, 1) := by decide +kernel
theorem dX7_worthOfTried_35 : decode cX7_worthOfTried 35 = .ok (.goto 9, 3) := by decide +kernel
theorem dX7_worthOfTried_38 : decode cX7_worthOfTried 38 = .ok (.aload_n 0, 1) := by decide +kernel
theorem dX7_worthOfTried_39 : decode cX7_worthOfTried 39 = .ok (.iload 4, 2) := by decide +kernel
theorem dX7_worthOfTried_41 : decode cX7_worthOfTried 41 = .ok (.invokevirtual 148, 3) := by decide +kernel
theorem dX7_worthOfTried_44 : decode cX7_worthOfTried 44 = .ok (.putfield 151, 3) := by decide +kernel
theorem dX7_worthOfTried_47 : decode cX7_worthOfTried 47 = .ok (.aload_n 0, 1) := by decide +kernel
theorem dX7_worthOfTried_48 : decode cX7_worthOfTried 48 = .ok (.getfield 50, 3) := by decide +kernel
theorem dX7_worthOfTried_51 : decode cX7_worthOfTried 51 = .ok (.getfield 130, 3) := by decide +kernel
theorem dX7_worthOfTried_54 : decode cX7_worthOfTried 54 = .ok (.iload_n 2, 1) := by decide +kernel
theorem dX7_worthOfTried_55 : decode cX7_worthOfTried 55 = .ok (.iaload, 1) := by decide +kernel
theorem dX7_worthOfTried_56 : decode cX7_worthOfTried 56 = .ok (.aload_n 3, 1) := by decide +kernel
theorem dX7_worthOfTried_57 : decode cX7_worthOfTried 57 = .ok (.getfield 87, 3) := by decide +kernel
theorem dX7_worthOfTried_60 : decode cX7_worthOfTried 60 = .ok (.aload_n 1, 1) := by decide +kernel
theorem dX7_worthOfTried_61 : decode cX7_worthOfTried 61 = .ok (.getfield 87, 3) := by decide +kernel
theorem dX7_worthOfTried_64 : decode cX7_worthOfTried 64 = .ok (.if_icmp .ne 13, 3) := by decide +kernel
theorem dX7_worthOfTried_67 : decode cX7_worthOfTried 67 = .ok (.aload_n 0, 1) := by decide +kernel
theorem dX7_worthOfTried_68 : decode cX7_worthOfTried 68 = .ok (.getfield 9, 3) := by decide +kernel
theorem dX7_worthOfTried_71 : decode cX7_worthOfTried 71 = .ok (.iload 4, 2) := by decide +kernel
theorem dX7_worthOfTried_73 : decode cX7_worthOfTried 73 = .ok (.iaload, 1) := by decide +kernel
theorem dX7_worthOfTried_74 : decode cX7_worthOfTried 74 = .ok (.goto 11, 3) := by decide +kernel
theorem dX7_worthOfTried_77 : decode cX7_worthOfTried 77 = .ok (.aload_n 0, 1) := by decide +kernel
theorem dX7_worthOfTried_78 : decode cX7_worthOfTried 78 = .ok (.getfield 9, 3) := by decide +kernel
theorem dX7_worthOfTried_81 : decode cX7_worthOfTried 81 = .ok (.iload 4, 2) := by decide +kernel
theorem dX7_worthOfTried_83 : decode cX7_worthOfTried 83 = .ok (.iaload, 1) := by decide +kernel
theorem dX7_worthOfTried_84 : decode cX7_worthOfTried 84 = .ok (.ineg, 1) := by decide +kernel
theorem dX7_worthOfTried_85 : decode cX7_worthOfTried 85 = .ok (.iadd, 1) := by decide +kernel
theorem dX7_worthOfTried_86 : decode cX7_worthOfTried 86 = .ok (.ireturn, 1) := by decide +kernel
theorem dX7_worthBy_0 : decode cX7_worthBy 0 = .ok (.aload_n 0, 1) := by decide +kernel
theorem dX7_worthBy_1 : decode cX7_worthBy 1 = .ok (.getfield 50, 3) := by decide +kernel
theorem dX7_worthBy_4 : decode cX7_worthBy 4 = .ok (.aload_n 1, 1) := by decide +kernel
theorem dX7_worthBy_5 : decode cX7_worthBy 5 = .ok (.invokevirtual 110, 3) := by decide +kernel
theorem dX7_worthBy_8 : decode cX7_worthBy 8 = .ok (.iload_n 2, 1) := by decide +kernel
theorem dX7_worthBy_9 : decode cX7_worthBy 9 = .ok (.invokestatic 123, 3) := by decide +kernel
theorem dX7_worthBy_12 : decode cX7_worthBy 12 = .ok (.ifCond .eq 25, 3) := by decide +kernel
theorem dX7_worthBy_15 : decode cX7_worthBy 15 = .ok (.aload_n 0, 1) := by decide +kernel
theorem dX7_worthBy_16 : decode cX7_worthBy 16 = .ok (.aload_n 1, 1) := by decide +kernel
theorem dX7_worthBy_17 : decode cX7_worthBy 17 = .ok (.iload_n 2, 1) := by decide +kernel
theorem dX7_worthBy_18 : decode cX7_worthBy 18 = .ok (.aload_n 1, 1) := by decide +kernel
theorem dX7_worthBy_19 : decode cX7_worthBy 19 = .ok (.getfield 87, 3) := by decide +kernel
theorem dX7_worthBy_22 : decode cX7_worthBy 22 = .ok (.aload_n 0, 1) := by decide +kernel
theorem dX7_worthBy_23 : decode cX7_worthBy 23 = .ok (.getfield 42, 3) := by decide +kernel
theorem dX7_worthBy_26 : decode cX7_worthBy 26 = .ok (.getfield 116, 3) := by decide +kernel
theorem dX7_worthBy_29 : decode cX7_worthBy 29 = .ok (.imul, 1) := by decide +kernel
theorem dX7_worthBy_30 : decode cX7_worthBy 30 = .ok (.isub, 1) := by decide +kernel
theorem dX7_worthBy_31 : decode cX7_worthBy 31 = .ok (.invokevirtual 154, 3) := by decide +kernel
theorem dX7_worthBy_34 : decode cX7_worthBy 34 = .ok (.goto 6, 3) := by decide +kernel
theorem dX7_worthBy_37 : decode cX7_worthBy 37 = .ok (.sipush (-1000), 3) := by decide +kernel
theorem dX7_worthBy_40 : decode cX7_worthBy 40 = .ok (.ireturn, 1) := by decide +kernel
theorem dX7_bestAt_0 : decode cX7_bestAt 0 = .ok (.aload_n 0, 1) := by decide +kernel
theorem dX7_bestAt_1 : decode cX7_bestAt 1 = .ok (.aload_n 1, 1) := by decide +kernel
theorem dX7_bestAt_2 : decode cX7_bestAt 2 = .ok (.invokevirtual 157, 3) := by decide +kernel
theorem dX7_bestAt_5 : decode cX7_bestAt 5 = .ok (.istore_n 2, 1) := by decide +kernel
theorem dX7_bestAt_6 : decode cX7_bestAt 6 = .ok (.aload_n 1, 1) := by decide +kernel
theorem dX7_bestAt_7 : decode cX7_bestAt 7 = .ok (.getfield 87, 3) := by decide +kernel
theorem dX7_bestAt_10 : decode cX7_bestAt 10 = .ok (.aload_n 0, 1) := by decide +kernel
theorem dX7_bestAt_11 : decode cX7_bestAt 11 = .ok (.getfield 42, 3) := by decide +kernel
theorem dX7_bestAt_14 : decode cX7_bestAt 14 = .ok (.getfield 116, 3) := by decide +kernel
theorem dX7_bestAt_17 : decode cX7_bestAt 17 = .ok (.imul, 1) := by decide +kernel
theorem dX7_bestAt_18 : decode cX7_bestAt 18 = .ok (.istore_n 3, 1) := by decide +kernel
theorem dX7_bestAt_19 : decode cX7_bestAt 19 = .ok (.aload_n 0, 1) := by decide +kernel
theorem dX7_bestAt_20 : decode cX7_bestAt 20 = .ok (.getfield 50, 3) := by decide +kernel
theorem dX7_bestAt_23 : decode cX7_bestAt 23 = .ok (.aload_n 1, 1) := by decide +kernel
theorem dX7_bestAt_24 : decode cX7_bestAt 24 = .ok (.invokevirtual 110, 3) := by decide +kernel
theorem dX7_bestAt_27 : decode cX7_bestAt 27 = .ok (.iload_n 3, 1) := by decide +kernel
theorem dX7_bestAt_28 : decode cX7_bestAt 28 = .ok (.iushr, 1) := by decide +kernel
theorem dX7_bestAt_29 : decode cX7_bestAt 29 = .ok (.istore 4, 2) := by decide +kernel
theorem dX7_bestAt_31 : decode cX7_bestAt 31 = .ok (.iconst (-1), 1) := by decide +kernel
theorem dX7_bestAt_32 : decode cX7_bestAt 32 = .ok (.istore 5, 2) := by decide +kernel
theorem dX7_bestAt_34 : decode cX7_bestAt 34 = .ok (.iconst 0, 1) := by decide +kernel
theorem dX7_bestAt_35 : decode cX7_bestAt 35 = .ok (.istore 6, 2) := by decide +kernel
theorem dX7_bestAt_37 : decode cX7_bestAt 37 = .ok (.iconst 0, 1) := by decide +kernel
theorem dX7_bestAt_38 : decode cX7_bestAt 38 = .ok (.istore 7, 2) := by decide +kernel
theorem dX7_bestAt_40 : decode cX7_bestAt 40 = .ok (.iload 7, 2) := by decide +kernel
theorem dX7_bestAt_42 : decode cX7_bestAt 42 = .ok (.aload_n 0, 1) := by decide +kernel
theorem dX7_bestAt_43 : decode cX7_bestAt 43 = .ok (.getfield 42, 3) := by decide +kernel
theorem dX7_bestAt_46 : decode cX7_bestAt 46 = .ok (.getfield 116, 3) := by decide +kernel
theorem dX7_bestAt_49 : decode cX7_bestAt 49 = .ok (.if_icmp .ge 57, 3) := by decide +kernel
theorem dX7_bestAt_52 : decode cX7_bestAt 52 = .ok (.iload 4, 2) := by decide +kernel
theorem dX7_bestAt_54 : decode cX7_bestAt 54 = .ok (.iload 7, 2) := by decide +kernel
theorem dX7_bestAt_56 : decode cX7_bestAt 56 = .ok (.invokestatic 123, 3) := by decide +kernel
theorem dX7_bestAt_59 : decode cX7_bestAt 59 = .ok (.ifCond .eq 41, 3) := by decide +kernel
theorem dX7_bestAt_62 : decode cX7_bestAt 62 = .ok (.aload_n 0, 1) := by decide +kernel
theorem dX7_bestAt_63 : decode cX7_bestAt 63 = .ok (.aload_n 1, 1) := by decide +kernel
theorem dX7_bestAt_64 : decode cX7_bestAt 64 = .ok (.iload 7, 2) := by decide +kernel
theorem dX7_bestAt_66 : decode cX7_bestAt 66 = .ok (.invokevirtual 154, 3) := by decide +kernel
theorem dX7_bestAt_69 : decode cX7_bestAt 69 = .ok (.iload_n 2, 1) := by decide +kernel
theorem dX7_bestAt_70 : decode cX7_bestAt 70 = .ok (.if_icmp .ne 30, 3) := by decide +kernel
theorem dX7_bestAt_73 : decode cX7_bestAt 73 = .ok (.iload 5, 2) := by decide +kernel
theorem dX7_bestAt_75 : decode cX7_bestAt 75 = .ok (.iconst (-1), 1) := by decide +kernel
theorem dX7_bestAt_76 : decode cX7_bestAt 76 = .ok (.if_icmp .eq 12, 3) := by decide +kernel
theorem dX7_bestAt_79 : decode cX7_bestAt 79 = .ok (.aload_n 0, 1) := by decide +kernel
theorem dX7_bestAt_80 : decode cX7_bestAt 80 = .ok (.getfield 151, 3) := by decide +kernel
theorem dX7_bestAt_83 : decode cX7_bestAt 83 = .ok (.iload 6, 2) := by decide +kernel
theorem dX7_bestAt_85 : decode cX7_bestAt 85 = .ok (.if_icmp .ge 15, 3) := by decide +kernel
theorem dX7_bestAt_88 : decode cX7_bestAt 88 = .ok (.iload_n 3, 1) := by decide +kernel
theorem dX7_bestAt_89 : decode cX7_bestAt 89 = .ok (.iload 7, 2) := by decide +kernel
theorem dX7_bestAt_91 : decode cX7_bestAt 91 = .ok (.iadd, 1) := by decide +kernel
theorem dX7_bestAt_92 : decode cX7_bestAt 92 = .ok (.istore 5, 2) := by decide +kernel
theorem dX7_bestAt_94 : decode cX7_bestAt 94 = .ok (.aload_n 0, 1) := by decide +kernel
theorem dX7_bestAt_95 : decode cX7_bestAt 95 = .ok (.getfield 151, 3) := by decide +kernel
theorem dX7_bestAt_98 : decode cX7_bestAt 98 = .ok (.istore 6, 2) := by decide +kernel
theorem dX7_bestAt_100 : decode cX7_bestAt 100 = .ok (.iinc 7 1, 3) := by decide +kernel
theorem dX7_bestAt_103 : decode cX7_bestAt 103 = .ok (.goto (-63), 3) := by decide +kernel
theorem dX7_bestAt_106 : decode cX7_bestAt 106 = .ok (.iload 5, 2) := by decide +kernel
theorem dX7_bestAt_108 : decode cX7_bestAt 108 = .ok (.ireturn, 1) := by decide +kernel
theorem dX7_manyBest_0 : decode cX7_manyBest 0 = .ok (.aload_n 0, 1) := by decide +kernel
theorem dX7_manyBest_1 : decode cX7_manyBest 1 = .ok (.aload_n 1, 1) := by decide +kernel
theorem dX7_manyBest_2 : decode cX7_manyBest 2 = .ok (.invokevirtual 157, 3) := by decide +kernel
theorem dX7_manyBest_5 : decode cX7_manyBest 5 = .ok (.istore_n 2, 1) := by decide +kernel
theorem dX7_manyBest_6 : decode cX7_manyBest 6 = .ok (.aload_n 0, 1) := by decide +kernel
theorem dX7_manyBest_7 : decode cX7_manyBest 7 = .ok (.getfield 50, 3) := by decide +kernel
theorem dX7_manyBest_10 : decode cX7_manyBest 10 = .ok (.aload_n 1, 1) := by decide +kernel
theorem dX7_manyBest_11 : decode cX7_manyBest 11 = .ok (.invokevirtual 110, 3) := by decide +kernel
theorem dX7_manyBest_14 : decode cX7_manyBest 14 = .ok (.aload_n 1, 1) := by decide +kernel
theorem dX7_manyBest_15 : decode cX7_manyBest 15 = .ok (.getfield 87, 3) := by decide +kernel
theorem dX7_manyBest_18 : decode cX7_manyBest 18 = .ok (.aload_n 0, 1) := by decide +kernel
theorem dX7_manyBest_19 : decode cX7_manyBest 19 = .ok (.getfield 42, 3) := by decide +kernel
theorem dX7_manyBest_22 : decode cX7_manyBest 22 = .ok (.getfield 116, 3) := by decide +kernel
theorem dX7_manyBest_25 : decode cX7_manyBest 25 = .ok (.imul, 1) := by decide +kernel
theorem dX7_manyBest_26 : decode cX7_manyBest 26 = .ok (.iushr, 1) := by decide +kernel
theorem dX7_manyBest_27 : decode cX7_manyBest 27 = .ok (.istore_n 3, 1) := by decide +kernel
theorem dX7_manyBest_28 : decode cX7_manyBest 28 = .ok (.iconst 0, 1) := by decide +kernel
theorem dX7_manyBest_29 : decode cX7_manyBest 29 = .ok (.istore 4, 2) := by decide +kernel
theorem dX7_manyBest_31 : decode cX7_manyBest 31 = .ok (.iconst 0, 1) := by decide +kernel
theorem dX7_manyBest_32 : decode cX7_manyBest 32 = .ok (.istore 5, 2) := by decide +kernel
theorem dX7_manyBest_34 : decode cX7_manyBest 34 = .ok (.iload 5, 2) := by decide +kernel
theorem dX7_manyBest_36 : decode cX7_manyBest 36 = .ok (.aload_n 0, 1) := by decide +kernel
theorem dX7_manyBest_37 : decode cX7_manyBest 37 = .ok (.getfield 42, 3) := by decide +kernel
theorem dX7_manyBest_40 : decode cX7_manyBest 40 = .ok (.getfield 116, 3) := by decide +kernel
theorem dX7_manyBest_43 : decode cX7_manyBest 43 = .ok (.if_icmp .ge 32, 3) := by decide +kernel
theorem dX7_manyBest_46 : decode cX7_manyBest 46 = .ok (.iload_n 3, 1) := by decide +kernel
theorem dX7_manyBest_47 : decode cX7_manyBest 47 = .ok (.iload 5, 2) := by decide +kernel
theorem dX7_manyBest_49 : decode cX7_manyBest 49 = .ok (.invokestatic 123, 3) := by decide +kernel
theorem dX7_manyBest_52 : decode cX7_manyBest 52 = .ok (.ifCond .eq 17, 3) := by decide +kernel
theorem dX7_manyBest_55 : decode cX7_manyBest 55 = .ok (.aload_n 0, 1) := by decide +kernel
theorem dX7_manyBest_56 : decode cX7_manyBest 56 = .ok (.aload_n 1, 1) := by decide +kernel
theorem dX7_manyBest_57 : decode cX7_manyBest 57 = .ok (.iload 5, 2) := by decide +kernel
theorem dX7_manyBest_59 : decode cX7_manyBest 59 = .ok (.invokevirtual 154, 3) := by decide +kernel
theorem dX7_manyBest_62 : decode cX7_manyBest 62 = .ok (.iload_n 2, 1) := by decide +kernel
theorem dX7_manyBest_63 : decode cX7_manyBest 63 = .ok (.if_icmp .ne 6, 3) := by decide +kernel
theorem dX7_manyBest_66 : decode cX7_manyBest 66 = .ok (.iinc 4 1, 3) := by decide +kernel
theorem dX7_manyBest_69 : decode cX7_manyBest 69 = .ok (.iinc 5 1, 3) := by decide +kernel
theorem dX7_manyBest_72 : decode cX7_manyBest 72 = .ok (.goto (-38), 3) := by decide +kernel
theorem dX7_manyBest_75 : decode cX7_manyBest 75 = .ok (.iload 4, 2) := by decide +kernel
theorem dX7_manyBest_77 : decode cX7_manyBest 77 = .ok (.ireturn, 1) := by decide +kernel
theorem dX8_init_0 : decode cX8_init 0 = .ok (.aload_n 0, 1) := by decide +kernel
theorem dX8_init_1 : decode cX8_init 1 = .ok (.invokespecial 3, 3) := by decide +kernel
theorem dX8_init_4 : decode cX8_init 4 = .ok (.aload_n 0, 1) := by decide +kernel
theorem dX8_init_5 : decode cX8_init 5 = .ok (.bipush 6, 2) := by decide +kernel
theorem dX8_init_7 : decode cX8_init 7 = .ok (.anewarray 9, 3) := by decide +kernel
theorem dX8_init_10 : decode cX8_init 10 = .ok (.putfield 11, 3) := by decide +kernel
theorem dX8_init_13 : decode cX8_init 13 = .ok (.aload_n 0, 1) := by decide +kernel
theorem dX8_init_14 : decode cX8_init 14 = .ok (.bipush 6, 2) := by decide +kernel
theorem dX8_init_16 : decode cX8_init 16 = .ok (.newarray .int, 2) := by decide +kernel
theorem dX8_init_18 : decode cX8_init 18 = .ok (.putfield 17, 3) := by decide +kernel
theorem dX8_init_21 : decode cX8_init 21 = .ok (.aload_n 0, 1) := by decide +kernel
theorem dX8_init_22 : decode cX8_init 22 = .ok (.aload_n 1, 1) := by decide +kernel
theorem dX8_init_23 : decode cX8_init 23 = .ok (.putfield 21, 3) := by decide +kernel
theorem dX8_init_26 : decode cX8_init 26 = .ok (.aload_n 0, 1) := by decide +kernel
theorem dX8_init_27 : decode cX8_init 27 = .ok (.aload_n 2, 1) := by decide +kernel
theorem dX8_init_28 : decode cX8_init 28 = .ok (.putfield 25, 3) := by decide +kernel
theorem dX8_init_31 : decode cX8_init 31 = .ok (.iconst 0, 1) := by decide +kernel
theorem dX8_init_32 : decode cX8_init 32 = .ok (.istore_n 3, 1) := by decide +kernel
theorem dX8_init_33 : decode cX8_init 33 = .ok (.iload_n 3, 1) := by decide +kernel
theorem dX8_init_34 : decode cX8_init 34 = .ok (.bipush 6, 2) := by decide +kernel
theorem dX8_init_36 : decode cX8_init 36 = .ok (.if_icmp .ge 22, 3) := by decide +kernel
theorem dX8_init_39 : decode cX8_init 39 = .ok (.aload_n 0, 1) := by decide +kernel
theorem dX8_init_40 : decode cX8_init 40 = .ok (.getfield 11, 3) := by decide +kernel
theorem dX8_init_43 : decode cX8_init 43 = .ok (.iload_n 3, 1) := by decide +kernel
theorem dX8_init_44 : decode cX8_init 44 = .ok (.new 9, 3) := by decide +kernel
theorem dX8_init_47 : decode cX8_init 47 = .ok (.dup, 1) := by decide +kernel
theorem dX8_init_48 : decode cX8_init 48 = .ok (.invokespecial 29, 3) := by decide +kernel
theorem dX8_init_51 : decode cX8_init 51 = .ok (.aastore, 1) := by decide +kernel
theorem dX8_init_52 : decode cX8_init 52 = .ok (.iinc 3 1, 3) := by decide +kernel
theorem dX8_init_55 : decode cX8_init 55 = .ok (.goto (-22), 3) := by decide +kernel
theorem dX8_init_58 : decode cX8_init 58 = .ok (.return_, 1) := by decide +kernel
theorem dX8_isOwn_0 : decode cX8_isOwn 0 = .ok (.lload_n 2, 1) := by decide +kernel
theorem dX8_isOwn_1 : decode cX8_isOwn 1 = .ok (.aload_n 1, 1) := by decide +kernel
theorem dX8_isOwn_2 : decode cX8_isOwn 2 = .ok (.getfield 30, 3) := by decide +kernel
theorem dX8_isOwn_5 : decode cX8_isOwn 5 = .ok (.aload_n 0, 1) := by decide +kernel
theorem dX8_isOwn_6 : decode cX8_isOwn 6 = .ok (.getfield 21, 3) := by decide +kernel
theorem dX8_isOwn_9 : decode cX8_isOwn 9 = .ok (.getfield 34, 3) := by decide +kernel
theorem dX8_isOwn_12 : decode cX8_isOwn 12 = .ok (.imul, 1) := by decide +kernel
theorem dX8_isOwn_13 : decode cX8_isOwn 13 = .ok (.i2l, 1) := by decide +kernel
theorem dX8_isOwn_14 : decode cX8_isOwn 14 = .ok (.lsub, 1) := by decide +kernel
theorem dX8_isOwn_15 : decode cX8_isOwn 15 = .ok (.lstore 4, 2) := by decide +kernel
theorem dX8_isOwn_17 : decode cX8_isOwn 17 = .ok (.lload 4, 2) := by decide +kernel
theorem dX8_isOwn_19 : decode cX8_isOwn 19 = .ok (.lconst 0, 1) := by decide +kernel
theorem dX8_isOwn_20 : decode cX8_isOwn 20 = .ok (.lcmp, 1) := by decide +kernel
theorem dX8_isOwn_21 : decode cX8_isOwn 21 = .ok (.ifCond .lt 33, 3) := by decide +kernel
theorem dX8_isOwn_24 : decode cX8_isOwn 24 = .ok (.lload 4, 2) := by decide +kernel
theorem dX8_isOwn_26 : decode cX8_isOwn 26 = .ok (.aload_n 0, 1) := by decide +kernel
theorem dX8_isOwn_27 : decode cX8_isOwn 27 = .ok (.getfield 21, 3) := by decide +kernel
theorem dX8_isOwn_30 : decode cX8_isOwn 30 = .ok (.getfield 34, 3) := by decide +kernel
theorem dX8_isOwn_33 : decode cX8_isOwn 33 = .ok (.i2l, 1) := by decide +kernel
theorem dX8_isOwn_34 : decode cX8_isOwn 34 = .ok (.lcmp, 1) := by decide +kernel
theorem dX8_isOwn_35 : decode cX8_isOwn 35 = .ok (.ifCond .ge 19, 3) := by decide +kernel
theorem dX8_isOwn_38 : decode cX8_isOwn 38 = .ok (.aload_n 0, 1) := by decide +kernel
theorem dX8_isOwn_39 : decode cX8_isOwn 39 = .ok (.getfield 21, 3) := by decide +kernel
theorem dX8_isOwn_42 : decode cX8_isOwn 42 = .ok (.lload_n 2, 1) := by decide +kernel
theorem dX8_isOwn_43 : decode cX8_isOwn 43 = .ok (.l2i, 1) := by decide +kernel
theorem dX8_isOwn_44 : decode cX8_isOwn 44 = .ok (.invokevirtual 39, 3) := by decide +kernel
theorem dX8_isOwn_47 : decode cX8_isOwn 47 = .ok (.ifCond .ne 7, 3) := by decide +kernel
theorem dX8_isOwn_50 : decode cX8_isOwn 50 = .ok (.iconst 1, 1) := by decide +kernel
theorem dX8_isOwn_51 : decode cX8_isOwn 51 = .ok (.goto 4, 3) := by decide +kernel
theorem dX8_isOwn_54 : decode cX8_isOwn 54 = .ok (.iconst 0, 1) := by decide +kernel
theorem dX8_isOwn_55 : decode cX8_isOwn 55 = .ok (.ireturn, 1) := by decide +kernel
theorem dX8_sow_0 : decode cX8_sow 0 = .ok (.iload_n 2, 1) := by decide +kernel
theorem dX8_sow_1 : decode cX8_sow 1 = .ok (.istore_n 3, 1) := by decide +kernel
theorem dX8_sow_2 : decode cX8_sow 2 = .ok (.aload_n 1, 1) := by decide +kernel
theorem dX8_sow_3 : decode cX8_sow 3 = .ok (.getfield 43, 3) := by decide +kernel
theorem dX8_sow_6 : decode cX8_sow 6 = .ok (.bipush 12, 2) := by decide +kernel
theorem dX8_sow_8 : decode cX8_sow 8 = .ok (.aload_n 1, 1) := by decide +kernel
theorem dX8_sow_9 : decode cX8_sow 9 = .ok (.getfield 30, 3) := by decide +kernel
theorem dX8_sow_12 : decode cX8_sow 12 = .ok (.iadd, 1) := by decide +kernel
theorem dX8_sow_13 : decode cX8_sow 13 = .ok (.iaload, 1) := by decide +kernel
theorem dX8_sow_14 : decode cX8_sow 14 = .ok (.istore 4, 2) := by decide +kernel
theorem dX8_sow_16 : decode cX8_sow 16 = .ok (.iconst 0, 1) := by decide +kernel
theorem dX8_sow_17 : decode cX8_sow 17 = .ok (.istore 5, 2) := by decide +kernel
theorem dX8_sow_19 : decode cX8_sow 19 = .ok (.iload 5, 2) := by decide +kernel
theorem dX8_sow_21 : decode cX8_sow 21 = .ok (.aload_n 0, 1) := by decide +kernel
theorem dX8_sow_22 : decode cX8_sow 22 = .ok (.getfield 21, 3) := by decide +kernel
theorem dX8_sow_25 : decode cX8_sow 25 = .ok (.getfield 46, 3) := by decide +kernel
theorem dX8_sow_28 : decode cX8_sow 28 = .ok (.if_icmp .gt 195, 3) := by decide +kernel
theorem dX8_sow_31 : decode cX8_sow 31 = .ok (.aload_n 0, 1) := by decide +kernel
theorem dX8_sow_32 : decode cX8_sow 32 = .ok (.getfield 21, 3) := by decide +kernel
theorem dX8_sow_35 : decode cX8_sow 35 = .ok (.getfield 49, 3) := by decide +kernel
theorem dX8_sow_38 : decode cX8_sow 38 = .ok (.ifCond .eq 26, 3) := by decide +kernel
theorem dX8_sow_41 : decode cX8_sow 41 = .ok (.aload_n 0, 1) := by decide +kernel
theorem dX8_sow_42 : decode cX8_sow 42 = .ok (.getfield 25, 3) := by decide +kernel
theorem dX8_sow_45 : decode cX8_sow 45 = .ok (.getfield 53, 3) := by decide +kernel
theorem dX8_sow_48 : decode cX8_sow 48 = .ok (.aload_n 1, 1) := by decide +kernel
theorem dX8_sow_49 : decode cX8_sow 49 = .ok (.getfield 30, 3) := by decide +kernel
theorem dX8_sow_52 : decode cX8_sow 52 = .ok (.bipush 14, 2) := by decide +kernel
theorem dX8_sow_54 : decode cX8_sow 54 = .ok (.imul, 1) := by decide +kernel
theorem dX8_sow_55 : decode cX8_sow 55 = .ok (.iload_n 3, 1) := by decide +kernel
theorem dX8_sow_56 : decode cX8_sow 56 = .ok (.iadd, 1) := by decide +kernel
theorem dX8_sow_57 : decode cX8_sow 57 = .ok (.iaload, 1) := by decide +kernel
theorem dX8_sow_58 : decode cX8_sow 58 = .ok (.iload_n 3, 1) := by decide +kernel
theorem dX8_sow_59 : decode cX8_sow 59 = .ok (.if_icmp .ne 5, 3) := by decide +kernel
theorem dX8_sow_62 : decode cX8_sow 62 = .ok (.iconst 0, 1) := by decide +kernel
theorem dX8_sow_63 : decode cX8_sow 63 = .ok (.ireturn, 1) := by decide +kernel
theorem dX8_sow_64 : decode cX8_sow 64 = .ok (.aload_n 0, 1) := by decide +kernel
theorem dX8_sow_65 : decode cX8_sow 65 = .ok (.aload_n 0, 1) := by decide +kernel
theorem dX8_sow_66 : decode cX8_sow 66 = .ok (.aload_n 1, 1) := by decide +kernel
theorem dX8_sow_67 : decode cX8_sow 67 = .ok (.iload_n 3, 1) := by decide +kernel
theorem dX8_sow_68 : decode cX8_sow 68 = .ok (.invokevirtual 58, 3) := by decide +kernel
theorem dX8_sow_71 : decode cX8_sow 71 = .ok (.putfield 62, 3) := by decide +kernel
theorem dX8_sow_74 : decode cX8_sow 74 = .ok (.aload_n 0, 1) := by decide +kernel
theorem dX8_sow_75 : decode cX8_sow 75 = .ok (.getfield 21, 3) := by decide +kernel
theorem dX8_sow_78 : decode cX8_sow 78 = .ok (.getfield 46, 3) := by decide +kernel
theorem dX8_sow_81 : decode cX8_sow 81 = .ok (.ifCond .eq 25, 3) := by decide +kernel
theorem dX8_sow_84 : decode cX8_sow 84 = .ok (.aload_n 0, 1) := by decide +kernel
theorem dX8_sow_85 : decode cX8_sow 85 = .ok (.getfield 62, 3) := by decide +kernel
theorem dX8_sow_88 : decode cX8_sow 88 = .ok (.bipush 12, 2) := by decide +kernel
theorem dX8_sow_90 : decode cX8_sow 90 = .ok (.if_icmp .ge 16, 3) := by decide +kernel
theorem dX8_sow_93 : decode cX8_sow 93 = .ok (.aload_n 1, 1) := by decide +kernel
theorem dX8_sow_94 : decode cX8_sow 94 = .ok (.getfield 43, 3) := by decide +kernel
theorem dX8_sow_97 : decode cX8_sow 97 = .ok (.aload_n 0, 1) := by decide +kernel
theorem dX8_sow_98 : decode cX8_sow 98 = .ok (.getfield 62, 3) := by decide +kernel
theorem dX8_sow_101 : decode cX8_sow 101 = .ok (.iaload, 1) := by decide +kernel
theorem dX8_sow_102 : decode cX8_sow 102 = .ok (.iconst 1, 1) := by decide +kernel
theorem dX8_sow_103 : decode cX8_sow 103 = .ok (.if_icmp .ne 109, 3) := by decide +kernel
theorem dX8_sow_106 : decode cX8_sow 106 = .ok (.aload_n 0, 1) := by decide +kernel
theorem dX8_sow_107 : decode cX8_sow 107 = .ok (.iload 5, 2) := by decide +kernel
theorem dX8_sow_109 : decode cX8_sow 109 = .ok (.putfield 65, 3) := by decide +kernel
theorem dX8_sow_112 : decode cX8_sow 112 = .ok (.aload_n 0, 1) := by decide +kernel
theorem dX8_sow_113 : decode cX8_sow 113 = .ok (.aload_n 0, 1) := by decide +kernel
theorem dX8_sow_114 : decode cX8_sow 114 = .ok (.getfield 62, 3) := by decide +kernel
theorem dX8_sow_117 : decode cX8_sow 117 = .ok (.bipush 12, 2) := by decide +kernel
theorem dX8_sow_119 : decode cX8_sow 119 = .ok (.if_icmp .lt 7, 3) := by decide +kernel
theorem dX8_sow_122 : decode cX8_sow 122 = .ok (.iconst 0, 1) := by decide +kernel
theorem dX8_sow_123 : decode cX8_sow 123 = .ok (.goto 29, 3) := by decide +kernel
theorem dX8_sow_126 : decode cX8_sow 126 = .ok (.aload_n 0, 1) := by decide +kernel
theorem dX8_sow_127 : decode cX8_sow 127 = .ok (.aload_n 1, 1) := by decide +kernel
theorem dX8_sow_128 : decode cX8_sow 128 = .ok (.aload_n 0, 1) := by decide +kernel
theorem dX8_sow_129 : decode cX8_sow 129 = .ok (.getfield 62, 3) := by decide +kernel
theorem dX8_sow_132 : decode cX8_sow 132 = .ok (.i2l, 1) := by decide +kernel
theorem dX8_sow_133 : decode cX8_sow 133 = .ok (.invokevirtual 68, 3) := by decide +kernel
theorem dX8_sow_136 : decode cX8_sow 136 = .ok (.ifCond .eq 11, 3) := by decide +kernel
theorem dX8_sow_139 : decode cX8_sow 139 = .ok (.aload_n 0, 1) := by decide +kernel
theorem dX8_sow_140 : decode cX8_sow 140 = .ok (.aload_n 1, 1) := by decide +kernel
theorem dX8_sow_141 : decode cX8_sow 141 = .ok (.invokevirtual 72, 3) := by decide +kernel
theorem dX8_sow_144 : decode cX8_sow 144 = .ok (.goto 8, 3) := by decide +kernel
theorem dX8_sow_147 : decode cX8_sow 147 = .ok (.aload_n 0, 1) := by decide +kernel
theorem dX8_sow_148 : decode cX8_sow 148 = .ok (.aload_n 1, 1) := by decide +kernel
theorem dX8_sow_149 : decode cX8_sow 149 = .ok (.invokevirtual 76, 3) := by decide +kernel
theorem dX8_sow_152 : decode cX8_sow 152 = .ok (.putfield 79, 3) := by decide +kernel
theorem dX8_sow_155 : decode cX8_sow 155 = .ok (.aload_n 0, 1) := by decide +kernel
theorem dX8_sow_156 : decode cX8_sow 156 = .ok (.aload_n 1, 1) := by decide +kernel
theorem dX8_sow_157 : decode cX8_sow 157 = .ok (.getfield 43, 3) := by decide +kernel
theorem dX8_sow_160 : decode cX8_sow 160 = .ok (.bipush 12, 2) := by decide +kernel
theorem dX8_sow_162 : decode cX8_sow 162 = .ok (.aload_n 1, 1) := by decide +kernel
theorem dX8_sow_163 : decode cX8_sow 163 = .ok (.getfield 30, 3) := by decide +kernel
theorem dX8_sow_166 : decode cX8_sow 166 = .ok (.iadd, 1) := by decide +kernel
theorem dX8_sow_167 : decode cX8_sow 167 = .ok (.iaload, 1) := by decide +kernel
theorem dX8_sow_168 : decode cX8_sow 168 = .ok (.iload 4, 2) := by decide +kernel
theorem dX8_sow_170 : decode cX8_sow 170 = .ok (.isub, 1) := by decide +kernel
theorem dX8_sow_171 : decode cX8_sow 171 = .ok (.putfield 82, 3) := by decide +kernel
theorem dX8_sow_174 : decode cX8_sow 174 = .ok (.aload_n 1, 1) := by decide +kernel
theorem dX8_sow_175 : decode cX8_sow 175 = .ok (.aload_n 0, 1) := by decide +kernel
theorem dX8_sow_176 : decode cX8_sow 176 = .ok (.getfield 21, 3) := by decide +kernel
theorem dX8_sow_179 : decode cX8_sow 179 = .ok (.getfield 85, 3) := by decide +kernel
theorem dX8_sow_182 : decode cX8_sow 182 = .ok (.ifCond .eq 19, 3) := by decide +kernel
theorem dX8_sow_185 : decode cX8_sow 185 = .ok (.aload_n 0, 1) := by decide +kernel
theorem dX8_sow_186 : decode cX8_sow 186 = .ok (.getfield 62, 3) := by decide +kernel
theorem dX8_sow_189 : decode cX8_sow 189 = .ok (.bipush 12, 2) := by decide +kernel
theorem dX8_sow_191 : decode cX8_sow 191 = .ok (.if_icmp .lt 10, 3) := by decide +kernel
theorem dX8_sow_194 : decode cX8_sow 194 = .ok (.aload_n 1, 1) := by decide +kernel
theorem dX8_sow_195 : decode cX8_sow 195 = .ok (.getfield 30, 3) := by decide +kernel
theorem dX8_sow_198 : decode cX8_sow 198 = .ok (.goto 9, 3) := by decide +kernel
theorem dX8_sow_201 : decode cX8_sow 201 = .ok (.iconst 1, 1) := by decide +kernel
theorem dX8_sow_202 : decode cX8_sow 202 = .ok (.aload_n 1, 1) := by decide +kernel
theorem dX8_sow_203 : decode cX8_sow 203 = .ok (.getfield 30, 3) := by decide +kernel
theorem dX8_sow_206 : decode cX8_sow 206 = .ok (.isub, 1) := by decide +kernel
theorem dX8_sow_207 : decode cX8_sow 207 = .ok (.putfield 30, 3) := by decide +kernel
theorem dX8_sow_210 : decode cX8_sow 210 = .ok (.iconst 1, 1) := by decide +kernel
theorem dX8_sow_211 : decode cX8_sow 211 = .ok (.ireturn, 1) := by decide +kernel
theorem dX8_sow_212 : decode cX8_sow 212 = .ok (.aload_n 0, 1) := by decide +kernel
theorem dX8_sow_213 : decode cX8_sow 213 = .ok (.getfield 62, 3) := by decide +kernel
theorem dX8_sow_216 : decode cX8_sow 216 = .ok (.istore_n 3, 1) := by decide +kernel
theorem dX8_sow_217 : decode cX8_sow 217 = .ok (.iinc 5 1, 3) := by decide +kernel
theorem dX8_sow_220 : decode cX8_sow 220 = .ok (.goto (-201), 3) := by decide +kernel
theorem dX8_sow_223 : decode cX8_sow 223 = .ok (.iconst 0, 1) := by decide +kernel
theorem dX8_sow_224 : decode cX8_sow 224 = .ok (.ireturn, 1) := by decide +kernel
theorem dX8_scatter_0 : decode cX8_scatter 0 = .ok (.aload_n 1, 1) := by decide +kernel
theorem dX8_scatter_1 : decode cX8_scatter 1 = .ok (.getfield 43, 3) := by decide +kernel
theorem dX8_scatter_4 : decode cX8_scatter 4 = .ok (.astore_n 3, 1) := by decide +kernel
theorem dX8_scatter_5 : decode cX8_scatter 5 = .ok (.aload_n 0, 1) := by decide +kernel
theorem dX8_scatter_6 : decode cX8_scatter 6 = .ok (.getfield 25, 3) := by decide +kernel
theorem dX8_scatter_9 : decode cX8_scatter 9 = .ok (.getfield 53, 3) := by decide +kernel
theorem dX8_scatter_12 : decode cX8_scatter 12 = .ok (.astore 4, 2) := by decide +kernel
theorem dX8_scatter_14 : decode cX8_scatter 14 = .ok (.aload_n 1, 1) := by decide +kernel
theorem dX8_scatter_15 : decode cX8_scatter 15 = .ok (.getfield 30, 3) := by decide +kernel
theorem dX8_scatter_18 : decode cX8_scatter 18 = .ok (.bipush 14, 2) := by decide +kernel
theorem dX8_scatter_20 : decode cX8_scatter 20 = .ok (.imul, 1) := by decide +kernel
theorem dX8_scatter_21 : decode cX8_scatter 21 = .ok (.istore 5, 2) := by decide +kernel
theorem dX8_scatter_23 : decode cX8_scatter 23 = .ok (.iload_n 2, 1) := by decide +kernel
theorem dX8_scatter_24 : decode cX8_scatter 24 = .ok (.istore 6, 2) := by decide +kernel
theorem dX8_scatter_26 : decode cX8_scatter 26 = .ok (.aload_n 3, 1) := by decide +kernel
theorem dX8_scatter_27 : decode cX8_scatter 27 = .ok (.iload_n 2, 1) := by decide +kernel
theorem dX8_scatter_28 : decode cX8_scatter 28 = .ok (.iaload, 1) := by decide +kernel
theorem dX8_scatter_29 : decode cX8_scatter 29 = .ok (.istore 7, 2) := by decide +kernel
theorem dX8_scatter_31 : decode cX8_scatter 31 = .ok (.aload_n 3, 1) := by decide +kernel
theorem dX8_scatter_32 : decode cX8_scatter 32 = .ok (.iload_n 2, 1) := by decide +kernel
theorem dX8_scatter_33 : decode cX8_scatter 33 = .ok (.iconst 0, 1) := by decide +kernel
theorem dX8_scatter_34 : decode cX8_scatter 34 = .ok (.iastore, 1) := by decide +kernel
theorem dX8_scatter_35 : decode cX8_scatter 35 = .ok (.iload 7, 2) := by decide +kernel
theorem dX8_scatter_37 : decode cX8_scatter 37 = .ok (.ifCond .le 53, 3) := by decide +kernel
theorem dX8_scatter_40 : decode cX8_scatter 40 = .ok (.aload 4, 2) := by decide +kernel
theorem dX8_scatter_42 : decode cX8_scatter 42 = .ok (.iload 5, 2) := by decide +kernel
theorem dX8_scatter_44 : decode cX8_scatter 44 = .ok (.iload 6, 2) := by decide +kernel
theorem dX8_scatter_46 : decode cX8_scatter 46 = .ok (.iadd, 1) := by decide +kernel
theorem dX8_scatter_47 : decode cX8_scatter 47 = .ok (.iaload, 1) := by decide +kernel
theorem dX8_scatter_48 : decode cX8_scatter 48 = .ok (.istore 6, 2) := by decide +kernel
theorem dX8_scatter_50 : decode cX8_scatter 50 = .ok (.iload 6, 2) := by decide +kernel
theorem dX8_scatter_52 : decode cX8_scatter 52 = .ok (.iload_n 2, 1) := by decide +kernel
theorem dX8_scatter_53 : decode cX8_scatter 53 = .ok (.if_icmp .ne 23, 3) := by decide +kernel
theorem dX8_scatter_56 : decode cX8_scatter 56 = .ok (.aload_n 0, 1) := by decide +kernel
theorem dX8_scatter_57 : decode cX8_scatter 57 = .ok (.getfield 21, 3) := by decide +kernel
theorem dX8_scatter_60 : decode cX8_scatter 60 = .ok (.getfield 49, 3) := by decide +kernel
theorem dX8_scatter_63 : decode cX8_scatter 63 = .ok (.ifCond .eq 13, 3) := by decide +kernel
theorem dX8_scatter_66 : decode cX8_scatter 66 = .ok (.aload 4, 2) := by decide +kernel
theorem dX8_scatter_68 : decode cX8_scatter 68 = .ok (.iload 5, 2) := by decide +kernel
theorem dX8_scatter_70 : decode cX8_scatter 70 = .ok (.iload 6, 2) := by decide +kernel
theorem dX8_scatter_72 : decode cX8_scatter 72 = .ok (.iadd, 1) := by decide +kernel
theorem dX8_scatter_73 : decode cX8_scatter 73 = .ok (.iaload, 1) := by decide +kernel
theorem dX8_scatter_74 : decode cX8_scatter 74 = .ok (.istore 6, 2) := by decide +kernel
theorem dX8_scatter_76 : decode cX8_scatter 76 = .ok (.aload_n 3, 1) := by decide +kernel
theorem dX8_scatter_77 : decode cX8_scatter 77 = .ok (.iload 6, 2) := by decide +kernel
theorem dX8_scatter_79 : decode cX8_scatter 79 = .ok (.dup2, 1) := by decide +kernel
theorem dX8_scatter_80 : decode cX8_scatter 80 = .ok (.iaload, 1) := by decide +kernel
theorem dX8_scatter_81 : decode cX8_scatter 81 = .ok (.iconst 1, 1) := by decide +kernel
theorem dX8_scatter_82 : decode cX8_scatter 82 = .ok (.iadd, 1) := by decide +kernel
theorem dX8_scatter_83 : decode cX8_scatter 83 = .ok (.iastore, 1) := by decide +kernel
theorem dX8_scatter_84 : decode cX8_scatter 84 = .ok (.iinc 7 (-1), 3) := by decide +kernel
theorem dX8_scatter_87 : decode cX8_scatter 87 = .ok (.goto (-52), 3) := by decide +kernel
theorem dX8_scatter_90 : decode cX8_scatter 90 = .ok (.iload 6, 2) := by decide +kernel
theorem dX8_scatter_92 : decode cX8_scatter 92 = .ok (.ireturn, 1) := by decide +kernel
