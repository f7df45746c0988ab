theorem dX8_takeOpposite_0 : decode cX8_takeOpposite 0 = .ok (.iconst 2, 1) := by decide +kernel
theorem dX8_takeOpposite_1 : decode cX8_takeOpposite 1 = .ok (.aload_n 0, 1) := by decide +kernel
theorem dX8_takeOpposite_2 : decode cX8_takeOpposite 2 = .ok (.getfield 21, 3) := by decide +kernel
theorem dX8_takeOpposite_5 : decode cX8_takeOpposite 5 = .ok (.getfield 34, 3) := by decide +kernel
theorem dX8_takeOpposite_8 : decode cX8_takeOpposite 8 = .ok (.imul, 1) := by decide +kernel
theorem dX8_takeOpposite_9 : decode cX8_takeOpposite 9 = .ok (.iconst 1, 1) := by decide +kernel
theorem dX8_takeOpposite_10 : decode cX8_takeOpposite 10 = .ok (.isub, 1) := by decide +kernel
theorem dX8_takeOpposite_11 : decode cX8_takeOpposite 11 = .ok (.aload_n 0, 1) := by decide +kernel
theorem dX8_takeOpposite_12 : decode cX8_takeOpposite 12 = .ok (.getfield 62, 3) := by decide +kernel
theorem dX8_takeOpposite_15 : decode cX8_takeOpposite 15 = .ok (.isub, 1) := by decide +kernel
theorem dX8_takeOpposite_16 : decode cX8_takeOpposite 16 = .ok (.istore_n 2, 1) := by decide +kernel
theorem dX8_takeOpposite_17 : decode cX8_takeOpposite 17 = .ok (.aload_n 0, 1) := by decide +kernel
theorem dX8_takeOpposite_18 : decode cX8_takeOpposite 18 = .ok (.getfield 21, 3) := by decide +kernel
theorem dX8_takeOpposite_21 : decode cX8_takeOpposite 21 = .ok (.getfield 88, 3) := by decide +kernel
theorem dX8_takeOpposite_24 : decode cX8_takeOpposite 24 = .ok (.iconst 1, 1) := by decide +kernel
theorem dX8_takeOpposite_25 : decode cX8_takeOpposite 25 = .ok (.if_icmp .ne 25, 3) := by decide +kernel
theorem dX8_takeOpposite_28 : decode cX8_takeOpposite 28 = .ok (.aload_n 1, 1) := by decide +kernel
theorem dX8_takeOpposite_29 : decode cX8_takeOpposite 29 = .ok (.getfield 43, 3) := by decide +kernel
theorem dX8_takeOpposite_32 : decode cX8_takeOpposite 32 = .ok (.aload_n 0, 1) := by decide +kernel
theorem dX8_takeOpposite_33 : decode cX8_takeOpposite 33 = .ok (.getfield 62, 3) := by decide +kernel
theorem dX8_takeOpposite_36 : decode cX8_takeOpposite 36 = .ok (.iaload, 1) := by decide +kernel
theorem dX8_takeOpposite_37 : decode cX8_takeOpposite 37 = .ok (.iconst 1, 1) := by decide +kernel
theorem dX8_takeOpposite_38 : decode cX8_takeOpposite 38 = .ok (.if_icmp .ne 12, 3) := by decide +kernel
theorem dX8_takeOpposite_41 : decode cX8_takeOpposite 41 = .ok (.aload_n 1, 1) := by decide +kernel
theorem dX8_takeOpposite_42 : decode cX8_takeOpposite 42 = .ok (.getfield 43, 3) := by decide +kernel
theorem dX8_takeOpposite_45 : decode cX8_takeOpposite 45 = .ok (.iload_n 2, 1) := by decide +kernel
theorem dX8_takeOpposite_46 : decode cX8_takeOpposite 46 = .ok (.iaload, 1) := by decide +kernel
theorem dX8_takeOpposite_47 : decode cX8_takeOpposite 47 = .ok (.ifCond .ne 5, 3) := by decide +kernel
theorem dX8_takeOpposite_50 : decode cX8_takeOpposite 50 = .ok (.iconst 0, 1) := by decide +kernel
theorem dX8_takeOpposite_51 : decode cX8_takeOpposite 51 = .ok (.ireturn, 1) := by decide +kernel
theorem dX8_takeOpposite_52 : decode cX8_takeOpposite 52 = .ok (.aload_n 1, 1) := by decide +kernel
theorem dX8_takeOpposite_53 : decode cX8_takeOpposite 53 = .ok (.getfield 43, 3) := by decide +kernel
theorem dX8_takeOpposite_56 : decode cX8_takeOpposite 56 = .ok (.iload_n 2, 1) := by decide +kernel
theorem dX8_takeOpposite_57 : decode cX8_takeOpposite 57 = .ok (.iaload, 1) := by decide +kernel
theorem dX8_takeOpposite_58 : decode cX8_takeOpposite 58 = .ok (.iconst 1, 1) := by decide +kernel
theorem dX8_takeOpposite_59 : decode cX8_takeOpposite 59 = .ok (.iadd, 1) := by decide +kernel
theorem dX8_takeOpposite_60 : decode cX8_takeOpposite 60 = .ok (.istore_n 3, 1) := by decide +kernel
theorem dX8_takeOpposite_61 : decode cX8_takeOpposite 61 = .ok (.aload_n 1, 1) := by decide +kernel
theorem dX8_takeOpposite_62 : decode cX8_takeOpposite 62 = .ok (.getfield 43, 3) := by decide +kernel
theorem dX8_takeOpposite_65 : decode cX8_takeOpposite 65 = .ok (.iload_n 2, 1) := by decide +kernel
theorem dX8_takeOpposite_66 : decode cX8_takeOpposite 66 = .ok (.iconst 0, 1) := by decide +kernel
theorem dX8_takeOpposite_67 : decode cX8_takeOpposite 67 = .ok (.iastore, 1) := by decide +kernel
theorem dX8_takeOpposite_68 : decode cX8_takeOpposite 68 = .ok (.aload_n 1, 1) := by decide +kernel
theorem dX8_takeOpposite_69 : decode cX8_takeOpposite 69 = .ok (.getfield 43, 3) := by decide +kernel
theorem dX8_takeOpposite_72 : decode cX8_takeOpposite 72 = .ok (.aload_n 0, 1) := by decide +kernel
theorem dX8_takeOpposite_73 : decode cX8_takeOpposite 73 = .ok (.getfield 62, 3) := by decide +kernel
theorem dX8_takeOpposite_76 : decode cX8_takeOpposite 76 = .ok (.iconst 0, 1) := by decide +kernel
theorem dX8_takeOpposite_77 : decode cX8_takeOpposite 77 = .ok (.iastore, 1) := by decide +kernel
theorem dX8_takeOpposite_78 : decode cX8_takeOpposite 78 = .ok (.aload_n 1, 1) := by decide +kernel
theorem dX8_takeOpposite_79 : decode cX8_takeOpposite 79 = .ok (.getfield 43, 3) := by decide +kernel
theorem dX8_takeOpposite_82 : decode cX8_takeOpposite 82 = .ok (.bipush 12, 2) := by decide +kernel
theorem dX8_takeOpposite_84 : decode cX8_takeOpposite 84 = .ok (.aload_n 1, 1) := by decide +kernel
theorem dX8_takeOpposite_85 : decode cX8_takeOpposite 85 = .ok (.getfield 30, 3) := by decide +kernel
theorem dX8_takeOpposite_88 : decode cX8_takeOpposite 88 = .ok (.iadd, 1) := by decide +kernel
theorem dX8_takeOpposite_89 : decode cX8_takeOpposite 89 = .ok (.dup2, 1) := by decide +kernel
theorem dX8_takeOpposite_90 : decode cX8_takeOpposite 90 = .ok (.iaload, 1) := by decide +kernel
theorem dX8_takeOpposite_91 : decode cX8_takeOpposite 91 = .ok (.iload_n 3, 1) := by decide +kernel
theorem dX8_takeOpposite_92 : decode cX8_takeOpposite 92 = .ok (.iadd, 1) := by decide +kernel
theorem dX8_takeOpposite_93 : decode cX8_takeOpposite 93 = .ok (.iastore, 1) := by decide +kernel
theorem dX8_takeOpposite_94 : decode cX8_takeOpposite 94 = .ok (.iload_n 3, 1) := by decide +kernel
theorem dX8_takeOpposite_95 : decode cX8_takeOpposite 95 = .ok (.ireturn, 1) := by decide +kernel
theorem dX8_takeGrand_0 : decode cX8_takeGrand 0 = .ok (.aload_n 0, 1) := by decide +kernel
theorem dX8_takeGrand_1 : decode cX8_takeGrand 1 = .ok (.getfield 21, 3) := by decide +kernel
theorem dX8_takeGrand_4 : decode cX8_takeGrand 4 = .ok (.getfield 88, 3) := by decide +kernel
theorem dX8_takeGrand_7 : decode cX8_takeGrand 7 = .ok (.iconst 2, 1) := by decide +kernel
theorem dX8_takeGrand_8 : decode cX8_takeGrand 8 = .ok (.if_icmp .eq 16, 3) := by decide +kernel
theorem dX8_takeGrand_11 : decode cX8_takeGrand 11 = .ok (.aload_n 0, 1) := by decide +kernel
theorem dX8_takeGrand_12 : decode cX8_takeGrand 12 = .ok (.getfield 21, 3) := by decide +kernel
theorem dX8_takeGrand_15 : decode cX8_takeGrand 15 = .ok (.getfield 88, 3) := by decide +kernel
theorem dX8_takeGrand_18 : decode cX8_takeGrand 18 = .ok (.iconst 3, 1) := by decide +kernel
theorem dX8_takeGrand_19 : decode cX8_takeGrand 19 = .ok (.if_icmp .eq 5, 3) := by decide +kernel
theorem dX8_takeGrand_22 : decode cX8_takeGrand 22 = .ok (.iconst 0, 1) := by decide +kernel
theorem dX8_takeGrand_23 : decode cX8_takeGrand 23 = .ok (.ireturn, 1) := by decide +kernel
theorem dX8_takeGrand_24 : decode cX8_takeGrand 24 = .ok (.iconst 1, 1) := by decide +kernel
theorem dX8_takeGrand_25 : decode cX8_takeGrand 25 = .ok (.aload_n 1, 1) := by decide +kernel
theorem dX8_takeGrand_26 : decode cX8_takeGrand 26 = .ok (.getfield 30, 3) := by decide +kernel
theorem dX8_takeGrand_29 : decode cX8_takeGrand 29 = .ok (.isub, 1) := by decide +kernel
theorem dX8_takeGrand_30 : decode cX8_takeGrand 30 = .ok (.aload_n 0, 1) := by decide +kernel
theorem dX8_takeGrand_31 : decode cX8_takeGrand 31 = .ok (.getfield 21, 3) := by decide +kernel
theorem dX8_takeGrand_34 : decode cX8_takeGrand 34 = .ok (.getfield 34, 3) := by decide +kernel
theorem dX8_takeGrand_37 : decode cX8_takeGrand 37 = .ok (.imul, 1) := by decide +kernel
theorem dX8_takeGrand_38 : decode cX8_takeGrand 38 = .ok (.istore_n 2, 1) := by decide +kernel
theorem dX8_takeGrand_39 : decode cX8_takeGrand 39 = .ok (.iconst 0, 1) := by decide +kernel
theorem dX8_takeGrand_40 : decode cX8_takeGrand 40 = .ok (.istore_n 3, 1) := by decide +kernel
theorem dX8_takeGrand_41 : decode cX8_takeGrand 41 = .ok (.aload_n 0, 1) := by decide +kernel
theorem dX8_takeGrand_42 : decode cX8_takeGrand 42 = .ok (.getfield 62, 3) := by decide +kernel
theorem dX8_takeGrand_45 : decode cX8_takeGrand 45 = .ok (.istore 4, 2) := by decide +kernel
theorem dX8_takeGrand_47 : decode cX8_takeGrand 47 = .ok (.iload 4, 2) := by decide +kernel
theorem dX8_takeGrand_49 : decode cX8_takeGrand 49 = .ok (.iload_n 2, 1) := by decide +kernel
theorem dX8_takeGrand_50 : decode cX8_takeGrand 50 = .ok (.if_icmp .lt 53, 3) := by decide +kernel
theorem dX8_takeGrand_53 : decode cX8_takeGrand 53 = .ok (.aload_n 0, 1) := by decide +kernel
theorem dX8_takeGrand_54 : decode cX8_takeGrand 54 = .ok (.getfield 21, 3) := by decide +kernel
theorem dX8_takeGrand_57 : decode cX8_takeGrand 57 = .ok (.iload 4, 2) := by decide +kernel
theorem dX8_takeGrand_59 : decode cX8_takeGrand 59 = .ok (.invokevirtual 39, 3) := by decide +kernel
theorem dX8_takeGrand_62 : decode cX8_takeGrand 62 = .ok (.ifCond .ne 25, 3) := by decide +kernel
theorem dX8_takeGrand_65 : decode cX8_takeGrand 65 = .ok (.aload_n 1, 1) := by decide +kernel
theorem dX8_takeGrand_66 : decode cX8_takeGrand 66 = .ok (.getfield 43, 3) := by decide +kernel
theorem dX8_takeGrand_69 : decode cX8_takeGrand 69 = .ok (.iload 4, 2) := by decide +kernel
theorem dX8_takeGrand_71 : decode cX8_takeGrand 71 = .ok (.iaload, 1) := by decide +kernel
theorem dX8_takeGrand_72 : decode cX8_takeGrand 72 = .ok (.iconst 2, 1) := by decide +kernel
theorem dX8_takeGrand_73 : decode cX8_takeGrand 73 = .ok (.if_icmp .eq 14, 3) := by decide +kernel
theorem dX8_takeGrand_76 : decode cX8_takeGrand 76 = .ok (.aload_n 1, 1) := by decide +kernel
theorem dX8_takeGrand_77 : decode cX8_takeGrand 77 = .ok (.getfield 43, 3) := by decide +kernel
theorem dX8_takeGrand_80 : decode cX8_takeGrand 80 = .ok (.iload 4, 2) := by decide +kernel
theorem dX8_takeGrand_82 : decode cX8_takeGrand 82 = .ok (.iaload, 1) := by decide +kernel
theorem dX8_takeGrand_83 : decode cX8_takeGrand 83 = .ok (.iconst 3, 1) := by decide +kernel
theorem dX8_takeGrand_84 : decode cX8_takeGrand 84 = .ok (.if_icmp .ne 19, 3) := by decide +kernel
theorem dX8_takeGrand_87 : decode cX8_takeGrand 87 = .ok (.iload_n 3, 1) := by decide +kernel
theorem dX8_takeGrand_88 : decode cX8_takeGrand 88 = .ok (.aload_n 1, 1) := by decide +kernel
theorem dX8_takeGrand_89 : decode cX8_takeGrand 89 = .ok (.getfield 43, 3) := by decide +kernel
theorem dX8_takeGrand_92 : decode cX8_takeGrand 92 = .ok (.iload 4, 2) := by decide +kernel
theorem dX8_takeGrand_94 : decode cX8_takeGrand 94 = .ok (.iaload, 1) := by decide +kernel
theorem dX8_takeGrand_95 : decode cX8_takeGrand 95 = .ok (.iadd, 1) := by decide +kernel
theorem dX8_takeGrand_96 : decode cX8_takeGrand 96 = .ok (.istore_n 3, 1) := by decide +kernel
theorem dX8_takeGrand_97 : decode cX8_takeGrand 97 = .ok (.iinc 4 (-1), 3) := by decide +kernel
theorem dX8_takeGrand_100 : decode cX8_takeGrand 100 = .ok (.goto (-53), 3) := by decide +kernel
theorem dX8_takeGrand_103 : decode cX8_takeGrand 103 = .ok (.aload_n 0, 1) := by decide +kernel
theorem dX8_takeGrand_104 : decode cX8_takeGrand 104 = .ok (.getfield 21, 3) := by decide +kernel
theorem dX8_takeGrand_107 : decode cX8_takeGrand 107 = .ok (.getfield 88, 3) := by decide +kernel
theorem dX8_takeGrand_110 : decode cX8_takeGrand 110 = .ok (.iconst 3, 1) := by decide +kernel
theorem dX8_takeGrand_111 : decode cX8_takeGrand 111 = .ok (.if_icmp .ne 26, 3) := by decide +kernel
theorem dX8_takeGrand_114 : decode cX8_takeGrand 114 = .ok (.iload_n 3, 1) := by decide +kernel
theorem dX8_takeGrand_115 : decode cX8_takeGrand 115 = .ok (.aload_n 1, 1) := by decide +kernel
theorem dX8_takeGrand_116 : decode cX8_takeGrand 116 = .ok (.iconst 1, 1) := by decide +kernel
theorem dX8_takeGrand_117 : decode cX8_takeGrand 117 = .ok (.aload_n 1, 1) := by decide +kernel
theorem dX8_takeGrand_118 : decode cX8_takeGrand 118 = .ok (.getfield 30, 3) := by decide +kernel
theorem dX8_takeGrand_121 : decode cX8_takeGrand 121 = .ok (.isub, 1) := by decide +kernel
theorem dX8_takeGrand_122 : decode cX8_takeGrand 122 = .ok (.aload_n 0, 1) := by decide +kernel
theorem dX8_takeGrand_123 : decode cX8_takeGrand 123 = .ok (.getfield 21, 3) := by decide +kernel
theorem dX8_takeGrand_126 : decode cX8_takeGrand 126 = .ok (.getfield 34, 3) := by decide +kernel
theorem dX8_takeGrand_129 : decode cX8_takeGrand 129 = .ok (.invokevirtual 91, 3) := by decide +kernel
theorem dX8_takeGrand_132 : decode cX8_takeGrand 132 = .ok (.if_icmp .ne 5, 3) := by decide +kernel
theorem dX8_takeGrand_135 : decode cX8_takeGrand 135 = .ok (.iconst 0, 1) := by decide +kernel
theorem dX8_takeGrand_136 : decode cX8_takeGrand 136 = .ok (.ireturn, 1) := by decide +kernel
theorem dX8_takeGrand_137 : decode cX8_takeGrand 137 = .ok (.iload 4, 2) := by decide +kernel
theorem dX8_takeGrand_139 : decode cX8_takeGrand 139 = .ok (.iconst 1, 1) := by decide +kernel
theorem dX8_takeGrand_140 : decode cX8_takeGrand 140 = .ok (.iadd, 1) := by decide +kernel
theorem dX8_takeGrand_141 : decode cX8_takeGrand 141 = .ok (.istore 5, 2) := by decide +kernel
theorem dX8_takeGrand_143 : decode cX8_takeGrand 143 = .ok (.iload 5, 2) := by decide +kernel
theorem dX8_takeGrand_145 : decode cX8_takeGrand 145 = .ok (.aload_n 0, 1) := by decide +kernel
theorem dX8_takeGrand_146 : decode cX8_takeGrand 146 = .ok (.getfield 62, 3) := by decide +kernel
theorem dX8_takeGrand_149 : decode cX8_takeGrand 149 = .ok (.if_icmp .gt 17, 3) := by decide +kernel
theorem dX8_takeGrand_152 : decode cX8_takeGrand 152 = .ok (.aload_n 1, 1) := by decide +kernel
theorem dX8_takeGrand_153 : decode cX8_takeGrand 153 = .ok (.getfield 43, 3) := by decide +kernel
theorem dX8_takeGrand_156 : decode cX8_takeGrand 156 = .ok (.iload 5, 2) := by decide +kernel
theorem dX8_takeGrand_158 : decode cX8_takeGrand 158 = .ok (.iconst 0, 1) := by decide +kernel
theorem dX8_takeGrand_159 : decode cX8_takeGrand 159 = .ok (.iastore, 1) := by decide +kernel
theorem dX8_takeGrand_160 : decode cX8_takeGrand 160 = .ok (.iinc 5 1, 3) := by decide +kernel
theorem dX8_takeGrand_163 : decode cX8_takeGrand 163 = .ok (.goto (-20), 3) := by decide +kernel
theorem dX8_takeGrand_166 : decode cX8_takeGrand 166 = .ok (.aload_n 1, 1) := by decide +kernel
theorem dX8_takeGrand_167 : decode cX8_takeGrand 167 = .ok (.getfield 43, 3) := by decide +kernel
theorem dX8_takeGrand_170 : decode cX8_takeGrand 170 = .ok (.bipush 12, 2) := by decide +kernel
theorem dX8_takeGrand_172 : decode cX8_takeGrand 172 = .ok (.aload_n 1, 1) := by decide +kernel
theorem dX8_takeGrand_173 : decode cX8_takeGrand 173 = .ok (.getfield 30, 3) := by decide +kernel
theorem dX8_takeGrand_176 : decode cX8_takeGrand 176 = .ok (.iadd, 1) := by decide +kernel
theorem dX8_takeGrand_177 : decode cX8_takeGrand 177 = .ok (.dup2, 1) := by decide +kernel
theorem dX8_takeGrand_178 : decode cX8_takeGrand 178 = .ok (.iaload, 1) := by decide +kernel
theorem dX8_takeGrand_179 : decode cX8_takeGrand 179 = .ok (.iload_n 3, 1) := by decide +kernel
theorem dX8_takeGrand_180 : decode cX8_takeGrand 180 = .ok (.iadd, 1) := by decide +kernel
theorem dX8_takeGrand_181 : decode cX8_takeGrand 181 = .ok (.iastore, 1) := by decide +kernel
theorem dX8_takeGrand_182 : decode cX8_takeGrand 182 = .ok (.iload_n 3, 1) := by decide +kernel
theorem dX8_takeGrand_183 : decode cX8_takeGrand 183 = .ok (.ireturn, 1) := by decide +kernel
theorem dX8_choices_0 : decode cX8_choices 0 = .ok (.aload_n 0, 1) := by decide +kernel
theorem dX8_choices_1 : decode cX8_choices 1 = .ok (.getfield 21, 3) := by decide +kernel
theorem dX8_choices_4 : decode cX8_choices 4 = .ok (.getfield 95, 3) := by decide +kernel
theorem dX8_choices_7 : decode cX8_choices 7 = .ok (.ifCond .ne 13, 3) := by decide +kernel
theorem dX8_choices_10 : decode cX8_choices 10 = .ok (.aload_n 0, 1) := by decide +kernel
theorem dX8_choices_11 : decode cX8_choices 11 = .ok (.getfield 25, 3) := by decide +kernel
theorem dX8_choices_14 : decode cX8_choices 14 = .ok (.getfield 98, 3) := by decide +kernel
theorem dX8_choices_17 : decode cX8_choices 17 = .ok (.ifCond .eq 11, 3) := by decide +kernel
theorem dX8_choices_20 : decode cX8_choices 20 = .ok (.aload_n 0, 1) := by decide +kernel
theorem dX8_choices_21 : decode cX8_choices 21 = .ok (.aload_n 1, 1) := by decide +kernel
theorem dX8_choices_22 : decode cX8_choices 22 = .ok (.invokevirtual 101, 3) := by decide +kernel
theorem dX8_choices_25 : decode cX8_choices 25 = .ok (.goto 14, 3) := by decide +kernel
theorem dX8_choices_28 : decode cX8_choices 28 = .ok (.aload_n 1, 1) := by decide +kernel
theorem dX8_choices_29 : decode cX8_choices 29 = .ok (.aload_n 0, 1) := by decide +kernel
theorem dX8_choices_30 : decode cX8_choices 30 = .ok (.getfield 21, 3) := by decide +kernel
theorem dX8_choices_33 : decode cX8_choices 33 = .ok (.getfield 34, 3) := by decide +kernel
theorem dX8_choices_36 : decode cX8_choices 36 = .ok (.invokevirtual 104, 3) := by decide +kernel
theorem dX8_choices_39 : decode cX8_choices 39 = .ok (.ireturn, 1) := by decide +kernel
theorem dX8_tryAll_0 : decode cX8_tryAll 0 = .ok (.aload_n 1, 1) := by decide +kernel
theorem dX8_tryAll_1 : decode cX8_tryAll 1 = .ok (.getfield 30, 3) := by decide +kernel
theorem dX8_tryAll_4 : decode cX8_tryAll 4 = .ok (.aload_n 0, 1) := by decide +kernel
theorem dX8_tryAll_5 : decode cX8_tryAll 5 = .ok (.getfield 21, 3) := by decide +kernel
theorem dX8_tryAll_8 : decode cX8_tryAll 8 = .ok (.getfield 34, 3) := by decide +kernel
theorem dX8_tryAll_11 : decode cX8_tryAll 11 = .ok (.imul, 1) := by decide +kernel
theorem dX8_tryAll_12 : decode cX8_tryAll 12 = .ok (.istore_n 2, 1) := by decide +kernel
theorem dX8_tryAll_13 : decode cX8_tryAll 13 = .ok (.iconst 0, 1) := by decide +kernel
theorem dX8_tryAll_14 : decode cX8_tryAll 14 = .ok (.istore_n 3, 1) := by decide +kernel
theorem dX8_tryAll_15 : decode cX8_tryAll 15 = .ok (.iconst 0, 1) := by decide +kernel
theorem dX8_tryAll_16 : decode cX8_tryAll 16 = .ok (.istore 4, 2) := by decide +kernel
theorem dX8_tryAll_18 : decode cX8_tryAll 18 = .ok (.iconst 0, 1) := by decide +kernel
theorem dX8_tryAll_19 : decode cX8_tryAll 19 = .ok (.istore 5, 2) := by decide +kernel
theorem dX8_tryAll_21 : decode cX8_tryAll 21 = .ok (.iload 5, 2) := by decide +kernel
theorem dX8_tryAll_23 : decode cX8_tryAll 23 = .ok (.aload_n 0, 1) := by decide +kernel
theorem dX8_tryAll_24 : decode cX8_tryAll 24 = .ok (.getfield 21, 3) := by decide +kernel
theorem dX8_tryAll_27 : decode cX8_tryAll 27 = .ok (.getfield 34, 3) := by decide +kernel
theorem dX8_tryAll_30 : decode cX8_tryAll 30 = .ok (.if_icmp .ge 110, 3) := by decide +kernel
theorem dX8_tryAll_33 : decode cX8_tryAll 33 = .ok (.aload_n 1, 1) := by decide +kernel
theorem dX8_tryAll_34 : decode cX8_tryAll 34 = .ok (.getfield 43, 3) := by decide +kernel
theorem dX8_tryAll_37 : decode cX8_tryAll 37 = .ok (.iload_n 2, 1) := by decide +kernel
theorem dX8_tryAll_38 : decode cX8_tryAll 38 = .ok (.iload 5, 2) := by decide +kernel
theorem dX8_tryAll_40 : decode cX8_tryAll 40 = .ok (.iadd, 1) := by decide +kernel
theorem dX8_tryAll_41 : decode cX8_tryAll 41 = .ok (.iaload, 1) := by decide +kernel
theorem dX8_tryAll_42 : decode cX8_tryAll 42 = .ok (.ifCond .ne 6, 3) := by decide +kernel
theorem dX8_tryAll_45 : decode cX8_tryAll 45 = .ok (.goto 89, 3) := by decide +kernel
theorem dX8_tryAll_48 : decode cX8_tryAll 48 = .ok (.aload_n 0, 1) := by decide +kernel
theorem dX8_tryAll_49 : decode cX8_tryAll 49 = .ok (.getfield 11, 3) := by decide +kernel
theorem dX8_tryAll_52 : decode cX8_tryAll 52 = .ok (.iload 5, 2) := by decide +kernel
theorem dX8_tryAll_54 : decode cX8_tryAll 54 = .ok (.aaload, 1) := by decide +kernel
theorem dX8_tryAll_55 : decode cX8_tryAll 55 = .ok (.aload_n 1, 1) := by decide +kernel
theorem dX8_tryAll_56 : decode cX8_tryAll 56 = .ok (.invokevirtual 108, 3) := by decide +kernel
theorem dX8_tryAll_59 : decode cX8_tryAll 59 = .ok (.aload_n 0, 1) := by decide +kernel
theorem dX8_tryAll_60 : decode cX8_tryAll 60 = .ok (.aload_n 0, 1) := by decide +kernel
theorem dX8_tryAll_61 : decode cX8_tryAll 61 = .ok (.getfield 11, 3) := by decide +kernel
theorem dX8_tryAll_64 : decode cX8_tryAll 64 = .ok (.iload 5, 2) := by decide +kernel
theorem dX8_tryAll_66 : decode cX8_tryAll 66 = .ok (.aaload, 1) := by decide +kernel
theorem dX8_tryAll_67 : decode cX8_tryAll 67 = .ok (.iload_n 2, 1) := by decide +kernel
theorem dX8_tryAll_68 : decode cX8_tryAll 68 = .ok (.iload 5, 2) := by decide +kernel
theorem dX8_tryAll_70 : decode cX8_tryAll 70 = .ok (.iadd, 1) := by decide +kernel
theorem dX8_tryAll_71 : decode cX8_tryAll 71 = .ok (.invokevirtual 112, 3) := by decide +kernel
theorem dX8_tryAll_74 : decode cX8_tryAll 74 = .ok (.ifCond .eq 60, 3) := by decide +kernel
theorem dX8_tryAll_77 : decode cX8_tryAll 77 = .ok (.aload_n 0, 1) := by decide +kernel
theorem dX8_tryAll_78 : decode cX8_tryAll 78 = .ok (.getfield 17, 3) := by decide +kernel
theorem dX8_tryAll_81 : decode cX8_tryAll 81 = .ok (.iload 5, 2) := by decide +kernel
theorem dX8_tryAll_83 : decode cX8_tryAll 83 = .ok (.aload_n 0, 1) := by decide +kernel
theorem dX8_tryAll_84 : decode cX8_tryAll 84 = .ok (.getfield 82, 3) := by decide +kernel
theorem dX8_tryAll_87 : decode cX8_tryAll 87 = .ok (.iastore, 1) := by decide +kernel
theorem dX8_tryAll_88 : decode cX8_tryAll 88 = .ok (.iload_n 3, 1) := by decide +kernel
theorem dX8_tryAll_89 : decode cX8_tryAll 89 = .ok (.iconst 1, 1) := by decide +kernel
theorem dX8_tryAll_90 : decode cX8_tryAll 90 = .ok (.iload_n 2, 1) := by decide +kernel
theorem dX8_tryAll_91 : decode cX8_tryAll 91 = .ok (.iload 5, 2) := by decide +kernel
theorem dX8_tryAll_93 : decode cX8_tryAll 93 = .ok (.iadd, 1) := by decide +kernel
theorem dX8_tryAll_94 : decode cX8_tryAll 94 = .ok (.ishl, 1) := by decide +kernel
theorem dX8_tryAll_95 : decode cX8_tryAll 95 = .ok (.ior, 1) := by decide +kernel
theorem dX8_tryAll_96 : decode cX8_tryAll 96 = .ok (.istore_n 3, 1) := by decide +kernel
theorem dX8_tryAll_97 : decode cX8_tryAll 97 = .ok (.aload_n 0, 1) := by decide +kernel
theorem dX8_tryAll_98 : decode cX8_tryAll 98 = .ok (.getfield 11, 3) := by decide +kernel
theorem dX8_tryAll_101 : decode cX8_tryAll 101 = .ok (.iload 5, 2) := by decide +kernel
theorem dX8_tryAll_103 : decode cX8_tryAll 103 = .ok (.aaload, 1) := by decide +kernel
theorem dX8_tryAll_104 : decode cX8_tryAll 104 = .ok (.iconst 1, 1) := by decide +kernel
theorem dX8_tryAll_105 : decode cX8_tryAll 105 = .ok (.aload_n 1, 1) := by decide +kernel
theorem dX8_tryAll_106 : decode cX8_tryAll 106 = .ok (.getfield 30, 3) := by decide +kernel
theorem dX8_tryAll_109 : decode cX8_tryAll 109 = .ok (.isub, 1) := by decide +kernel
theorem dX8_tryAll_110 : decode cX8_tryAll 110 = .ok (.aload_n 0, 1) := by decide +kernel
theorem dX8_tryAll_111 : decode cX8_tryAll 111 = .ok (.getfield 21, 3) := by decide +kernel
theorem dX8_tryAll_114 : decode cX8_tryAll 114 = .ok (.getfield 34, 3) := by decide +kernel
theorem dX8_tryAll_117 : decode cX8_tryAll 117 = .ok (.invokevirtual 91, 3) := by decide +kernel
theorem dX8_tryAll_120 : decode cX8_tryAll 120 = .ok (.ifCond .le 14, 3) := by decide +kernel
theorem dX8_tryAll_123 : decode cX8_tryAll 123 = .ok (.iload 4, 2) := by decide +kernel
theorem dX8_tryAll_125 : decode cX8_tryAll 125 = .ok (.iconst 1, 1) := by decide +kernel
theorem dX8_tryAll_126 : decode cX8_tryAll 126 = .ok (.iload_n 2, 1) := by decide +kernel
theorem dX8_tryAll_127 : decode cX8_tryAll 127 = .ok (.iload 5, 2) := by decide +kernel
theorem dX8_tryAll_129 : decode cX8_tryAll 129 = .ok (.iadd, 1) := by decide +kernel
theorem dX8_tryAll_130 : decode cX8_tryAll 130 = .ok (.ishl, 1) := by decide +kernel
theorem dX8_tryAll_131 : decode cX8_tryAll 131 = .ok (.ior, 1) := by decide +kernel
theorem dX8_tryAll_132 : decode cX8_tryAll 132 = .ok (.istore 4, 2) := by decide +kernel
theorem dX8_tryAll_134 : decode cX8_tryAll 134 = .ok (.iinc 5 1, 3) := by decide +kernel
theorem dX8_tryAll_137 : decode cX8_tryAll 137 = .ok (.goto (-116), 3) := by decide +kernel
theorem dX8_tryAll_140 : decode cX8_tryAll 140 = .ok (.aload_n 0, 1) := by decide +kernel
theorem dX8_tryAll_141 : decode cX8_tryAll 141 = .ok (.getfield 21, 3) := by decide +kernel
theorem dX8_tryAll_144 : decode cX8_tryAll 144 = .ok (.getfield 95, 3) := by decide +kernel
theorem dX8_tryAll_147 : decode cX8_tryAll 147 = .ok (.ifCond .eq 13, 3) := by decide +kernel
theorem dX8_tryAll_150 : decode cX8_tryAll 150 = .ok (.iload 4, 2) := by decide +kernel
theorem dX8_tryAll_152 : decode cX8_tryAll 152 = .ok (.ifCond .eq 8, 3) := by decide +kernel
theorem dX8_tryAll_155 : decode cX8_tryAll 155 = .ok (.iload 4, 2) := by decide +kernel
theorem dX8_tryAll_157 : decode cX8_tryAll 157 = .ok (.goto 4, 3) := by decide +kernel
theorem dX8_tryAll_160 : decode cX8_tryAll 160 = .ok (.iload_n 3, 1) := by decide +kernel
theorem dX8_tryAll_161 : decode cX8_tryAll 161 = .ok (.ireturn, 1) := by decide +kernel
theorem dX8_isLong_0 : decode cX8_isLong 0 = .ok (.aload_n 0, 1) := by decide +kernel
theorem dX8_isLong_1 : decode cX8_isLong 1 = .ok (.getfield 11, 3) := by decide +kernel
theorem dX8_isLong_4 : decode cX8_isLong 4 = .ok (.iload_n 2, 1) := by decide +kernel
theorem dX8_isLong_5 : decode cX8_isLong 5 = .ok (.aaload, 1) := by decide +kernel
theorem dX8_isLong_6 : decode cX8_isLong 6 = .ok (.aload_n 1, 1) := by decide +kernel
theorem dX8_isLong_7 : decode cX8_isLong 7 = .ok (.invokevirtual 108, 3) := by decide +kernel
theorem dX8_isLong_10 : decode cX8_isLong 10 = .ok (.aload_n 0, 1) := by decide +kernel
theorem dX8_isLong_11 : decode cX8_isLong 11 = .ok (.aload_n 0, 1) := by decide +kernel
theorem dX8_isLong_12 : decode cX8_isLong 12 = .ok (.getfield 11, 3) := by decide +kernel
theorem dX8_isLong_15 : decode cX8_isLong 15 = .ok (.iload_n 2, 1) := by decide +kernel
theorem dX8_isLong_16 : decode cX8_isLong 16 = .ok (.aaload, 1) := by decide +kernel
theorem dX8_isLong_17 : decode cX8_isLong 17 = .ok (.aload_n 1, 1) := by decide +kernel
theorem dX8_isLong_18 : decode cX8_isLong 18 = .ok (.getfield 30, 3) := by decide +kernel
theorem dX8_isLong_21 : decode cX8_isLong 21 = .ok (.aload_n 0, 1) := by decide +kernel
theorem dX8_isLong_22 : decode cX8_isLong 22 = .ok (.getfield 21, 3) := by decide +kernel
theorem dX8_isLong_25 : decode cX8_isLong 25 = .ok (.getfield 34, 3) := by decide +kernel
theorem dX8_isLong_28 : decode cX8_isLong 28 = .ok (.imul, 1) := by decide +kernel
theorem dX8_isLong_29 : decode cX8_isLong 29 = .ok (.iload_n 2, 1) := by decide +kernel
theorem dX8_isLong_30 : decode cX8_isLong 30 = .ok (.iadd, 1) := by decide +kernel
theorem dX8_isLong_31 : decode cX8_isLong 31 = .ok (.invokevirtual 112, 3) := by decide +kernel
theorem dX8_isLong_34 : decode cX8_isLong 34 = .ok (.ifCond .ne 7, 3) := by decide +kernel
theorem dX8_isLong_37 : decode cX8_isLong 37 = .ok (.iconst 1, 1) := by decide +kernel
theorem dX8_isLong_38 : decode cX8_isLong 38 = .ok (.goto 4, 3) := by decide +kernel
theorem dX8_isLong_41 : decode cX8_isLong 41 = .ok (.iconst 0, 1) := by decide +kernel
theorem dX8_isLong_42 : decode cX8_isLong 42 = .ok (.ireturn, 1) := by decide +kernel
theorem dX8_isOver_0 : decode cX8_isOver 0 = .ok (.aload_n 1, 1) := by decide +kernel
theorem dX8_isOver_1 : decode cX8_isOver 1 = .ok (.getfield 30, 3) := by decide +kernel
theorem dX8_isOver_4 : decode cX8_isOver 4 = .ok (.aload_n 0, 1) := by decide +kernel
theorem dX8_isOver_5 : decode cX8_isOver 5 = .ok (.getfield 21, 3) := by decide +kernel
theorem dX8_isOver_8 : decode cX8_isOver 8 = .ok (.getfield 34, 3) := by decide +kernel
theorem dX8_isOver_11 : decode cX8_isOver 11 = .ok (.imul, 1) := by decide +kernel
theorem dX8_isOver_12 : decode cX8_isOver 12 = .ok (.istore_n 2, 1) := by decide +kernel
theorem dX8_isOver_13 : decode cX8_isOver 13 = .ok (.iconst 0, 1) := by decide +kernel
theorem dX8_isOver_14 : decode cX8_isOver 14 = .ok (.istore_n 3, 1) := by decide +kernel
theorem dX8_isOver_15 : decode cX8_isOver 15 = .ok (.iload_n 3, 1) := by decide +kernel
theorem dX8_isOver_16 : decode cX8_isOver 16 = .ok (.aload_n 0, 1) := by decide +kernel
theorem dX8_isOver_17 : decode cX8_isOver 17 = .ok (.getfield 21, 3) := by decide +kernel
theorem dX8_isOver_20 : decode cX8_isOver 20 = .ok (.getfield 34, 3) := by decide +kernel
theorem dX8_isOver_23 : decode cX8_isOver 23 = .ok (.if_icmp .ge 41, 3) := by decide +kernel
theorem dX8_isOver_26 : decode cX8_isOver 26 = .ok (.aload_n 1, 1) := by decide +kernel
theorem dX8_isOver_27 : decode cX8_isOver 27 = .ok (.getfield 43, 3) := by decide +kernel
theorem dX8_isOver_30 : decode cX8_isOver 30 = .ok (.iload_n 2, 1) := by decide +kernel
theorem dX8_isOver_31 : decode cX8_isOver 31 = .ok (.iload_n 3, 1) := by decide +kernel
theorem dX8_isOver_32 : decode cX8_isOver 32 = .ok (.iadd, 1) := by decide +kernel
theorem dX8_isOver_33 : decode cX8_isOver 33 = .ok (.iaload, 1) := by decide +kernel
theorem dX8_isOver_34 : decode cX8_isOver 34 = .ok (.ifCond .le 24, 3) := by decide +kernel
theorem dX8_isOver_37 : decode cX8_isOver 37 = .ok (.aload_n 0, 1) := by decide +kernel
theorem dX8_isOver_38 : decode cX8_isOver 38 = .ok (.getfield 25, 3) := by decide +kernel
theorem dX8_isOver_41 : decode cX8_isOver 41 = .ok (.getfield 98, 3) := by decide +kernel
theorem dX8_isOver_44 : decode cX8_isOver 44 = .ok (.ifCond .eq 12, 3) := by decide +kernel
theorem dX8_isOver_47 : decode cX8_isOver 47 = .ok (.aload_n 0, 1) := by decide +kernel
theorem dX8_isOver_48 : decode cX8_isOver 48 = .ok (.aload_n 1, 1) := by decide +kernel
theorem dX8_isOver_49 : decode cX8_isOver 49 = .ok (.iload_n 3, 1) := by decide +kernel
theorem dX8_isOver_50 : decode cX8_isOver 50 = .ok (.invokevirtual 116, 3) := by decide +kernel
theorem dX8_isOver_53 : decode cX8_isOver 53 = .ok (.ifCond .ne 5, 3) := by decide +kernel
theorem dX8_isOver_56 : decode cX8_isOver 56 = .ok (.iconst 0, 1) := by decide +kernel
theorem dX8_isOver_57 : decode cX8_isOver 57 = .ok (.ireturn, 1) := by decide +kernel
theorem dX8_isOver_58 : decode cX8_isOver 58 = .ok (.iinc 3 1, 3) := by decide +kernel
theorem dX8_isOver_61 : decode cX8_isOver 61 = .ok (.goto (-46), 3) := by decide +kernel
theorem dX8_isOver_64 : decode cX8_isOver 64 = .ok (.iconst 1, 1) := by decide +kernel
theorem dX8_isOver_65 : decode cX8_isOver 65 = .ok (.ireturn, 1) := by decide +kernel
theorem dX8_reason_0 : decode cX8_reason 0 = .ok (.aload_n 0, 1) := by decide +kernel
theorem dX8_reason_1 : decode cX8_reason 1 = .ok (.aload_n 1, 1) := by decide +kernel
theorem dX8_reason_2 : decode cX8_reason 2 = .ok (.invokevirtual 119, 3) := by decide +kernel
theorem dX8_reason_5 : decode cX8_reason 5 = .ok (.istore 4, 2) := by decide +kernel
theorem dX8_reason_7 : decode cX8_reason 7 = .ok (.iload 4, 2) := by decide +kernel
theorem dX8_reason_9 : decode cX8_reason 9 = .ok (.ifCond .ne 5, 3) := by decide +kernel
theorem dX8_reason_12 : decode cX8_reason 12 = .ok (.iconst 5, 1) := by decide +kernel
theorem dX8_reason_13 : decode cX8_reason 13 = .ok (.ireturn, 1) := by decide +kernel
theorem dX8_reason_14 : decode cX8_reason 14 = .ok (.aload_n 0, 1) := by decide +kernel
theorem dX8_reason_15 : decode cX8_reason 15 = .ok (.aload_n 1, 1) := by decide +kernel
theorem dX8_reason_16 : decode cX8_reason 16 = .ok (.lload_n 2, 1) := by decide +kernel
theorem dX8_reason_17 : decode cX8_reason 17 = .ok (.invokevirtual 68, 3) := by decide +kernel
theorem dX8_reason_20 : decode cX8_reason 20 = .ok (.ifCond .ne 5, 3) := by decide +kernel
theorem dX8_reason_23 : decode cX8_reason 23 = .ok (.iconst 1, 1) := by decide +kernel
theorem dX8_reason_24 : decode cX8_reason 24 = .ok (.ireturn, 1) := by decide +kernel
theorem dX8_reason_25 : decode cX8_reason 25 = .ok (.lload_n 2, 1) := by decide +kernel
theorem dX8_reason_26 : decode cX8_reason 26 = .ok (.l2i, 1) := by decide +kernel
theorem dX8_reason_27 : decode cX8_reason 27 = .ok (.istore 5, 2) := by decide +kernel
theorem dX8_reason_29 : decode cX8_reason 29 = .ok (.aload_n 1, 1) := by decide +kernel
theorem dX8_reason_30 : decode cX8_reason 30 = .ok (.getfield 43, 3) := by decide +kernel
theorem dX8_reason_33 : decode cX8_reason 33 = .ok (.iload 5, 2) := by decide +kernel
theorem dX8_reason_35 : decode cX8_reason 35 = .ok (.iaload, 1) := by decide +kernel
theorem dX8_reason_36 : decode cX8_reason 36 = .ok (.ifCond .ne 5, 3) := by decide +kernel
theorem dX8_reason_39 : decode cX8_reason 39 = .ok (.iconst 2, 1) := by decide +kernel
theorem dX8_reason_40 : decode cX8_reason 40 = .ok (.ireturn, 1) := by decide +kernel
theorem dX8_reason_41 : decode cX8_reason 41 = .ok (.iload 4, 2) := by decide +kernel
theorem dX8_reason_43 : decode cX8_reason 43 = .ok (.iload 5, 2) := by decide +kernel
theorem dX8_reason_45 : decode cX8_reason 45 = .ok (.invokestatic 122, 3) := by decide +kernel
theorem dX8_reason_48 : decode cX8_reason 48 = .ok (.ifCond .eq 5, 3) := by decide +kernel
theorem dX8_reason_51 : decode cX8_reason 51 = .ok (.iconst 0, 1) := by decide +kernel
theorem dX8_reason_52 : decode cX8_reason 52 = .ok (.ireturn, 1) := by decide +kernel
theorem dX8_reason_53 : decode cX8_reason 53 = .ok (.aload_n 0, 1) := by decide +kernel
theorem dX8_reason_54 : decode cX8_reason 54 = .ok (.aload_n 1, 1) := by decide +kernel
theorem dX8_reason_55 : decode cX8_reason 55 = .ok (.iload 5, 2) := by decide +kernel
theorem dX8_reason_57 : decode cX8_reason 57 = .ok (.aload_n 1, 1) := by decide +kernel
theorem dX8_reason_58 : decode cX8_reason 58 = .ok (.getfield 30, 3) := by decide +kernel
theorem dX8_reason_61 : decode cX8_reason 61 = .ok (.aload_n 0, 1) := by decide +kernel
theorem dX8_reason_62 : decode cX8_reason 62 = .ok (.getfield 21, 3) := by decide +kernel
theorem dX8_reason_65 : decode cX8_reason 65 = .ok (.getfield 34, 3) := by decide +kernel
theorem dX8_reason_68 : decode cX8_reason 68 = .ok (.imul, 1) := by decide +kernel
theorem dX8_reason_69 : decode cX8_reason 69 = .ok (.isub, 1) := by decide +kernel
theorem dX8_reason_70 : decode cX8_reason 70 = .ok (.invokevirtual 116, 3) := by decide +kernel
theorem dX8_reason_73 : decode cX8_reason 73 = .ok (.ifCond .eq 7, 3) := by decide +kernel
theorem dX8_reason_76 : decode cX8_reason 76 = .ok (.iconst 3, 1) := by decide +kernel
theorem dX8_reason_77 : decode cX8_reason 77 = .ok (.goto 4, 3) := by decide +kernel
theorem dX8_reason_80 : decode cX8_reason 80 = .ok (.iconst 4, 1) := by decide +kernel
theorem dX8_reason_81 : decode cX8_reason 81 = .ok (.ireturn, 1) := by decide +kernel
theorem dX8_scoreOf_0 : decode cX8_scoreOf 0 = .ok (.aload_n 1, 1) := by decide +kernel
theorem dX8_scoreOf_1 : decode cX8_scoreOf 1 = .ok (.getfield 43, 3) := by decide +kernel
theorem dX8_scoreOf_4 : decode cX8_scoreOf 4 = .ok (.bipush 12, 2) := by decide +kernel
theorem dX8_scoreOf_6 : decode cX8_scoreOf 6 = .ok (.iaload, 1) := by decide +kernel
theorem dX8_scoreOf_7 : decode cX8_scoreOf 7 = .ok (.aload_n 1, 1) := by decide +kernel
theorem dX8_scoreOf_8 : decode cX8_scoreOf 8 = .ok (.getfield 43, 3) := by decide +kernel
theorem dX8_scoreOf_11 : decode cX8_scoreOf 11 = .ok (.bipush 13, 2) := by decide +kernel
theorem dX8_scoreOf_13 : decode cX8_scoreOf 13 = .ok (.iaload, 1) := by decide +kernel
theorem dX8_scoreOf_14 : decode cX8_scoreOf 14 = .ok (.isub, 1) := by decide +kernel
theorem dX8_scoreOf_15 : decode cX8_scoreOf 15 = .ok (.istore_n 2, 1) := by decide +kernel
theorem dX8_scoreOf_16 : decode cX8_scoreOf 16 = .ok (.aload_n 0, 1) := by decide +kernel
theorem dX8_scoreOf_17 : decode cX8_scoreOf 17 = .ok (.aload_n 1, 1) := by decide +kernel
theorem dX8_scoreOf_18 : decode cX8_scoreOf 18 = .ok (.invokevirtual 126, 3) := by decide +kernel
theorem dX8_scoreOf_21 : decode cX8_scoreOf 21 = .ok (.ifCond .ne 5, 3) := by decide +kernel
theorem dX8_scoreOf_24 : decode cX8_scoreOf 24 = .ok (.iload_n 2, 1) := by decide +kernel
theorem dX8_scoreOf_25 : decode cX8_scoreOf 25 = .ok (.ireturn, 1) := by decide +kernel
theorem dX8_scoreOf_26 : decode cX8_scoreOf 26 = .ok (.iload_n 2, 1) := by decide +kernel
theorem dX8_scoreOf_27 : decode cX8_scoreOf 27 = .ok (.aload_n 1, 1) := by decide +kernel
theorem dX8_scoreOf_28 : decode cX8_scoreOf 28 = .ok (.iconst 0, 1) := by decide +kernel
theorem dX8_scoreOf_29 : decode cX8_scoreOf 29 = .ok (.aload_n 0, 1) := by decide +kernel
theorem dX8_scoreOf_30 : decode cX8_scoreOf 30 = .ok (.getfield 21, 3) := by decide +kernel
theorem dX8_scoreOf_33 : decode cX8_scoreOf 33 = .ok (.getfield 34, 3) := by decide +kernel
theorem dX8_scoreOf_36 : decode cX8_scoreOf 36 = .ok (.invokevirtual 91, 3) := by decide +kernel
theorem dX8_scoreOf_39 : decode cX8_scoreOf 39 = .ok (.iadd, 1) := by decide +kernel
theorem dX8_scoreOf_40 : decode cX8_scoreOf 40 = .ok (.aload_n 1, 1) := by decide +kernel
theorem dX8_scoreOf_41 : decode cX8_scoreOf 41 = .ok (.iconst 1, 1) := by decide +kernel
theorem dX8_scoreOf_42 : decode cX8_scoreOf 42 = .ok (.aload_n 0, 1) := by decide +kernel
theorem dX8_scoreOf_43 : decode cX8_scoreOf 43 = .ok (.getfield 21, 3) := by decide +kernel
theorem dX8_scoreOf_46 : decode cX8_scoreOf 46 = .ok (.getfield 34, 3) := by decide +kernel
theorem dX8_scoreOf_49 : decode cX8_scoreOf 49 = .ok (.invokevirtual 91, 3) := by decide +kernel
theorem dX8_scoreOf_52 : decode cX8_scoreOf 52 = .ok (.isub, 1) := by decide +kernel
theorem dX8_scoreOf_53 : decode cX8_scoreOf 53 = .ok (.ireturn, 1) := by decide +kernel
theorem dX9_init_0 : decode cX9_init 0 = .ok (.aload_n 0, 1) := by decide +kernel
theorem dX9_init_1 : decode cX9_init 1 = .ok (.invokespecial 3, 3) := by decide +kernel
theorem dX9_init_4 : decode cX9_init 4 = .ok (.aload_n 0, 1) := by decide +kernel
theorem dX9_init_5 : decode cX9_init 5 = .ok (.bipush 40, 2) := by decide +kernel
theorem dX9_init_7 : decode cX9_init 7 = .ok (.newarray .long, 2) := by decide +kernel
theorem dX9_init_9 : decode cX9_init 9 = .ok (.putfield 9, 3) := by decide +kernel
theorem dX9_init_12 : decode cX9_init 12 = .ok (.aload_n 0, 1) := by decide +kernel
theorem dX9_init_13 : decode cX9_init 13 = .ok (.iconst (-1), 1) := by decide +kernel
theorem dX9_init_14 : decode cX9_init 14 = .ok (.putfield 15, 3) := by decide +kernel
theorem dX9_init_17 : decode cX9_init 17 = .ok (.return_, 1) := by decide +kernel
theorem dX9_lay_0 : decode cX9_lay 0 = .ok (.aload_n 0, 1) := by decide +kernel
theorem dX9_lay_1 : decode cX9_lay 1 = .ok (.iload_n 1, 1) := by decide +kernel
theorem dX9_lay_2 : decode cX9_lay 2 = .ok (.putfield 15, 3) := by decide +kernel
theorem dX9_lay_5 : decode cX9_lay 5 = .ok (.aload_n 0, 1) := by decide +kernel
theorem dX9_lay_6 : decode cX9_lay 6 = .ok (.iload_n 2, 1) := by decide +kernel
theorem dX9_lay_7 : decode cX9_lay 7 = .ok (.putfield 19, 3) := by decide +kernel
theorem dX9_lay_10 : decode cX9_lay 10 = .ok (.iconst 0, 1) := by decide +kernel
theorem dX9_lay_11 : decode cX9_lay 11 = .ok (.istore_n 3, 1) := by decide +kernel
theorem dX9_lay_12 : decode cX9_lay 12 = .ok (.iload_n 3, 1) := by decide +kernel
theorem dX9_lay_13 : decode cX9_lay 13 = .ok (.bipush 40, 2) := by decide +kernel
theorem dX9_lay_15 : decode cX9_lay 15 = .ok (.if_icmp .ge 16, 3) := by decide +kernel
theorem dX9_lay_18 : decode cX9_lay 18 = .ok (.aload_n 0, 1) := by decide +kernel
theorem dX9_lay_19 : decode cX9_lay 19 = .ok (.getfield 9, 3) := by decide +kernel
theorem dX9_lay_22 : decode cX9_lay 22 = .ok (.iload_n 3, 1) := by decide +kernel
theorem dX9_lay_23 : decode cX9_lay 23 = .ok (.lconst 0, 1) := by decide +kernel
theorem dX9_lay_24 : decode cX9_lay 24 = .ok (.lastore, 1) := by decide +kernel
theorem dX9_lay_25 : decode cX9_lay 25 = .ok (.iinc 3 1, 3) := by decide +kernel
theorem dX9_lay_28 : decode cX9_lay 28 = .ok (.goto (-16), 3) := by decide +kernel
theorem dX9_lay_31 : decode cX9_lay 31 = .ok (.return_, 1) := by decide +kernel
theorem dX9_cut_0 : decode cX9_cut 0 = .ok (.aload_n 0, 1) := by decide +kernel
theorem dX9_cut_1 : decode cX9_cut 1 = .ok (.getfield 15, 3) := by decide +kernel
theorem dX9_cut_4 : decode cX9_cut 4 = .ok (.tableswitch 42 0 2 #[28, 33, 38], 28) := by decide +kernel
theorem dX9_cut_32 : decode cX9_cut 32 = .ok (.lload_n 1, 1) := by decide +kernel
theorem dX9_cut_33 : decode cX9_cut 33 = .ok (.l2i, 1) := by decide +kernel
theorem dX9_cut_34 : decode cX9_cut 34 = .ok (.i2b, 1) := by decide +kernel
theorem dX9_cut_35 : decode cX9_cut 35 = .ok (.i2l, 1) := by decide +kernel
theorem dX9_cut_36 : decode cX9_cut 36 = .ok (.lreturn, 1) := by decide +kernel
theorem dX9_cut_37 : decode cX9_cut 37 = .ok (.lload_n 1, 1) := by decide +kernel
theorem dX9_cut_38 : decode cX9_cut 38 = .ok (.l2i, 1) := by decide +kernel
theorem dX9_cut_39 : decode cX9_cut 39 = .ok (.i2s, 1) := by decide +kernel
theorem dX9_cut_40 : decode cX9_cut 40 = .ok (.i2l, 1) := by decide +kernel
theorem dX9_cut_41 : decode cX9_cut 41 = .ok (.lreturn, 1) := by decide +kernel
theorem dX9_cut_42 : decode cX9_cut 42 = .ok (.lload_n 1, 1) := by decide +kernel
theorem dX9_cut_43 : decode cX9_cut 43 = .ok (.l2i, 1) := by decide +kernel
theorem dX9_cut_44 : decode cX9_cut 44 = .ok (.i2l, 1) := by decide +kernel
theorem dX9_cut_45 : decode cX9_cut 45 = .ok (.lreturn, 1) := by decide +kernel
theorem dX9_cut_46 : decode cX9_cut 46 = .ok (.lload_n 1, 1) := by decide +kernel
theorem dX9_cut_47 : decode cX9_cut 47 = .ok (.lreturn, 1) := by decide +kernel
theorem dX10_init_0 : decode cX10_init 0 = .ok (.aload_n 0, 1) := by decide +kernel
theorem dX10_init_1 : decode cX10_init 1 = .ok (.invokespecial 3, 3) := by decide +kernel
theorem dX10_init_4 : decode cX10_init 4 = .ok (.aload_n 0, 1) := by decide +kernel
theorem dX10_init_5 : decode cX10_init 5 = .ok (.new 9, 3) := by decide +kernel
theorem dX10_init_8 : decode cX10_init 8 = .ok (.dup, 1) := by decide +kernel
theorem dX10_init_9 : decode cX10_init 9 = .ok (.invokespecial 11, 3) := by decide +kernel
theorem dX10_init_12 : decode cX10_init 12 = .ok (.putfield 12, 3) := by decide +kernel
theorem dX10_init_15 : decode cX10_init 15 = .ok (.aload_n 0, 1) := by decide +kernel
theorem dX10_init_16 : decode cX10_init 16 = .ok (.bipush 100, 2) := by decide +kernel
theorem dX10_init_18 : decode cX10_init 18 = .ok (.newarray .int, 2) := by decide +kernel
theorem dX10_init_20 : decode cX10_init 20 = .ok (.putfield 18, 3) := by decide +kernel
theorem dX10_init_23 : decode cX10_init 23 = .ok (.aload_n 0, 1) := by decide +kernel
theorem dX10_init_24 : decode cX10_init 24 = .ok (.bipush 61, 2) := by decide +kernel
theorem dX10_init_26 : decode cX10_init 26 = .ok (.newarray .int, 2) := by decide +kernel
theorem dX10_init_28 : decode cX10_init 28 = .ok (.putfield 22, 3) := by decide +kernel
theorem dX10_init_31 : decode cX10_init 31 = .ok (.aload_n 0, 1) := by decide +kernel
theorem dX10_init_32 : decode cX10_init 32 = .ok (.aload_n 1, 1) := by decide +kernel
theorem dX10_init_33 : decode cX10_init 33 = .ok (.putfield 25, 3) := by decide +kernel
theorem dX10_init_36 : decode cX10_init 36 = .ok (.aload_n 0, 1) := by decide +kernel
theorem dX10_init_37 : decode cX10_init 37 = .ok (.aload_n 2, 1) := by decide +kernel
theorem dX10_init_38 : decode cX10_init 38 = .ok (.putfield 29, 3) := by decide +kernel
theorem dX10_init_41 : decode cX10_init 41 = .ok (.return_, 1) := by decide +kernel
theorem dX10_begin_0 : decode cX10_begin 0 = .ok (.aload_n 0, 1) := by decide +kernel
theorem dX10_begin_1 : decode cX10_begin 1 = .ok (.getfield 12, 3) := by decide +kernel
theorem dX10_begin_4 : decode cX10_begin 4 = .ok (.aload_n 1, 1) := by decide +kernel
theorem dX10_begin_5 : decode cX10_begin 5 = .ok (.invokevirtual 33, 3) := by decide +kernel
theorem dX10_begin_8 : decode cX10_begin 8 = .ok (.aload_n 0, 1) := by decide +kernel
theorem dX10_begin_9 : decode cX10_begin 9 = .ok (.iconst 0, 1) := by decide +kernel
theorem dX10_begin_10 : decode cX10_begin 10 = .ok (.putfield 37, 3) := by decide +kernel
theorem dX10_begin_13 : decode cX10_begin 13 = .ok (.aload_n 0, 1) := by decide +kernel
theorem dX10_begin_14 : decode cX10_begin 14 = .ok (.iconst 0, 1) := by decide +kernel
theorem dX10_begin_15 : decode cX10_begin 15 = .ok (.putfield 41, 3) := by decide +kernel
theorem dX10_begin_18 : decode cX10_begin 18 = .ok (.return_, 1) := by decide +kernel
theorem dX10_go_0 : decode cX10_go 0 = .ok (.aload_n 0, 1) := by decide +kernel
theorem dX10_go_1 : decode cX10_go 1 = .ok (.getfield 25, 3) := by decide +kernel
theorem dX10_go_4 : decode cX10_go 4 = .ok (.aload_n 0, 1) := by decide +kernel
theorem dX10_go_5 : decode cX10_go 5 = .ok (.getfield 12, 3) := by decide +kernel
theorem dX10_go_8 : decode cX10_go 8 = .ok (.iload_n 1, 1) := by decide +kernel
theorem dX10_go_9 : decode cX10_go 9 = .ok (.invokevirtual 45, 3) := by decide +kernel
theorem dX10_go_12 : decode cX10_go 12 = .ok (.pop, 1) := by decide +kernel
theorem dX10_go_13 : decode cX10_go 13 = .ok (.aload_n 0, 1) := by decide +kernel
theorem dX10_go_14 : decode cX10_go 14 = .ok (.getfield 18, 3) := by decide +kernel
theorem dX10_go_17 : decode cX10_go 17 = .ok (.aload_n 0, 1) := by decide +kernel
theorem dX10_go_18 : decode cX10_go 18 = .ok (.getfield 37, 3) := by decide +kernel
theorem dX10_go_21 : decode cX10_go 21 = .ok (.iload_n 1, 1) := by decide +kernel
theorem dX10_go_22 : decode cX10_go 22 = .ok (.iastore, 1) := by decide +kernel
theorem dX10_go_23 : decode cX10_go 23 = .ok (.aload_n 0, 1) := by decide +kernel
theorem dX10_go_24 : decode cX10_go 24 = .ok (.dup, 1) := by decide +kernel
theorem dX10_go_25 : decode cX10_go 25 = .ok (.getfield 37, 3) := by decide +kernel
theorem dX10_go_28 : decode cX10_go 28 = .ok (.iconst 1, 1) := by decide +kernel
theorem dX10_go_29 : decode cX10_go 29 = .ok (.iadd, 1) := by decide +kernel
theorem dX10_go_30 : decode cX10_go 30 = .ok (.putfield 37, 3) := by decide +kernel
theorem dX10_go_33 : decode cX10_go 33 = .ok (.return_, 1) := by decide +kernel
theorem dX10_goByBest_0 : decode cX10_goByBest 0 = .ok (.aload_n 0, 1) := by decide +kernel
theorem dX10_goByBest_1 : decode cX10_goByBest 1 = .ok (.aload_n 1, 1) := by decide +kernel
theorem dX10_goByBest_2 : decode cX10_goByBest 2 = .ok (.invokevirtual 51, 3) := by decide +kernel
theorem dX10_goByBest_5 : decode cX10_goByBest 5 = .ok (.aload_n 0, 1) := by decide +kernel
theorem dX10_goByBest_6 : decode cX10_goByBest 6 = .ok (.getfield 22, 3) := by decide +kernel
theorem dX10_goByBest_9 : decode cX10_goByBest 9 = .ok (.iconst 0, 1) := by decide +kernel
theorem dX10_goByBest_10 : decode cX10_goByBest 10 = .ok (.aload_n 0, 1) := by decide +kernel
theorem dX10_goByBest_11 : decode cX10_goByBest 11 = .ok (.getfield 29, 3) := by decide +kernel
theorem dX10_goByBest_14 : decode cX10_goByBest 14 = .ok (.aload_n 0, 1) := by decide +kernel
theorem dX10_goByBest_15 : decode cX10_goByBest 15 = .ok (.getfield 12, 3) := by decide +kernel
theorem dX10_goByBest_18 : decode cX10_goByBest 18 = .ok (.invokevirtual 54, 3) := by decide +kernel
theorem dX10_goByBest_21 : decode cX10_goByBest 21 = .ok (.iastore, 1) := by decide +kernel
theorem dX10_goByBest_22 : decode cX10_goByBest 22 = .ok (.iconst 0, 1) := by decide +kernel
theorem dX10_goByBest_23 : decode cX10_goByBest 23 = .ok (.istore_n 2, 1) := by decide +kernel
theorem dX10_goByBest_24 : decode cX10_goByBest 24 = .ok (.iload_n 2, 1) := by decide +kernel
theorem dX10_goByBest_25 : decode cX10_goByBest 25 = .ok (.bipush 60, 2) := by decide +kernel
theorem dX10_goByBest_27 : decode cX10_goByBest 27 = .ok (.if_icmp .ge 67, 3) := by decide +kernel
theorem dX10_goByBest_30 : decode cX10_goByBest 30 = .ok (.aload_n 0, 1) := by decide +kernel
theorem dX10_goByBest_31 : decode cX10_goByBest 31 = .ok (.getfield 41, 3) := by decide +kernel
theorem dX10_goByBest_34 : decode cX10_goByBest 34 = .ok (.ifCond .ne 60, 3) := by decide +kernel
theorem dX10_goByBest_37 : decode cX10_goByBest 37 = .ok (.aload_n 0, 1) := by decide +kernel
theorem dX10_goByBest_38 : decode cX10_goByBest 38 = .ok (.getfield 29, 3) := by decide +kernel
theorem dX10_goByBest_41 : decode cX10_goByBest 41 = .ok (.aload_n 0, 1) := by decide +kernel
theorem dX10_goByBest_42 : decode cX10_goByBest 42 = .ok (.getfield 12, 3) := by decide +kernel
theorem dX10_goByBest_45 : decode cX10_goByBest 45 = .ok (.invokevirtual 60, 3) := by decide +kernel
theorem dX10_goByBest_48 : decode cX10_goByBest 48 = .ok (.istore_n 3, 1) := by decide +kernel
theorem dX10_goByBest_49 : decode cX10_goByBest 49 = .ok (.iload_n 3, 1) := by decide +kernel
theorem dX10_goByBest_50 : decode cX10_goByBest 50 = .ok (.iconst (-1), 1) := by decide +kernel
theorem dX10_goByBest_51 : decode cX10_goByBest 51 = .ok (.if_icmp .ne 4, 3) := by decide +kernel
theorem dX10_goByBest_54 : decode cX10_goByBest 54 = .ok (.return_, 1) := by decide +kernel
theorem dX10_goByBest_55 : decode cX10_goByBest 55 = .ok (.aload_n 0, 1) := by decide +kernel
theorem dX10_goByBest_56 : decode cX10_goByBest 56 = .ok (.iload_n 3, 1) := by decide +kernel
theorem dX10_goByBest_57 : decode cX10_goByBest 57 = .ok (.invokevirtual 63, 3) := by decide +kernel
theorem dX10_goByBest_60 : decode cX10_goByBest 60 = .ok (.aload_n 0, 1) := by decide +kernel
theorem dX10_goByBest_61 : decode cX10_goByBest 61 = .ok (.getfield 22, 3) := by decide +kernel
theorem dX10_goByBest_64 : decode cX10_goByBest 64 = .ok (.aload_n 0, 1) := by decide +kernel
theorem dX10_goByBest_65 : decode cX10_goByBest 65 = .ok (.getfield 37, 3) := by decide +kernel
theorem dX10_goByBest_68 : decode cX10_goByBest 68 = .ok (.aload_n 0, 1) := by decide +kernel
theorem dX10_goByBest_69 : decode cX10_goByBest 69 = .ok (.getfield 29, 3) := by decide +kernel
theorem dX10_goByBest_72 : decode cX10_goByBest 72 = .ok (.aload_n 0, 1) := by decide +kernel
theorem dX10_goByBest_73 : decode cX10_goByBest 73 = .ok (.getfield 12, 3) := by decide +kernel
theorem dX10_goByBest_76 : decode cX10_goByBest 76 = .ok (.invokevirtual 54, 3) := by decide +kernel
theorem dX10_goByBest_79 : decode cX10_goByBest 79 = .ok (.iastore, 1) := by decide +kernel
theorem dX10_goByBest_80 : decode cX10_goByBest 80 = .ok (.aload_n 0, 1) := by decide +kernel
theorem dX10_goByBest_81 : decode cX10_goByBest 81 = .ok (.aload_n 0, 1) := by decide +kernel
theorem dX10_goByBest_82 : decode cX10_goByBest 82 = .ok (.invokevirtual 67, 3) := by decide +kernel
theorem dX10_goByBest_85 : decode cX10_goByBest 85 = .ok (.putfield 41, 3) := by decide +kernel
theorem dX10_goByBest_88 : decode cX10_goByBest 88 = .ok (.iinc 2 1, 3) := by decide +kernel
theorem dX10_goByBest_91 : decode cX10_goByBest 91 = .ok (.goto (-67), 3) := by decide +kernel
theorem dX10_goByBest_94 : decode cX10_goByBest 94 = .ok (.return_, 1) := by decide +kernel
theorem dX10_isMarkedAgain_0 : decode cX10_isMarkedAgain 0 = .ok (.iconst 0, 1) := by decide +kernel
theorem dX10_isMarkedAgain_1 : decode cX10_isMarkedAgain 1 = .ok (.istore_n 1, 1) := by decide +kernel
theorem dX10_isMarkedAgain_2 : decode cX10_isMarkedAgain 2 = .ok (.iload_n 1, 1) := by decide +kernel
theorem dX10_isMarkedAgain_3 : decode cX10_isMarkedAgain 3 = .ok (.aload_n 0, 1) := by decide +kernel
theorem dX10_isMarkedAgain_4 : decode cX10_isMarkedAgain 4 = .ok (.getfield 37, 3) := by decide +kernel
theorem dX10_isMarkedAgain_7 : decode cX10_isMarkedAgain 7 = .ok (.if_icmp .ge 29, 3) := by decide +kernel
theorem dX10_isMarkedAgain_10 : decode cX10_isMarkedAgain 10 = .ok (.aload_n 0, 1) := by decide +kernel
theorem dX10_isMarkedAgain_11 : decode cX10_isMarkedAgain 11 = .ok (.getfield 22, 3) := by decide +kernel
theorem dX10_isMarkedAgain_14 : decode cX10_isMarkedAgain 14 = .ok (.iload_n 1, 1) := by decide +kernel
theorem dX10_isMarkedAgain_15 : decode cX10_isMarkedAgain 15 = .ok (.iaload, 1) := by decide +kernel
theorem dX10_isMarkedAgain_16 : decode cX10_isMarkedAgain 16 = .ok (.aload_n 0, 1) := by decide +kernel
theorem dX10_isMarkedAgain_17 : decode cX10_isMarkedAgain 17 = .ok (.getfield 22, 3) := by decide +kernel
theorem dX10_isMarkedAgain_20 : decode cX10_isMarkedAgain 20 = .ok (.aload_n 0, 1) := by decide +kernel
theorem dX10_isMarkedAgain_21 : decode cX10_isMarkedAgain 21 = .ok (.getfield 37, 3) := by decide +kernel
theorem dX10_isMarkedAgain_24 : decode cX10_isMarkedAgain 24 = .ok (.iaload, 1) := by decide +kernel
theorem dX10_isMarkedAgain_25 : decode cX10_isMarkedAgain 25 = .ok (.if_icmp .ne 5, 3) := by decide +kernel
theorem dX10_isMarkedAgain_28 : decode cX10_isMarkedAgain 28 = .ok (.iconst 1, 1) := by decide +kernel
theorem dX10_isMarkedAgain_29 : decode cX10_isMarkedAgain 29 = .ok (.ireturn, 1) := by decide +kernel
theorem dX10_isMarkedAgain_30 : decode cX10_isMarkedAgain 30 = .ok (.iinc 1 1, 3) := by decide +kernel
theorem dX10_isMarkedAgain_33 : decode cX10_isMarkedAgain 33 = .ok (.goto (-31), 3) := by decide +kernel
theorem dX10_isMarkedAgain_36 : decode cX10_isMarkedAgain 36 = .ok (.iconst 0, 1) := by decide +kernel
theorem dX10_isMarkedAgain_37 : decode cX10_isMarkedAgain 37 = .ok (.ireturn, 1) := by decide +kernel
theorem dX10_goWhileForced_0 : decode cX10_goWhileForced 0 = .ok (.aload_n 0, 1) := by decide +kernel
theorem dX10_goWhileForced_1 : decode cX10_goWhileForced 1 = .ok (.aload_n 1, 1) := by decide +kernel
theorem dX10_goWhileForced_2 : decode cX10_goWhileForced 2 = .ok (.invokevirtual 51, 3) := by decide +kernel
theorem dX10_goWhileForced_5 : decode cX10_goWhileForced 5 = .ok (.iconst 0, 1) := by decide +kernel
theorem dX10_goWhileForced_6 : decode cX10_goWhileForced 6 = .ok (.istore_n 2, 1) := by decide +kernel
theorem dX10_goWhileForced_7 : decode cX10_goWhileForced 7 = .ok (.iload_n 2, 1) := by decide +kernel
theorem dX10_goWhileForced_8 : decode cX10_goWhileForced 8 = .ok (.bipush 60, 2) := by decide +kernel
theorem dX10_goWhileForced_10 : decode cX10_goWhileForced 10 = .ok (.if_icmp .ge 39, 3) := by decide +kernel
theorem dX10_goWhileForced_13 : decode cX10_goWhileForced 13 = .ok (.aload_n 0, 1) := by decide +kernel
theorem dX10_goWhileForced_14 : decode cX10_goWhileForced 14 = .ok (.getfield 25, 3) := by decide +kernel
theorem dX10_goWhileForced_17 : decode cX10_goWhileForced 17 = .ok (.aload_n 0, 1) := by decide +kernel
theorem dX10_goWhileForced_18 : decode cX10_goWhileForced 18 = .ok (.getfield 12, 3) := by decide +kernel
theorem dX10_goWhileForced_21 : decode cX10_goWhileForced 21 = .ok (.invokevirtual 71, 3) := by decide +kernel
theorem dX10_goWhileForced_24 : decode cX10_goWhileForced 24 = .ok (.istore_n 3, 1) := by decide +kernel
theorem dX10_goWhileForced_25 : decode cX10_goWhileForced 25 = .ok (.iload_n 3, 1) := by decide +kernel
theorem dX10_goWhileForced_26 : decode cX10_goWhileForced 26 = .ok (.invokestatic 74, 3) := by decide +kernel
theorem dX10_goWhileForced_29 : decode cX10_goWhileForced 29 = .ok (.iconst 1, 1) := by decide +kernel
theorem dX10_goWhileForced_30 : decode cX10_goWhileForced 30 = .ok (.if_icmp .eq 4, 3) := by decide +kernel
theorem dX10_goWhileForced_33 : decode cX10_goWhileForced 33 = .ok (.return_, 1) := by decide +kernel
theorem dX10_goWhileForced_34 : decode cX10_goWhileForced 34 = .ok (.aload_n 0, 1) := by decide +kernel
theorem dX10_goWhileForced_35 : decode cX10_goWhileForced 35 = .ok (.iload_n 3, 1) := by decide +kernel
theorem dX10_goWhileForced_36 : decode cX10_goWhileForced 36 = .ok (.iconst 0, 1) := by decide +kernel
theorem dX10_goWhileForced_37 : decode cX10_goWhileForced 37 = .ok (.invokestatic 80, 3) := by decide +kernel
theorem dX10_goWhileForced_40 : decode cX10_goWhileForced 40 = .ok (.invokevirtual 63, 3) := by decide +kernel
theorem dX10_goWhileForced_43 : decode cX10_goWhileForced 43 = .ok (.iinc 2 1, 3) := by decide +kernel
theorem dX10_goWhileForced_46 : decode cX10_goWhileForced 46 = .ok (.goto (-39), 3) := by decide +kernel
theorem dX10_goWhileForced_49 : decode cX10_goWhileForced 49 = .ok (.return_, 1) := by decide +kernel
theorem dX10_goByDraws_0 : decode cX10_goByDraws 0 = .ok (.aload_n 0, 1) := by decide +kernel
theorem dX10_goByDraws_1 : decode cX10_goByDraws 1 = .ok (.aload_n 1, 1) := by decide +kernel
theorem dX10_goByDraws_2 : decode cX10_goByDraws 2 = .ok (.invokevirtual 51, 3) := by decide +kernel
theorem dX10_goByDraws_5 : decode cX10_goByDraws 5 = .ok (.iload_n 2, 1) := by decide +kernel
theorem dX10_goByDraws_6 : decode cX10_goByDraws 6 = .ok (.istore 4, 2) := by decide +kernel
theorem dX10_goByDraws_8 : decode cX10_goByDraws 8 = .ok (.iconst 0, 1) := by decide +kernel
theorem dX10_goByDraws_9 : decode cX10_goByDraws 9 = .ok (.istore 5, 2) := by decide +kernel
theorem dX10_goByDraws_11 : decode cX10_goByDraws 11 = .ok (.iload 5, 2) := by decide +kernel
theorem dX10_goByDraws_13 : decode cX10_goByDraws 13 = .ok (.bipush 100, 2) := by decide +kernel
theorem dX10_goByDraws_15 : decode cX10_goByDraws 15 = .ok (.if_icmp .ge 85, 3) := by decide +kernel
theorem dX10_goByDraws_18 : decode cX10_goByDraws 18 = .ok (.iload_n 3, 1) := by decide +kernel
theorem dX10_goByDraws_19 : decode cX10_goByDraws 19 = .ok (.ifCond .eq 30, 3) := by decide +kernel
theorem dX10_goByDraws_22 : decode cX10_goByDraws 22 = .ok (.aload_n 0, 1) := by decide +kernel
theorem dX10_goByDraws_23 : decode cX10_goByDraws 23 = .ok (.getfield 12, 3) := by decide +kernel
theorem dX10_goByDraws_26 : decode cX10_goByDraws 26 = .ok (.getfield 84, 3) := by decide +kernel
theorem dX10_goByDraws_29 : decode cX10_goByDraws 29 = .ok (.iconst 1, 1) := by decide +kernel
theorem dX10_goByDraws_30 : decode cX10_goByDraws 30 = .ok (.if_icmp .ne 19, 3) := by decide +kernel
theorem dX10_goByDraws_33 : decode cX10_goByDraws 33 = .ok (.aload_n 0, 1) := by decide +kernel
theorem dX10_goByDraws_34 : decode cX10_goByDraws 34 = .ok (.getfield 29, 3) := by decide +kernel
theorem dX10_goByDraws_37 : decode cX10_goByDraws 37 = .ok (.aload_n 0, 1) := by decide +kernel
theorem dX10_goByDraws_38 : decode cX10_goByDraws 38 = .ok (.getfield 12, 3) := by decide +kernel
theorem dX10_goByDraws_41 : decode cX10_goByDraws 41 = .ok (.invokevirtual 60, 3) := by decide +kernel
theorem dX10_goByDraws_44 : decode cX10_goByDraws 44 = .ok (.istore 6, 2) := by decide +kernel
theorem dX10_goByDraws_46 : decode cX10_goByDraws 46 = .ok (.goto 35, 3) := by decide +kernel
theorem dX10_goByDraws_49 : decode cX10_goByDraws 49 = .ok (.ldc 87, 2) := by decide +kernel
theorem dX10_goByDraws_51 : decode cX10_goByDraws 51 = .ok (.iload 4, 2) := by decide +kernel
theorem dX10_goByDraws_53 : decode cX10_goByDraws 53 = .ok (.imul, 1) := by decide +kernel
theorem dX10_goByDraws_54 : decode cX10_goByDraws 54 = .ok (.sipush 12345, 3) := by decide +kernel
theorem dX10_goByDraws_57 : decode cX10_goByDraws 57 = .ok (.iadd, 1) := by decide +kernel
theorem dX10_goByDraws_58 : decode cX10_goByDraws 58 = .ok (.istore 4, 2) := by decide +kernel
theorem dX10_goByDraws_60 : decode cX10_goByDraws 60 = .ok (.aload_n 0, 1) := by decide +kernel
theorem dX10_goByDraws_61 : decode cX10_goByDraws 61 = .ok (.getfield 25, 3) := by decide +kernel
theorem dX10_goByDraws_64 : decode cX10_goByDraws 64 = .ok (.aload_n 0, 1) := by decide +kernel
theorem dX10_goByDraws_65 : decode cX10_goByDraws 65 = .ok (.getfield 12, 3) := by decide +kernel
theorem dX10_goByDraws_68 : decode cX10_goByDraws 68 = .ok (.invokevirtual 71, 3) := by decide +kernel
theorem dX10_goByDraws_71 : decode cX10_goByDraws 71 = .ok (.iload 4, 2) := by decide +kernel
theorem dX10_goByDraws_73 : decode cX10_goByDraws 73 = .ok (.bipush 16, 2) := by decide +kernel
theorem dX10_goByDraws_75 : decode cX10_goByDraws 75 = .ok (.iushr, 1) := by decide +kernel
theorem dX10_goByDraws_76 : decode cX10_goByDraws 76 = .ok (.invokestatic 80, 3) := by decide +kernel
theorem dX10_goByDraws_79 : decode cX10_goByDraws 79 = .ok (.istore 6, 2) := by decide +kernel
theorem dX10_goByDraws_81 : decode cX10_goByDraws 81 = .ok (.iload 6, 2) := by decide +kernel
theorem dX10_goByDraws_83 : decode cX10_goByDraws 83 = .ok (.iconst (-1), 1) := by decide +kernel
theorem dX10_goByDraws_84 : decode cX10_goByDraws 84 = .ok (.if_icmp .ne 4, 3) := by decide +kernel
theorem dX10_goByDraws_87 : decode cX10_goByDraws 87 = .ok (.return_, 1) := by decide +kernel
theorem dX10_goByDraws_88 : decode cX10_goByDraws 88 = .ok (.aload_n 0, 1) := by decide +kernel
theorem dX10_goByDraws_89 : decode cX10_goByDraws 89 = .ok (.iload 6, 2) := by decide +kernel
theorem dX10_goByDraws_91 : decode cX10_goByDraws 91 = .ok (.invokevirtual 63, 3) := by decide +kernel
theorem dX10_goByDraws_94 : decode cX10_goByDraws 94 = .ok (.iinc 5 1, 3) := by decide +kernel
theorem dX10_goByDraws_97 : decode cX10_goByDraws 97 = .ok (.goto (-86), 3) := by decide +kernel
theorem dX10_goByDraws_100 : decode cX10_goByDraws 100 = .ok (.return_, 1) := by decide +kernel
theorem dX10_pick_0 : decode cX10_pick 0 = .ok (.iload_n 0, 1) := by decide +kernel
theorem dX10_pick_1 : decode cX10_pick 1 = .ok (.invokestatic 74, 3) := by decide +kernel
theorem dX10_pick_4 : decode cX10_pick 4 = .ok (.istore_n 2, 1) := by decide +kernel
theorem dX10_pick_5 : decode cX10_pick 5 = .ok (.iload_n 2, 1) := by decide +kernel
theorem dX10_pick_6 : decode cX10_pick 6 = .ok (.ifCond .ne 7, 3) := by decide +kernel
theorem dX10_pick_9 : decode cX10_pick 9 = .ok (.iconst 0, 1) := by decide +kernel
theorem dX10_pick_10 : decode cX10_pick 10 = .ok (.goto 6, 3) := by decide +kernel
theorem dX10_pick_13 : decode cX10_pick 13 = .ok (.iload_n 1, 1) := by decide +kernel
theorem dX10_pick_14 : decode cX10_pick 14 = .ok (.iload_n 2, 1) := by decide +kernel
theorem dX10_pick_15 : decode cX10_pick 15 = .ok (.irem, 1) := by decide +kernel
theorem dX10_pick_16 : decode cX10_pick 16 = .ok (.istore_n 3, 1) := by decide +kernel
theorem dX10_pick_17 : decode cX10_pick 17 = .ok (.iconst 0, 1) := by decide +kernel
theorem dX10_pick_18 : decode cX10_pick 18 = .ok (.istore 4, 2) := by decide +kernel
theorem dX10_pick_20 : decode cX10_pick 20 = .ok (.iload 4, 2) := by decide +kernel
theorem dX10_pick_22 : decode cX10_pick 22 = .ok (.bipush 12, 2) := by decide +kernel
theorem dX10_pick_24 : decode cX10_pick 24 = .ok (.if_icmp .ge 28, 3) := by decide +kernel
theorem dX10_pick_27 : decode cX10_pick 27 = .ok (.iload_n 0, 1) := by decide +kernel
theorem dX10_pick_28 : decode cX10_pick 28 = .ok (.iload 4, 2) := by decide +kernel
theorem dX10_pick_30 : decode cX10_pick 30 = .ok (.invokestatic 88, 3) := by decide +kernel
theorem dX10_pick_33 : decode cX10_pick 33 = .ok (.ifCond .eq 13, 3) := by decide +kernel
theorem dX10_pick_36 : decode cX10_pick 36 = .ok (.iload_n 3, 1) := by decide +kernel
theorem dX10_pick_37 : decode cX10_pick 37 = .ok (.ifCond .ne 6, 3) := by decide +kernel
theorem dX10_pick_40 : decode cX10_pick 40 = .ok (.iload 4, 2) := by decide +kernel
theorem dX10_pick_42 : decode cX10_pick 42 = .ok (.ireturn, 1) := by decide +kernel
theorem dX10_pick_43 : decode cX10_pick 43 = .ok (.iinc 3 (-1), 3) := by decide +kernel
theorem dX10_pick_46 : decode cX10_pick 46 = .ok (.iinc 4 1, 3) := by decide +kernel
theorem dX10_pick_49 : decode cX10_pick 49 = .ok (.goto (-29), 3) := by decide +kernel
theorem dX10_pick_52 : decode cX10_pick 52 = .ok (.iconst (-1), 1) := by decide +kernel
theorem dX10_pick_53 : decode cX10_pick 53 = .ok (.ireturn, 1) := by decide +kernel
theorem dX11_init_0 : decode cX11_init 0 = .ok (.aload_n 0, 1) := by decide +kernel
theorem dX11_init_1 : decode cX11_init 1 = .ok (.invokespecial 3, 3) := by decide +kernel
theorem dX11_init_4 : decode cX11_init 4 = .ok (.aload_n 0, 1) := by decide +kernel
theorem dX11_init_5 : decode cX11_init 5 = .ok (.new 9, 3) := by decide +kernel
theorem dX11_init_8 : decode cX11_init 8 = .ok (.dup, 1) := by decide +kernel
theorem dX11_init_9 : decode cX11_init 9 = .ok (.invokespecial 11, 3) := by decide +kernel
theorem dX11_init_12 : decode cX11_init 12 = .ok (.putfield 12, 3) := by decide +kernel
theorem dX11_init_15 : decode cX11_init 15 = .ok (.aload_n 0, 1) := by decide +kernel
theorem dX11_init_16 : decode cX11_init 16 = .ok (.new 16, 3) := by decide +kernel
theorem dX11_init_19 : decode cX11_init 19 = .ok (.dup, 1) := by decide +kernel
theorem dX11_init_20 : decode cX11_init 20 = .ok (.aload_n 0, 1) := by decide +kernel
theorem dX11_init_21 : decode cX11_init 21 = .ok (.getfield 12, 3) := by decide +kernel
theorem dX11_init_24 : decode cX11_init 24 = .ok (.invokespecial 18, 3) := by decide +kernel
theorem dX11_init_27 : decode cX11_init 27 = .ok (.putfield 21, 3) := by decide +kernel
theorem dX11_init_30 : decode cX11_init 30 = .ok (.aload_n 0, 1) := by decide +kernel
theorem dX11_init_31 : decode cX11_init 31 = .ok (.new 25, 3) := by decide +kernel
theorem dX11_init_34 : decode cX11_init 34 = .ok (.dup, 1) := by decide +kernel
theorem dX11_init_35 : decode cX11_init 35 = .ok (.aload_n 0, 1) := by decide +kernel
theorem dX11_init_36 : decode cX11_init 36 = .ok (.getfield 12, 3) := by decide +kernel
theorem dX11_init_39 : decode cX11_init 39 = .ok (.aload_n 0, 1) := by decide +kernel
theorem dX11_init_40 : decode cX11_init 40 = .ok (.getfield 21, 3) := by decide +kernel
theorem dX11_init_43 : decode cX11_init 43 = .ok (.invokespecial 27, 3) := by decide +kernel
theorem dX11_init_46 : decode cX11_init 46 = .ok (.putfield 30, 3) := by decide +kernel
theorem dX11_init_49 : decode cX11_init 49 = .ok (.aload_n 0, 1) := by decide +kernel
theorem dX11_init_50 : decode cX11_init 50 = .ok (.new 34, 3) := by decide +kernel
theorem dX11_init_53 : decode cX11_init 53 = .ok (.dup, 1) := by decide +kernel
theorem dX11_init_54 : decode cX11_init 54 = .ok (.invokespecial 36, 3) := by decide +kernel
theorem dX11_init_57 : decode cX11_init 57 = .ok (.putfield 37, 3) := by decide +kernel
theorem dX11_init_60 : decode cX11_init 60 = .ok (.aload_n 0, 1) := by decide +kernel
theorem dX11_init_61 : decode cX11_init 61 = .ok (.new 34, 3) := by decide +kernel
theorem dX11_init_64 : decode cX11_init 64 = .ok (.dup, 1) := by decide +kernel
theorem dX11_init_65 : decode cX11_init 65 = .ok (.invokespecial 36, 3) := by decide +kernel
theorem dX11_init_68 : decode cX11_init 68 = .ok (.putfield 41, 3) := by decide +kernel
theorem dX11_init_71 : decode cX11_init 71 = .ok (.aload_n 0, 1) := by decide +kernel
theorem dX11_init_72 : decode cX11_init 72 = .ok (.new 44, 3) := by decide +kernel
theorem dX11_init_75 : decode cX11_init 75 = .ok (.dup, 1) := by decide +kernel
theorem dX11_init_76 : decode cX11_init 76 = .ok (.invokespecial 46, 3) := by decide +kernel
theorem dX11_init_79 : decode cX11_init 79 = .ok (.putfield 47, 3) := by decide +kernel
theorem dX11_init_82 : decode cX11_init 82 = .ok (.aload_n 0, 1) := by decide +kernel
theorem dX11_init_83 : decode cX11_init 83 = .ok (.new 51, 3) := by decide +kernel
theorem dX11_init_86 : decode cX11_init 86 = .ok (.dup, 1) := by decide +kernel
theorem dX11_init_87 : decode cX11_init 87 = .ok (.invokespecial 53, 3) := by decide +kernel
theorem dX11_init_90 : decode cX11_init 90 = .ok (.putfield 54, 3) := by decide +kernel
theorem dX11_init_93 : decode cX11_init 93 = .ok (.aload_n 0, 1) := by decide +kernel
theorem dX11_init_94 : decode cX11_init 94 = .ok (.new 58, 3) := by decide +kernel
theorem dX11_init_97 : decode cX11_init 97 = .ok (.dup, 1) := by decide +kernel
theorem dX11_init_98 : decode cX11_init 98 = .ok (.aload_n 0, 1) := by decide +kernel
theorem dX11_init_99 : decode cX11_init 99 = .ok (.getfield 12, 3) := by decide +kernel
theorem dX11_init_102 : decode cX11_init 102 = .ok (.aload_n 0, 1) := by decide +kernel
theorem dX11_init_103 : decode cX11_init 103 = .ok (.getfield 21, 3) := by decide +kernel
theorem dX11_init_106 : decode cX11_init 106 = .ok (.aload_n 0, 1) := by decide +kernel
theorem dX11_init_107 : decode cX11_init 107 = .ok (.getfield 30, 3) := by decide +kernel
theorem dX11_init_110 : decode cX11_init 110 = .ok (.invokespecial 60, 3) := by decide +kernel
theorem dX11_init_113 : decode cX11_init 113 = .ok (.putfield 63, 3) := by decide +kernel
theorem dX11_init_116 : decode cX11_init 116 = .ok (.aload_n 0, 1) := by decide +kernel
theorem dX11_init_117 : decode cX11_init 117 = .ok (.new 67, 3) := by decide +kernel
theorem dX11_init_120 : decode cX11_init 120 = .ok (.dup, 1) := by decide +kernel
theorem dX11_init_121 : decode cX11_init 121 = .ok (.aload_n 0, 1) := by decide +kernel
theorem dX11_init_122 : decode cX11_init 122 = .ok (.getfield 30, 3) := by decide +kernel
theorem dX11_init_125 : decode cX11_init 125 = .ok (.aload_n 0, 1) := by decide +kernel
theorem dX11_init_126 : decode cX11_init 126 = .ok (.getfield 63, 3) := by decide +kernel
theorem dX11_init_129 : decode cX11_init 129 = .ok (.invokespecial 69, 3) := by decide +kernel
theorem dX11_init_132 : decode cX11_init 132 = .ok (.putfield 72, 3) := by decide +kernel
theorem dX11_init_135 : decode cX11_init 135 = .ok (.aload_n 0, 1) := by decide +kernel
theorem dX11_init_136 : decode cX11_init 136 = .ok (.new 76, 3) := by decide +kernel
theorem dX11_init_139 : decode cX11_init 139 = .ok (.dup, 1) := by decide +kernel
theorem dX11_init_140 : decode cX11_init 140 = .ok (.aload_n 0, 1) := by decide +kernel
theorem dX11_init_141 : decode cX11_init 141 = .ok (.getfield 12, 3) := by decide +kernel
theorem dX11_init_144 : decode cX11_init 144 = .ok (.aload_n 0, 1) := by decide +kernel
theorem dX11_init_145 : decode cX11_init 145 = .ok (.getfield 30, 3) := by decide +kernel
theorem dX11_init_148 : decode cX11_init 148 = .ok (.invokespecial 78, 3) := by decide +kernel
theorem dX11_init_151 : decode cX11_init 151 = .ok (.putfield 81, 3) := by decide +kernel
theorem dX11_init_154 : decode cX11_init 154 = .ok (.aload_n 0, 1) := by decide +kernel
theorem dX11_init_155 : decode cX11_init 155 = .ok (.iconst 4, 1) := by decide +kernel
theorem dX11_init_156 : decode cX11_init 156 = .ok (.anewarray 85, 3) := by decide +kernel
theorem dX11_init_159 : decode cX11_init 159 = .ok (.putfield 87, 3) := by decide +kernel
theorem dX11_init_162 : decode cX11_init 162 = .ok (.aload_n 0, 1) := by decide +kernel
theorem dX11_init_163 : decode cX11_init 163 = .ok (.iconst 3, 1) := by decide +kernel
theorem dX11_init_164 : decode cX11_init 164 = .ok (.anewarray 91, 3) := by decide +kernel
theorem dX11_init_167 : decode cX11_init 167 = .ok (.putfield 93, 3) := by decide +kernel
theorem dX11_init_170 : decode cX11_init 170 = .ok (.iconst 0, 1) := by decide +kernel
theorem dX11_init_171 : decode cX11_init 171 = .ok (.istore_n 1, 1) := by decide +kernel
theorem dX11_init_172 : decode cX11_init 172 = .ok (.iload_n 1, 1) := by decide +kernel
theorem dX11_init_173 : decode cX11_init 173 = .ok (.iconst 4, 1) := by decide +kernel
theorem dX11_init_174 : decode cX11_init 174 = .ok (.if_icmp .ge 22, 3) := by decide +kernel
theorem dX11_init_177 : decode cX11_init 177 = .ok (.aload_n 0, 1) := by decide +kernel
theorem dX11_init_178 : decode cX11_init 178 = .ok (.getfield 87, 3) := by decide +kernel
theorem dX11_init_181 : decode cX11_init 181 = .ok (.iload_n 1, 1) := by decide +kernel
theorem dX11_init_182 : decode cX11_init 182 = .ok (.new 85, 3) := by decide +kernel
theorem dX11_init_185 : decode cX11_init 185 = .ok (.dup, 1) := by decide +kernel
theorem dX11_init_186 : decode cX11_init 186 = .ok (.invokespecial 97, 3) := by decide +kernel
theorem dX11_init_189 : decode cX11_init 189 = .ok (.aastore, 1) := by decide +kernel
theorem dX11_init_190 : decode cX11_init 190 = .ok (.iinc 1 1, 3) := by decide +kernel
theorem dX11_init_193 : decode cX11_init 193 = .ok (.goto (-21), 3) := by decide +kernel
theorem dX11_init_196 : decode cX11_init 196 = .ok (.iconst 0, 1) := by decide +kernel
theorem dX11_init_197 : decode cX11_init 197 = .ok (.istore_n 1, 1) := by decide +kernel
theorem dX11_init_198 : decode cX11_init 198 = .ok (.iload_n 1, 1) := by decide +kernel
theorem dX11_init_199 : decode cX11_init 199 = .ok (.iconst 3, 1) := by decide +kernel
theorem dX11_init_200 : decode cX11_init 200 = .ok (.if_icmp .ge 22, 3) := by decide +kernel
theorem dX11_init_203 : decode cX11_init 203 = .ok (.aload_n 0, 1) := by decide +kernel
theorem dX11_init_204 : decode cX11_init 204 = .ok (.getfield 93, 3) := by decide +kernel
theorem dX11_init_207 : decode cX11_init 207 = .ok (.iload_n 1, 1) := by decide +kernel
theorem dX11_init_208 : decode cX11_init 208 = .ok (.new 91, 3) := by decide +kernel
theorem dX11_init_211 : decode cX11_init 211 = .ok (.dup, 1) := by decide +kernel
theorem dX11_init_212 : decode cX11_init 212 = .ok (.invokespecial 98, 3) := by decide +kernel
theorem dX11_init_215 : decode cX11_init 215 = .ok (.aastore, 1) := by decide +kernel
theorem dX11_init_216 : decode cX11_init 216 = .ok (.iinc 1 1, 3) := by decide +kernel
theorem dX11_init_219 : decode cX11_init 219 = .ok (.goto (-21), 3) := by decide +kernel
theorem dX11_init_222 : decode cX11_init 222 = .ok (.return_, 1) := by decide +kernel
theorem dX11_feed_0 : decode cX11_feed 0 = .ok (.aload_n 0, 1) := by decide +kernel
theorem dX11_feed_1 : decode cX11_feed 1 = .ok (.getfield 54, 3) := by decide +kernel
theorem dX11_feed_4 : decode cX11_feed 4 = .ok (.getfield 99, 3) := by decide +kernel
theorem dX11_feed_7 : decode cX11_feed 7 = .ok (.bipush 20, 2) := by decide +kernel
theorem dX11_feed_9 : decode cX11_feed 9 = .ok (.iadd, 1) := by decide +kernel
theorem dX11_feed_10 : decode cX11_feed 10 = .ok (.sipush 500, 3) := by decide +kernel
theorem dX11_feed_13 : decode cX11_feed 13 = .ok (.if_icmp .le 5, 3) := by decide +kernel
theorem dX11_feed_16 : decode cX11_feed 16 = .ok (.iconst (-1), 1) := by decide +kernel
theorem dX11_feed_17 : decode cX11_feed 17 = .ok (.ireturn, 1) := by decide +kernel
theorem dX11_feed_18 : decode cX11_feed 18 = .ok (.aload_n 0, 1) := by decide +kernel
theorem dX11_feed_19 : decode cX11_feed 19 = .ok (.getfield 54, 3) := by decide +kernel
theorem dX11_feed_22 : decode cX11_feed 22 = .ok (.iload_n 1, 1) := by decide +kernel
theorem dX11_feed_23 : decode cX11_feed 23 = .ok (.invokevirtual 103, 3) := by decide +kernel
theorem dX11_feed_26 : decode cX11_feed 26 = .ok (.aload_n 0, 1) := by decide +kernel
theorem dX11_feed_27 : decode cX11_feed 27 = .ok (.getfield 54, 3) := by decide +kernel
theorem dX11_feed_30 : decode cX11_feed 30 = .ok (.iload_n 2, 1) := by decide +kernel
theorem dX11_feed_31 : decode cX11_feed 31 = .ok (.invokevirtual 103, 3) := by decide +kernel
theorem dX11_feed_34 : decode cX11_feed 34 = .ok (.aload_n 0, 1) := by decide +kernel
theorem dX11_feed_35 : decode cX11_feed 35 = .ok (.getfield 54, 3) := by decide +kernel
theorem dX11_feed_38 : decode cX11_feed 38 = .ok (.iload_n 3, 1) := by decide +kernel
theorem dX11_feed_39 : decode cX11_feed 39 = .ok (.invokevirtual 103, 3) := by decide +kernel
theorem dX11_feed_42 : decode cX11_feed 42 = .ok (.aload_n 0, 1) := by decide +kernel
theorem dX11_feed_43 : decode cX11_feed 43 = .ok (.getfield 54, 3) := by decide +kernel
theorem dX11_feed_46 : decode cX11_feed 46 = .ok (.iload 4, 2) := by decide +kernel
theorem dX11_feed_48 : decode cX11_feed 48 = .ok (.invokevirtual 103, 3) := by decide +kernel
theorem dX11_feed_51 : decode cX11_feed 51 = .ok (.aload_n 0, 1) := by decide +kernel
theorem dX11_feed_52 : decode cX11_feed 52 = .ok (.getfield 54, 3) := by decide +kernel
theorem dX11_feed_55 : decode cX11_feed 55 = .ok (.iload 5, 2) := by decide +kernel
theorem dX11_feed_57 : decode cX11_feed 57 = .ok (.invokevirtual 103, 3) := by decide +kernel
theorem dX11_feed_60 : decode cX11_feed 60 = .ok (.aload_n 0, 1) := by decide +kernel
theorem dX11_feed_61 : decode cX11_feed 61 = .ok (.getfield 54, 3) := by decide +kernel
theorem dX11_feed_64 : decode cX11_feed 64 = .ok (.getfield 99, 3) := by decide +kernel
theorem dX11_feed_67 : decode cX11_feed 67 = .ok (.ireturn, 1) := by decide +kernel
theorem dX11_board_0 : decode cX11_board 0 = .ok (.iload_n 1, 1) := by decide +kernel
theorem dX11_board_1 : decode cX11_board 1 = .ok (.ifCond .lt 14, 3) := by decide +kernel
theorem dX11_board_4 : decode cX11_board 4 = .ok (.iload_n 1, 1) := by decide +kernel
theorem dX11_board_5 : decode cX11_board 5 = .ok (.aload_n 0, 1) := by decide +kernel
theorem dX11_board_6 : decode cX11_board 6 = .ok (.getfield 54, 3) := by decide +kernel
theorem dX11_board_9 : decode cX11_board 9 = .ok (.getfield 99, 3) := by decide +kernel
theorem dX11_board_12 : decode cX11_board 12 = .ok (.if_icmp .le 13, 3) := by decide +kernel
theorem dX11_board_15 : decode cX11_board 15 = .ok (.new 107, 3) := by decide +kernel
theorem dX11_board_18 : decode cX11_board 18 = .ok (.dup, 1) := by decide +kernel
theorem dX11_board_19 : decode cX11_board 19 = .ok (.ldc 109, 2) := by decide +kernel
theorem dX11_board_21 : decode cX11_board 21 = .ok (.invokespecial 111, 3) := by decide +kernel
theorem dX11_board_24 : decode cX11_board 24 = .ok (.athrow, 1) := by decide +kernel
theorem dX11_board_25 : decode cX11_board 25 = .ok (.aload_n 0, 1) := by decide +kernel
theorem dX11_board_26 : decode cX11_board 26 = .ok (.getfield 54, 3) := by decide +kernel
theorem dX11_board_29 : decode cX11_board 29 = .ok (.iload_n 1, 1) := by decide +kernel
theorem dX11_board_30 : decode cX11_board 30 = .ok (.invokevirtual 114, 3) := by decide +kernel
theorem dX11_board_33 : decode cX11_board 33 = .ok (.aload_n 0, 1) := by decide +kernel
theorem dX11_board_34 : decode cX11_board 34 = .ok (.getfield 54, 3) := by decide +kernel
theorem dX11_board_37 : decode cX11_board 37 = .ok (.iconst 0, 1) := by decide +kernel
theorem dX11_board_38 : decode cX11_board 38 = .ok (.putfield 99, 3) := by decide +kernel
theorem dX11_board_41 : decode cX11_board 41 = .ok (.aload_n 0, 1) := by decide +kernel
theorem dX11_board_42 : decode cX11_board 42 = .ok (.getfield 54, 3) := by decide +kernel
theorem dX11_board_45 : decode cX11_board 45 = .ok (.getfield 117, 3) := by decide +kernel
theorem dX11_board_48 : decode cX11_board 48 = .ok (.ifCond .eq 14, 3) := by decide +kernel
theorem dX11_board_51 : decode cX11_board 51 = .ok (.bipush (-10), 2) := by decide +kernel
theorem dX11_board_53 : decode cX11_board 53 = .ok (.aload_n 0, 1) := by decide +kernel
theorem dX11_board_54 : decode cX11_board 54 = .ok (.getfield 54, 3) := by decide +kernel
theorem dX11_board_57 : decode cX11_board 57 = .ok (.getfield 117, 3) := by decide +kernel
theorem dX11_board_60 : decode cX11_board 60 = .ok (.isub, 1) := by decide +kernel
theorem dX11_board_61 : decode cX11_board 61 = .ok (.ireturn, 1) := by decide +kernel
theorem dX11_board_62 : decode cX11_board 62 = .ok (.aload_n 0, 1) := by decide +kernel
theorem dX11_board_63 : decode cX11_board 63 = .ok (.aload_n 0, 1) := by decide +kernel
theorem dX11_board_64 : decode cX11_board 64 = .ok (.getfield 54, 3) := by decide +kernel
theorem dX11_board_67 : decode cX11_board 67 = .ok (.getfield 120, 3) := by decide +kernel
theorem dX11_board_70 : decode cX11_board 70 = .ok (.aload_n 0, 1) := by decide +kernel
theorem dX11_board_71 : decode cX11_board 71 = .ok (.getfield 54, 3) := by decide +kernel
theorem dX11_board_74 : decode cX11_board 74 = .ok (.getfield 121, 3) := by decide +kernel
theorem dX11_board_77 : decode cX11_board 77 = .ok (.invokevirtual 124, 3) := by decide +kernel
theorem dX11_board_80 : decode cX11_board 80 = .ok (.aload_n 0, 1) := by decide +kernel
theorem dX11_board_81 : decode cX11_board 81 = .ok (.getfield 12, 3) := by decide +kernel
theorem dX11_board_84 : decode cX11_board 84 = .ok (.getfield 128, 3) := by decide +kernel
theorem dX11_board_87 : decode cX11_board 87 = .ok (.ireturn, 1) := by decide +kernel
theorem dX11_fault_0 : decode cX11_fault 0 = .ok (.iload_n 1, 1) := by decide +kernel
theorem dX11_fault_1 : decode cX11_fault 1 = .ok (.lookupswitch 43 #[(0, 27), (1, 35)], 27) := by decide +kernel
theorem dX11_fault_28 : decode cX11_fault 28 = .ok (.aload_n 0, 1) := by decide +kernel
theorem dX11_fault_29 : decode cX11_fault 29 = .ok (.getfield 54, 3) := by decide +kernel
theorem dX11_fault_32 : decode cX11_fault 32 = .ok (.getfield 117, 3) := by decide +kernel
theorem dX11_fault_35 : decode cX11_fault 35 = .ok (.ireturn, 1) := by decide +kernel
theorem dX11_fault_36 : decode cX11_fault 36 = .ok (.aload_n 0, 1) := by decide +kernel
theorem dX11_fault_37 : decode cX11_fault 37 = .ok (.getfield 54, 3) := by decide +kernel
theorem dX11_fault_40 : decode cX11_fault 40 = .ok (.getfield 131, 3) := by decide +kernel
theorem dX11_fault_43 : decode cX11_fault 43 = .ok (.ireturn, 1) := by decide +kernel
theorem dX11_fault_44 : decode cX11_fault 44 = .ok (.iconst (-1), 1) := by decide +kernel
theorem dX11_fault_45 : decode cX11_fault 45 = .ok (.ireturn, 1) := by decide +kernel
theorem dX11_pit_0 : decode cX11_pit 0 = .ok (.iload_n 1, 1) := by decide +kernel
theorem dX11_pit_1 : decode cX11_pit 1 = .ok (.ifCond .lt 16, 3) := by decide +kernel
theorem dX11_pit_4 : decode cX11_pit 4 = .ok (.iload_n 1, 1) := by decide +kernel
theorem dX11_pit_5 : decode cX11_pit 5 = .ok (.iconst 2, 1) := by decide +kernel
theorem dX11_pit_6 : decode cX11_pit 6 = .ok (.aload_n 0, 1) := by decide +kernel
theorem dX11_pit_7 : decode cX11_pit 7 = .ok (.getfield 12, 3) := by decide +kernel
theorem dX11_pit_10 : decode cX11_pit 10 = .ok (.getfield 134, 3) := by decide +kernel
theorem dX11_pit_13 : decode cX11_pit 13 = .ok (.imul, 1) := by decide +kernel
theorem dX11_pit_14 : decode cX11_pit 14 = .ok (.if_icmp .lt 13, 3) := by decide +kernel
theorem dX11_pit_17 : decode cX11_pit 17 = .ok (.new 137, 3) := by decide +kernel
theorem dX11_pit_20 : decode cX11_pit 20 = .ok (.dup, 1) := by decide +kernel
theorem dX11_pit_21 : decode cX11_pit 21 = .ok (.ldc 139, 2) := by decide +kernel
theorem dX11_pit_23 : decode cX11_pit 23 = .ok (.invokespecial 141, 3) := by decide +kernel
theorem dX11_pit_26 : decode cX11_pit 26 = .ok (.athrow, 1) := by decide +kernel
theorem dX11_pit_27 : decode cX11_pit 27 = .ok (.aload_n 0, 1) := by decide +kernel
theorem dX11_pit_28 : decode cX11_pit 28 = .ok (.aload_n 0, 1) := by decide +kernel
theorem dX11_pit_29 : decode cX11_pit 29 = .ok (.getfield 37, 3) := by decide +kernel
theorem dX11_pit_32 : decode cX11_pit 32 = .ok (.iload_n 1, 1) := by decide +kernel
theorem dX11_pit_33 : decode cX11_pit 33 = .ok (.invokevirtual 142, 3) := by decide +kernel
theorem dX11_pit_36 : decode cX11_pit 36 = .ok (.ireturn, 1) := by decide +kernel
theorem dX11_store_0 : decode cX11_store 0 = .ok (.iload_n 1, 1) := by decide +kernel
theorem dX11_store_1 : decode cX11_store 1 = .ok (.invokestatic 146, 3) := by decide +kernel
theorem dX11_store_4 : decode cX11_store 4 = .ok (.aload_n 0, 1) := by decide +kernel
theorem dX11_store_5 : decode cX11_store 5 = .ok (.getfield 37, 3) := by decide +kernel
theorem dX11_store_8 : decode cX11_store 8 = .ok (.getfield 149, 3) := by decide +kernel
theorem dX11_store_11 : decode cX11_store 11 = .ok (.bipush 12, 2) := by decide +kernel
theorem dX11_store_13 : decode cX11_store 13 = .ok (.iload_n 1, 1) := by decide +kernel
theorem dX11_store_14 : decode cX11_store 14 = .ok (.iadd, 1) := by decide +kernel
theorem dX11_store_15 : decode cX11_store 15 = .ok (.iaload, 1) := by decide +kernel
theorem dX11_store_16 : decode cX11_store 16 = .ok (.ireturn, 1) := by decide +kernel
theorem dX11_mover_0 : decode cX11_mover 0 = .ok (.aload_n 0, 1) := by decide +kernel
theorem dX11_mover_1 : decode cX11_mover 1 = .ok (.getfield 37, 3) := by decide +kernel
theorem dX11_mover_4 : decode cX11_mover 4 = .ok (.getfield 153, 3) := by decide +kernel
theorem dX11_mover_7 : decode cX11_mover 7 = .ok (.ireturn, 1) := by decide +kernel
theorem dX11_may_0 : decode cX11_may 0 = .ok (.aload_n 0, 1) := by decide +kernel
theorem dX11_may_1 : decode cX11_may 1 = .ok (.getfield 30, 3) := by decide +kernel
theorem dX11_may_4 : decode cX11_may 4 = .ok (.aload_n 0, 1) := by decide +kernel
theorem dX11_may_5 : decode cX11_may 5 = .ok (.getfield 37, 3) := by decide +kernel
theorem dX11_may_8 : decode cX11_may 8 = .ok (.iload_n 1, 1) := by decide +kernel
theorem dX11_may_9 : decode cX11_may 9 = .ok (.i2l, 1) := by decide +kernel
theorem dX11_may_10 : decode cX11_may 10 = .ok (.invokevirtual 156, 3) := by decide +kernel
theorem dX11_may_13 : decode cX11_may 13 = .ok (.ireturn, 1) := by decide +kernel
theorem dX11_move_0 : decode cX11_move 0 = .ok (.aload_n 0, 1) := by decide +kernel
theorem dX11_move_1 : decode cX11_move 1 = .ok (.getfield 30, 3) := by decide +kernel
theorem dX11_move_4 : decode cX11_move 4 = .ok (.aload_n 0, 1) := by decide +kernel
theorem dX11_move_5 : decode cX11_move 5 = .ok (.getfield 37, 3) := by decide +kernel
theorem dX11_move_8 : decode cX11_move 8 = .ok (.iload_n 1, 1) := by decide +kernel
theorem dX11_move_9 : decode cX11_move 9 = .ok (.i2l, 1) := by decide +kernel
theorem dX11_move_10 : decode cX11_move 10 = .ok (.invokevirtual 156, 3) := by decide +kernel
theorem dX11_move_13 : decode cX11_move 13 = .ok (.istore_n 2, 1) := by decide +kernel
theorem dX11_move_14 : decode cX11_move 14 = .ok (.iload_n 2, 1) := by decide +kernel
theorem dX11_move_15 : decode cX11_move 15 = .ok (.ifCond .eq 6, 3) := by decide +kernel
theorem dX11_move_18 : decode cX11_move 18 = .ok (.iload_n 2, 1) := by decide +kernel
theorem dX11_move_19 : decode cX11_move 19 = .ok (.ineg, 1) := by decide +kernel
theorem dX11_move_20 : decode cX11_move 20 = .ok (.ireturn, 1) := by decide +kernel
theorem dX11_move_21 : decode cX11_move 21 = .ok (.aload_n 0, 1) := by decide +kernel
theorem dX11_move_22 : decode cX11_move 22 = .ok (.getfield 47, 3) := by decide +kernel
theorem dX11_move_25 : decode cX11_move 25 = .ok (.aload_n 0, 1) := by decide +kernel
theorem dX11_move_26 : decode cX11_move 26 = .ok (.getfield 37, 3) := by decide +kernel
theorem dX11_move_29 : decode cX11_move 29 = .ok (.iload_n 1, 1) := by decide +kernel
theorem dX11_move_30 : decode cX11_move 30 = .ok (.invokevirtual 160, 3) := by decide +kernel
theorem dX11_move_33 : decode cX11_move 33 = .ok (.aload_n 0, 1) := by decide +kernel
theorem dX11_move_34 : decode cX11_move 34 = .ok (.getfield 30, 3) := by decide +kernel
theorem dX11_move_37 : decode cX11_move 37 = .ok (.aload_n 0, 1) := by decide +kernel
theorem dX11_move_38 : decode cX11_move 38 = .ok (.getfield 37, 3) := by decide +kernel
theorem dX11_move_41 : decode cX11_move 41 = .ok (.iload_n 1, 1) := by decide +kernel
theorem dX11_move_42 : decode cX11_move 42 = .ok (.invokevirtual 164, 3) := by decide +kernel
theorem dX11_move_45 : decode cX11_move 45 = .ok (.pop, 1) := by decide +kernel
theorem dX11_move_46 : decode cX11_move 46 = .ok (.aload_n 0, 1) := by decide +kernel
theorem dX11_move_47 : decode cX11_move 47 = .ok (.getfield 30, 3) := by decide +kernel
theorem dX11_move_50 : decode cX11_move 50 = .ok (.getfield 168, 3) := by decide +kernel
theorem dX11_move_53 : decode cX11_move 53 = .ok (.ireturn, 1) := by decide +kernel
theorem dX11_sown_0 : decode cX11_sown 0 = .ok (.aload_n 0, 1) := by decide +kernel
theorem dX11_sown_1 : decode cX11_sown 1 = .ok (.getfield 30, 3) := by decide +kernel
theorem dX11_sown_4 : decode cX11_sown 4 = .ok (.aload_n 0, 1) := by decide +kernel
theorem dX11_sown_5 : decode cX11_sown 5 = .ok (.getfield 37, 3) := by decide +kernel
theorem dX11_sown_8 : decode cX11_sown 8 = .ok (.iload_n 1, 1) := by decide +kernel
theorem dX11_sown_9 : decode cX11_sown 9 = .ok (.i2l, 1) := by decide +kernel
theorem dX11_sown_10 : decode cX11_sown 10 = .ok (.invokevirtual 171, 3) := by decide +kernel
theorem dX11_sown_13 : decode cX11_sown 13 = .ok (.ifCond .eq 15, 3) := by decide +kernel
theorem dX11_sown_16 : decode cX11_sown 16 = .ok (.aload_n 0, 1) := by decide +kernel
theorem dX11_sown_17 : decode cX11_sown 17 = .ok (.getfield 37, 3) := by decide +kernel
theorem dX11_sown_20 : decode cX11_sown 20 = .ok (.getfield 149, 3) := by decide +kernel
theorem dX11_sown_23 : decode cX11_sown 23 = .ok (.iload_n 1, 1) := by decide +kernel
theorem dX11_sown_24 : decode cX11_sown 24 = .ok (.iaload, 1) := by decide +kernel
theorem dX11_sown_25 : decode cX11_sown 25 = .ok (.ifCond .ne 13, 3) := by decide +kernel
theorem dX11_sown_28 : decode cX11_sown 28 = .ok (.new 137, 3) := by decide +kernel
theorem dX11_sown_31 : decode cX11_sown 31 = .ok (.dup, 1) := by decide +kernel
theorem dX11_sown_32 : decode cX11_sown 32 = .ok (.ldc 175, 2) := by decide +kernel
theorem dX11_sown_34 : decode cX11_sown 34 = .ok (.invokespecial 141, 3) := by decide +kernel
theorem dX11_sown_37 : decode cX11_sown 37 = .ok (.athrow, 1) := by decide +kernel
theorem dX11_sown_38 : decode cX11_sown 38 = .ok (.aload_n 0, 1) := by decide +kernel
theorem dX11_sown_39 : decode cX11_sown 39 = .ok (.getfield 41, 3) := by decide +kernel
theorem dX11_sown_42 : decode cX11_sown 42 = .ok (.aload_n 0, 1) := by decide +kernel
theorem dX11_sown_43 : decode cX11_sown 43 = .ok (.getfield 37, 3) := by decide +kernel
theorem dX11_sown_46 : decode cX11_sown 46 = .ok (.invokevirtual 177, 3) := by decide +kernel
theorem dX11_sown_49 : decode cX11_sown 49 = .ok (.aload_n 0, 1) := by decide +kernel
theorem dX11_sown_50 : decode cX11_sown 50 = .ok (.getfield 30, 3) := by decide +kernel
theorem dX11_sown_53 : decode cX11_sown 53 = .ok (.aload_n 0, 1) := by decide +kernel
theorem dX11_sown_54 : decode cX11_sown 54 = .ok (.getfield 41, 3) := by decide +kernel
theorem dX11_sown_57 : decode cX11_sown 57 = .ok (.iload_n 1, 1) := by decide +kernel
theorem dX11_sown_58 : decode cX11_sown 58 = .ok (.invokevirtual 164, 3) := by decide +kernel
theorem dX11_sown_61 : decode cX11_sown 61 = .ok (.ifCond .ne 13, 3) := by decide +kernel
theorem dX11_sown_64 : decode cX11_sown 64 = .ok (.new 181, 3) := by decide +kernel
theorem dX11_sown_67 : decode cX11_sown 67 = .ok (.dup, 1) := by decide +kernel
theorem dX11_sown_68 : decode cX11_sown 68 = .ok (.ldc 183, 2) := by decide +kernel
theorem dX11_sown_70 : decode cX11_sown 70 = .ok (.invokespecial 185, 3) := by decide +kernel
theorem dX11_sown_73 : decode cX11_sown 73 = .ok (.athrow, 1) := by decide +kernel
theorem dX11_sown_74 : decode cX11_sown 74 = .ok (.iload_n 2, 1) := by decide +kernel
theorem dX11_sown_75 : decode cX11_sown 75 = .ok (.tableswitch 77 0 3 #[29, 53, 61, 69], 29) := by decide +kernel
theorem dX11_sown_104 : decode cX11_sown 104 = .ok (.aload_n 0, 1) := by decide +kernel
theorem dX11_sown_105 : decode cX11_sown 105 = .ok (.getfield 30, 3) := by decide +kernel
theorem dX11_sown_108 : decode cX11_sown 108 = .ok (.getfield 186, 3) := by decide +kernel
theorem dX11_sown_111 : decode cX11_sown 111 = .ok (.bipush 12, 2) := by decide +kernel
theorem dX11_sown_113 : decode cX11_sown 113 = .ok (.if_icmp .ge 13, 3) := by decide +kernel
theorem dX11_sown_116 : decode cX11_sown 116 = .ok (.aload_n 0, 1) := by decide +kernel
theorem dX11_sown_117 : decode cX11_sown 117 = .ok (.getfield 30, 3) := by decide +kernel
theorem dX11_sown_120 : decode cX11_sown 120 = .ok (.getfield 186, 3) := by decide +kernel
theorem dX11_sown_123 : decode cX11_sown 123 = .ok (.goto 4, 3) := by decide +kernel
theorem dX11_sown_126 : decode cX11_sown 126 = .ok (.iconst (-1), 1) := by decide +kernel
theorem dX11_sown_127 : decode cX11_sown 127 = .ok (.ireturn, 1) := by decide +kernel
theorem dX11_sown_128 : decode cX11_sown 128 = .ok (.aload_n 0, 1) := by decide +kernel
theorem dX11_sown_129 : decode cX11_sown 129 = .ok (.getfield 30, 3) := by decide +kernel
theorem dX11_sown_132 : decode cX11_sown 132 = .ok (.getfield 189, 3) := by decide +kernel
theorem dX11_sown_135 : decode cX11_sown 135 = .ok (.ireturn, 1) := by decide +kernel
theorem dX11_sown_136 : decode cX11_sown 136 = .ok (.aload_n 0, 1) := by decide +kernel
theorem dX11_sown_137 : decode cX11_sown 137 = .ok (.getfield 30, 3) := by decide +kernel
theorem dX11_sown_140 : decode cX11_sown 140 = .ok (.getfield 192, 3) := by decide +kernel
theorem dX11_sown_143 : decode cX11_sown 143 = .ok (.ireturn, 1) := by decide +kernel
theorem dX11_sown_144 : decode cX11_sown 144 = .ok (.aload_n 0, 1) := by decide +kernel
theorem dX11_sown_145 : decode cX11_sown 145 = .ok (.getfield 41, 3) := by decide +kernel
theorem dX11_sown_148 : decode cX11_sown 148 = .ok (.getfield 153, 3) := by decide +kernel
theorem dX11_sown_151 : decode cX11_sown 151 = .ok (.ireturn, 1) := by decide +kernel
theorem dX11_sown_152 : decode cX11_sown 152 = .ok (.new 107, 3) := by decide +kernel
theorem dX11_sown_155 : decode cX11_sown 155 = .ok (.dup, 1) := by decide +kernel
theorem dX11_sown_156 : decode cX11_sown 156 = .ok (.ldc 195, 2) := by decide +kernel
theorem dX11_sown_158 : decode cX11_sown 158 = .ok (.invokespecial 111, 3) := by decide +kernel
theorem dX11_sown_161 : decode cX11_sown 161 = .ok (.athrow, 1) := by decide +kernel
theorem dX11_undo_0 : decode cX11_undo 0 = .ok (.aload_n 0, 1) := by decide +kernel
theorem dX11_undo_1 : decode cX11_undo 1 = .ok (.getfield 47, 3) := by decide +kernel
theorem dX11_undo_4 : decode cX11_undo 4 = .ok (.getfield 197, 3) := by decide +kernel
theorem dX11_undo_7 : decode cX11_undo 7 = .ok (.ifCond .ne 5, 3) := by decide +kernel
theorem dX11_undo_10 : decode cX11_undo 10 = .ok (.iconst 0, 1) := by decide +kernel
theorem dX11_undo_11 : decode cX11_undo 11 = .ok (.ireturn, 1) := by decide +kernel
theorem dX11_undo_12 : decode cX11_undo 12 = .ok (.aload_n 0, 1) := by decide +kernel
theorem dX11_undo_13 : decode cX11_undo 13 = .ok (.getfield 47, 3) := by decide +kernel
theorem dX11_undo_16 : decode cX11_undo 16 = .ok (.aload_n 0, 1) := by decide +kernel
theorem dX11_undo_17 : decode cX11_undo 17 = .ok (.getfield 37, 3) := by decide +kernel
theorem dX11_undo_20 : decode cX11_undo 20 = .ok (.invokevirtual 200, 3) := by decide +kernel
theorem dX11_undo_23 : decode cX11_undo 23 = .ok (.iconst 1, 1) := by decide +kernel
theorem dX11_undo_24 : decode cX11_undo 24 = .ok (.ireturn, 1) := by decide +kernel
theorem dX11_redo_0 : decode cX11_redo 0 = .ok (.aload_n 0, 1) := by decide +kernel
theorem dX11_redo_1 : decode cX11_redo 1 = .ok (.getfield 47, 3) := by decide +kernel
theorem dX11_redo_4 : decode cX11_redo 4 = .ok (.getfield 203, 3) := by decide +kernel
theorem dX11_redo_7 : decode cX11_redo 7 = .ok (.ifCond .ne 5, 3) := by decide +kernel
theorem dX11_redo_10 : decode cX11_redo 10 = .ok (.iconst 0, 1) := by decide +kernel
theorem dX11_redo_11 : decode cX11_redo 11 = .ok (.ireturn, 1) := by decide +kernel
theorem dX11_redo_12 : decode cX11_redo 12 = .ok (.aload_n 0, 1) := by decide +kernel
theorem dX11_redo_13 : decode cX11_redo 13 = .ok (.getfield 30, 3) := by decide +kernel
theorem dX11_redo_16 : decode cX11_redo 16 = .ok (.aload_n 0, 1) := by decide +kernel
theorem dX11_redo_17 : decode cX11_redo 17 = .ok (.getfield 37, 3) := by decide +kernel
theorem dX11_redo_20 : decode cX11_redo 20 = .ok (.aload_n 0, 1) := by decide +kernel
theorem dX11_redo_21 : decode cX11_redo 21 = .ok (.getfield 47, 3) := by decide +kernel
theorem dX11_redo_24 : decode cX11_redo 24 = .ok (.invokevirtual 206, 3) := by decide +kernel
theorem dX11_redo_27 : decode cX11_redo 27 = .ok (.invokevirtual 164, 3) := by decide +kernel
theorem dX11_redo_30 : decode cX11_redo 30 = .ok (.pop, 1) := by decide +kernel
theorem dX11_redo_31 : decode cX11_redo 31 = .ok (.iconst 1, 1) := by decide +kernel
theorem dX11_redo_32 : decode cX11_redo 32 = .ok (.ireturn, 1) := by decide +kernel
theorem dX11_over_0 : decode cX11_over 0 = .ok (.aload_n 0, 1) := by decide +kernel
theorem dX11_over_1 : decode cX11_over 1 = .ok (.getfield 30, 3) := by decide +kernel
theorem dX11_over_4 : decode cX11_over 4 = .ok (.aload_n 0, 1) := by decide +kernel
theorem dX11_over_5 : decode cX11_over 5 = .ok (.getfield 37, 3) := by decide +kernel
theorem dX11_over_8 : decode cX11_over 8 = .ok (.invokevirtual 210, 3) := by decide +kernel
theorem dX11_over_11 : decode cX11_over 11 = .ok (.ireturn, 1) := by decide +kernel
theorem dX11_score_0 : decode cX11_score 0 = .ok (.aload_n 0, 1) := by decide +kernel
theorem dX11_score_1 : decode cX11_score 1 = .ok (.getfield 30, 3) := by decide +kernel
theorem dX11_score_4 : decode cX11_score 4 = .ok (.aload_n 0, 1) := by decide +kernel
theorem dX11_score_5 : decode cX11_score 5 = .ok (.getfield 37, 3) := by decide +kernel
theorem dX11_score_8 : decode cX11_score 8 = .ok (.invokevirtual 214, 3) := by decide +kernel
theorem dX11_score_11 : decode cX11_score 11 = .ok (.ireturn, 1) := by decide +kernel
theorem dX11_judge_0 : decode cX11_judge 0 = .ok (.aload_n 0, 1) := by decide +kernel
theorem dX11_judge_1 : decode cX11_judge 1 = .ok (.iload_n 1, 1) := by decide +kernel
theorem dX11_judge_2 : decode cX11_judge 2 = .ok (.invokevirtual 218, 3) := by decide +kernel
theorem dX11_judge_5 : decode cX11_judge 5 = .ok (.astore_n 3, 1) := by decide +kernel
theorem dX11_judge_6 : decode cX11_judge 6 = .ok (.iload_n 2, 1) := by decide +kernel
theorem dX11_judge_7 : decode cX11_judge 7 = .ok (.ifCond .lt 8, 3) := by decide +kernel
theorem dX11_judge_10 : decode cX11_judge 10 = .ok (.iload_n 2, 1) := by decide +kernel
theorem dX11_judge_11 : decode cX11_judge 11 = .ok (.iconst 3, 1) := by decide +kernel
theorem dX11_judge_12 : decode cX11_judge 12 = .ok (.if_icmp .le 13, 3) := by decide +kernel
theorem dX11_judge_15 : decode cX11_judge 15 = .ok (.new 107, 3) := by decide +kernel
theorem dX11_judge_18 : decode cX11_judge 18 = .ok (.dup, 1) := by decide +kernel
theorem dX11_judge_19 : decode cX11_judge 19 = .ok (.ldc 195, 2) := by decide +kernel
theorem dX11_judge_21 : decode cX11_judge 21 = .ok (.invokespecial 111, 3) := by decide +kernel
theorem dX11_judge_24 : decode cX11_judge 24 = .ok (.athrow, 1) := by decide +kernel
theorem dX11_judge_25 : decode cX11_judge 25 = .ok (.aload_n 0, 1) := by decide +kernel
theorem dX11_judge_26 : decode cX11_judge 26 = .ok (.getfield 41, 3) := by decide +kernel
theorem dX11_judge_29 : decode cX11_judge 29 = .ok (.aload_n 0, 1) := by decide +kernel
theorem dX11_judge_30 : decode cX11_judge 30 = .ok (.getfield 37, 3) := by decide +kernel
theorem dX11_judge_33 : decode cX11_judge 33 = .ok (.invokevirtual 177, 3) := by decide +kernel
theorem dX11_judge_36 : decode cX11_judge 36 = .ok (.iconst (-1), 1) := by decide +kernel
theorem dX11_judge_37 : decode cX11_judge 37 = .ok (.istore 4, 2) := by decide +kernel
theorem dX11_judge_39 : decode cX11_judge 39 = .ok (.iconst 0, 1) := by decide +kernel
theorem dX11_judge_40 : decode cX11_judge 40 = .ok (.istore 5, 2) := by decide +kernel
theorem dX11_judge_42 : decode cX11_judge 42 = .ok (.iconst 0, 1) := by decide +kernel
theorem dX11_judge_43 : decode cX11_judge 43 = .ok (.istore 6, 2) := by decide +kernel
theorem dX11_judge_45 : decode cX11_judge 45 = .ok (.iload 6, 2) := by decide +kernel
theorem dX11_judge_47 : decode cX11_judge 47 = .ok (.aload_n 3, 1) := by decide +kernel
theorem dX11_judge_48 : decode cX11_judge 48 = .ok (.getfield 222, 3) := by decide +kernel
theorem dX11_judge_51 : decode cX11_judge 51 = .ok (.if_icmp .ge 67, 3) := by decide +kernel
theorem dX11_judge_54 : decode cX11_judge 54 = .ok (.iload 4, 2) := by decide +kernel
theorem dX11_judge_56 : decode cX11_judge 56 = .ok (.iconst (-1), 1) := by decide +kernel
theorem dX11_judge_57 : decode cX11_judge 57 = .ok (.if_icmp .ne 61, 3) := by decide +kernel
theorem dX11_judge_60 : decode cX11_judge 60 = .ok (.aload_n 0, 1) := by decide +kernel
theorem dX11_judge_61 : decode cX11_judge 61 = .ok (.getfield 30, 3) := by decide +kernel
theorem dX11_judge_64 : decode cX11_judge 64 = .ok (.aload_n 0, 1) := by decide +kernel
theorem dX11_judge_65 : decode cX11_judge 65 = .ok (.getfield 41, 3) := by decide +kernel
theorem dX11_judge_68 : decode cX11_judge 68 = .ok (.aload_n 3, 1) := by decide +kernel
theorem dX11_judge_69 : decode cX11_judge 69 = .ok (.getfield 225, 3) := by decide +kernel
theorem dX11_judge_72 : decode cX11_judge 72 = .ok (.iload 6, 2) := by decide +kernel
theorem dX11_judge_74 : decode cX11_judge 74 = .ok (.laload, 1) := by decide +kernel
theorem dX11_judge_75 : decode cX11_judge 75 = .ok (.invokevirtual 156, 3) := by decide +kernel
theorem dX11_judge_78 : decode cX11_judge 78 = .ok (.istore 5, 2) := by decide +kernel
theorem dX11_judge_80 : decode cX11_judge 80 = .ok (.iload 5, 2) := by decide +kernel
theorem dX11_judge_82 : decode cX11_judge 82 = .ok (.ifCond .ne 26, 3) := by decide +kernel
theorem dX11_judge_85 : decode cX11_judge 85 = .ok (.aload_n 0, 1) := by decide +kernel
theorem dX11_judge_86 : decode cX11_judge 86 = .ok (.getfield 30, 3) := by decide +kernel
theorem dX11_judge_89 : decode cX11_judge 89 = .ok (.aload_n 0, 1) := by decide +kernel
theorem dX11_judge_90 : decode cX11_judge 90 = .ok (.getfield 41, 3) := by decide +kernel
theorem dX11_judge_93 : decode cX11_judge 93 = .ok (.aload_n 3, 1) := by decide +kernel
theorem dX11_judge_94 : decode cX11_judge 94 = .ok (.getfield 225, 3) := by decide +kernel
theorem dX11_judge_97 : decode cX11_judge 97 = .ok (.iload 6, 2) := by decide +kernel
theorem dX11_judge_99 : decode cX11_judge 99 = .ok (.laload, 1) := by decide +kernel
theorem dX11_judge_100 : decode cX11_judge 100 = .ok (.l2i, 1) := by decide +kernel
theorem dX11_judge_101 : decode cX11_judge 101 = .ok (.invokevirtual 164, 3) := by decide +kernel
theorem dX11_judge_104 : decode cX11_judge 104 = .ok (.pop, 1) := by decide +kernel
theorem dX11_judge_105 : decode cX11_judge 105 = .ok (.goto 7, 3) := by decide +kernel
theorem dX11_judge_108 : decode cX11_judge 108 = .ok (.iload 6, 2) := by decide +kernel
theorem dX11_judge_110 : decode cX11_judge 110 = .ok (.istore 4, 2) := by decide +kernel
theorem dX11_judge_112 : decode cX11_judge 112 = .ok (.iinc 6 1, 3) := by decide +kernel
theorem dX11_judge_115 : decode cX11_judge 115 = .ok (.goto (-70), 3) := by decide +kernel
theorem dX11_judge_118 : decode cX11_judge 118 = .ok (.iload_n 2, 1) := by decide +kernel
theorem dX11_judge_119 : decode cX11_judge 119 = .ok (.tableswitch 43 0 2 #[25, 28, 31], 25) := by decide +kernel
theorem dX11_judge_144 : decode cX11_judge 144 = .ok (.iload 4, 2) := by decide +kernel
theorem dX11_judge_146 : decode cX11_judge 146 = .ok (.ireturn, 1) := by decide +kernel
theorem dX11_judge_147 : decode cX11_judge 147 = .ok (.iload 5, 2) := by decide +kernel
theorem dX11_judge_149 : decode cX11_judge 149 = .ok (.ireturn, 1) := by decide +kernel
theorem dX11_judge_150 : decode cX11_judge 150 = .ok (.aload_n 0, 1) := by decide +kernel
theorem dX11_judge_151 : decode cX11_judge 151 = .ok (.getfield 30, 3) := by decide +kernel
theorem dX11_judge_154 : decode cX11_judge 154 = .ok (.aload_n 0, 1) := by decide +kernel
theorem dX11_judge_155 : decode cX11_judge 155 = .ok (.getfield 41, 3) := by decide +kernel
theorem dX11_judge_158 : decode cX11_judge 158 = .ok (.invokevirtual 214, 3) := by decide +kernel
theorem dX11_judge_161 : decode cX11_judge 161 = .ok (.ireturn, 1) := by decide +kernel
theorem dX11_judge_162 : decode cX11_judge 162 = .ok (.aload_n 0, 1) := by decide +kernel
theorem dX11_judge_163 : decode cX11_judge 163 = .ok (.getfield 41, 3) := by decide +kernel
theorem dX11_judge_166 : decode cX11_judge 166 = .ok (.getfield 153, 3) := by decide +kernel
theorem dX11_judge_169 : decode cX11_judge 169 = .ok (.ireturn, 1) := by decide +kernel
theorem dX11_perform_0 : decode cX11_perform 0 = .ok (.aload_n 0, 1) := by decide +kernel
theorem dX11_perform_1 : decode cX11_perform 1 = .ok (.iload_n 1, 1) := by decide +kernel
theorem dX11_perform_2 : decode cX11_perform 2 = .ok (.invokevirtual 218, 3) := by decide +kernel
theorem dX11_perform_5 : decode cX11_perform 5 = .ok (.astore_n 2, 1) := by decide +kernel
theorem dX11_perform_6 : decode cX11_perform 6 = .ok (.iconst 0, 1) := by decide +kernel
theorem dX11_perform_7 : decode cX11_perform 7 = .ok (.istore_n 3, 1) := by decide +kernel
theorem dX11_perform_8 : decode cX11_perform 8 = .ok (.iload_n 3, 1) := by decide +kernel
theorem dX11_perform_9 : decode cX11_perform 9 = .ok (.aload_n 2, 1) := by decide +kernel
theorem dX11_perform_10 : decode cX11_perform 10 = .ok (.getfield 222, 3) := by decide +kernel
theorem dX11_perform_13 : decode cX11_perform 13 = .ok (.if_icmp .ge 65, 3) := by decide +kernel
theorem dX11_perform_16 : decode cX11_perform 16 = .ok (.aload_n 0, 1) := by decide +kernel
theorem dX11_perform_17 : decode cX11_perform 17 = .ok (.getfield 30, 3) := by decide +kernel
theorem dX11_perform_20 : decode cX11_perform 20 = .ok (.aload_n 0, 1) := by decide +kernel
theorem dX11_perform_21 : decode cX11_perform 21 = .ok (.getfield 37, 3) := by decide +kernel
theorem dX11_perform_24 : decode cX11_perform 24 = .ok (.aload_n 2, 1) := by decide +kernel
theorem dX11_perform_25 : decode cX11_perform 25 = .ok (.getfield 225, 3) := by decide +kernel
theorem dX11_perform_28 : decode cX11_perform 28 = .ok (.iload_n 3, 1) := by decide +kernel
theorem dX11_perform_29 : decode cX11_perform 29 = .ok (.laload, 1) := by decide +kernel
theorem dX11_perform_30 : decode cX11_perform 30 = .ok (.invokevirtual 156, 3) := by decide +kernel
theorem dX11_perform_33 : decode cX11_perform 33 = .ok (.ifCond .ne 45, 3) := by decide +kernel
theorem dX11_perform_36 : decode cX11_perform 36 = .ok (.aload_n 2, 1) := by decide +kernel
theorem dX11_perform_37 : decode cX11_perform 37 = .ok (.getfield 225, 3) := by decide +kernel
theorem dX11_perform_40 : decode cX11_perform 40 = .ok (.iload_n 3, 1) := by decide +kernel
theorem dX11_perform_41 : decode cX11_perform 41 = .ok (.laload, 1) := by decide +kernel
theorem dX11_perform_42 : decode cX11_perform 42 = .ok (.l2i, 1) := by decide +kernel
theorem dX11_perform_43 : decode cX11_perform 43 = .ok (.istore 4, 2) := by decide +kernel
theorem dX11_perform_45 : decode cX11_perform 45 = .ok (.aload_n 0, 1) := by decide +kernel
theorem dX11_perform_46 : decode cX11_perform 46 = .ok (.getfield 47, 3) := by decide +kernel
theorem dX11_perform_49 : decode cX11_perform 49 = .ok (.aload_n 0, 1) := by decide +kernel
theorem dX11_perform_50 : decode cX11_perform 50 = .ok (.getfield 37, 3) := by decide +kernel
theorem dX11_perform_53 : decode cX11_perform 53 = .ok (.iload 4, 2) := by decide +kernel
theorem dX11_perform_55 : decode cX11_perform 55 = .ok (.invokevirtual 160, 3) := by decide +kernel
theorem dX11_perform_58 : decode cX11_perform 58 = .ok (.aload_n 0, 1) := by decide +kernel
theorem dX11_perform_59 : decode cX11_perform 59 = .ok (.getfield 30, 3) := by decide +kernel
theorem dX11_perform_62 : decode cX11_perform 62 = .ok (.aload_n 0, 1) := by decide +kernel
theorem dX11_perform_63 : decode cX11_perform 63 = .ok (.getfield 37, 3) := by decide +kernel
theorem dX11_perform_66 : decode cX11_perform 66 = .ok (.iload 4, 2) := by decide +kernel
theorem dX11_perform_68 : decode cX11_perform 68 = .ok (.invokevirtual 164, 3) := by decide +kernel
theorem dX11_perform_71 : decode cX11_perform 71 = .ok (.pop, 1) := by decide +kernel
theorem dX11_perform_72 : decode cX11_perform 72 = .ok (.iinc 3 1, 3) := by decide +kernel
theorem dX11_perform_75 : decode cX11_perform 75 = .ok (.goto (-67), 3) := by decide +kernel
theorem dX11_perform_78 : decode cX11_perform 78 = .ok (.iload_n 3, 1) := by decide +kernel
theorem dX11_perform_79 : decode cX11_perform 79 = .ok (.ireturn, 1) := by decide +kernel
theorem dX11_positions_0 : decode cX11_positions 0 = .ok (.iload_n 1, 1) := by decide +kernel
theorem dX11_positions_1 : decode cX11_positions 1 = .ok (.invokestatic 146, 3) := by decide +kernel
theorem dX11_positions_4 : decode cX11_positions 4 = .ok (.iload_n 2, 1) := by decide +kernel
theorem dX11_positions_5 : decode cX11_positions 5 = .ok (.invokestatic 229, 3) := by decide +kernel
theorem dX11_positions_8 : decode cX11_positions 8 = .ok (.aload_n 0, 1) := by decide +kernel
theorem dX11_positions_9 : decode cX11_positions 9 = .ok (.getfield 21, 3) := by decide +kernel
theorem dX11_positions_12 : decode cX11_positions 12 = .ok (.iload_n 2, 1) := by decide +kernel
theorem dX11_positions_13 : decode cX11_positions 13 = .ok (.invokevirtual 232, 3) := by decide +kernel
theorem dX11_positions_16 : decode cX11_positions 16 = .ok (.istore_n 3, 1) := by decide +kernel
theorem dX11_positions_17 : decode cX11_positions 17 = .ok (.iload_n 3, 1) := by decide +kernel
theorem dX11_positions_18 : decode cX11_positions 18 = .ok (.sipush 6000, 3) := by decide +kernel
theorem dX11_positions_21 : decode cX11_positions 21 = .ok (.if_icmp .le 9, 3) := by decide +kernel
theorem dX11_positions_24 : decode cX11_positions 24 = .ok (.sipush (-1000), 3) := by decide +kernel
theorem dX11_positions_27 : decode cX11_positions 27 = .ok (.goto 4, 3) := by decide +kernel
theorem dX11_positions_30 : decode cX11_positions 30 = .ok (.iload_n 3, 1) := by decide +kernel
theorem dX11_positions_31 : decode cX11_positions 31 = .ok (.ireturn, 1) := by decide +kernel
theorem dX11_place_0 : decode cX11_place 0 = .ok (.aload_n 0, 1) := by decide +kernel
theorem dX11_place_1 : decode cX11_place 1 = .ok (.getfield 37, 3) := by decide +kernel
theorem dX11_place_4 : decode cX11_place 4 = .ok (.invokevirtual 236, 3) := by decide +kernel
theorem dX11_place_7 : decode cX11_place 7 = .ok (.istore_n 1, 1) := by decide +kernel
theorem dX11_place_8 : decode cX11_place 8 = .ok (.aload_n 0, 1) := by decide +kernel
theorem dX11_place_9 : decode cX11_place 9 = .ok (.getfield 21, 3) := by decide +kernel
theorem dX11_place_12 : decode cX11_place 12 = .ok (.iload_n 1, 1) := by decide +kernel
theorem dX11_place_13 : decode cX11_place 13 = .ok (.invokevirtual 232, 3) := by decide +kernel
theorem dX11_place_16 : decode cX11_place 16 = .ok (.sipush 6000, 3) := by decide +kernel
theorem dX11_place_19 : decode cX11_place 19 = .ok (.if_icmp .le 9, 3) := by decide +kernel
theorem dX11_place_22 : decode cX11_place 22 = .ok (.sipush (-1000), 3) := by decide +kernel
theorem dX11_place_25 : decode cX11_place 25 = .ok (.goto 15, 3) := by decide +kernel
theorem dX11_place_28 : decode cX11_place 28 = .ok (.aload_n 0, 1) := by decide +kernel
theorem dX11_place_29 : decode cX11_place 29 = .ok (.getfield 21, 3) := by decide +kernel
theorem dX11_place_32 : decode cX11_place 32 = .ok (.aload_n 0, 1) := by decide +kernel
theorem dX11_place_33 : decode cX11_place 33 = .ok (.getfield 37, 3) := by decide +kernel
theorem dX11_place_36 : decode cX11_place 36 = .ok (.iload_n 1, 1) := by decide +kernel
theorem dX11_place_37 : decode cX11_place 37 = .ok (.invokevirtual 239, 3) := by decide +kernel
theorem dX11_place_40 : decode cX11_place 40 = .ok (.ireturn, 1) := by decide +kernel
theorem dX11_ofPlace_0 : decode cX11_ofPlace 0 = .ok (.iload_n 1, 1) := by decide +kernel
theorem dX11_ofPlace_1 : decode cX11_ofPlace 1 = .ok (.invokestatic 146, 3) := by decide +kernel
theorem dX11_ofPlace_4 : decode cX11_ofPlace 4 = .ok (.iload_n 2, 1) := by decide +kernel
theorem dX11_ofPlace_5 : decode cX11_ofPlace 5 = .ok (.invokestatic 229, 3) := by decide +kernel
theorem dX11_ofPlace_8 : decode cX11_ofPlace 8 = .ok (.aload_n 0, 1) := by decide +kernel
theorem dX11_ofPlace_9 : decode cX11_ofPlace 9 = .ok (.getfield 21, 3) := by decide +kernel
theorem dX11_ofPlace_12 : decode cX11_ofPlace 12 = .ok (.iload_n 2, 1) := by decide +kernel
theorem dX11_ofPlace_13 : decode cX11_ofPlace 13 = .ok (.invokevirtual 232, 3) := by decide +kernel
theorem dX11_ofPlace_16 : decode cX11_ofPlace 16 = .ok (.istore 5, 2) := by decide +kernel
theorem dX11_ofPlace_18 : decode cX11_ofPlace 18 = .ok (.iload 5, 2) := by decide +kernel
theorem dX11_ofPlace_20 : decode cX11_ofPlace 20 = .ok (.sipush 6000, 3) := by decide +kernel
theorem dX11_ofPlace_23 : decode cX11_ofPlace 23 = .ok (.if_icmp .le 13, 3) := by decide +kernel
theorem dX11_ofPlace_26 : decode cX11_ofPlace 26 = .ok (.new 181, 3) := by decide +kernel
theorem dX11_ofPlace_29 : decode cX11_ofPlace 29 = .ok (.dup, 1) := by decide +kernel
theorem dX11_ofPlace_30 : decode cX11_ofPlace 30 = .ok (.ldc 242, 2) := by decide +kernel
theorem dX11_ofPlace_32 : decode cX11_ofPlace 32 = .ok (.invokespecial 185, 3) := by decide +kernel
theorem dX11_ofPlace_35 : decode cX11_ofPlace 35 = .ok (.athrow, 1) := by decide +kernel
theorem dX11_ofPlace_36 : decode cX11_ofPlace 36 = .ok (.iload_n 3, 1) := by decide +kernel
theorem dX11_ofPlace_37 : decode cX11_ofPlace 37 = .ok (.iload 5, 2) := by decide +kernel
theorem dX11_ofPlace_39 : decode cX11_ofPlace 39 = .ok (.invokestatic 244, 3) := by decide +kernel
theorem dX11_ofPlace_42 : decode cX11_ofPlace 42 = .ok (.iload 4, 2) := by decide +kernel
theorem dX11_ofPlace_44 : decode cX11_ofPlace 44 = .ok (.ifCond .lt 17, 3) := by decide +kernel
theorem dX11_ofPlace_47 : decode cX11_ofPlace 47 = .ok (.iload 4, 2) := by decide +kernel
theorem dX11_ofPlace_49 : decode cX11_ofPlace 49 = .ok (.iconst 2, 1) := by decide +kernel
theorem dX11_ofPlace_50 : decode cX11_ofPlace 50 = .ok (.aload_n 0, 1) := by decide +kernel
theorem dX11_ofPlace_51 : decode cX11_ofPlace 51 = .ok (.getfield 12, 3) := by decide +kernel
theorem dX11_ofPlace_54 : decode cX11_ofPlace 54 = .ok (.getfield 134, 3) := by decide +kernel
theorem dX11_ofPlace_57 : decode cX11_ofPlace 57 = .ok (.imul, 1) := by decide +kernel
theorem dX11_ofPlace_58 : decode cX11_ofPlace 58 = .ok (.if_icmp .lt 13, 3) := by decide +kernel
theorem dX11_ofPlace_61 : decode cX11_ofPlace 61 = .ok (.new 248, 3) := by decide +kernel
theorem dX11_ofPlace_64 : decode cX11_ofPlace 64 = .ok (.dup, 1) := by decide +kernel
theorem dX11_ofPlace_65 : decode cX11_ofPlace 65 = .ok (.ldc 139, 2) := by decide +kernel
theorem dX11_ofPlace_67 : decode cX11_ofPlace 67 = .ok (.invokespecial 250, 3) := by decide +kernel
theorem dX11_ofPlace_70 : decode cX11_ofPlace 70 = .ok (.athrow, 1) := by decide +kernel
theorem dX11_ofPlace_71 : decode cX11_ofPlace 71 = .ok (.aload_n 0, 1) := by decide +kernel
theorem dX11_ofPlace_72 : decode cX11_ofPlace 72 = .ok (.getfield 21, 3) := by decide +kernel
theorem dX11_ofPlace_75 : decode cX11_ofPlace 75 = .ok (.aload_n 0, 1) := by decide +kernel
theorem dX11_ofPlace_76 : decode cX11_ofPlace 76 = .ok (.getfield 41, 3) := by decide +kernel
theorem dX11_ofPlace_79 : decode cX11_ofPlace 79 = .ok (.iload_n 1, 1) := by decide +kernel
theorem dX11_ofPlace_80 : decode cX11_ofPlace 80 = .ok (.iload_n 2, 1) := by decide +kernel
theorem dX11_ofPlace_81 : decode cX11_ofPlace 81 = .ok (.iload_n 3, 1) := by decide +kernel
theorem dX11_ofPlace_82 : decode cX11_ofPlace 82 = .ok (.invokevirtual 251, 3) := by decide +kernel
theorem dX11_ofPlace_85 : decode cX11_ofPlace 85 = .ok (.aload_n 0, 1) := by decide +kernel
theorem dX11_ofPlace_86 : decode cX11_ofPlace 86 = .ok (.aload_n 0, 1) := by decide +kernel
theorem dX11_ofPlace_87 : decode cX11_ofPlace 87 = .ok (.getfield 41, 3) := by decide +kernel
theorem dX11_ofPlace_90 : decode cX11_ofPlace 90 = .ok (.aload_n 0, 1) := by decide +kernel
theorem dX11_ofPlace_91 : decode cX11_ofPlace 91 = .ok (.getfield 21, 3) := by decide +kernel
theorem dX11_ofPlace_94 : decode cX11_ofPlace 94 = .ok (.iload_n 1, 1) := by decide +kernel
theorem dX11_ofPlace_95 : decode cX11_ofPlace 95 = .ok (.iload 4, 2) := by decide +kernel
theorem dX11_ofPlace_97 : decode cX11_ofPlace 97 = .ok (.invokevirtual 255, 3) := by decide +kernel
theorem dX11_ofPlace_100 : decode cX11_ofPlace 100 = .ok (.invokevirtual 142, 3) := by decide +kernel
theorem dX11_ofPlace_103 : decode cX11_ofPlace 103 = .ok (.ireturn, 1) := by decide +kernel
theorem dX11_value_0 : decode cX11_value 0 = .ok (.aload_n 0, 1) := by decide +kernel
theorem dX11_value_1 : decode cX11_value 1 = .ok (.getfield 63, 3) := by decide +kernel
theorem dX11_value_4 : decode cX11_value 4 = .ok (.aload_n 0, 1) := by decide +kernel
theorem dX11_value_5 : decode cX11_value 5 = .ok (.getfield 37, 3) := by decide +kernel
theorem dX11_value_8 : decode cX11_value 8 = .ok (.invokevirtual 236, 3) := by decide +kernel
theorem dX11_value_11 : decode cX11_value 11 = .ok (.invokevirtual 259, 3) := by decide +kernel
theorem dX11_value_14 : decode cX11_value 14 = .ok (.ifCond .eq 17, 3) := by decide +kernel
theorem dX11_value_17 : decode cX11_value 17 = .ok (.aload_n 0, 1) := by decide +kernel
theorem dX11_value_18 : decode cX11_value 18 = .ok (.getfield 63, 3) := by decide +kernel
theorem dX11_value_21 : decode cX11_value 21 = .ok (.aload_n 0, 1) := by decide +kernel
theorem dX11_value_22 : decode cX11_value 22 = .ok (.getfield 37, 3) := by decide +kernel
theorem dX11_value_25 : decode cX11_value 25 = .ok (.invokevirtual 263, 3) := by decide +kernel
theorem dX11_value_28 : decode cX11_value 28 = .ok (.goto 6, 3) := by decide +kernel
theorem dX11_value_31 : decode cX11_value 31 = .ok (.sipush (-1000), 3) := by decide +kernel
theorem dX11_value_34 : decode cX11_value 34 = .ok (.ireturn, 1) := by decide +kernel
theorem dX11_rank_0 : decode cX11_rank 0 = .ok (.aload_n 0, 1) := by decide +kernel
theorem dX11_rank_1 : decode cX11_rank 1 = .ok (.getfield 63, 3) := by decide +kernel
theorem dX11_rank_4 : decode cX11_rank 4 = .ok (.aload_n 0, 1) := by decide +kernel
theorem dX11_rank_5 : decode cX11_rank 5 = .ok (.getfield 37, 3) := by decide +kernel
theorem dX11_rank_8 : decode cX11_rank 8 = .ok (.invokevirtual 236, 3) := by decide +kernel
theorem dX11_rank_11 : decode cX11_rank 11 = .ok (.invokevirtual 259, 3) := by decide +kernel
theorem dX11_rank_14 : decode cX11_rank 14 = .ok (.ifCond .eq 17, 3) := by decide +kernel
theorem dX11_rank_17 : decode cX11_rank 17 = .ok (.aload_n 0, 1) := by decide +kernel
theorem dX11_rank_18 : decode cX11_rank 18 = .ok (.getfield 63, 3) := by decide +kernel
theorem dX11_rank_21 : decode cX11_rank 21 = .ok (.aload_n 0, 1) := by decide +kernel
theorem dX11_rank_22 : decode cX11_rank 22 = .ok (.getfield 37, 3) := by decide +kernel
theorem dX11_rank_25 : decode cX11_rank 25 = .ok (.invokevirtual 266, 3) := by decide +kernel
theorem dX11_rank_28 : decode cX11_rank 28 = .ok (.goto 4, 3) := by decide +kernel
theorem dX11_rank_31 : decode cX11_rank 31 = .ok (.iconst (-1), 1) := by decide +kernel
theorem dX11_rank_32 : decode cX11_rank 32 = .ok (.ireturn, 1) := by decide +kernel
theorem dX11_best_0 : decode cX11_best 0 = .ok (.aload_n 0, 1) := by decide +kernel
theorem dX11_best_1 : decode cX11_best 1 = .ok (.getfield 63, 3) := by decide +kernel
theorem dX11_best_4 : decode cX11_best 4 = .ok (.aload_n 0, 1) := by decide +kernel
theorem dX11_best_5 : decode cX11_best 5 = .ok (.getfield 37, 3) := by decide +kernel
theorem dX11_best_8 : decode cX11_best 8 = .ok (.invokevirtual 236, 3) := by decide +kernel
theorem dX11_best_11 : decode cX11_best 11 = .ok (.invokevirtual 259, 3) := by decide +kernel
theorem dX11_best_14 : decode cX11_best 14 = .ok (.ifCond .eq 17, 3) := by decide +kernel
theorem dX11_best_17 : decode cX11_best 17 = .ok (.aload_n 0, 1) := by decide +kernel
theorem dX11_best_18 : decode cX11_best 18 = .ok (.getfield 63, 3) := by decide +kernel
theorem dX11_best_21 : decode cX11_best 21 = .ok (.aload_n 0, 1) := by decide +kernel
theorem dX11_best_22 : decode cX11_best 22 = .ok (.getfield 37, 3) := by decide +kernel
theorem dX11_best_25 : decode cX11_best 25 = .ok (.invokevirtual 269, 3) := by decide +kernel
theorem dX11_best_28 : decode cX11_best 28 = .ok (.goto 4, 3) := by decide +kernel
theorem dX11_best_31 : decode cX11_best 31 = .ok (.iconst (-1), 1) := by decide +kernel
theorem dX11_best_32 : decode cX11_best 32 = .ok (.ireturn, 1) := by decide +kernel
theorem dX11_worth_0 : decode cX11_worth 0 = .ok (.aload_n 0, 1) := by decide +kernel
theorem dX11_worth_1 : decode cX11_worth 1 = .ok (.getfield 30, 3) := by decide +kernel
theorem dX11_worth_4 : decode cX11_worth 4 = .ok (.aload_n 0, 1) := by decide +kernel
theorem dX11_worth_5 : decode cX11_worth 5 = .ok (.getfield 37, 3) := by decide +kernel
theorem dX11_worth_8 : decode cX11_worth 8 = .ok (.iload_n 1, 1) := by decide +kernel
theorem dX11_worth_9 : decode cX11_worth 9 = .ok (.i2l, 1) := by decide +kernel
theorem dX11_worth_10 : decode cX11_worth 10 = .ok (.invokevirtual 171, 3) := by decide +kernel
theorem dX11_worth_13 : decode cX11_worth 13 = .ok (.ifCond .eq 35, 3) := by decide +kernel
theorem dX11_worth_16 : decode cX11_worth 16 = .ok (.aload_n 0, 1) := by decide +kernel
theorem dX11_worth_17 : decode cX11_worth 17 = .ok (.getfield 63, 3) := by decide +kernel
theorem dX11_worth_20 : decode cX11_worth 20 = .ok (.aload_n 0, 1) := by decide +kernel
theorem dX11_worth_21 : decode cX11_worth 21 = .ok (.getfield 37, 3) := by decide +kernel
theorem dX11_worth_24 : decode cX11_worth 24 = .ok (.invokevirtual 236, 3) := by decide +kernel
theorem dX11_worth_27 : decode cX11_worth 27 = .ok (.invokevirtual 259, 3) := by decide +kernel
theorem dX11_worth_30 : decode cX11_worth 30 = .ok (.ifCond .eq 18, 3) := by decide +kernel
theorem dX11_worth_33 : decode cX11_worth 33 = .ok (.aload_n 0, 1) := by decide +kernel
theorem dX11_worth_34 : decode cX11_worth 34 = .ok (.getfield 63, 3) := by decide +kernel
theorem dX11_worth_37 : decode cX11_worth 37 = .ok (.aload_n 0, 1) := by decide +kernel
theorem dX11_worth_38 : decode cX11_worth 38 = .ok (.getfield 37, 3) := by decide +kernel
theorem dX11_worth_41 : decode cX11_worth 41 = .ok (.iload_n 1, 1) := by decide +kernel
theorem dX11_worth_42 : decode cX11_worth 42 = .ok (.invokevirtual 272, 3) := by decide +kernel
theorem dX11_worth_45 : decode cX11_worth 45 = .ok (.goto 6, 3) := by decide +kernel
theorem dX11_worth_48 : decode cX11_worth 48 = .ok (.sipush (-1000), 3) := by decide +kernel
theorem dX11_worth_51 : decode cX11_worth 51 = .ok (.ireturn, 1) := by decide +kernel
theorem dX11_valueOf_0 : decode cX11_valueOf 0 = .ok (.aload_n 0, 1) := by decide +kernel
theorem dX11_valueOf_1 : decode cX11_valueOf 1 = .ok (.iload_n 1, 1) := by decide +kernel
theorem dX11_valueOf_2 : decode cX11_valueOf 2 = .ok (.iload_n 2, 1) := by decide +kernel
theorem dX11_valueOf_3 : decode cX11_valueOf 3 = .ok (.iload_n 3, 1) := by decide +kernel
theorem dX11_valueOf_4 : decode cX11_valueOf 4 = .ok (.invokevirtual 275, 3) := by decide +kernel
theorem dX11_valueOf_7 : decode cX11_valueOf 7 = .ok (.aload_n 0, 1) := by decide +kernel
theorem dX11_valueOf_8 : decode cX11_valueOf 8 = .ok (.getfield 63, 3) := by decide +kernel
theorem dX11_valueOf_11 : decode cX11_valueOf 11 = .ok (.aload_n 0, 1) := by decide +kernel
theorem dX11_valueOf_12 : decode cX11_valueOf 12 = .ok (.getfield 41, 3) := by decide +kernel
theorem dX11_valueOf_15 : decode cX11_valueOf 15 = .ok (.invokevirtual 263, 3) := by decide +kernel
theorem dX11_valueOf_18 : decode cX11_valueOf 18 = .ok (.ireturn, 1) := by decide +kernel
theorem dX11_tally_0 : decode cX11_tally 0 = .ok (.iload_n 1, 1) := by decide +kernel
theorem dX11_tally_1 : decode cX11_tally 1 = .ok (.invokestatic 146, 3) := by decide +kernel
theorem dX11_tally_4 : decode cX11_tally 4 = .ok (.iload_n 2, 1) := by decide +kernel
theorem dX11_tally_5 : decode cX11_tally 5 = .ok (.invokestatic 229, 3) := by decide +kernel
theorem dX11_tally_8 : decode cX11_tally 8 = .ok (.iload_n 3, 1) := by decide +kernel
theorem dX11_tally_9 : decode cX11_tally 9 = .ok (.ifCond .lt 8, 3) := by decide +kernel
theorem dX11_tally_12 : decode cX11_tally 12 = .ok (.iload_n 3, 1) := by decide +kernel
theorem dX11_tally_13 : decode cX11_tally 13 = .ok (.iconst 3, 1) := by decide +kernel
theorem dX11_tally_14 : decode cX11_tally 14 = .ok (.if_icmp .le 13, 3) := by decide +kernel
theorem dX11_tally_17 : decode cX11_tally 17 = .ok (.new 107, 3) := by decide +kernel
theorem dX11_tally_20 : decode cX11_tally 20 = .ok (.dup, 1) := by decide +kernel
theorem dX11_tally_21 : decode cX11_tally 21 = .ok (.ldc 195, 2) := by decide +kernel
theorem dX11_tally_23 : decode cX11_tally 23 = .ok (.invokespecial 111, 3) := by decide +kernel
theorem dX11_tally_26 : decode cX11_tally 26 = .ok (.athrow, 1) := by decide +kernel
theorem dX11_tally_27 : decode cX11_tally 27 = .ok (.aload_n 0, 1) := by decide +kernel
theorem dX11_tally_28 : decode cX11_tally 28 = .ok (.iload_n 2, 1) := by decide +kernel
theorem dX11_tally_29 : decode cX11_tally 29 = .ok (.invokevirtual 279, 3) := by decide +kernel
theorem dX11_tally_32 : decode cX11_tally 32 = .ok (.iconst 0, 1) := by decide +kernel
theorem dX11_tally_33 : decode cX11_tally 33 = .ok (.istore 4, 2) := by decide +kernel
theorem dX11_tally_35 : decode cX11_tally 35 = .ok (.iconst 0, 1) := by decide +kernel
theorem dX11_tally_36 : decode cX11_tally 36 = .ok (.istore 5, 2) := by decide +kernel
theorem dX11_tally_38 : decode cX11_tally 38 = .ok (.iload 5, 2) := by decide +kernel
theorem dX11_tally_40 : decode cX11_tally 40 = .ok (.aload_n 0, 1) := by decide +kernel
theorem dX11_tally_41 : decode cX11_tally 41 = .ok (.getfield 21, 3) := by decide +kernel
theorem dX11_tally_44 : decode cX11_tally 44 = .ok (.iload_n 2, 1) := by decide +kernel
theorem dX11_tally_45 : decode cX11_tally 45 = .ok (.invokevirtual 232, 3) := by decide +kernel
theorem dX11_tally_48 : decode cX11_tally 48 = .ok (.if_icmp .ge 34, 3) := by decide +kernel
theorem dX11_tally_51 : decode cX11_tally 51 = .ok (.aload_n 0, 1) := by decide +kernel
theorem dX11_tally_52 : decode cX11_tally 52 = .ok (.getfield 63, 3) := by decide +kernel
theorem dX11_tally_55 : decode cX11_tally 55 = .ok (.aload_n 0, 1) := by decide +kernel
theorem dX11_tally_56 : decode cX11_tally 56 = .ok (.getfield 63, 3) := by decide +kernel
theorem dX11_tally_59 : decode cX11_tally 59 = .ok (.iload_n 1, 1) := by decide +kernel
theorem dX11_tally_60 : decode cX11_tally 60 = .ok (.iload_n 2, 1) := by decide +kernel
theorem dX11_tally_61 : decode cX11_tally 61 = .ok (.iload 5, 2) := by decide +kernel
theorem dX11_tally_63 : decode cX11_tally 63 = .ok (.invokevirtual 282, 3) := by decide +kernel
theorem dX11_tally_66 : decode cX11_tally 66 = .ok (.iload_n 3, 1) := by decide +kernel
theorem dX11_tally_67 : decode cX11_tally 67 = .ok (.invokevirtual 286, 3) := by decide +kernel
theorem dX11_tally_70 : decode cX11_tally 70 = .ok (.ifCond .eq 6, 3) := by decide +kernel
theorem dX11_tally_73 : decode cX11_tally 73 = .ok (.iinc 4 1, 3) := by decide +kernel
theorem dX11_tally_76 : decode cX11_tally 76 = .ok (.iinc 5 1, 3) := by decide +kernel
theorem dX11_tally_79 : decode cX11_tally 79 = .ok (.goto (-41), 3) := by decide +kernel
theorem dX11_tally_82 : decode cX11_tally 82 = .ok (.iload 4, 2) := by decide +kernel
theorem dX11_tally_84 : decode cX11_tally 84 = .ok (.ireturn, 1) := by decide +kernel
theorem dX11_row_0 : decode cX11_row 0 = .ok (.aload_n 0, 1) := by decide +kernel
theorem dX11_row_1 : decode cX11_row 1 = .ok (.iload_n 1, 1) := by decide +kernel
theorem dX11_row_2 : decode cX11_row 2 = .ok (.iload_n 2, 1) := by decide +kernel
theorem dX11_row_3 : decode cX11_row 3 = .ok (.iload_n 3, 1) := by decide +kernel
theorem dX11_row_4 : decode cX11_row 4 = .ok (.invokevirtual 275, 3) := by decide +kernel
theorem dX11_row_7 : decode cX11_row 7 = .ok (.iload_n 1, 1) := by decide +kernel
theorem dX11_row_8 : decode cX11_row 8 = .ok (.aload_n 0, 1) := by decide +kernel
theorem dX11_row_9 : decode cX11_row 9 = .ok (.getfield 12, 3) := by decide +kernel
theorem dX11_row_12 : decode cX11_row 12 = .ok (.getfield 134, 3) := by decide +kernel
theorem dX11_row_15 : decode cX11_row 15 = .ok (.imul, 1) := by decide +kernel
theorem dX11_row_16 : decode cX11_row 16 = .ok (.istore 5, 2) := by decide +kernel
theorem dX11_row_18 : decode cX11_row 18 = .ok (.iload 4, 2) := by decide +kernel
theorem dX11_row_20 : decode cX11_row 20 = .ok (.bipush 10, 2) := by decide +kernel
theorem dX11_row_22 : decode cX11_row 22 = .ok (.if_icmp .lt 38, 3) := by decide +kernel
theorem dX11_row_25 : decode cX11_row 25 = .ok (.iload 4, 2) := by decide +kernel
theorem dX11_row_27 : decode cX11_row 27 = .ok (.bipush 10, 2) := by decide +kernel
theorem dX11_row_29 : decode cX11_row 29 = .ok (.aload_n 0, 1) := by decide +kernel
theorem dX11_row_30 : decode cX11_row 30 = .ok (.getfield 12, 3) := by decide +kernel
theorem dX11_row_33 : decode cX11_row 33 = .ok (.getfield 134, 3) := by decide +kernel
theorem dX11_row_36 : decode cX11_row 36 = .ok (.iadd, 1) := by decide +kernel
theorem dX11_row_37 : decode cX11_row 37 = .ok (.if_icmp .ge 23, 3) := by decide +kernel
theorem dX11_row_40 : decode cX11_row 40 = .ok (.aload_n 0, 1) := by decide +kernel
theorem dX11_row_41 : decode cX11_row 41 = .ok (.getfield 63, 3) := by decide +kernel
theorem dX11_row_44 : decode cX11_row 44 = .ok (.aload_n 0, 1) := by decide +kernel
theorem dX11_row_45 : decode cX11_row 45 = .ok (.getfield 41, 3) := by decide +kernel
theorem dX11_row_48 : decode cX11_row 48 = .ok (.iload 5, 2) := by decide +kernel
theorem dX11_row_50 : decode cX11_row 50 = .ok (.iload 4, 2) := by decide +kernel
theorem dX11_row_52 : decode cX11_row 52 = .ok (.iadd, 1) := by decide +kernel
theorem dX11_row_53 : decode cX11_row 53 = .ok (.bipush 10, 2) := by decide +kernel
theorem dX11_row_55 : decode cX11_row 55 = .ok (.isub, 1) := by decide +kernel
theorem dX11_row_56 : decode cX11_row 56 = .ok (.invokevirtual 272, 3) := by decide +kernel
theorem dX11_row_59 : decode cX11_row 59 = .ok (.ireturn, 1) := by decide +kernel
theorem dX11_row_60 : decode cX11_row 60 = .ok (.iload 4, 2) := by decide +kernel
theorem dX11_row_62 : decode cX11_row 62 = .ok (.tableswitch 98 0 3 #[30, 42, 71, 86], 30) := by decide +kernel
theorem dX11_row_92 : decode cX11_row 92 = .ok (.aload_n 0, 1) := by decide +kernel
theorem dX11_row_93 : decode cX11_row 93 = .ok (.getfield 63, 3) := by decide +kernel
theorem dX11_row_96 : decode cX11_row 96 = .ok (.aload_n 0, 1) := by decide +kernel
theorem dX11_row_97 : decode cX11_row 97 = .ok (.getfield 41, 3) := by decide +kernel
theorem dX11_row_100 : decode cX11_row 100 = .ok (.invokevirtual 266, 3) := by decide +kernel
theorem dX11_row_103 : decode cX11_row 103 = .ok (.ireturn, 1) := by decide +kernel
theorem dX11_row_104 : decode cX11_row 104 = .ok (.aload_n 0, 1) := by decide +kernel
theorem dX11_row_105 : decode cX11_row 105 = .ok (.getfield 63, 3) := by decide +kernel
theorem dX11_row_108 : decode cX11_row 108 = .ok (.aload_n 0, 1) := by decide +kernel
theorem dX11_row_109 : decode cX11_row 109 = .ok (.getfield 41, 3) := by decide +kernel
theorem dX11_row_112 : decode cX11_row 112 = .ok (.invokevirtual 269, 3) := by decide +kernel
theorem dX11_row_115 : decode cX11_row 115 = .ok (.istore 6, 2) := by decide +kernel
theorem dX11_row_117 : decode cX11_row 117 = .ok (.iload 6, 2) := by decide +kernel
theorem dX11_row_119 : decode cX11_row 119 = .ok (.iconst (-1), 1) := by decide +kernel
theorem dX11_row_120 : decode cX11_row 120 = .ok (.if_icmp .ne 7, 3) := by decide +kernel
theorem dX11_row_123 : decode cX11_row 123 = .ok (.iconst (-1), 1) := by decide +kernel
theorem dX11_row_124 : decode cX11_row 124 = .ok (.goto 8, 3) := by decide +kernel
theorem dX11_row_127 : decode cX11_row 127 = .ok (.iload 6, 2) := by decide +kernel
theorem dX11_row_129 : decode cX11_row 129 = .ok (.iload 5, 2) := by decide +kernel
theorem dX11_row_131 : decode cX11_row 131 = .ok (.isub, 1) := by decide +kernel
theorem dX11_row_132 : decode cX11_row 132 = .ok (.ireturn, 1) := by decide +kernel
theorem dX11_row_133 : decode cX11_row 133 = .ok (.aload_n 0, 1) := by decide +kernel
theorem dX11_row_134 : decode cX11_row 134 = .ok (.getfield 30, 3) := by decide +kernel
theorem dX11_row_137 : decode cX11_row 137 = .ok (.aload_n 0, 1) := by decide +kernel
theorem dX11_row_138 : decode cX11_row 138 = .ok (.getfield 41, 3) := by decide +kernel
theorem dX11_row_141 : decode cX11_row 141 = .ok (.invokevirtual 290, 3) := by decide +kernel
theorem dX11_row_144 : decode cX11_row 144 = .ok (.invokestatic 293, 3) := by decide +kernel
theorem dX11_row_147 : decode cX11_row 147 = .ok (.ireturn, 1) := by decide +kernel
theorem dX11_row_148 : decode cX11_row 148 = .ok (.aload_n 0, 1) := by decide +kernel
theorem dX11_row_149 : decode cX11_row 149 = .ok (.getfield 63, 3) := by decide +kernel
theorem dX11_row_152 : decode cX11_row 152 = .ok (.aload_n 0, 1) := by decide +kernel
theorem dX11_row_153 : decode cX11_row 153 = .ok (.getfield 41, 3) := by decide +kernel
theorem dX11_row_156 : decode cX11_row 156 = .ok (.invokevirtual 298, 3) := by decide +kernel
theorem dX11_row_159 : decode cX11_row 159 = .ok (.ireturn, 1) := by decide +kernel
theorem dX11_row_160 : decode cX11_row 160 = .ok (.new 107, 3) := by decide +kernel
theorem dX11_row_163 : decode cX11_row 163 = .ok (.dup, 1) := by decide +kernel
theorem dX11_row_164 : decode cX11_row 164 = .ok (.ldc 195, 2) := by decide +kernel
theorem dX11_row_166 : decode cX11_row 166 = .ok (.invokespecial 111, 3) := by decide +kernel
theorem dX11_row_169 : decode cX11_row 169 = .ok (.athrow, 1) := by decide +kernel
