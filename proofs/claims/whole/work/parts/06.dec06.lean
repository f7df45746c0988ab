theorem dX12_most_0 : decode cX12_most 0 = .ok (.aload_n 0, 1) := by decide +kernel
theorem dX12_most_1 : decode cX12_most 1 = .ok (.iload_n 1, 1) := by decide +kernel
theorem dX12_most_2 : decode cX12_most 2 = .ok (.invokestatic 254, 3) := by decide +kernel
theorem dX12_most_5 : decode cX12_most 5 = .ok (.ifCond .ne 7, 3) := by decide +kernel
theorem dX12_most_8 : decode cX12_most 8 = .ok (.iconst 1, 1) := by decide +kernel
theorem dX12_most_9 : decode cX12_most 9 = .ok (.goto 44, 3) := by decide +kernel
theorem dX12_most_12 : decode cX12_most 12 = .ok (.iload_n 2, 1) := by decide +kernel
theorem dX12_most_13 : decode cX12_most 13 = .ok (.i2l, 1) := by decide +kernel
theorem dX12_most_14 : decode cX12_most 14 = .ok (.lconst 0, 1) := by decide +kernel
theorem dX12_most_15 : decode cX12_most 15 = .ok (.ldc2_w 357, 3) := by decide +kernel
theorem dX12_most_18 : decode cX12_most 18 = .ok (.invokestatic 166, 3) := by decide +kernel
theorem dX12_most_21 : decode cX12_most 21 = .ok (.ifCond .eq 15, 3) := by decide +kernel
theorem dX12_most_24 : decode cX12_most 24 = .ok (.iload_n 3, 1) := by decide +kernel
theorem dX12_most_25 : decode cX12_most 25 = .ok (.i2l, 1) := by decide +kernel
theorem dX12_most_26 : decode cX12_most 26 = .ok (.lconst 0, 1) := by decide +kernel
theorem dX12_most_27 : decode cX12_most 27 = .ok (.ldc2_w 428, 3) := by decide +kernel
theorem dX12_most_30 : decode cX12_most 30 = .ok (.invokestatic 166, 3) := by decide +kernel
theorem dX12_most_33 : decode cX12_most 33 = .ok (.ifCond .ne 7, 3) := by decide +kernel
theorem dX12_most_36 : decode cX12_most 36 = .ok (.iconst 2, 1) := by decide +kernel
theorem dX12_most_37 : decode cX12_most 37 = .ok (.goto 16, 3) := by decide +kernel
theorem dX12_most_40 : decode cX12_most 40 = .ok (.aload_n 0, 1) := by decide +kernel
theorem dX12_most_41 : decode cX12_most 41 = .ok (.iload_n 2, 1) := by decide +kernel
theorem dX12_most_42 : decode cX12_most 42 = .ok (.invokevirtual 407, 3) := by decide +kernel
theorem dX12_most_45 : decode cX12_most 45 = .ok (.ifCond .eq 7, 3) := by decide +kernel
theorem dX12_most_48 : decode cX12_most 48 = .ok (.iconst 0, 1) := by decide +kernel
theorem dX12_most_49 : decode cX12_most 49 = .ok (.goto 4, 3) := by decide +kernel
theorem dX12_most_52 : decode cX12_most 52 = .ok (.iconst 3, 1) := by decide +kernel
theorem dX12_most_53 : decode cX12_most 53 = .ok (.putfield 107, 3) := by decide +kernel
theorem dX12_most_56 : decode cX12_most 56 = .ok (.aload_n 0, 1) := by decide +kernel
theorem dX12_most_57 : decode cX12_most 57 = .ok (.getfield 107, 3) := by decide +kernel
theorem dX12_most_60 : decode cX12_most 60 = .ok (.ifCond .le 5, 3) := by decide +kernel
theorem dX12_most_63 : decode cX12_most 63 = .ok (.iconst 0, 1) := by decide +kernel
theorem dX12_most_64 : decode cX12_most 64 = .ok (.ireturn, 1) := by decide +kernel
theorem dX12_most_65 : decode cX12_most 65 = .ok (.iconst (-1), 1) := by decide +kernel
theorem dX12_most_66 : decode cX12_most 66 = .ok (.istore 4, 2) := by decide +kernel
theorem dX12_most_68 : decode cX12_most 68 = .ok (.iconst 0, 1) := by decide +kernel
theorem dX12_most_69 : decode cX12_most 69 = .ok (.istore 5, 2) := by decide +kernel
theorem dX12_most_71 : decode cX12_most 71 = .ok (.iconst 0, 1) := by decide +kernel
theorem dX12_most_72 : decode cX12_most 72 = .ok (.istore 6, 2) := by decide +kernel
theorem dX12_most_74 : decode cX12_most 74 = .ok (.iload 6, 2) := by decide +kernel
theorem dX12_most_76 : decode cX12_most 76 = .ok (.aload_n 0, 1) := by decide +kernel
theorem dX12_most_77 : decode cX12_most 77 = .ok (.getfield 67, 3) := by decide +kernel
theorem dX12_most_80 : decode cX12_most 80 = .ok (.iload_n 2, 1) := by decide +kernel
theorem dX12_most_81 : decode cX12_most 81 = .ok (.iconst 1, 1) := by decide +kernel
theorem dX12_most_82 : decode cX12_most 82 = .ok (.iadd, 1) := by decide +kernel
theorem dX12_most_83 : decode cX12_most 83 = .ok (.iaload, 1) := by decide +kernel
theorem dX12_most_84 : decode cX12_most 84 = .ok (.aload_n 0, 1) := by decide +kernel
theorem dX12_most_85 : decode cX12_most 85 = .ok (.getfield 67, 3) := by decide +kernel
theorem dX12_most_88 : decode cX12_most 88 = .ok (.iload_n 2, 1) := by decide +kernel
theorem dX12_most_89 : decode cX12_most 89 = .ok (.iaload, 1) := by decide +kernel
theorem dX12_most_90 : decode cX12_most 90 = .ok (.isub, 1) := by decide +kernel
theorem dX12_most_91 : decode cX12_most 91 = .ok (.if_icmp .ge 83, 3) := by decide +kernel
theorem dX12_most_94 : decode cX12_most 94 = .ok (.aload_n 0, 1) := by decide +kernel
theorem dX12_most_95 : decode cX12_most 95 = .ok (.iload_n 1, 1) := by decide +kernel
theorem dX12_most_96 : decode cX12_most 96 = .ok (.iload_n 2, 1) := by decide +kernel
theorem dX12_most_97 : decode cX12_most 97 = .ok (.iload 6, 2) := by decide +kernel
theorem dX12_most_99 : decode cX12_most 99 = .ok (.invokevirtual 384, 3) := by decide +kernel
theorem dX12_most_102 : decode cX12_most 102 = .ok (.istore 7, 2) := by decide +kernel
theorem dX12_most_104 : decode cX12_most 104 = .ok (.iload_n 3, 1) := by decide +kernel
theorem dX12_most_105 : decode cX12_most 105 = .ok (.iconst 2, 1) := by decide +kernel
theorem dX12_most_106 : decode cX12_most 106 = .ok (.if_icmp .ge 13, 3) := by decide +kernel
theorem dX12_most_109 : decode cX12_most 109 = .ok (.aload_n 0, 1) := by decide +kernel
theorem dX12_most_110 : decode cX12_most 110 = .ok (.getfield 51, 3) := by decide +kernel
theorem dX12_most_113 : decode cX12_most 113 = .ok (.iload 7, 2) := by decide +kernel
theorem dX12_most_115 : decode cX12_most 115 = .ok (.iaload, 1) := by decide +kernel
theorem dX12_most_116 : decode cX12_most 116 = .ok (.goto 26, 3) := by decide +kernel
theorem dX12_most_119 : decode cX12_most 119 = .ok (.iload_n 3, 1) := by decide +kernel
theorem dX12_most_120 : decode cX12_most 120 = .ok (.iconst 4, 1) := by decide +kernel
theorem dX12_most_121 : decode cX12_most 121 = .ok (.if_icmp .ge 14, 3) := by decide +kernel
theorem dX12_most_124 : decode cX12_most 124 = .ok (.aload_n 0, 1) := by decide +kernel
theorem dX12_most_125 : decode cX12_most 125 = .ok (.getfield 51, 3) := by decide +kernel
theorem dX12_most_128 : decode cX12_most 128 = .ok (.iload 7, 2) := by decide +kernel
theorem dX12_most_130 : decode cX12_most 130 = .ok (.iaload, 1) := by decide +kernel
theorem dX12_most_131 : decode cX12_most 131 = .ok (.ineg, 1) := by decide +kernel
theorem dX12_most_132 : decode cX12_most 132 = .ok (.goto 10, 3) := by decide +kernel
theorem dX12_most_135 : decode cX12_most 135 = .ok (.aload_n 0, 1) := by decide +kernel
theorem dX12_most_136 : decode cX12_most 136 = .ok (.getfield 54, 3) := by decide +kernel
theorem dX12_most_139 : decode cX12_most 139 = .ok (.iload 7, 2) := by decide +kernel
theorem dX12_most_141 : decode cX12_most 141 = .ok (.iaload, 1) := by decide +kernel
theorem dX12_most_142 : decode cX12_most 142 = .ok (.istore 8, 2) := by decide +kernel
theorem dX12_most_144 : decode cX12_most 144 = .ok (.iload 4, 2) := by decide +kernel
theorem dX12_most_146 : decode cX12_most 146 = .ok (.iconst (-1), 1) := by decide +kernel
theorem dX12_most_147 : decode cX12_most 147 = .ok (.if_icmp .eq 13, 3) := by decide +kernel
theorem dX12_most_150 : decode cX12_most 150 = .ok (.iload 8, 2) := by decide +kernel
theorem dX12_most_152 : decode cX12_most 152 = .ok (.iload 5, 2) := by decide +kernel
theorem dX12_most_154 : decode cX12_most 154 = .ok (.if_icmp .gt 6, 3) := by decide +kernel
theorem dX12_most_157 : decode cX12_most 157 = .ok (.goto 11, 3) := by decide +kernel
theorem dX12_most_160 : decode cX12_most 160 = .ok (.iload 6, 2) := by decide +kernel
theorem dX12_most_162 : decode cX12_most 162 = .ok (.istore 4, 2) := by decide +kernel
theorem dX12_most_164 : decode cX12_most 164 = .ok (.iload 8, 2) := by decide +kernel
theorem dX12_most_166 : decode cX12_most 166 = .ok (.istore 5, 2) := by decide +kernel
theorem dX12_most_168 : decode cX12_most 168 = .ok (.iinc 6 1, 3) := by decide +kernel
theorem dX12_most_171 : decode cX12_most 171 = .ok (.goto (-97), 3) := by decide +kernel
theorem dX12_most_174 : decode cX12_most 174 = .ok (.iload 4, 2) := by decide +kernel
theorem dX12_most_176 : decode cX12_most 176 = .ok (.iconst (-1), 1) := by decide +kernel
theorem dX12_most_177 : decode cX12_most 177 = .ok (.if_icmp .eq 10, 3) := by decide +kernel
theorem dX12_most_180 : decode cX12_most 180 = .ok (.iload_n 3, 1) := by decide +kernel
theorem dX12_most_181 : decode cX12_most 181 = .ok (.iconst 2, 1) := by decide +kernel
theorem dX12_most_182 : decode cX12_most 182 = .ok (.irem, 1) := by decide +kernel
theorem dX12_most_183 : decode cX12_most 183 = .ok (.iconst 1, 1) := by decide +kernel
theorem dX12_most_184 : decode cX12_most 184 = .ok (.if_icmp .ne 8, 3) := by decide +kernel
theorem dX12_most_187 : decode cX12_most 187 = .ok (.iload 4, 2) := by decide +kernel
theorem dX12_most_189 : decode cX12_most 189 = .ok (.goto 16, 3) := by decide +kernel
theorem dX12_most_192 : decode cX12_most 192 = .ok (.iload_n 3, 1) := by decide +kernel
theorem dX12_most_193 : decode cX12_most 193 = .ok (.iconst 2, 1) := by decide +kernel
theorem dX12_most_194 : decode cX12_most 194 = .ok (.if_icmp .ne 9, 3) := by decide +kernel
theorem dX12_most_197 : decode cX12_most 197 = .ok (.iload 5, 2) := by decide +kernel
theorem dX12_most_199 : decode cX12_most 199 = .ok (.ineg, 1) := by decide +kernel
theorem dX12_most_200 : decode cX12_most 200 = .ok (.goto 5, 3) := by decide +kernel
theorem dX12_most_203 : decode cX12_most 203 = .ok (.iload 5, 2) := by decide +kernel
theorem dX12_most_205 : decode cX12_most 205 = .ok (.ireturn, 1) := by decide +kernel
theorem dX12_swapped_0 : decode cX12_swapped 0 = .ok (.aload_n 0, 1) := by decide +kernel
theorem dX12_swapped_1 : decode cX12_swapped 1 = .ok (.iconst 0, 1) := by decide +kernel
theorem dX12_swapped_2 : decode cX12_swapped 2 = .ok (.putfield 107, 3) := by decide +kernel
theorem dX12_swapped_5 : decode cX12_swapped 5 = .ok (.aload_n 0, 1) := by decide +kernel
theorem dX12_swapped_6 : decode cX12_swapped 6 = .ok (.aload_n 0, 1) := by decide +kernel
theorem dX12_swapped_7 : decode cX12_swapped 7 = .ok (.invokevirtual 365, 3) := by decide +kernel
theorem dX12_swapped_10 : decode cX12_swapped 10 = .ok (.invokevirtual 407, 3) := by decide +kernel
theorem dX12_swapped_13 : decode cX12_swapped 13 = .ok (.ifCond .ne 7, 3) := by decide +kernel
theorem dX12_swapped_16 : decode cX12_swapped 16 = .ok (.sipush (-1000), 3) := by decide +kernel
theorem dX12_swapped_19 : decode cX12_swapped 19 = .ok (.ireturn, 1) := by decide +kernel
theorem dX12_swapped_20 : decode cX12_swapped 20 = .ok (.aload_n 0, 1) := by decide +kernel
theorem dX12_swapped_21 : decode cX12_swapped 21 = .ok (.invokevirtual 293, 3) := by decide +kernel
theorem dX12_swapped_24 : decode cX12_swapped 24 = .ok (.aload_n 0, 1) := by decide +kernel
theorem dX12_swapped_25 : decode cX12_swapped 25 = .ok (.getfield 51, 3) := by decide +kernel
theorem dX12_swapped_28 : decode cX12_swapped 28 = .ok (.aload_n 0, 1) := by decide +kernel
theorem dX12_swapped_29 : decode cX12_swapped 29 = .ok (.iconst 1, 1) := by decide +kernel
theorem dX12_swapped_30 : decode cX12_swapped 30 = .ok (.aload_n 0, 1) := by decide +kernel
theorem dX12_swapped_31 : decode cX12_swapped 31 = .ok (.getfield 9, 3) := by decide +kernel
theorem dX12_swapped_34 : decode cX12_swapped 34 = .ok (.iconst 2, 1) := by decide +kernel
theorem dX12_swapped_35 : decode cX12_swapped 35 = .ok (.iaload, 1) := by decide +kernel
theorem dX12_swapped_36 : decode cX12_swapped 36 = .ok (.isub, 1) := by decide +kernel
theorem dX12_swapped_37 : decode cX12_swapped 37 = .ok (.aload_n 0, 1) := by decide +kernel
theorem dX12_swapped_38 : decode cX12_swapped 38 = .ok (.invokevirtual 365, 3) := by decide +kernel
theorem dX12_swapped_41 : decode cX12_swapped 41 = .ok (.aload_n 0, 1) := by decide +kernel
theorem dX12_swapped_42 : decode cX12_swapped 42 = .ok (.iconst 1, 1) := by decide +kernel
theorem dX12_swapped_43 : decode cX12_swapped 43 = .ok (.aload_n 0, 1) := by decide +kernel
theorem dX12_swapped_44 : decode cX12_swapped 44 = .ok (.getfield 9, 3) := by decide +kernel
theorem dX12_swapped_47 : decode cX12_swapped 47 = .ok (.iconst 2, 1) := by decide +kernel
theorem dX12_swapped_48 : decode cX12_swapped 48 = .ok (.iaload, 1) := by decide +kernel
theorem dX12_swapped_49 : decode cX12_swapped 49 = .ok (.isub, 1) := by decide +kernel
theorem dX12_swapped_50 : decode cX12_swapped 50 = .ok (.invokevirtual 368, 3) := by decide +kernel
theorem dX12_swapped_53 : decode cX12_swapped 53 = .ok (.invokevirtual 384, 3) := by decide +kernel
theorem dX12_swapped_56 : decode cX12_swapped 56 = .ok (.iaload, 1) := by decide +kernel
theorem dX12_swapped_57 : decode cX12_swapped 57 = .ok (.ireturn, 1) := by decide +kernel
theorem dX12_goesOn_0 : decode cX12_goesOn 0 = .ok (.aload_n 0, 1) := by decide +kernel
theorem dX12_goesOn_1 : decode cX12_goesOn 1 = .ok (.iconst 0, 1) := by decide +kernel
theorem dX12_goesOn_2 : decode cX12_goesOn 2 = .ok (.putfield 430, 3) := by decide +kernel
theorem dX12_goesOn_5 : decode cX12_goesOn 5 = .ok (.aload_n 0, 1) := by decide +kernel
theorem dX12_goesOn_6 : decode cX12_goesOn 6 = .ok (.getfield 85, 3) := by decide +kernel
theorem dX12_goesOn_9 : decode cX12_goesOn 9 = .ok (.iconst 0, 1) := by decide +kernel
theorem dX12_goesOn_10 : decode cX12_goesOn 10 = .ok (.aload_n 0, 1) := by decide +kernel
theorem dX12_goesOn_11 : decode cX12_goesOn 11 = .ok (.invokevirtual 410, 3) := by decide +kernel
theorem dX12_goesOn_14 : decode cX12_goesOn 14 = .ok (.iastore, 1) := by decide +kernel
theorem dX12_goesOn_15 : decode cX12_goesOn 15 = .ok (.aload_n 0, 1) := by decide +kernel
theorem dX12_goesOn_16 : decode cX12_goesOn 16 = .ok (.getfield 430, 3) := by decide +kernel
theorem dX12_goesOn_19 : decode cX12_goesOn 19 = .ok (.bipush 60, 2) := by decide +kernel
theorem dX12_goesOn_21 : decode cX12_goesOn 21 = .ok (.if_icmp .ge 99, 3) := by decide +kernel
theorem dX12_goesOn_24 : decode cX12_goesOn 24 = .ok (.aload_n 0, 1) := by decide +kernel
theorem dX12_goesOn_25 : decode cX12_goesOn 25 = .ok (.invokevirtual 305, 3) := by decide +kernel
theorem dX12_goesOn_28 : decode cX12_goesOn 28 = .ok (.ifCond .ne 92, 3) := by decide +kernel
theorem dX12_goesOn_31 : decode cX12_goesOn 31 = .ok (.aload_n 0, 1) := by decide +kernel
theorem dX12_goesOn_32 : decode cX12_goesOn 32 = .ok (.getfield 82, 3) := by decide +kernel
theorem dX12_goesOn_35 : decode cX12_goesOn 35 = .ok (.aload_n 0, 1) := by decide +kernel
theorem dX12_goesOn_36 : decode cX12_goesOn 36 = .ok (.getfield 430, 3) := by decide +kernel
theorem dX12_goesOn_39 : decode cX12_goesOn 39 = .ok (.aload_n 0, 1) := by decide +kernel
theorem dX12_goesOn_40 : decode cX12_goesOn 40 = .ok (.invokevirtual 416, 3) := by decide +kernel
theorem dX12_goesOn_43 : decode cX12_goesOn 43 = .ok (.iastore, 1) := by decide +kernel
theorem dX12_goesOn_44 : decode cX12_goesOn 44 = .ok (.aload_n 0, 1) := by decide +kernel
theorem dX12_goesOn_45 : decode cX12_goesOn 45 = .ok (.aload_n 0, 1) := by decide +kernel
theorem dX12_goesOn_46 : decode cX12_goesOn 46 = .ok (.getfield 82, 3) := by decide +kernel
theorem dX12_goesOn_49 : decode cX12_goesOn 49 = .ok (.aload_n 0, 1) := by decide +kernel
theorem dX12_goesOn_50 : decode cX12_goesOn 50 = .ok (.getfield 430, 3) := by decide +kernel
theorem dX12_goesOn_53 : decode cX12_goesOn 53 = .ok (.iaload, 1) := by decide +kernel
theorem dX12_goesOn_54 : decode cX12_goesOn 54 = .ok (.invokevirtual 326, 3) := by decide +kernel
theorem dX12_goesOn_57 : decode cX12_goesOn 57 = .ok (.pop, 1) := by decide +kernel
theorem dX12_goesOn_58 : decode cX12_goesOn 58 = .ok (.aload_n 0, 1) := by decide +kernel
theorem dX12_goesOn_59 : decode cX12_goesOn 59 = .ok (.dup, 1) := by decide +kernel
theorem dX12_goesOn_60 : decode cX12_goesOn 60 = .ok (.getfield 430, 3) := by decide +kernel
theorem dX12_goesOn_63 : decode cX12_goesOn 63 = .ok (.iconst 1, 1) := by decide +kernel
theorem dX12_goesOn_64 : decode cX12_goesOn 64 = .ok (.iadd, 1) := by decide +kernel
theorem dX12_goesOn_65 : decode cX12_goesOn 65 = .ok (.putfield 430, 3) := by decide +kernel
theorem dX12_goesOn_68 : decode cX12_goesOn 68 = .ok (.aload_n 0, 1) := by decide +kernel
theorem dX12_goesOn_69 : decode cX12_goesOn 69 = .ok (.getfield 85, 3) := by decide +kernel
theorem dX12_goesOn_72 : decode cX12_goesOn 72 = .ok (.aload_n 0, 1) := by decide +kernel
theorem dX12_goesOn_73 : decode cX12_goesOn 73 = .ok (.getfield 430, 3) := by decide +kernel
theorem dX12_goesOn_76 : decode cX12_goesOn 76 = .ok (.aload_n 0, 1) := by decide +kernel
theorem dX12_goesOn_77 : decode cX12_goesOn 77 = .ok (.invokevirtual 410, 3) := by decide +kernel
theorem dX12_goesOn_80 : decode cX12_goesOn 80 = .ok (.iastore, 1) := by decide +kernel
theorem dX12_goesOn_81 : decode cX12_goesOn 81 = .ok (.iconst 0, 1) := by decide +kernel
theorem dX12_goesOn_82 : decode cX12_goesOn 82 = .ok (.istore_n 1, 1) := by decide +kernel
theorem dX12_goesOn_83 : decode cX12_goesOn 83 = .ok (.iload_n 1, 1) := by decide +kernel
theorem dX12_goesOn_84 : decode cX12_goesOn 84 = .ok (.aload_n 0, 1) := by decide +kernel
theorem dX12_goesOn_85 : decode cX12_goesOn 85 = .ok (.getfield 430, 3) := by decide +kernel
theorem dX12_goesOn_88 : decode cX12_goesOn 88 = .ok (.if_icmp .ge 29, 3) := by decide +kernel
theorem dX12_goesOn_91 : decode cX12_goesOn 91 = .ok (.aload_n 0, 1) := by decide +kernel
theorem dX12_goesOn_92 : decode cX12_goesOn 92 = .ok (.getfield 85, 3) := by decide +kernel
theorem dX12_goesOn_95 : decode cX12_goesOn 95 = .ok (.iload_n 1, 1) := by decide +kernel
theorem dX12_goesOn_96 : decode cX12_goesOn 96 = .ok (.iaload, 1) := by decide +kernel
theorem dX12_goesOn_97 : decode cX12_goesOn 97 = .ok (.aload_n 0, 1) := by decide +kernel
theorem dX12_goesOn_98 : decode cX12_goesOn 98 = .ok (.getfield 85, 3) := by decide +kernel
theorem dX12_goesOn_101 : decode cX12_goesOn 101 = .ok (.aload_n 0, 1) := by decide +kernel
theorem dX12_goesOn_102 : decode cX12_goesOn 102 = .ok (.getfield 430, 3) := by decide +kernel
theorem dX12_goesOn_105 : decode cX12_goesOn 105 = .ok (.iaload, 1) := by decide +kernel
theorem dX12_goesOn_106 : decode cX12_goesOn 106 = .ok (.if_icmp .ne 5, 3) := by decide +kernel
theorem dX12_goesOn_109 : decode cX12_goesOn 109 = .ok (.iconst 1, 1) := by decide +kernel
theorem dX12_goesOn_110 : decode cX12_goesOn 110 = .ok (.ireturn, 1) := by decide +kernel
theorem dX12_goesOn_111 : decode cX12_goesOn 111 = .ok (.iinc 1 1, 3) := by decide +kernel
theorem dX12_goesOn_114 : decode cX12_goesOn 114 = .ok (.goto (-31), 3) := by decide +kernel
theorem dX12_goesOn_117 : decode cX12_goesOn 117 = .ok (.goto (-102), 3) := by decide +kernel
theorem dX12_goesOn_120 : decode cX12_goesOn 120 = .ok (.iconst 0, 1) := by decide +kernel
theorem dX12_goesOn_121 : decode cX12_goesOn 121 = .ok (.ireturn, 1) := by decide +kernel
theorem dX12_line_0 : decode cX12_line 0 = .ok (.aload_n 0, 1) := by decide +kernel
theorem dX12_line_1 : decode cX12_line 1 = .ok (.iload_n 1, 1) := by decide +kernel
theorem dX12_line_2 : decode cX12_line 2 = .ok (.bipush (-3), 2) := by decide +kernel
theorem dX12_line_4 : decode cX12_line 4 = .ok (.if_icmp .lt 7, 3) := by decide +kernel
theorem dX12_line_7 : decode cX12_line 7 = .ok (.iconst 0, 1) := by decide +kernel
theorem dX12_line_8 : decode cX12_line 8 = .ok (.goto 4, 3) := by decide +kernel
theorem dX12_line_11 : decode cX12_line 11 = .ok (.iconst 1, 1) := by decide +kernel
theorem dX12_line_12 : decode cX12_line 12 = .ok (.putfield 107, 3) := by decide +kernel
theorem dX12_line_15 : decode cX12_line 15 = .ok (.aload_n 0, 1) := by decide +kernel
theorem dX12_line_16 : decode cX12_line 16 = .ok (.getfield 107, 3) := by decide +kernel
theorem dX12_line_19 : decode cX12_line 19 = .ok (.ifCond .le 5, 3) := by decide +kernel
theorem dX12_line_22 : decode cX12_line 22 = .ok (.iconst 0, 1) := by decide +kernel
theorem dX12_line_23 : decode cX12_line 23 = .ok (.ireturn, 1) := by decide +kernel
theorem dX12_line_24 : decode cX12_line 24 = .ok (.aload_n 0, 1) := by decide +kernel
theorem dX12_line_25 : decode cX12_line 25 = .ok (.aload_n 0, 1) := by decide +kernel
theorem dX12_line_26 : decode cX12_line 26 = .ok (.invokevirtual 365, 3) := by decide +kernel
theorem dX12_line_29 : decode cX12_line 29 = .ok (.invokevirtual 407, 3) := by decide +kernel
theorem dX12_line_32 : decode cX12_line 32 = .ok (.ifCond .ne 9, 3) := by decide +kernel
theorem dX12_line_35 : decode cX12_line 35 = .ok (.aload_n 0, 1) := by decide +kernel
theorem dX12_line_36 : decode cX12_line 36 = .ok (.iconst 2, 1) := by decide +kernel
theorem dX12_line_37 : decode cX12_line 37 = .ok (.invokevirtual 221, 3) := by decide +kernel
theorem dX12_line_40 : decode cX12_line 40 = .ok (.ireturn, 1) := by decide +kernel
theorem dX12_line_41 : decode cX12_line 41 = .ok (.aload_n 0, 1) := by decide +kernel
theorem dX12_line_42 : decode cX12_line 42 = .ok (.getfield 9, 3) := by decide +kernel
theorem dX12_line_45 : decode cX12_line 45 = .ok (.aload_n 0, 1) := by decide +kernel
theorem dX12_line_46 : decode cX12_line 46 = .ok (.getfield 19, 3) := by decide +kernel
theorem dX12_line_49 : decode cX12_line 49 = .ok (.invokestatic 235, 3) := by decide +kernel
theorem dX12_line_52 : decode cX12_line 52 = .ok (.aload_n 0, 1) := by decide +kernel
theorem dX12_line_53 : decode cX12_line 53 = .ok (.invokevirtual 433, 3) := by decide +kernel
theorem dX12_line_56 : decode cX12_line 56 = .ok (.istore_n 2, 1) := by decide +kernel
theorem dX12_line_57 : decode cX12_line 57 = .ok (.aload_n 0, 1) := by decide +kernel
theorem dX12_line_58 : decode cX12_line 58 = .ok (.invokevirtual 316, 3) := by decide +kernel
theorem dX12_line_61 : decode cX12_line 61 = .ok (.istore_n 3, 1) := by decide +kernel
theorem dX12_line_62 : decode cX12_line 62 = .ok (.aload_n 0, 1) := by decide +kernel
theorem dX12_line_63 : decode cX12_line 63 = .ok (.getfield 19, 3) := by decide +kernel
theorem dX12_line_66 : decode cX12_line 66 = .ok (.aload_n 0, 1) := by decide +kernel
theorem dX12_line_67 : decode cX12_line 67 = .ok (.getfield 9, 3) := by decide +kernel
theorem dX12_line_70 : decode cX12_line 70 = .ok (.invokestatic 235, 3) := by decide +kernel
theorem dX12_line_73 : decode cX12_line 73 = .ok (.iload_n 1, 1) := by decide +kernel
theorem dX12_line_74 : decode cX12_line 74 = .ok (.iconst (-1), 1) := by decide +kernel
theorem dX12_line_75 : decode cX12_line 75 = .ok (.if_icmp .ne 10, 3) := by decide +kernel
theorem dX12_line_78 : decode cX12_line 78 = .ok (.aload_n 0, 1) := by decide +kernel
theorem dX12_line_79 : decode cX12_line 79 = .ok (.getfield 430, 3) := by decide +kernel
theorem dX12_line_82 : decode cX12_line 82 = .ok (.goto 49, 3) := by decide +kernel
theorem dX12_line_85 : decode cX12_line 85 = .ok (.iload_n 1, 1) := by decide +kernel
theorem dX12_line_86 : decode cX12_line 86 = .ok (.bipush (-2), 2) := by decide +kernel
theorem dX12_line_88 : decode cX12_line 88 = .ok (.if_icmp .ne 15, 3) := by decide +kernel
theorem dX12_line_91 : decode cX12_line 91 = .ok (.iload_n 2, 1) := by decide +kernel
theorem dX12_line_92 : decode cX12_line 92 = .ok (.ifCond .eq 7, 3) := by decide +kernel
theorem dX12_line_95 : decode cX12_line 95 = .ok (.iconst 1, 1) := by decide +kernel
theorem dX12_line_96 : decode cX12_line 96 = .ok (.goto 35, 3) := by decide +kernel
theorem dX12_line_99 : decode cX12_line 99 = .ok (.iconst 0, 1) := by decide +kernel
theorem dX12_line_100 : decode cX12_line 100 = .ok (.goto 31, 3) := by decide +kernel
theorem dX12_line_103 : decode cX12_line 103 = .ok (.iload_n 1, 1) := by decide +kernel
theorem dX12_line_104 : decode cX12_line 104 = .ok (.bipush (-3), 2) := by decide +kernel
theorem dX12_line_106 : decode cX12_line 106 = .ok (.if_icmp .ne 7, 3) := by decide +kernel
theorem dX12_line_109 : decode cX12_line 109 = .ok (.iload_n 3, 1) := by decide +kernel
theorem dX12_line_110 : decode cX12_line 110 = .ok (.goto 21, 3) := by decide +kernel
theorem dX12_line_113 : decode cX12_line 113 = .ok (.iload_n 1, 1) := by decide +kernel
theorem dX12_line_114 : decode cX12_line 114 = .ok (.aload_n 0, 1) := by decide +kernel
theorem dX12_line_115 : decode cX12_line 115 = .ok (.getfield 430, 3) := by decide +kernel
theorem dX12_line_118 : decode cX12_line 118 = .ok (.if_icmp .ge 12, 3) := by decide +kernel
theorem dX12_line_121 : decode cX12_line 121 = .ok (.aload_n 0, 1) := by decide +kernel
theorem dX12_line_122 : decode cX12_line 122 = .ok (.getfield 82, 3) := by decide +kernel
theorem dX12_line_125 : decode cX12_line 125 = .ok (.iload_n 1, 1) := by decide +kernel
theorem dX12_line_126 : decode cX12_line 126 = .ok (.iaload, 1) := by decide +kernel
theorem dX12_line_127 : decode cX12_line 127 = .ok (.goto 4, 3) := by decide +kernel
theorem dX12_line_130 : decode cX12_line 130 = .ok (.iconst (-1), 1) := by decide +kernel
theorem dX12_line_131 : decode cX12_line 131 = .ok (.ireturn, 1) := by decide +kernel
theorem dX12_playsOf_0 : decode cX12_playsOf 0 = .ok (.iload_n 1, 1) := by decide +kernel
theorem dX12_playsOf_1 : decode cX12_playsOf 1 = .ok (.ifCond .ne 5, 3) := by decide +kernel
theorem dX12_playsOf_4 : decode cX12_playsOf 4 = .ok (.iconst 1, 1) := by decide +kernel
theorem dX12_playsOf_5 : decode cX12_playsOf 5 = .ok (.ireturn, 1) := by decide +kernel
theorem dX12_playsOf_6 : decode cX12_playsOf 6 = .ok (.iconst 0, 1) := by decide +kernel
theorem dX12_playsOf_7 : decode cX12_playsOf 7 = .ok (.istore_n 2, 1) := by decide +kernel
theorem dX12_playsOf_8 : decode cX12_playsOf 8 = .ok (.aload_n 0, 1) := by decide +kernel
theorem dX12_playsOf_9 : decode cX12_playsOf 9 = .ok (.getfield 88, 3) := by decide +kernel
theorem dX12_playsOf_12 : decode cX12_playsOf 12 = .ok (.iload_n 1, 1) := by decide +kernel
theorem dX12_playsOf_13 : decode cX12_playsOf 13 = .ok (.aload_n 0, 1) := by decide +kernel
theorem dX12_playsOf_14 : decode cX12_playsOf 14 = .ok (.getfield 9, 3) := by decide +kernel
theorem dX12_playsOf_17 : decode cX12_playsOf 17 = .ok (.invokestatic 319, 3) := by decide +kernel
theorem dX12_playsOf_20 : decode cX12_playsOf 20 = .ok (.iconst 0, 1) := by decide +kernel
theorem dX12_playsOf_21 : decode cX12_playsOf 21 = .ok (.istore_n 3, 1) := by decide +kernel
theorem dX12_playsOf_22 : decode cX12_playsOf 22 = .ok (.iload_n 3, 1) := by decide +kernel
theorem dX12_playsOf_23 : decode cX12_playsOf 23 = .ok (.aload_n 0, 1) := by decide +kernel
theorem dX12_playsOf_24 : decode cX12_playsOf 24 = .ok (.invokevirtual 245, 3) := by decide +kernel
theorem dX12_playsOf_27 : decode cX12_playsOf 27 = .ok (.if_icmp .ge 48, 3) := by decide +kernel
theorem dX12_playsOf_30 : decode cX12_playsOf 30 = .ok (.aload_n 0, 1) := by decide +kernel
theorem dX12_playsOf_31 : decode cX12_playsOf 31 = .ok (.iload_n 3, 1) := by decide +kernel
theorem dX12_playsOf_32 : decode cX12_playsOf 32 = .ok (.invokevirtual 311, 3) := by decide +kernel
theorem dX12_playsOf_35 : decode cX12_playsOf 35 = .ok (.ifCond .eq 6, 3) := by decide +kernel
theorem dX12_playsOf_38 : decode cX12_playsOf 38 = .ok (.goto 31, 3) := by decide +kernel
theorem dX12_playsOf_41 : decode cX12_playsOf 41 = .ok (.aload_n 0, 1) := by decide +kernel
theorem dX12_playsOf_42 : decode cX12_playsOf 42 = .ok (.iload_n 3, 1) := by decide +kernel
theorem dX12_playsOf_43 : decode cX12_playsOf 43 = .ok (.invokevirtual 326, 3) := by decide +kernel
theorem dX12_playsOf_46 : decode cX12_playsOf 46 = .ok (.pop, 1) := by decide +kernel
theorem dX12_playsOf_47 : decode cX12_playsOf 47 = .ok (.iload_n 2, 1) := by decide +kernel
theorem dX12_playsOf_48 : decode cX12_playsOf 48 = .ok (.aload_n 0, 1) := by decide +kernel
theorem dX12_playsOf_49 : decode cX12_playsOf 49 = .ok (.iload_n 1, 1) := by decide +kernel
theorem dX12_playsOf_50 : decode cX12_playsOf 50 = .ok (.iconst 1, 1) := by decide +kernel
theorem dX12_playsOf_51 : decode cX12_playsOf 51 = .ok (.isub, 1) := by decide +kernel
theorem dX12_playsOf_52 : decode cX12_playsOf 52 = .ok (.invokevirtual 436, 3) := by decide +kernel
theorem dX12_playsOf_55 : decode cX12_playsOf 55 = .ok (.iadd, 1) := by decide +kernel
theorem dX12_playsOf_56 : decode cX12_playsOf 56 = .ok (.istore_n 2, 1) := by decide +kernel
theorem dX12_playsOf_57 : decode cX12_playsOf 57 = .ok (.aload_n 0, 1) := by decide +kernel
theorem dX12_playsOf_58 : decode cX12_playsOf 58 = .ok (.getfield 88, 3) := by decide +kernel
theorem dX12_playsOf_61 : decode cX12_playsOf 61 = .ok (.iload_n 1, 1) := by decide +kernel
theorem dX12_playsOf_62 : decode cX12_playsOf 62 = .ok (.aload_n 0, 1) := by decide +kernel
theorem dX12_playsOf_63 : decode cX12_playsOf 63 = .ok (.getfield 9, 3) := by decide +kernel
theorem dX12_playsOf_66 : decode cX12_playsOf 66 = .ok (.invokestatic 332, 3) := by decide +kernel
theorem dX12_playsOf_69 : decode cX12_playsOf 69 = .ok (.iinc 3 1, 3) := by decide +kernel
theorem dX12_playsOf_72 : decode cX12_playsOf 72 = .ok (.goto (-50), 3) := by decide +kernel
theorem dX12_playsOf_75 : decode cX12_playsOf 75 = .ok (.iload_n 2, 1) := by decide +kernel
theorem dX12_playsOf_76 : decode cX12_playsOf 76 = .ok (.ireturn, 1) := by decide +kernel
theorem dX12_plays_0 : decode cX12_plays 0 = .ok (.aload_n 0, 1) := by decide +kernel
theorem dX12_plays_1 : decode cX12_plays 1 = .ok (.iload_n 1, 1) := by decide +kernel
theorem dX12_plays_2 : decode cX12_plays 2 = .ok (.i2l, 1) := by decide +kernel
theorem dX12_plays_3 : decode cX12_plays 3 = .ok (.lconst 0, 1) := by decide +kernel
theorem dX12_plays_4 : decode cX12_plays 4 = .ok (.ldc2_w 428, 3) := by decide +kernel
theorem dX12_plays_7 : decode cX12_plays 7 = .ok (.invokestatic 166, 3) := by decide +kernel
theorem dX12_plays_10 : decode cX12_plays 10 = .ok (.ifCond .eq 7, 3) := by decide +kernel
theorem dX12_plays_13 : decode cX12_plays 13 = .ok (.iconst 0, 1) := by decide +kernel
theorem dX12_plays_14 : decode cX12_plays 14 = .ok (.goto 4, 3) := by decide +kernel
theorem dX12_plays_17 : decode cX12_plays 17 = .ok (.iconst 1, 1) := by decide +kernel
theorem dX12_plays_18 : decode cX12_plays 18 = .ok (.putfield 107, 3) := by decide +kernel
theorem dX12_plays_21 : decode cX12_plays 21 = .ok (.aload_n 0, 1) := by decide +kernel
theorem dX12_plays_22 : decode cX12_plays 22 = .ok (.getfield 107, 3) := by decide +kernel
theorem dX12_plays_25 : decode cX12_plays 25 = .ok (.ifCond .le 7, 3) := by decide +kernel
theorem dX12_plays_28 : decode cX12_plays 28 = .ok (.iconst 0, 1) := by decide +kernel
theorem dX12_plays_29 : decode cX12_plays 29 = .ok (.goto 8, 3) := by decide +kernel
theorem dX12_plays_32 : decode cX12_plays 32 = .ok (.aload_n 0, 1) := by decide +kernel
theorem dX12_plays_33 : decode cX12_plays 33 = .ok (.iload_n 1, 1) := by decide +kernel
theorem dX12_plays_34 : decode cX12_plays 34 = .ok (.invokevirtual 436, 3) := by decide +kernel
theorem dX12_plays_37 : decode cX12_plays 37 = .ok (.ireturn, 1) := by decide +kernel
theorem dX12_reaches_0 : decode cX12_reaches 0 = .ok (.iload_n 1, 1) := by decide +kernel
theorem dX12_reaches_1 : decode cX12_reaches 1 = .ok (.ifCond .ne 54, 3) := by decide +kernel
theorem dX12_reaches_4 : decode cX12_reaches 4 = .ok (.iconst 0, 1) := by decide +kernel
theorem dX12_reaches_5 : decode cX12_reaches 5 = .ok (.istore_n 2, 1) := by decide +kernel
theorem dX12_reaches_6 : decode cX12_reaches 6 = .ok (.iload_n 2, 1) := by decide +kernel
theorem dX12_reaches_7 : decode cX12_reaches 7 = .ok (.aload_n 0, 1) := by decide +kernel
theorem dX12_reaches_8 : decode cX12_reaches 8 = .ok (.getfield 439, 3) := by decide +kernel
theorem dX12_reaches_11 : decode cX12_reaches 11 = .ok (.if_icmp .ge 18, 3) := by decide +kernel
theorem dX12_reaches_14 : decode cX12_reaches 14 = .ok (.aload_n 0, 1) := by decide +kernel
theorem dX12_reaches_15 : decode cX12_reaches 15 = .ok (.iload_n 2, 1) := by decide +kernel
theorem dX12_reaches_16 : decode cX12_reaches 16 = .ok (.invokevirtual 442, 3) := by decide +kernel
theorem dX12_reaches_19 : decode cX12_reaches 19 = .ok (.ifCond .eq 4, 3) := by decide +kernel
theorem dX12_reaches_22 : decode cX12_reaches 22 = .ok (.return_, 1) := by decide +kernel
theorem dX12_reaches_23 : decode cX12_reaches 23 = .ok (.iinc 2 1, 3) := by decide +kernel
theorem dX12_reaches_26 : decode cX12_reaches 26 = .ok (.goto (-20), 3) := by decide +kernel
theorem dX12_reaches_29 : decode cX12_reaches 29 = .ok (.aload_n 0, 1) := by decide +kernel
theorem dX12_reaches_30 : decode cX12_reaches 30 = .ok (.getfield 91, 3) := by decide +kernel
theorem dX12_reaches_33 : decode cX12_reaches 33 = .ok (.aload_n 0, 1) := by decide +kernel
theorem dX12_reaches_34 : decode cX12_reaches 34 = .ok (.getfield 439, 3) := by decide +kernel
theorem dX12_reaches_37 : decode cX12_reaches 37 = .ok (.aload_n 0, 1) := by decide +kernel
theorem dX12_reaches_38 : decode cX12_reaches 38 = .ok (.getfield 9, 3) := by decide +kernel
theorem dX12_reaches_41 : decode cX12_reaches 41 = .ok (.invokestatic 319, 3) := by decide +kernel
theorem dX12_reaches_44 : decode cX12_reaches 44 = .ok (.aload_n 0, 1) := by decide +kernel
theorem dX12_reaches_45 : decode cX12_reaches 45 = .ok (.dup, 1) := by decide +kernel
theorem dX12_reaches_46 : decode cX12_reaches 46 = .ok (.getfield 439, 3) := by decide +kernel
theorem dX12_reaches_49 : decode cX12_reaches 49 = .ok (.iconst 1, 1) := by decide +kernel
theorem dX12_reaches_50 : decode cX12_reaches 50 = .ok (.iadd, 1) := by decide +kernel
theorem dX12_reaches_51 : decode cX12_reaches 51 = .ok (.putfield 439, 3) := by decide +kernel
theorem dX12_reaches_54 : decode cX12_reaches 54 = .ok (.return_, 1) := by decide +kernel
theorem dX12_reaches_55 : decode cX12_reaches 55 = .ok (.aload_n 0, 1) := by decide +kernel
theorem dX12_reaches_56 : decode cX12_reaches 56 = .ok (.getfield 88, 3) := by decide +kernel
theorem dX12_reaches_59 : decode cX12_reaches 59 = .ok (.iload_n 1, 1) := by decide +kernel
theorem dX12_reaches_60 : decode cX12_reaches 60 = .ok (.aload_n 0, 1) := by decide +kernel
theorem dX12_reaches_61 : decode cX12_reaches 61 = .ok (.getfield 9, 3) := by decide +kernel
theorem dX12_reaches_64 : decode cX12_reaches 64 = .ok (.invokestatic 319, 3) := by decide +kernel
theorem dX12_reaches_67 : decode cX12_reaches 67 = .ok (.iconst 0, 1) := by decide +kernel
theorem dX12_reaches_68 : decode cX12_reaches 68 = .ok (.istore_n 2, 1) := by decide +kernel
theorem dX12_reaches_69 : decode cX12_reaches 69 = .ok (.iload_n 2, 1) := by decide +kernel
theorem dX12_reaches_70 : decode cX12_reaches 70 = .ok (.aload_n 0, 1) := by decide +kernel
theorem dX12_reaches_71 : decode cX12_reaches 71 = .ok (.invokevirtual 245, 3) := by decide +kernel
theorem dX12_reaches_74 : decode cX12_reaches 74 = .ok (.if_icmp .ge 45, 3) := by decide +kernel
theorem dX12_reaches_77 : decode cX12_reaches 77 = .ok (.aload_n 0, 1) := by decide +kernel
theorem dX12_reaches_78 : decode cX12_reaches 78 = .ok (.iload_n 2, 1) := by decide +kernel
theorem dX12_reaches_79 : decode cX12_reaches 79 = .ok (.invokevirtual 311, 3) := by decide +kernel
theorem dX12_reaches_82 : decode cX12_reaches 82 = .ok (.ifCond .eq 6, 3) := by decide +kernel
theorem dX12_reaches_85 : decode cX12_reaches 85 = .ok (.goto 28, 3) := by decide +kernel
theorem dX12_reaches_88 : decode cX12_reaches 88 = .ok (.aload_n 0, 1) := by decide +kernel
theorem dX12_reaches_89 : decode cX12_reaches 89 = .ok (.iload_n 2, 1) := by decide +kernel
theorem dX12_reaches_90 : decode cX12_reaches 90 = .ok (.invokevirtual 326, 3) := by decide +kernel
theorem dX12_reaches_93 : decode cX12_reaches 93 = .ok (.pop, 1) := by decide +kernel
theorem dX12_reaches_94 : decode cX12_reaches 94 = .ok (.aload_n 0, 1) := by decide +kernel
theorem dX12_reaches_95 : decode cX12_reaches 95 = .ok (.iload_n 1, 1) := by decide +kernel
theorem dX12_reaches_96 : decode cX12_reaches 96 = .ok (.iconst 1, 1) := by decide +kernel
theorem dX12_reaches_97 : decode cX12_reaches 97 = .ok (.isub, 1) := by decide +kernel
theorem dX12_reaches_98 : decode cX12_reaches 98 = .ok (.invokevirtual 445, 3) := by decide +kernel
theorem dX12_reaches_101 : decode cX12_reaches 101 = .ok (.aload_n 0, 1) := by decide +kernel
theorem dX12_reaches_102 : decode cX12_reaches 102 = .ok (.getfield 88, 3) := by decide +kernel
theorem dX12_reaches_105 : decode cX12_reaches 105 = .ok (.iload_n 1, 1) := by decide +kernel
theorem dX12_reaches_106 : decode cX12_reaches 106 = .ok (.aload_n 0, 1) := by decide +kernel
theorem dX12_reaches_107 : decode cX12_reaches 107 = .ok (.getfield 9, 3) := by decide +kernel
theorem dX12_reaches_110 : decode cX12_reaches 110 = .ok (.invokestatic 332, 3) := by decide +kernel
theorem dX12_reaches_113 : decode cX12_reaches 113 = .ok (.iinc 2 1, 3) := by decide +kernel
theorem dX12_reaches_116 : decode cX12_reaches 116 = .ok (.goto (-47), 3) := by decide +kernel
theorem dX12_reaches_119 : decode cX12_reaches 119 = .ok (.return_, 1) := by decide +kernel
theorem dX12_isBoard_0 : decode cX12_isBoard 0 = .ok (.iconst 0, 1) := by decide +kernel
theorem dX12_isBoard_1 : decode cX12_isBoard 1 = .ok (.istore_n 2, 1) := by decide +kernel
theorem dX12_isBoard_2 : decode cX12_isBoard 2 = .ok (.iload_n 2, 1) := by decide +kernel
theorem dX12_isBoard_3 : decode cX12_isBoard 3 = .ok (.bipush 25, 2) := by decide +kernel
theorem dX12_isBoard_5 : decode cX12_isBoard 5 = .ok (.if_icmp .ge 31, 3) := by decide +kernel
theorem dX12_isBoard_8 : decode cX12_isBoard 8 = .ok (.aload_n 0, 1) := by decide +kernel
theorem dX12_isBoard_9 : decode cX12_isBoard 9 = .ok (.getfield 91, 3) := by decide +kernel
theorem dX12_isBoard_12 : decode cX12_isBoard 12 = .ok (.bipush 25, 2) := by decide +kernel
theorem dX12_isBoard_14 : decode cX12_isBoard 14 = .ok (.iload_n 1, 1) := by decide +kernel
theorem dX12_isBoard_15 : decode cX12_isBoard 15 = .ok (.imul, 1) := by decide +kernel
theorem dX12_isBoard_16 : decode cX12_isBoard 16 = .ok (.iload_n 2, 1) := by decide +kernel
theorem dX12_isBoard_17 : decode cX12_isBoard 17 = .ok (.iadd, 1) := by decide +kernel
theorem dX12_isBoard_18 : decode cX12_isBoard 18 = .ok (.iaload, 1) := by decide +kernel
theorem dX12_isBoard_19 : decode cX12_isBoard 19 = .ok (.aload_n 0, 1) := by decide +kernel
theorem dX12_isBoard_20 : decode cX12_isBoard 20 = .ok (.getfield 9, 3) := by decide +kernel
theorem dX12_isBoard_23 : decode cX12_isBoard 23 = .ok (.iload_n 2, 1) := by decide +kernel
theorem dX12_isBoard_24 : decode cX12_isBoard 24 = .ok (.iaload, 1) := by decide +kernel
theorem dX12_isBoard_25 : decode cX12_isBoard 25 = .ok (.if_icmp .eq 5, 3) := by decide +kernel
theorem dX12_isBoard_28 : decode cX12_isBoard 28 = .ok (.iconst 0, 1) := by decide +kernel
theorem dX12_isBoard_29 : decode cX12_isBoard 29 = .ok (.ireturn, 1) := by decide +kernel
theorem dX12_isBoard_30 : decode cX12_isBoard 30 = .ok (.iinc 2 1, 3) := by decide +kernel
theorem dX12_isBoard_33 : decode cX12_isBoard 33 = .ok (.goto (-31), 3) := by decide +kernel
theorem dX12_isBoard_36 : decode cX12_isBoard 36 = .ok (.iconst 1, 1) := by decide +kernel
theorem dX12_isBoard_37 : decode cX12_isBoard 37 = .ok (.ireturn, 1) := by decide +kernel
theorem dX12_reached_0 : decode cX12_reached 0 = .ok (.aload_n 0, 1) := by decide +kernel
theorem dX12_reached_1 : decode cX12_reached 1 = .ok (.iload_n 1, 1) := by decide +kernel
theorem dX12_reached_2 : decode cX12_reached 2 = .ok (.i2l, 1) := by decide +kernel
theorem dX12_reached_3 : decode cX12_reached 3 = .ok (.lconst 0, 1) := by decide +kernel
theorem dX12_reached_4 : decode cX12_reached 4 = .ok (.ldc2_w 448, 3) := by decide +kernel
theorem dX12_reached_7 : decode cX12_reached 7 = .ok (.invokestatic 166, 3) := by decide +kernel
theorem dX12_reached_10 : decode cX12_reached 10 = .ok (.ifCond .eq 7, 3) := by decide +kernel
theorem dX12_reached_13 : decode cX12_reached 13 = .ok (.iconst 0, 1) := by decide +kernel
theorem dX12_reached_14 : decode cX12_reached 14 = .ok (.goto 4, 3) := by decide +kernel
theorem dX12_reached_17 : decode cX12_reached 17 = .ok (.iconst 1, 1) := by decide +kernel
theorem dX12_reached_18 : decode cX12_reached 18 = .ok (.putfield 107, 3) := by decide +kernel
theorem dX12_reached_21 : decode cX12_reached 21 = .ok (.aload_n 0, 1) := by decide +kernel
theorem dX12_reached_22 : decode cX12_reached 22 = .ok (.getfield 107, 3) := by decide +kernel
theorem dX12_reached_25 : decode cX12_reached 25 = .ok (.ifCond .le 5, 3) := by decide +kernel
theorem dX12_reached_28 : decode cX12_reached 28 = .ok (.iconst 0, 1) := by decide +kernel
theorem dX12_reached_29 : decode cX12_reached 29 = .ok (.ireturn, 1) := by decide +kernel
theorem dX12_reached_30 : decode cX12_reached 30 = .ok (.aload_n 0, 1) := by decide +kernel
theorem dX12_reached_31 : decode cX12_reached 31 = .ok (.iconst 0, 1) := by decide +kernel
theorem dX12_reached_32 : decode cX12_reached 32 = .ok (.putfield 439, 3) := by decide +kernel
theorem dX12_reached_35 : decode cX12_reached 35 = .ok (.aload_n 0, 1) := by decide +kernel
theorem dX12_reached_36 : decode cX12_reached 36 = .ok (.iload_n 1, 1) := by decide +kernel
theorem dX12_reached_37 : decode cX12_reached 37 = .ok (.invokevirtual 445, 3) := by decide +kernel
theorem dX12_reached_40 : decode cX12_reached 40 = .ok (.aload_n 0, 1) := by decide +kernel
theorem dX12_reached_41 : decode cX12_reached 41 = .ok (.getfield 439, 3) := by decide +kernel
theorem dX12_reached_44 : decode cX12_reached 44 = .ok (.ireturn, 1) := by decide +kernel
theorem dX12_ends_0 : decode cX12_ends 0 = .ok (.iload_n 1, 1) := by decide +kernel
theorem dX12_ends_1 : decode cX12_ends 1 = .ok (.ifCond .eq 10, 3) := by decide +kernel
theorem dX12_ends_4 : decode cX12_ends 4 = .ok (.aload_n 0, 1) := by decide +kernel
theorem dX12_ends_5 : decode cX12_ends 5 = .ok (.invokevirtual 305, 3) := by decide +kernel
theorem dX12_ends_8 : decode cX12_ends 8 = .ok (.ifCond .eq 20, 3) := by decide +kernel
theorem dX12_ends_11 : decode cX12_ends 11 = .ok (.iload_n 1, 1) := by decide +kernel
theorem dX12_ends_12 : decode cX12_ends 12 = .ok (.ifCond .ne 14, 3) := by decide +kernel
theorem dX12_ends_15 : decode cX12_ends 15 = .ok (.aload_n 0, 1) := by decide +kernel
theorem dX12_ends_16 : decode cX12_ends 16 = .ok (.invokevirtual 305, 3) := by decide +kernel
theorem dX12_ends_19 : decode cX12_ends 19 = .ok (.ifCond .eq 7, 3) := by decide +kernel
theorem dX12_ends_22 : decode cX12_ends 22 = .ok (.iconst 1, 1) := by decide +kernel
theorem dX12_ends_23 : decode cX12_ends 23 = .ok (.goto 4, 3) := by decide +kernel
theorem dX12_ends_26 : decode cX12_ends 26 = .ok (.iconst 0, 1) := by decide +kernel
theorem dX12_ends_27 : decode cX12_ends 27 = .ok (.ireturn, 1) := by decide +kernel
theorem dX12_ends_28 : decode cX12_ends 28 = .ok (.aload_n 0, 1) := by decide +kernel
theorem dX12_ends_29 : decode cX12_ends 29 = .ok (.getfield 88, 3) := by decide +kernel
theorem dX12_ends_32 : decode cX12_ends 32 = .ok (.iload_n 1, 1) := by decide +kernel
theorem dX12_ends_33 : decode cX12_ends 33 = .ok (.aload_n 0, 1) := by decide +kernel
theorem dX12_ends_34 : decode cX12_ends 34 = .ok (.getfield 9, 3) := by decide +kernel
theorem dX12_ends_37 : decode cX12_ends 37 = .ok (.invokestatic 319, 3) := by decide +kernel
theorem dX12_ends_40 : decode cX12_ends 40 = .ok (.iconst 0, 1) := by decide +kernel
theorem dX12_ends_41 : decode cX12_ends 41 = .ok (.istore_n 2, 1) := by decide +kernel
theorem dX12_ends_42 : decode cX12_ends 42 = .ok (.iload_n 2, 1) := by decide +kernel
theorem dX12_ends_43 : decode cX12_ends 43 = .ok (.aload_n 0, 1) := by decide +kernel
theorem dX12_ends_44 : decode cX12_ends 44 = .ok (.invokevirtual 245, 3) := by decide +kernel
theorem dX12_ends_47 : decode cX12_ends 47 = .ok (.if_icmp .ge 59, 3) := by decide +kernel
theorem dX12_ends_50 : decode cX12_ends 50 = .ok (.aload_n 0, 1) := by decide +kernel
theorem dX12_ends_51 : decode cX12_ends 51 = .ok (.iload_n 2, 1) := by decide +kernel
theorem dX12_ends_52 : decode cX12_ends 52 = .ok (.invokevirtual 311, 3) := by decide +kernel
theorem dX12_ends_55 : decode cX12_ends 55 = .ok (.ifCond .eq 6, 3) := by decide +kernel
theorem dX12_ends_58 : decode cX12_ends 58 = .ok (.goto 42, 3) := by decide +kernel
theorem dX12_ends_61 : decode cX12_ends 61 = .ok (.aload_n 0, 1) := by decide +kernel
theorem dX12_ends_62 : decode cX12_ends 62 = .ok (.iload_n 2, 1) := by decide +kernel
theorem dX12_ends_63 : decode cX12_ends 63 = .ok (.invokevirtual 326, 3) := by decide +kernel
theorem dX12_ends_66 : decode cX12_ends 66 = .ok (.pop, 1) := by decide +kernel
theorem dX12_ends_67 : decode cX12_ends 67 = .ok (.aload_n 0, 1) := by decide +kernel
theorem dX12_ends_68 : decode cX12_ends 68 = .ok (.iload_n 1, 1) := by decide +kernel
theorem dX12_ends_69 : decode cX12_ends 69 = .ok (.iconst 1, 1) := by decide +kernel
theorem dX12_ends_70 : decode cX12_ends 70 = .ok (.isub, 1) := by decide +kernel
theorem dX12_ends_71 : decode cX12_ends 71 = .ok (.invokevirtual 450, 3) := by decide +kernel
theorem dX12_ends_74 : decode cX12_ends 74 = .ok (.istore_n 3, 1) := by decide +kernel
theorem dX12_ends_75 : decode cX12_ends 75 = .ok (.aload_n 0, 1) := by decide +kernel
theorem dX12_ends_76 : decode cX12_ends 76 = .ok (.getfield 88, 3) := by decide +kernel
theorem dX12_ends_79 : decode cX12_ends 79 = .ok (.iload_n 1, 1) := by decide +kernel
theorem dX12_ends_80 : decode cX12_ends 80 = .ok (.aload_n 0, 1) := by decide +kernel
theorem dX12_ends_81 : decode cX12_ends 81 = .ok (.getfield 9, 3) := by decide +kernel
theorem dX12_ends_84 : decode cX12_ends 84 = .ok (.invokestatic 332, 3) := by decide +kernel
theorem dX12_ends_87 : decode cX12_ends 87 = .ok (.aload_n 0, 1) := by decide +kernel
theorem dX12_ends_88 : decode cX12_ends 88 = .ok (.getfield 94, 3) := by decide +kernel
theorem dX12_ends_91 : decode cX12_ends 91 = .ok (.iload_n 1, 1) := by decide +kernel
theorem dX12_ends_92 : decode cX12_ends 92 = .ok (.iload_n 2, 1) := by decide +kernel
theorem dX12_ends_93 : decode cX12_ends 93 = .ok (.iastore, 1) := by decide +kernel
theorem dX12_ends_94 : decode cX12_ends 94 = .ok (.iload_n 3, 1) := by decide +kernel
theorem dX12_ends_95 : decode cX12_ends 95 = .ok (.ifCond .eq 5, 3) := by decide +kernel
theorem dX12_ends_98 : decode cX12_ends 98 = .ok (.iconst 1, 1) := by decide +kernel
theorem dX12_ends_99 : decode cX12_ends 99 = .ok (.ireturn, 1) := by decide +kernel
theorem dX12_ends_100 : decode cX12_ends 100 = .ok (.iinc 2 1, 3) := by decide +kernel
theorem dX12_ends_103 : decode cX12_ends 103 = .ok (.goto (-61), 3) := by decide +kernel
theorem dX12_ends_106 : decode cX12_ends 106 = .ok (.iconst 0, 1) := by decide +kernel
theorem dX12_ends_107 : decode cX12_ends 107 = .ok (.ireturn, 1) := by decide +kernel
theorem dX12_soonest_0 : decode cX12_soonest 0 = .ok (.aload_n 0, 1) := by decide +kernel
theorem dX12_soonest_1 : decode cX12_soonest 1 = .ok (.iconst 0, 1) := by decide +kernel
theorem dX12_soonest_2 : decode cX12_soonest 2 = .ok (.putfield 107, 3) := by decide +kernel
theorem dX12_soonest_5 : decode cX12_soonest 5 = .ok (.iconst 0, 1) := by decide +kernel
theorem dX12_soonest_6 : decode cX12_soonest 6 = .ok (.istore_n 2, 1) := by decide +kernel
theorem dX12_soonest_7 : decode cX12_soonest 7 = .ok (.iload_n 2, 1) := by decide +kernel
theorem dX12_soonest_8 : decode cX12_soonest 8 = .ok (.bipush 6, 2) := by decide +kernel
theorem dX12_soonest_10 : decode cX12_soonest 10 = .ok (.if_icmp .gt 52, 3) := by decide +kernel
theorem dX12_soonest_13 : decode cX12_soonest 13 = .ok (.aload_n 0, 1) := by decide +kernel
theorem dX12_soonest_14 : decode cX12_soonest 14 = .ok (.iload_n 2, 1) := by decide +kernel
theorem dX12_soonest_15 : decode cX12_soonest 15 = .ok (.invokevirtual 450, 3) := by decide +kernel
theorem dX12_soonest_18 : decode cX12_soonest 18 = .ok (.ifCond .eq 38, 3) := by decide +kernel
theorem dX12_soonest_21 : decode cX12_soonest 21 = .ok (.iload_n 1, 1) := by decide +kernel
theorem dX12_soonest_22 : decode cX12_soonest 22 = .ok (.iconst (-1), 1) := by decide +kernel
theorem dX12_soonest_23 : decode cX12_soonest 23 = .ok (.if_icmp .ne 7, 3) := by decide +kernel
theorem dX12_soonest_26 : decode cX12_soonest 26 = .ok (.iload_n 2, 1) := by decide +kernel
theorem dX12_soonest_27 : decode cX12_soonest 27 = .ok (.goto 28, 3) := by decide +kernel
theorem dX12_soonest_30 : decode cX12_soonest 30 = .ok (.iload_n 1, 1) := by decide +kernel
theorem dX12_soonest_31 : decode cX12_soonest 31 = .ok (.i2l, 1) := by decide +kernel
theorem dX12_soonest_32 : decode cX12_soonest 32 = .ok (.lconst 0, 1) := by decide +kernel
theorem dX12_soonest_33 : decode cX12_soonest 33 = .ok (.iload_n 2, 1) := by decide +kernel
theorem dX12_soonest_34 : decode cX12_soonest 34 = .ok (.iconst 1, 1) := by decide +kernel
theorem dX12_soonest_35 : decode cX12_soonest 35 = .ok (.isub, 1) := by decide +kernel
theorem dX12_soonest_36 : decode cX12_soonest 36 = .ok (.i2l, 1) := by decide +kernel
theorem dX12_soonest_37 : decode cX12_soonest 37 = .ok (.invokestatic 166, 3) := by decide +kernel
theorem dX12_soonest_40 : decode cX12_soonest 40 = .ok (.ifCond .eq 14, 3) := by decide +kernel
theorem dX12_soonest_43 : decode cX12_soonest 43 = .ok (.aload_n 0, 1) := by decide +kernel
theorem dX12_soonest_44 : decode cX12_soonest 44 = .ok (.getfield 94, 3) := by decide +kernel
theorem dX12_soonest_47 : decode cX12_soonest 47 = .ok (.iload_n 2, 1) := by decide +kernel
theorem dX12_soonest_48 : decode cX12_soonest 48 = .ok (.iload_n 1, 1) := by decide +kernel
theorem dX12_soonest_49 : decode cX12_soonest 49 = .ok (.isub, 1) := by decide +kernel
theorem dX12_soonest_50 : decode cX12_soonest 50 = .ok (.iaload, 1) := by decide +kernel
theorem dX12_soonest_51 : decode cX12_soonest 51 = .ok (.goto 4, 3) := by decide +kernel
theorem dX12_soonest_54 : decode cX12_soonest 54 = .ok (.iconst (-1), 1) := by decide +kernel
theorem dX12_soonest_55 : decode cX12_soonest 55 = .ok (.ireturn, 1) := by decide +kernel
theorem dX12_soonest_56 : decode cX12_soonest 56 = .ok (.iinc 2 1, 3) := by decide +kernel
theorem dX12_soonest_59 : decode cX12_soonest 59 = .ok (.goto (-52), 3) := by decide +kernel
theorem dX12_soonest_62 : decode cX12_soonest 62 = .ok (.iconst (-1), 1) := by decide +kernel
theorem dX12_soonest_63 : decode cX12_soonest 63 = .ok (.ireturn, 1) := by decide +kernel
theorem dX12_pits_0 : decode cX12_pits 0 = .ok (.aload_n 0, 1) := by decide +kernel
theorem dX12_pits_1 : decode cX12_pits 1 = .ok (.iload_n 1, 1) := by decide +kernel
theorem dX12_pits_2 : decode cX12_pits 2 = .ok (.i2l, 1) := by decide +kernel
theorem dX12_pits_3 : decode cX12_pits 3 = .ok (.lconst 0, 1) := by decide +kernel
theorem dX12_pits_4 : decode cX12_pits 4 = .ok (.ldc2_w 453, 3) := by decide +kernel
theorem dX12_pits_7 : decode cX12_pits 7 = .ok (.invokestatic 166, 3) := by decide +kernel
theorem dX12_pits_10 : decode cX12_pits 10 = .ok (.ifCond .eq 7, 3) := by decide +kernel
theorem dX12_pits_13 : decode cX12_pits 13 = .ok (.iconst 0, 1) := by decide +kernel
theorem dX12_pits_14 : decode cX12_pits 14 = .ok (.goto 4, 3) := by decide +kernel
theorem dX12_pits_17 : decode cX12_pits 17 = .ok (.iconst 1, 1) := by decide +kernel
theorem dX12_pits_18 : decode cX12_pits 18 = .ok (.putfield 107, 3) := by decide +kernel
theorem dX12_pits_21 : decode cX12_pits 21 = .ok (.iconst 0, 1) := by decide +kernel
theorem dX12_pits_22 : decode cX12_pits 22 = .ok (.istore_n 2, 1) := by decide +kernel
theorem dX12_pits_23 : decode cX12_pits 23 = .ok (.iconst 0, 1) := by decide +kernel
theorem dX12_pits_24 : decode cX12_pits 24 = .ok (.istore_n 3, 1) := by decide +kernel
theorem dX12_pits_25 : decode cX12_pits 25 = .ok (.iload_n 3, 1) := by decide +kernel
theorem dX12_pits_26 : decode cX12_pits 26 = .ok (.aload_n 0, 1) := by decide +kernel
theorem dX12_pits_27 : decode cX12_pits 27 = .ok (.invokevirtual 245, 3) := by decide +kernel
theorem dX12_pits_30 : decode cX12_pits 30 = .ok (.if_icmp .ge 88, 3) := by decide +kernel
theorem dX12_pits_33 : decode cX12_pits 33 = .ok (.aload_n 0, 1) := by decide +kernel
theorem dX12_pits_34 : decode cX12_pits 34 = .ok (.getfield 107, 3) := by decide +kernel
theorem dX12_pits_37 : decode cX12_pits 37 = .ok (.ifCond .ne 81, 3) := by decide +kernel
theorem dX12_pits_40 : decode cX12_pits 40 = .ok (.aload_n 0, 1) := by decide +kernel
theorem dX12_pits_41 : decode cX12_pits 41 = .ok (.iload_n 3, 1) := by decide +kernel
theorem dX12_pits_42 : decode cX12_pits 42 = .ok (.invokevirtual 311, 3) := by decide +kernel
theorem dX12_pits_45 : decode cX12_pits 45 = .ok (.ifCond .eq 6, 3) := by decide +kernel
theorem dX12_pits_48 : decode cX12_pits 48 = .ok (.goto 64, 3) := by decide +kernel
theorem dX12_pits_51 : decode cX12_pits 51 = .ok (.aload_n 0, 1) := by decide +kernel
theorem dX12_pits_52 : decode cX12_pits 52 = .ok (.iload_n 3, 1) := by decide +kernel
theorem dX12_pits_53 : decode cX12_pits 53 = .ok (.invokevirtual 302, 3) := by decide +kernel
theorem dX12_pits_56 : decode cX12_pits 56 = .ok (.iload_n 2, 1) := by decide +kernel
theorem dX12_pits_57 : decode cX12_pits 57 = .ok (.iload_n 1, 1) := by decide +kernel
theorem dX12_pits_58 : decode cX12_pits 58 = .ok (.ifCond .ne 15, 3) := by decide +kernel
theorem dX12_pits_61 : decode cX12_pits 61 = .ok (.aload_n 0, 1) := by decide +kernel
theorem dX12_pits_62 : decode cX12_pits 62 = .ok (.getfield 277, 3) := by decide +kernel
theorem dX12_pits_65 : decode cX12_pits 65 = .ok (.bipush 100, 2) := by decide +kernel
theorem dX12_pits_67 : decode cX12_pits 67 = .ok (.if_icmp .ne 42, 3) := by decide +kernel
theorem dX12_pits_70 : decode cX12_pits 70 = .ok (.goto 33, 3) := by decide +kernel
theorem dX12_pits_73 : decode cX12_pits 73 = .ok (.iload_n 1, 1) := by decide +kernel
theorem dX12_pits_74 : decode cX12_pits 74 = .ok (.iconst 1, 1) := by decide +kernel
theorem dX12_pits_75 : decode cX12_pits 75 = .ok (.if_icmp .ne 13, 3) := by decide +kernel
theorem dX12_pits_78 : decode cX12_pits 78 = .ok (.aload_n 0, 1) := by decide +kernel
theorem dX12_pits_79 : decode cX12_pits 79 = .ok (.getfield 266, 3) := by decide +kernel
theorem dX12_pits_82 : decode cX12_pits 82 = .ok (.ifCond .le 27, 3) := by decide +kernel
theorem dX12_pits_85 : decode cX12_pits 85 = .ok (.goto 18, 3) := by decide +kernel
theorem dX12_pits_88 : decode cX12_pits 88 = .ok (.aload_n 0, 1) := by decide +kernel
theorem dX12_pits_89 : decode cX12_pits 89 = .ok (.iconst 1, 1) := by decide +kernel
theorem dX12_pits_90 : decode cX12_pits 90 = .ok (.aload_n 0, 1) := by decide +kernel
theorem dX12_pits_91 : decode cX12_pits 91 = .ok (.getfield 9, 3) := by decide +kernel
theorem dX12_pits_94 : decode cX12_pits 94 = .ok (.iconst 2, 1) := by decide +kernel
theorem dX12_pits_95 : decode cX12_pits 95 = .ok (.iaload, 1) := by decide +kernel
theorem dX12_pits_96 : decode cX12_pits 96 = .ok (.isub, 1) := by decide +kernel
theorem dX12_pits_97 : decode cX12_pits 97 = .ok (.invokevirtual 290, 3) := by decide +kernel
theorem dX12_pits_100 : decode cX12_pits 100 = .ok (.ifCond .ne 9, 3) := by decide +kernel
theorem dX12_pits_103 : decode cX12_pits 103 = .ok (.iconst 1, 1) := by decide +kernel
theorem dX12_pits_104 : decode cX12_pits 104 = .ok (.iload_n 3, 1) := by decide +kernel
theorem dX12_pits_105 : decode cX12_pits 105 = .ok (.ishl, 1) := by decide +kernel
theorem dX12_pits_106 : decode cX12_pits 106 = .ok (.goto 4, 3) := by decide +kernel
theorem dX12_pits_109 : decode cX12_pits 109 = .ok (.iconst 0, 1) := by decide +kernel
theorem dX12_pits_110 : decode cX12_pits 110 = .ok (.ior, 1) := by decide +kernel
theorem dX12_pits_111 : decode cX12_pits 111 = .ok (.istore_n 2, 1) := by decide +kernel
theorem dX12_pits_112 : decode cX12_pits 112 = .ok (.iinc 3 1, 3) := by decide +kernel
theorem dX12_pits_115 : decode cX12_pits 115 = .ok (.goto (-90), 3) := by decide +kernel
theorem dX12_pits_118 : decode cX12_pits 118 = .ok (.iload_n 2, 1) := by decide +kernel
theorem dX12_pits_119 : decode cX12_pits 119 = .ok (.ireturn, 1) := by decide +kernel
theorem dX12_forced_0 : decode cX12_forced 0 = .ok (.aload_n 0, 1) := by decide +kernel
theorem dX12_forced_1 : decode cX12_forced 1 = .ok (.iconst 0, 1) := by decide +kernel
theorem dX12_forced_2 : decode cX12_forced 2 = .ok (.putfield 107, 3) := by decide +kernel
theorem dX12_forced_5 : decode cX12_forced 5 = .ok (.aload_n 0, 1) := by decide +kernel
theorem dX12_forced_6 : decode cX12_forced 6 = .ok (.getfield 9, 3) := by decide +kernel
theorem dX12_forced_9 : decode cX12_forced 9 = .ok (.aload_n 0, 1) := by decide +kernel
theorem dX12_forced_10 : decode cX12_forced 10 = .ok (.getfield 19, 3) := by decide +kernel
theorem dX12_forced_13 : decode cX12_forced 13 = .ok (.invokestatic 235, 3) := by decide +kernel
theorem dX12_forced_16 : decode cX12_forced 16 = .ok (.iconst 0, 1) := by decide +kernel
theorem dX12_forced_17 : decode cX12_forced 17 = .ok (.istore_n 1, 1) := by decide +kernel
theorem dX12_forced_18 : decode cX12_forced 18 = .ok (.iload_n 1, 1) := by decide +kernel
theorem dX12_forced_19 : decode cX12_forced 19 = .ok (.bipush 60, 2) := by decide +kernel
theorem dX12_forced_21 : decode cX12_forced 21 = .ok (.if_icmp .ge 26, 3) := by decide +kernel
theorem dX12_forced_24 : decode cX12_forced 24 = .ok (.aload_n 0, 1) := by decide +kernel
theorem dX12_forced_25 : decode cX12_forced 25 = .ok (.invokevirtual 455, 3) := by decide +kernel
theorem dX12_forced_28 : decode cX12_forced 28 = .ok (.iconst (-1), 1) := by decide +kernel
theorem dX12_forced_29 : decode cX12_forced 29 = .ok (.if_icmp .eq 18, 3) := by decide +kernel
theorem dX12_forced_32 : decode cX12_forced 32 = .ok (.aload_n 0, 1) := by decide +kernel
theorem dX12_forced_33 : decode cX12_forced 33 = .ok (.aload_n 0, 1) := by decide +kernel
theorem dX12_forced_34 : decode cX12_forced 34 = .ok (.invokevirtual 455, 3) := by decide +kernel
theorem dX12_forced_37 : decode cX12_forced 37 = .ok (.invokevirtual 326, 3) := by decide +kernel
theorem dX12_forced_40 : decode cX12_forced 40 = .ok (.pop, 1) := by decide +kernel
theorem dX12_forced_41 : decode cX12_forced 41 = .ok (.iinc 1 1, 3) := by decide +kernel
theorem dX12_forced_44 : decode cX12_forced 44 = .ok (.goto (-26), 3) := by decide +kernel
theorem dX12_forced_47 : decode cX12_forced 47 = .ok (.aload_n 0, 1) := by decide +kernel
theorem dX12_forced_48 : decode cX12_forced 48 = .ok (.getfield 19, 3) := by decide +kernel
theorem dX12_forced_51 : decode cX12_forced 51 = .ok (.aload_n 0, 1) := by decide +kernel
theorem dX12_forced_52 : decode cX12_forced 52 = .ok (.getfield 9, 3) := by decide +kernel
theorem dX12_forced_55 : decode cX12_forced 55 = .ok (.invokestatic 235, 3) := by decide +kernel
theorem dX12_forced_58 : decode cX12_forced 58 = .ok (.iload_n 1, 1) := by decide +kernel
theorem dX12_forced_59 : decode cX12_forced 59 = .ok (.ireturn, 1) := by decide +kernel
theorem dX12_only_0 : decode cX12_only 0 = .ok (.iconst (-1), 1) := by decide +kernel
theorem dX12_only_1 : decode cX12_only 1 = .ok (.istore_n 1, 1) := by decide +kernel
theorem dX12_only_2 : decode cX12_only 2 = .ok (.iconst 0, 1) := by decide +kernel
theorem dX12_only_3 : decode cX12_only 3 = .ok (.istore_n 2, 1) := by decide +kernel
theorem dX12_only_4 : decode cX12_only 4 = .ok (.iload_n 2, 1) := by decide +kernel
theorem dX12_only_5 : decode cX12_only 5 = .ok (.aload_n 0, 1) := by decide +kernel
theorem dX12_only_6 : decode cX12_only 6 = .ok (.invokevirtual 245, 3) := by decide +kernel
theorem dX12_only_9 : decode cX12_only 9 = .ok (.if_icmp .ge 29, 3) := by decide +kernel
theorem dX12_only_12 : decode cX12_only 12 = .ok (.aload_n 0, 1) := by decide +kernel
theorem dX12_only_13 : decode cX12_only 13 = .ok (.iload_n 2, 1) := by decide +kernel
theorem dX12_only_14 : decode cX12_only 14 = .ok (.invokevirtual 311, 3) := by decide +kernel
theorem dX12_only_17 : decode cX12_only 17 = .ok (.ifCond .eq 6, 3) := by decide +kernel
theorem dX12_only_20 : decode cX12_only 20 = .ok (.goto 12, 3) := by decide +kernel
theorem dX12_only_23 : decode cX12_only 23 = .ok (.iload_n 1, 1) := by decide +kernel
theorem dX12_only_24 : decode cX12_only 24 = .ok (.iconst (-1), 1) := by decide +kernel
theorem dX12_only_25 : decode cX12_only 25 = .ok (.if_icmp .eq 5, 3) := by decide +kernel
theorem dX12_only_28 : decode cX12_only 28 = .ok (.iconst (-1), 1) := by decide +kernel
theorem dX12_only_29 : decode cX12_only 29 = .ok (.ireturn, 1) := by decide +kernel
theorem dX12_only_30 : decode cX12_only 30 = .ok (.iload_n 2, 1) := by decide +kernel
theorem dX12_only_31 : decode cX12_only 31 = .ok (.istore_n 1, 1) := by decide +kernel
theorem dX12_only_32 : decode cX12_only 32 = .ok (.iinc 2 1, 3) := by decide +kernel
theorem dX12_only_35 : decode cX12_only 35 = .ok (.goto (-31), 3) := by decide +kernel
theorem dX12_only_38 : decode cX12_only 38 = .ok (.iload_n 1, 1) := by decide +kernel
theorem dX12_only_39 : decode cX12_only 39 = .ok (.ireturn, 1) := by decide +kernel
theorem dX12_draw_0 : decode cX12_draw 0 = .ok (.aload_n 0, 1) := by decide +kernel
theorem dX12_draw_1 : decode cX12_draw 1 = .ok (.ldc_w 458, 3) := by decide +kernel
theorem dX12_draw_4 : decode cX12_draw 4 = .ok (.aload_n 0, 1) := by decide +kernel
theorem dX12_draw_5 : decode cX12_draw 5 = .ok (.getfield 459, 3) := by decide +kernel
theorem dX12_draw_8 : decode cX12_draw 8 = .ok (.imul, 1) := by decide +kernel
theorem dX12_draw_9 : decode cX12_draw 9 = .ok (.sipush 12345, 3) := by decide +kernel
theorem dX12_draw_12 : decode cX12_draw 12 = .ok (.iadd, 1) := by decide +kernel
theorem dX12_draw_13 : decode cX12_draw 13 = .ok (.putfield 459, 3) := by decide +kernel
theorem dX12_draw_16 : decode cX12_draw 16 = .ok (.aload_n 0, 1) := by decide +kernel
theorem dX12_draw_17 : decode cX12_draw 17 = .ok (.getfield 459, 3) := by decide +kernel
theorem dX12_draw_20 : decode cX12_draw 20 = .ok (.bipush 16, 2) := by decide +kernel
theorem dX12_draw_22 : decode cX12_draw 22 = .ok (.iushr, 1) := by decide +kernel
theorem dX12_draw_23 : decode cX12_draw 23 = .ok (.iload_n 1, 1) := by decide +kernel
theorem dX12_draw_24 : decode cX12_draw 24 = .ok (.irem, 1) := by decide +kernel
theorem dX12_draw_25 : decode cX12_draw 25 = .ok (.ireturn, 1) := by decide +kernel
theorem dX12_drawn_0 : decode cX12_drawn 0 = .ok (.iconst 0, 1) := by decide +kernel
theorem dX12_drawn_1 : decode cX12_drawn 1 = .ok (.istore_n 1, 1) := by decide +kernel
theorem dX12_drawn_2 : decode cX12_drawn 2 = .ok (.iconst 0, 1) := by decide +kernel
theorem dX12_drawn_3 : decode cX12_drawn 3 = .ok (.istore_n 2, 1) := by decide +kernel
theorem dX12_drawn_4 : decode cX12_drawn 4 = .ok (.iload_n 2, 1) := by decide +kernel
theorem dX12_drawn_5 : decode cX12_drawn 5 = .ok (.aload_n 0, 1) := by decide +kernel
theorem dX12_drawn_6 : decode cX12_drawn 6 = .ok (.invokevirtual 245, 3) := by decide +kernel
theorem dX12_drawn_9 : decode cX12_drawn 9 = .ok (.if_icmp .ge 25, 3) := by decide +kernel
theorem dX12_drawn_12 : decode cX12_drawn 12 = .ok (.iload_n 1, 1) := by decide +kernel
theorem dX12_drawn_13 : decode cX12_drawn 13 = .ok (.aload_n 0, 1) := by decide +kernel
theorem dX12_drawn_14 : decode cX12_drawn 14 = .ok (.iload_n 2, 1) := by decide +kernel
theorem dX12_drawn_15 : decode cX12_drawn 15 = .ok (.invokevirtual 311, 3) := by decide +kernel
theorem dX12_drawn_18 : decode cX12_drawn 18 = .ok (.ifCond .ne 7, 3) := by decide +kernel
theorem dX12_drawn_21 : decode cX12_drawn 21 = .ok (.iconst 1, 1) := by decide +kernel
theorem dX12_drawn_22 : decode cX12_drawn 22 = .ok (.goto 4, 3) := by decide +kernel
theorem dX12_drawn_25 : decode cX12_drawn 25 = .ok (.iconst 0, 1) := by decide +kernel
theorem dX12_drawn_26 : decode cX12_drawn 26 = .ok (.iadd, 1) := by decide +kernel
theorem dX12_drawn_27 : decode cX12_drawn 27 = .ok (.istore_n 1, 1) := by decide +kernel
theorem dX12_drawn_28 : decode cX12_drawn 28 = .ok (.iinc 2 1, 3) := by decide +kernel
theorem dX12_drawn_31 : decode cX12_drawn 31 = .ok (.goto (-27), 3) := by decide +kernel
theorem dX12_drawn_34 : decode cX12_drawn 34 = .ok (.aload_n 0, 1) := by decide +kernel
theorem dX12_drawn_35 : decode cX12_drawn 35 = .ok (.iload_n 1, 1) := by decide +kernel
theorem dX12_drawn_36 : decode cX12_drawn 36 = .ok (.invokevirtual 462, 3) := by decide +kernel
theorem dX12_drawn_39 : decode cX12_drawn 39 = .ok (.istore_n 2, 1) := by decide +kernel
theorem dX12_drawn_40 : decode cX12_drawn 40 = .ok (.iconst 0, 1) := by decide +kernel
theorem dX12_drawn_41 : decode cX12_drawn 41 = .ok (.istore_n 3, 1) := by decide +kernel
theorem dX12_drawn_42 : decode cX12_drawn 42 = .ok (.aload_n 0, 1) := by decide +kernel
theorem dX12_drawn_43 : decode cX12_drawn 43 = .ok (.iload_n 3, 1) := by decide +kernel
theorem dX12_drawn_44 : decode cX12_drawn 44 = .ok (.invokevirtual 311, 3) := by decide +kernel
theorem dX12_drawn_47 : decode cX12_drawn 47 = .ok (.ifCond .ne 7, 3) := by decide +kernel
theorem dX12_drawn_50 : decode cX12_drawn 50 = .ok (.iload_n 2, 1) := by decide +kernel
theorem dX12_drawn_51 : decode cX12_drawn 51 = .ok (.ifCond .le 25, 3) := by decide +kernel
theorem dX12_drawn_54 : decode cX12_drawn 54 = .ok (.iload_n 2, 1) := by decide +kernel
theorem dX12_drawn_55 : decode cX12_drawn 55 = .ok (.aload_n 0, 1) := by decide +kernel
theorem dX12_drawn_56 : decode cX12_drawn 56 = .ok (.iload_n 3, 1) := by decide +kernel
theorem dX12_drawn_57 : decode cX12_drawn 57 = .ok (.invokevirtual 311, 3) := by decide +kernel
theorem dX12_drawn_60 : decode cX12_drawn 60 = .ok (.ifCond .ne 7, 3) := by decide +kernel
theorem dX12_drawn_63 : decode cX12_drawn 63 = .ok (.iconst 1, 1) := by decide +kernel
theorem dX12_drawn_64 : decode cX12_drawn 64 = .ok (.goto 4, 3) := by decide +kernel
theorem dX12_drawn_67 : decode cX12_drawn 67 = .ok (.iconst 0, 1) := by decide +kernel
theorem dX12_drawn_68 : decode cX12_drawn 68 = .ok (.isub, 1) := by decide +kernel
theorem dX12_drawn_69 : decode cX12_drawn 69 = .ok (.istore_n 2, 1) := by decide +kernel
theorem dX12_drawn_70 : decode cX12_drawn 70 = .ok (.iinc 3 1, 3) := by decide +kernel
theorem dX12_drawn_73 : decode cX12_drawn 73 = .ok (.goto (-31), 3) := by decide +kernel
theorem dX12_drawn_76 : decode cX12_drawn 76 = .ok (.iload_n 3, 1) := by decide +kernel
theorem dX12_drawn_77 : decode cX12_drawn 77 = .ok (.ireturn, 1) := by decide +kernel
theorem dX12_playOf_0 : decode cX12_playOf 0 = .ok (.aload_n 0, 1) := by decide +kernel
theorem dX12_playOf_1 : decode cX12_playOf 1 = .ok (.getfield 9, 3) := by decide +kernel
theorem dX12_playOf_4 : decode cX12_playOf 4 = .ok (.aload_n 0, 1) := by decide +kernel
theorem dX12_playOf_5 : decode cX12_playOf 5 = .ok (.getfield 19, 3) := by decide +kernel
theorem dX12_playOf_8 : decode cX12_playOf 8 = .ok (.invokestatic 235, 3) := by decide +kernel
theorem dX12_playOf_11 : decode cX12_playOf 11 = .ok (.aload_n 0, 1) := by decide +kernel
theorem dX12_playOf_12 : decode cX12_playOf 12 = .ok (.iload_n 1, 1) := by decide +kernel
theorem dX12_playOf_13 : decode cX12_playOf 13 = .ok (.putfield 459, 3) := by decide +kernel
theorem dX12_playOf_16 : decode cX12_playOf 16 = .ok (.aload_n 0, 1) := by decide +kernel
theorem dX12_playOf_17 : decode cX12_playOf 17 = .ok (.iconst 0, 1) := by decide +kernel
theorem dX12_playOf_18 : decode cX12_playOf 18 = .ok (.putfield 465, 3) := by decide +kernel
theorem dX12_playOf_21 : decode cX12_playOf 21 = .ok (.aload_n 0, 1) := by decide +kernel
theorem dX12_playOf_22 : decode cX12_playOf 22 = .ok (.getfield 465, 3) := by decide +kernel
theorem dX12_playOf_25 : decode cX12_playOf 25 = .ok (.bipush 100, 2) := by decide +kernel
theorem dX12_playOf_27 : decode cX12_playOf 27 = .ok (.if_icmp .ge 53, 3) := by decide +kernel
theorem dX12_playOf_30 : decode cX12_playOf 30 = .ok (.aload_n 0, 1) := by decide +kernel
theorem dX12_playOf_31 : decode cX12_playOf 31 = .ok (.invokevirtual 305, 3) := by decide +kernel
theorem dX12_playOf_34 : decode cX12_playOf 34 = .ok (.ifCond .ne 46, 3) := by decide +kernel
theorem dX12_playOf_37 : decode cX12_playOf 37 = .ok (.aload_n 0, 1) := by decide +kernel
theorem dX12_playOf_38 : decode cX12_playOf 38 = .ok (.iload_n 2, 1) := by decide +kernel
theorem dX12_playOf_39 : decode cX12_playOf 39 = .ok (.ifCond .eq 20, 3) := by decide +kernel
theorem dX12_playOf_42 : decode cX12_playOf 42 = .ok (.aload_n 0, 1) := by decide +kernel
theorem dX12_playOf_43 : decode cX12_playOf 43 = .ok (.getfield 9, 3) := by decide +kernel
theorem dX12_playOf_46 : decode cX12_playOf 46 = .ok (.iconst 2, 1) := by decide +kernel
theorem dX12_playOf_47 : decode cX12_playOf 47 = .ok (.iaload, 1) := by decide +kernel
theorem dX12_playOf_48 : decode cX12_playOf 48 = .ok (.iconst 1, 1) := by decide +kernel
theorem dX12_playOf_49 : decode cX12_playOf 49 = .ok (.if_icmp .ne 10, 3) := by decide +kernel
theorem dX12_playOf_52 : decode cX12_playOf 52 = .ok (.aload_n 0, 1) := by decide +kernel
theorem dX12_playOf_53 : decode cX12_playOf 53 = .ok (.invokevirtual 416, 3) := by decide +kernel
theorem dX12_playOf_56 : decode cX12_playOf 56 = .ok (.goto 7, 3) := by decide +kernel
theorem dX12_playOf_59 : decode cX12_playOf 59 = .ok (.aload_n 0, 1) := by decide +kernel
theorem dX12_playOf_60 : decode cX12_playOf 60 = .ok (.invokevirtual 468, 3) := by decide +kernel
theorem dX12_playOf_63 : decode cX12_playOf 63 = .ok (.invokevirtual 326, 3) := by decide +kernel
theorem dX12_playOf_66 : decode cX12_playOf 66 = .ok (.pop, 1) := by decide +kernel
theorem dX12_playOf_67 : decode cX12_playOf 67 = .ok (.aload_n 0, 1) := by decide +kernel
theorem dX12_playOf_68 : decode cX12_playOf 68 = .ok (.dup, 1) := by decide +kernel
theorem dX12_playOf_69 : decode cX12_playOf 69 = .ok (.getfield 465, 3) := by decide +kernel
theorem dX12_playOf_72 : decode cX12_playOf 72 = .ok (.iconst 1, 1) := by decide +kernel
theorem dX12_playOf_73 : decode cX12_playOf 73 = .ok (.iadd, 1) := by decide +kernel
theorem dX12_playOf_74 : decode cX12_playOf 74 = .ok (.putfield 465, 3) := by decide +kernel
theorem dX12_playOf_77 : decode cX12_playOf 77 = .ok (.goto (-56), 3) := by decide +kernel
theorem dX12_playOf_80 : decode cX12_playOf 80 = .ok (.aload_n 0, 1) := by decide +kernel
theorem dX12_playOf_81 : decode cX12_playOf 81 = .ok (.invokevirtual 316, 3) := by decide +kernel
theorem dX12_playOf_84 : decode cX12_playOf 84 = .ok (.istore 4, 2) := by decide +kernel
theorem dX12_playOf_86 : decode cX12_playOf 86 = .ok (.aload_n 0, 1) := by decide +kernel
theorem dX12_playOf_87 : decode cX12_playOf 87 = .ok (.invokevirtual 305, 3) := by decide +kernel
theorem dX12_playOf_90 : decode cX12_playOf 90 = .ok (.ifCond .eq 7, 3) := by decide +kernel
theorem dX12_playOf_93 : decode cX12_playOf 93 = .ok (.iconst 1, 1) := by decide +kernel
theorem dX12_playOf_94 : decode cX12_playOf 94 = .ok (.goto 4, 3) := by decide +kernel
theorem dX12_playOf_97 : decode cX12_playOf 97 = .ok (.iconst 0, 1) := by decide +kernel
theorem dX12_playOf_98 : decode cX12_playOf 98 = .ok (.istore 5, 2) := by decide +kernel
theorem dX12_playOf_100 : decode cX12_playOf 100 = .ok (.aload_n 0, 1) := by decide +kernel
theorem dX12_playOf_101 : decode cX12_playOf 101 = .ok (.getfield 19, 3) := by decide +kernel
theorem dX12_playOf_104 : decode cX12_playOf 104 = .ok (.aload_n 0, 1) := by decide +kernel
theorem dX12_playOf_105 : decode cX12_playOf 105 = .ok (.getfield 9, 3) := by decide +kernel
theorem dX12_playOf_108 : decode cX12_playOf 108 = .ok (.invokestatic 235, 3) := by decide +kernel
theorem dX12_playOf_111 : decode cX12_playOf 111 = .ok (.iload_n 3, 1) := by decide +kernel
theorem dX12_playOf_112 : decode cX12_playOf 112 = .ok (.ifCond .ne 8, 3) := by decide +kernel
theorem dX12_playOf_115 : decode cX12_playOf 115 = .ok (.iload 4, 2) := by decide +kernel
theorem dX12_playOf_117 : decode cX12_playOf 117 = .ok (.goto 17, 3) := by decide +kernel
theorem dX12_playOf_120 : decode cX12_playOf 120 = .ok (.iload_n 3, 1) := by decide +kernel
theorem dX12_playOf_121 : decode cX12_playOf 121 = .ok (.iconst 1, 1) := by decide +kernel
theorem dX12_playOf_122 : decode cX12_playOf 122 = .ok (.if_icmp .ne 10, 3) := by decide +kernel
theorem dX12_playOf_125 : decode cX12_playOf 125 = .ok (.aload_n 0, 1) := by decide +kernel
theorem dX12_playOf_126 : decode cX12_playOf 126 = .ok (.getfield 465, 3) := by decide +kernel
theorem dX12_playOf_129 : decode cX12_playOf 129 = .ok (.goto 5, 3) := by decide +kernel
theorem dX12_playOf_132 : decode cX12_playOf 132 = .ok (.iload 5, 2) := by decide +kernel
theorem dX12_playOf_134 : decode cX12_playOf 134 = .ok (.ireturn, 1) := by decide +kernel
theorem dX12_play_0 : decode cX12_play 0 = .ok (.aload_n 0, 1) := by decide +kernel
theorem dX12_play_1 : decode cX12_play 1 = .ok (.iload_n 2, 1) := by decide +kernel
theorem dX12_play_2 : decode cX12_play 2 = .ok (.i2l, 1) := by decide +kernel
theorem dX12_play_3 : decode cX12_play 3 = .ok (.lconst 0, 1) := by decide +kernel
theorem dX12_play_4 : decode cX12_play 4 = .ok (.ldc2_w 453, 3) := by decide +kernel
theorem dX12_play_7 : decode cX12_play 7 = .ok (.invokestatic 166, 3) := by decide +kernel
theorem dX12_play_10 : decode cX12_play 10 = .ok (.ifCond .eq 7, 3) := by decide +kernel
theorem dX12_play_13 : decode cX12_play 13 = .ok (.iconst 0, 1) := by decide +kernel
theorem dX12_play_14 : decode cX12_play 14 = .ok (.goto 4, 3) := by decide +kernel
theorem dX12_play_17 : decode cX12_play 17 = .ok (.iconst 1, 1) := by decide +kernel
theorem dX12_play_18 : decode cX12_play 18 = .ok (.putfield 107, 3) := by decide +kernel
theorem dX12_play_21 : decode cX12_play 21 = .ok (.aload_n 0, 1) := by decide +kernel
theorem dX12_play_22 : decode cX12_play 22 = .ok (.getfield 107, 3) := by decide +kernel
theorem dX12_play_25 : decode cX12_play 25 = .ok (.ifCond .le 7, 3) := by decide +kernel
theorem dX12_play_28 : decode cX12_play 28 = .ok (.iconst 0, 1) := by decide +kernel
theorem dX12_play_29 : decode cX12_play 29 = .ok (.goto 10, 3) := by decide +kernel
theorem dX12_play_32 : decode cX12_play 32 = .ok (.aload_n 0, 1) := by decide +kernel
theorem dX12_play_33 : decode cX12_play 33 = .ok (.iload_n 1, 1) := by decide +kernel
theorem dX12_play_34 : decode cX12_play 34 = .ok (.iconst 0, 1) := by decide +kernel
theorem dX12_play_35 : decode cX12_play 35 = .ok (.iload_n 2, 1) := by decide +kernel
theorem dX12_play_36 : decode cX12_play 36 = .ok (.invokevirtual 471, 3) := by decide +kernel
theorem dX12_play_39 : decode cX12_play 39 = .ok (.ireturn, 1) := by decide +kernel
theorem dX12_against_0 : decode cX12_against 0 = .ok (.aload_n 0, 1) := by decide +kernel
theorem dX12_against_1 : decode cX12_against 1 = .ok (.aload_n 0, 1) := by decide +kernel
theorem dX12_against_2 : decode cX12_against 2 = .ok (.aload_n 0, 1) := by decide +kernel
theorem dX12_against_3 : decode cX12_against 3 = .ok (.invokevirtual 365, 3) := by decide +kernel
theorem dX12_against_6 : decode cX12_against 6 = .ok (.invokevirtual 407, 3) := by decide +kernel
theorem dX12_against_9 : decode cX12_against 9 = .ok (.ifCond .ne 7, 3) := by decide +kernel
theorem dX12_against_12 : decode cX12_against 12 = .ok (.iconst 1, 1) := by decide +kernel
theorem dX12_against_13 : decode cX12_against 13 = .ok (.goto 20, 3) := by decide +kernel
theorem dX12_against_16 : decode cX12_against 16 = .ok (.iload_n 2, 1) := by decide +kernel
theorem dX12_against_17 : decode cX12_against 17 = .ok (.i2l, 1) := by decide +kernel
theorem dX12_against_18 : decode cX12_against 18 = .ok (.lconst 0, 1) := by decide +kernel
theorem dX12_against_19 : decode cX12_against 19 = .ok (.ldc2_w 453, 3) := by decide +kernel
theorem dX12_against_22 : decode cX12_against 22 = .ok (.invokestatic 166, 3) := by decide +kernel
theorem dX12_against_25 : decode cX12_against 25 = .ok (.ifCond .eq 7, 3) := by decide +kernel
theorem dX12_against_28 : decode cX12_against 28 = .ok (.iconst 0, 1) := by decide +kernel
theorem dX12_against_29 : decode cX12_against 29 = .ok (.goto 4, 3) := by decide +kernel
theorem dX12_against_32 : decode cX12_against 32 = .ok (.iconst 2, 1) := by decide +kernel
theorem dX12_against_33 : decode cX12_against 33 = .ok (.putfield 107, 3) := by decide +kernel
theorem dX12_against_36 : decode cX12_against 36 = .ok (.aload_n 0, 1) := by decide +kernel
theorem dX12_against_37 : decode cX12_against 37 = .ok (.getfield 107, 3) := by decide +kernel
theorem dX12_against_40 : decode cX12_against 40 = .ok (.ifCond .le 7, 3) := by decide +kernel
theorem dX12_against_43 : decode cX12_against 43 = .ok (.iconst 0, 1) := by decide +kernel
theorem dX12_against_44 : decode cX12_against 44 = .ok (.goto 10, 3) := by decide +kernel
theorem dX12_against_47 : decode cX12_against 47 = .ok (.aload_n 0, 1) := by decide +kernel
theorem dX12_against_48 : decode cX12_against 48 = .ok (.iload_n 1, 1) := by decide +kernel
theorem dX12_against_49 : decode cX12_against 49 = .ok (.iconst 1, 1) := by decide +kernel
theorem dX12_against_50 : decode cX12_against 50 = .ok (.iload_n 2, 1) := by decide +kernel
theorem dX12_against_51 : decode cX12_against 51 = .ok (.invokevirtual 471, 3) := by decide +kernel
theorem dX12_against_54 : decode cX12_against 54 = .ok (.ireturn, 1) := by decide +kernel
theorem dX12_isTray_0 : decode cX12_isTray 0 = .ok (.iload_n 0, 1) := by decide +kernel
theorem dX12_isTray_1 : decode cX12_isTray 1 = .ok (.i2l, 1) := by decide +kernel
theorem dX12_isTray_2 : decode cX12_isTray 2 = .ok (.lconst 0, 1) := by decide +kernel
theorem dX12_isTray_3 : decode cX12_isTray 3 = .ok (.ldc2_w 314, 3) := by decide +kernel
theorem dX12_isTray_6 : decode cX12_isTray 6 = .ok (.invokestatic 166, 3) := by decide +kernel
theorem dX12_isTray_9 : decode cX12_isTray 9 = .ok (.ireturn, 1) := by decide +kernel
theorem dX12_tray_0 : decode cX12_tray 0 = .ok (.aload_n 0, 1) := by decide +kernel
theorem dX12_tray_1 : decode cX12_tray 1 = .ok (.iload_n 1, 1) := by decide +kernel
theorem dX12_tray_2 : decode cX12_tray 2 = .ok (.invokestatic 335, 3) := by decide +kernel
theorem dX12_tray_5 : decode cX12_tray 5 = .ok (.ifCond .ne 7, 3) := by decide +kernel
theorem dX12_tray_8 : decode cX12_tray 8 = .ok (.iconst 1, 1) := by decide +kernel
theorem dX12_tray_9 : decode cX12_tray 9 = .ok (.goto 32, 3) := by decide +kernel
theorem dX12_tray_12 : decode cX12_tray 12 = .ok (.iload_n 2, 1) := by decide +kernel
theorem dX12_tray_13 : decode cX12_tray 13 = .ok (.i2l, 1) := by decide +kernel
theorem dX12_tray_14 : decode cX12_tray 14 = .ok (.lconst 0, 1) := by decide +kernel
theorem dX12_tray_15 : decode cX12_tray 15 = .ok (.ldc2_w 314, 3) := by decide +kernel
theorem dX12_tray_18 : decode cX12_tray 18 = .ok (.invokestatic 166, 3) := by decide +kernel
theorem dX12_tray_21 : decode cX12_tray 21 = .ok (.ifCond .eq 15, 3) := by decide +kernel
theorem dX12_tray_24 : decode cX12_tray 24 = .ok (.iload_n 3, 1) := by decide +kernel
theorem dX12_tray_25 : decode cX12_tray 25 = .ok (.i2l, 1) := by decide +kernel
theorem dX12_tray_26 : decode cX12_tray 26 = .ok (.lconst 0, 1) := by decide +kernel
theorem dX12_tray_27 : decode cX12_tray 27 = .ok (.ldc2_w 357, 3) := by decide +kernel
theorem dX12_tray_30 : decode cX12_tray 30 = .ok (.invokestatic 166, 3) := by decide +kernel
theorem dX12_tray_33 : decode cX12_tray 33 = .ok (.ifCond .ne 7, 3) := by decide +kernel
theorem dX12_tray_36 : decode cX12_tray 36 = .ok (.iconst 2, 1) := by decide +kernel
theorem dX12_tray_37 : decode cX12_tray 37 = .ok (.goto 4, 3) := by decide +kernel
theorem dX12_tray_40 : decode cX12_tray 40 = .ok (.iconst 0, 1) := by decide +kernel
theorem dX12_tray_41 : decode cX12_tray 41 = .ok (.putfield 107, 3) := by decide +kernel
theorem dX12_tray_44 : decode cX12_tray 44 = .ok (.aload_n 0, 1) := by decide +kernel
theorem dX12_tray_45 : decode cX12_tray 45 = .ok (.getfield 107, 3) := by decide +kernel
theorem dX12_tray_48 : decode cX12_tray 48 = .ok (.ifCond .le 4, 3) := by decide +kernel
theorem dX12_tray_51 : decode cX12_tray 51 = .ok (.return_, 1) := by decide +kernel
theorem dX12_tray_52 : decode cX12_tray 52 = .ok (.aload_n 0, 1) := by decide +kernel
theorem dX12_tray_53 : decode cX12_tray 53 = .ok (.getfield 97, 3) := by decide +kernel
theorem dX12_tray_56 : decode cX12_tray 56 = .ok (.iload_n 1, 1) := by decide +kernel
theorem dX12_tray_57 : decode cX12_tray 57 = .ok (.iload_n 2, 1) := by decide +kernel
theorem dX12_tray_58 : decode cX12_tray 58 = .ok (.iastore, 1) := by decide +kernel
theorem dX12_tray_59 : decode cX12_tray 59 = .ok (.aload_n 0, 1) := by decide +kernel
theorem dX12_tray_60 : decode cX12_tray 60 = .ok (.getfield 100, 3) := by decide +kernel
theorem dX12_tray_63 : decode cX12_tray 63 = .ok (.iload_n 1, 1) := by decide +kernel
theorem dX12_tray_64 : decode cX12_tray 64 = .ok (.iload_n 3, 1) := by decide +kernel
theorem dX12_tray_65 : decode cX12_tray 65 = .ok (.iastore, 1) := by decide +kernel
theorem dX12_tray_66 : decode cX12_tray 66 = .ok (.iconst 0, 1) := by decide +kernel
theorem dX12_tray_67 : decode cX12_tray 67 = .ok (.istore 4, 2) := by decide +kernel
theorem dX12_tray_69 : decode cX12_tray 69 = .ok (.iload 4, 2) := by decide +kernel
theorem dX12_tray_71 : decode cX12_tray 71 = .ok (.bipush 40, 2) := by decide +kernel
theorem dX12_tray_73 : decode cX12_tray 73 = .ok (.if_icmp .ge 22, 3) := by decide +kernel
theorem dX12_tray_76 : decode cX12_tray 76 = .ok (.aload_n 0, 1) := by decide +kernel
theorem dX12_tray_77 : decode cX12_tray 77 = .ok (.getfield 103, 3) := by decide +kernel
theorem dX12_tray_80 : decode cX12_tray 80 = .ok (.bipush 40, 2) := by decide +kernel
theorem dX12_tray_82 : decode cX12_tray 82 = .ok (.iload_n 1, 1) := by decide +kernel
theorem dX12_tray_83 : decode cX12_tray 83 = .ok (.imul, 1) := by decide +kernel
theorem dX12_tray_84 : decode cX12_tray 84 = .ok (.iload 4, 2) := by decide +kernel
theorem dX12_tray_86 : decode cX12_tray 86 = .ok (.iadd, 1) := by decide +kernel
theorem dX12_tray_87 : decode cX12_tray 87 = .ok (.lconst 0, 1) := by decide +kernel
theorem dX12_tray_88 : decode cX12_tray 88 = .ok (.lastore, 1) := by decide +kernel
theorem dX12_tray_89 : decode cX12_tray 89 = .ok (.iinc 4 1, 3) := by decide +kernel
theorem dX12_tray_92 : decode cX12_tray 92 = .ok (.goto (-23), 3) := by decide +kernel
theorem dX12_tray_95 : decode cX12_tray 95 = .ok (.return_, 1) := by decide +kernel
theorem dX12_cut_0 : decode cX12_cut 0 = .ok (.bipush 64, 2) := by decide +kernel
theorem dX12_cut_2 : decode cX12_cut 2 = .ok (.bipush 8, 2) := by decide +kernel
theorem dX12_cut_4 : decode cX12_cut 4 = .ok (.aload_n 0, 1) := by decide +kernel
theorem dX12_cut_5 : decode cX12_cut 5 = .ok (.getfield 97, 3) := by decide +kernel
theorem dX12_cut_8 : decode cX12_cut 8 = .ok (.iload_n 1, 1) := by decide +kernel
theorem dX12_cut_9 : decode cX12_cut 9 = .ok (.iaload, 1) := by decide +kernel
theorem dX12_cut_10 : decode cX12_cut 10 = .ok (.ishl, 1) := by decide +kernel
theorem dX12_cut_11 : decode cX12_cut 11 = .ok (.isub, 1) := by decide +kernel
theorem dX12_cut_12 : decode cX12_cut 12 = .ok (.istore 5, 2) := by decide +kernel
theorem dX12_cut_14 : decode cX12_cut 14 = .ok (.aload_n 0, 1) := by decide +kernel
theorem dX12_cut_15 : decode cX12_cut 15 = .ok (.getfield 103, 3) := by decide +kernel
theorem dX12_cut_18 : decode cX12_cut 18 = .ok (.bipush 40, 2) := by decide +kernel
theorem dX12_cut_20 : decode cX12_cut 20 = .ok (.iload_n 1, 1) := by decide +kernel
theorem dX12_cut_21 : decode cX12_cut 21 = .ok (.imul, 1) := by decide +kernel
theorem dX12_cut_22 : decode cX12_cut 22 = .ok (.iload_n 2, 1) := by decide +kernel
theorem dX12_cut_23 : decode cX12_cut 23 = .ok (.iadd, 1) := by decide +kernel
theorem dX12_cut_24 : decode cX12_cut 24 = .ok (.lload_n 3, 1) := by decide +kernel
theorem dX12_cut_25 : decode cX12_cut 25 = .ok (.iload 5, 2) := by decide +kernel
theorem dX12_cut_27 : decode cX12_cut 27 = .ok (.lshl, 1) := by decide +kernel
theorem dX12_cut_28 : decode cX12_cut 28 = .ok (.iload 5, 2) := by decide +kernel
theorem dX12_cut_30 : decode cX12_cut 30 = .ok (.lshr, 1) := by decide +kernel
theorem dX12_cut_31 : decode cX12_cut 31 = .ok (.lastore, 1) := by decide +kernel
theorem dX12_cut_32 : decode cX12_cut 32 = .ok (.aload_n 0, 1) := by decide +kernel
theorem dX12_cut_33 : decode cX12_cut 33 = .ok (.getfield 103, 3) := by decide +kernel
theorem dX12_cut_36 : decode cX12_cut 36 = .ok (.bipush 40, 2) := by decide +kernel
theorem dX12_cut_38 : decode cX12_cut 38 = .ok (.iload_n 1, 1) := by decide +kernel
theorem dX12_cut_39 : decode cX12_cut 39 = .ok (.imul, 1) := by decide +kernel
theorem dX12_cut_40 : decode cX12_cut 40 = .ok (.iload_n 2, 1) := by decide +kernel
theorem dX12_cut_41 : decode cX12_cut 41 = .ok (.iadd, 1) := by decide +kernel
theorem dX12_cut_42 : decode cX12_cut 42 = .ok (.laload, 1) := by decide +kernel
theorem dX12_cut_43 : decode cX12_cut 43 = .ok (.lreturn, 1) := by decide +kernel
theorem dX12_write_0 : decode cX12_write 0 = .ok (.aload_n 0, 1) := by decide +kernel
theorem dX12_write_1 : decode cX12_write 1 = .ok (.aload_n 0, 1) := by decide +kernel
theorem dX12_write_2 : decode cX12_write 2 = .ok (.iload_n 1, 1) := by decide +kernel
theorem dX12_write_3 : decode cX12_write 3 = .ok (.invokevirtual 340, 3) := by decide +kernel
theorem dX12_write_6 : decode cX12_write 6 = .ok (.putfield 107, 3) := by decide +kernel
theorem dX12_write_9 : decode cX12_write 9 = .ok (.aload_n 0, 1) := by decide +kernel
theorem dX12_write_10 : decode cX12_write 10 = .ok (.getfield 107, 3) := by decide +kernel
theorem dX12_write_13 : decode cX12_write 13 = .ok (.ifCond .le 5, 3) := by decide +kernel
theorem dX12_write_16 : decode cX12_write 16 = .ok (.lconst 0, 1) := by decide +kernel
theorem dX12_write_17 : decode cX12_write 17 = .ok (.lreturn, 1) := by decide +kernel
theorem dX12_write_18 : decode cX12_write 18 = .ok (.iload_n 2, 1) := by decide +kernel
theorem dX12_write_19 : decode cX12_write 19 = .ok (.i2l, 1) := by decide +kernel
theorem dX12_write_20 : decode cX12_write 20 = .ok (.lconst 0, 1) := by decide +kernel
theorem dX12_write_21 : decode cX12_write 21 = .ok (.aload_n 0, 1) := by decide +kernel
theorem dX12_write_22 : decode cX12_write 22 = .ok (.getfield 100, 3) := by decide +kernel
theorem dX12_write_25 : decode cX12_write 25 = .ok (.iload_n 1, 1) := by decide +kernel
theorem dX12_write_26 : decode cX12_write 26 = .ok (.iaload, 1) := by decide +kernel
theorem dX12_write_27 : decode cX12_write 27 = .ok (.iconst 1, 1) := by decide +kernel
theorem dX12_write_28 : decode cX12_write 28 = .ok (.isub, 1) := by decide +kernel
theorem dX12_write_29 : decode cX12_write 29 = .ok (.i2l, 1) := by decide +kernel
theorem dX12_write_30 : decode cX12_write 30 = .ok (.invokestatic 166, 3) := by decide +kernel
theorem dX12_write_33 : decode cX12_write 33 = .ok (.ifCond .eq 13, 3) := by decide +kernel
theorem dX12_write_36 : decode cX12_write 36 = .ok (.aload_n 0, 1) := by decide +kernel
theorem dX12_write_37 : decode cX12_write 37 = .ok (.iload_n 1, 1) := by decide +kernel
theorem dX12_write_38 : decode cX12_write 38 = .ok (.iload_n 2, 1) := by decide +kernel
theorem dX12_write_39 : decode cX12_write 39 = .ok (.lload_n 3, 1) := by decide +kernel
theorem dX12_write_40 : decode cX12_write 40 = .ok (.invokevirtual 475, 3) := by decide +kernel
theorem dX12_write_43 : decode cX12_write 43 = .ok (.goto 9, 3) := by decide +kernel
theorem dX12_write_46 : decode cX12_write 46 = .ok (.aload_n 0, 1) := by decide +kernel
theorem dX12_write_47 : decode cX12_write 47 = .ok (.iconst 3, 1) := by decide +kernel
theorem dX12_write_48 : decode cX12_write 48 = .ok (.invokevirtual 221, 3) := by decide +kernel
theorem dX12_write_51 : decode cX12_write 51 = .ok (.i2l, 1) := by decide +kernel
theorem dX12_write_52 : decode cX12_write 52 = .ok (.lreturn, 1) := by decide +kernel
theorem dX12_pour_0 : decode cX12_pour 0 = .ok (.aload_n 0, 1) := by decide +kernel
theorem dX12_pour_1 : decode cX12_pour 1 = .ok (.aload_n 0, 1) := by decide +kernel
theorem dX12_pour_2 : decode cX12_pour 2 = .ok (.iload_n 1, 1) := by decide +kernel
theorem dX12_pour_3 : decode cX12_pour 3 = .ok (.invokevirtual 340, 3) := by decide +kernel
theorem dX12_pour_6 : decode cX12_pour 6 = .ok (.putfield 107, 3) := by decide +kernel
theorem dX12_pour_9 : decode cX12_pour 9 = .ok (.aload_n 0, 1) := by decide +kernel
theorem dX12_pour_10 : decode cX12_pour 10 = .ok (.getfield 107, 3) := by decide +kernel
theorem dX12_pour_13 : decode cX12_pour 13 = .ok (.ifCond .le 5, 3) := by decide +kernel
theorem dX12_pour_16 : decode cX12_pour 16 = .ok (.iconst 0, 1) := by decide +kernel
theorem dX12_pour_17 : decode cX12_pour 17 = .ok (.ireturn, 1) := by decide +kernel
theorem dX12_pour_18 : decode cX12_pour 18 = .ok (.aload_n 0, 1) := by decide +kernel
theorem dX12_pour_19 : decode cX12_pour 19 = .ok (.getfield 100, 3) := by decide +kernel
theorem dX12_pour_22 : decode cX12_pour 22 = .ok (.iload_n 1, 1) := by decide +kernel
theorem dX12_pour_23 : decode cX12_pour 23 = .ok (.iaload, 1) := by decide +kernel
theorem dX12_pour_24 : decode cX12_pour 24 = .ok (.aload_n 0, 1) := by decide +kernel
theorem dX12_pour_25 : decode cX12_pour 25 = .ok (.getfield 239, 3) := by decide +kernel
theorem dX12_pour_28 : decode cX12_pour 28 = .ok (.invokestatic 479, 3) := by decide +kernel
theorem dX12_pour_31 : decode cX12_pour 31 = .ok (.istore_n 2, 1) := by decide +kernel
theorem dX12_pour_32 : decode cX12_pour 32 = .ok (.iconst 0, 1) := by decide +kernel
theorem dX12_pour_33 : decode cX12_pour 33 = .ok (.istore_n 3, 1) := by decide +kernel
theorem dX12_pour_34 : decode cX12_pour 34 = .ok (.iload_n 3, 1) := by decide +kernel
theorem dX12_pour_35 : decode cX12_pour 35 = .ok (.iload_n 2, 1) := by decide +kernel
theorem dX12_pour_36 : decode cX12_pour 36 = .ok (.if_icmp .ge 23, 3) := by decide +kernel
theorem dX12_pour_39 : decode cX12_pour 39 = .ok (.aload_n 0, 1) := by decide +kernel
theorem dX12_pour_40 : decode cX12_pour 40 = .ok (.iload_n 1, 1) := by decide +kernel
theorem dX12_pour_41 : decode cX12_pour 41 = .ok (.iload_n 3, 1) := by decide +kernel
theorem dX12_pour_42 : decode cX12_pour 42 = .ok (.aload_n 0, 1) := by decide +kernel
theorem dX12_pour_43 : decode cX12_pour 43 = .ok (.getfield 39, 3) := by decide +kernel
theorem dX12_pour_46 : decode cX12_pour 46 = .ok (.iload_n 3, 1) := by decide +kernel
theorem dX12_pour_47 : decode cX12_pour 47 = .ok (.iaload, 1) := by decide +kernel
theorem dX12_pour_48 : decode cX12_pour 48 = .ok (.i2l, 1) := by decide +kernel
theorem dX12_pour_49 : decode cX12_pour 49 = .ok (.invokevirtual 475, 3) := by decide +kernel
theorem dX12_pour_52 : decode cX12_pour 52 = .ok (.pop2, 1) := by decide +kernel
theorem dX12_pour_53 : decode cX12_pour 53 = .ok (.iinc 3 1, 3) := by decide +kernel
theorem dX12_pour_56 : decode cX12_pour 56 = .ok (.goto (-22), 3) := by decide +kernel
theorem dX12_pour_59 : decode cX12_pour 59 = .ok (.iload_n 2, 1) := by decide +kernel
theorem dX12_pour_60 : decode cX12_pour 60 = .ok (.ireturn, 1) := by decide +kernel
theorem dX12_image_0 : decode cX12_image 0 = .ok (.aload_n 0, 1) := by decide +kernel
theorem dX12_image_1 : decode cX12_image 1 = .ok (.iload_n 1, 1) := by decide +kernel
theorem dX12_image_2 : decode cX12_image 2 = .ok (.i2l, 1) := by decide +kernel
theorem dX12_image_3 : decode cX12_image 3 = .ok (.lconst 0, 1) := by decide +kernel
theorem dX12_image_4 : decode cX12_image 4 = .ok (.ldc2_w 453, 3) := by decide +kernel
theorem dX12_image_7 : decode cX12_image 7 = .ok (.invokestatic 166, 3) := by decide +kernel
theorem dX12_image_10 : decode cX12_image 10 = .ok (.ifCond .eq 7, 3) := by decide +kernel
theorem dX12_image_13 : decode cX12_image 13 = .ok (.iconst 0, 1) := by decide +kernel
theorem dX12_image_14 : decode cX12_image 14 = .ok (.goto 4, 3) := by decide +kernel
theorem dX12_image_17 : decode cX12_image 17 = .ok (.iconst 1, 1) := by decide +kernel
theorem dX12_image_18 : decode cX12_image 18 = .ok (.putfield 107, 3) := by decide +kernel
theorem dX12_image_21 : decode cX12_image 21 = .ok (.aload_n 0, 1) := by decide +kernel
theorem dX12_image_22 : decode cX12_image 22 = .ok (.getfield 107, 3) := by decide +kernel
theorem dX12_image_25 : decode cX12_image 25 = .ok (.ifCond .le 4, 3) := by decide +kernel
theorem dX12_image_28 : decode cX12_image 28 = .ok (.return_, 1) := by decide +kernel
theorem dX12_image_29 : decode cX12_image 29 = .ok (.aload_n 0, 1) := by decide +kernel
theorem dX12_image_30 : decode cX12_image 30 = .ok (.getfield 22, 3) := by decide +kernel
theorem dX12_image_33 : decode cX12_image 33 = .ok (.iload_n 1, 1) := by decide +kernel
theorem dX12_image_34 : decode cX12_image 34 = .ok (.iconst 1, 1) := by decide +kernel
theorem dX12_image_35 : decode cX12_image 35 = .ok (.bastore, 1) := by decide +kernel
theorem dX12_image_36 : decode cX12_image 36 = .ok (.aload_n 0, 1) := by decide +kernel
theorem dX12_image_37 : decode cX12_image 37 = .ok (.getfield 16, 3) := by decide +kernel
theorem dX12_image_40 : decode cX12_image 40 = .ok (.iload_n 1, 1) := by decide +kernel
theorem dX12_image_41 : decode cX12_image 41 = .ok (.aload_n 0, 1) := by decide +kernel
theorem dX12_image_42 : decode cX12_image 42 = .ok (.getfield 9, 3) := by decide +kernel
theorem dX12_image_45 : decode cX12_image 45 = .ok (.invokestatic 319, 3) := by decide +kernel
theorem dX12_image_48 : decode cX12_image 48 = .ok (.return_, 1) := by decide +kernel
theorem dX12_restore_0 : decode cX12_restore 0 = .ok (.aload_n 0, 1) := by decide +kernel
theorem dX12_restore_1 : decode cX12_restore 1 = .ok (.iload_n 1, 1) := by decide +kernel
theorem dX12_restore_2 : decode cX12_restore 2 = .ok (.i2l, 1) := by decide +kernel
theorem dX12_restore_3 : decode cX12_restore 3 = .ok (.lconst 0, 1) := by decide +kernel
theorem dX12_restore_4 : decode cX12_restore 4 = .ok (.ldc2_w 453, 3) := by decide +kernel
theorem dX12_restore_7 : decode cX12_restore 7 = .ok (.invokestatic 166, 3) := by decide +kernel
theorem dX12_restore_10 : decode cX12_restore 10 = .ok (.ifCond .ne 7, 3) := by decide +kernel
theorem dX12_restore_13 : decode cX12_restore 13 = .ok (.iconst 1, 1) := by decide +kernel
theorem dX12_restore_14 : decode cX12_restore 14 = .ok (.goto 17, 3) := by decide +kernel
theorem dX12_restore_17 : decode cX12_restore 17 = .ok (.aload_n 0, 1) := by decide +kernel
theorem dX12_restore_18 : decode cX12_restore 18 = .ok (.getfield 22, 3) := by decide +kernel
theorem dX12_restore_21 : decode cX12_restore 21 = .ok (.iload_n 1, 1) := by decide +kernel
theorem dX12_restore_22 : decode cX12_restore 22 = .ok (.baload, 1) := by decide +kernel
theorem dX12_restore_23 : decode cX12_restore 23 = .ok (.ifCond .ne 7, 3) := by decide +kernel
theorem dX12_restore_26 : decode cX12_restore 26 = .ok (.iconst 2, 1) := by decide +kernel
theorem dX12_restore_27 : decode cX12_restore 27 = .ok (.goto 4, 3) := by decide +kernel
theorem dX12_restore_30 : decode cX12_restore 30 = .ok (.iconst 0, 1) := by decide +kernel
theorem dX12_restore_31 : decode cX12_restore 31 = .ok (.putfield 107, 3) := by decide +kernel
theorem dX12_restore_34 : decode cX12_restore 34 = .ok (.aload_n 0, 1) := by decide +kernel
theorem dX12_restore_35 : decode cX12_restore 35 = .ok (.getfield 107, 3) := by decide +kernel
theorem dX12_restore_38 : decode cX12_restore 38 = .ok (.ifCond .le 4, 3) := by decide +kernel
theorem dX12_restore_41 : decode cX12_restore 41 = .ok (.return_, 1) := by decide +kernel
theorem dX12_restore_42 : decode cX12_restore 42 = .ok (.aload_n 0, 1) := by decide +kernel
theorem dX12_restore_43 : decode cX12_restore 43 = .ok (.getfield 16, 3) := by decide +kernel
theorem dX12_restore_46 : decode cX12_restore 46 = .ok (.iload_n 1, 1) := by decide +kernel
theorem dX12_restore_47 : decode cX12_restore 47 = .ok (.aload_n 0, 1) := by decide +kernel
theorem dX12_restore_48 : decode cX12_restore 48 = .ok (.getfield 9, 3) := by decide +kernel
theorem dX12_restore_51 : decode cX12_restore 51 = .ok (.invokestatic 332, 3) := by decide +kernel
theorem dX12_restore_54 : decode cX12_restore 54 = .ok (.aload_n 0, 1) := by decide +kernel
theorem dX12_restore_55 : decode cX12_restore 55 = .ok (.iconst 0, 1) := by decide +kernel
theorem dX12_restore_56 : decode cX12_restore 56 = .ok (.putfield 239, 3) := by decide +kernel
theorem dX12_restore_59 : decode cX12_restore 59 = .ok (.aload_n 0, 1) := by decide +kernel
theorem dX12_restore_60 : decode cX12_restore 60 = .ok (.iconst 0, 1) := by decide +kernel
theorem dX12_restore_61 : decode cX12_restore 61 = .ok (.putfield 242, 3) := by decide +kernel
theorem dX12_restore_64 : decode cX12_restore 64 = .ok (.return_, 1) := by decide +kernel
theorem dX12_count_0 : decode cX12_count 0 = .ok (.aload_n 0, 1) := by decide +kernel
theorem dX12_count_1 : decode cX12_count 1 = .ok (.iconst 0, 1) := by decide +kernel
theorem dX12_count_2 : decode cX12_count 2 = .ok (.putfield 107, 3) := by decide +kernel
theorem dX12_count_5 : decode cX12_count 5 = .ok (.iconst 0, 1) := by decide +kernel
theorem dX12_count_6 : decode cX12_count 6 = .ok (.istore_n 2, 1) := by decide +kernel
theorem dX12_count_7 : decode cX12_count 7 = .ok (.iconst 0, 1) := by decide +kernel
theorem dX12_count_8 : decode cX12_count 8 = .ok (.istore_n 3, 1) := by decide +kernel
theorem dX12_count_9 : decode cX12_count 9 = .ok (.iload_n 3, 1) := by decide +kernel
theorem dX12_count_10 : decode cX12_count 10 = .ok (.aload_n 0, 1) := by decide +kernel
theorem dX12_count_11 : decode cX12_count 11 = .ok (.invokevirtual 245, 3) := by decide +kernel
theorem dX12_count_14 : decode cX12_count 14 = .ok (.if_icmp .ge 25, 3) := by decide +kernel
theorem dX12_count_17 : decode cX12_count 17 = .ok (.iload_n 2, 1) := by decide +kernel
theorem dX12_count_18 : decode cX12_count 18 = .ok (.aload_n 0, 1) := by decide +kernel
theorem dX12_count_19 : decode cX12_count 19 = .ok (.iload_n 3, 1) := by decide +kernel
theorem dX12_count_20 : decode cX12_count 20 = .ok (.invokevirtual 251, 3) := by decide +kernel
theorem dX12_count_23 : decode cX12_count 23 = .ok (.ifCond .eq 7, 3) := by decide +kernel
theorem dX12_count_26 : decode cX12_count 26 = .ok (.iconst 1, 1) := by decide +kernel
theorem dX12_count_27 : decode cX12_count 27 = .ok (.goto 4, 3) := by decide +kernel
theorem dX12_count_30 : decode cX12_count 30 = .ok (.iconst 0, 1) := by decide +kernel
theorem dX12_count_31 : decode cX12_count 31 = .ok (.iadd, 1) := by decide +kernel
theorem dX12_count_32 : decode cX12_count 32 = .ok (.istore_n 2, 1) := by decide +kernel
theorem dX12_count_33 : decode cX12_count 33 = .ok (.iinc 3 1, 3) := by decide +kernel
theorem dX12_count_36 : decode cX12_count 36 = .ok (.goto (-27), 3) := by decide +kernel
theorem dX12_count_39 : decode cX12_count 39 = .ok (.iload_n 1, 1) := by decide +kernel
theorem dX12_count_40 : decode cX12_count 40 = .ok (.tableswitch 80 0 6 #[44, 51, 58, 63, 65, 70, 75], 44) := by decide +kernel
theorem dX12_count_84 : decode cX12_count 84 = .ok (.aload_n 0, 1) := by decide +kernel
theorem dX12_count_85 : decode cX12_count 85 = .ok (.getfield 9, 3) := by decide +kernel
theorem dX12_count_88 : decode cX12_count 88 = .ok (.iconst 0, 1) := by decide +kernel
theorem dX12_count_89 : decode cX12_count 89 = .ok (.iaload, 1) := by decide +kernel
theorem dX12_count_90 : decode cX12_count 90 = .ok (.ireturn, 1) := by decide +kernel
theorem dX12_count_91 : decode cX12_count 91 = .ok (.aload_n 0, 1) := by decide +kernel
theorem dX12_count_92 : decode cX12_count 92 = .ok (.getfield 9, 3) := by decide +kernel
theorem dX12_count_95 : decode cX12_count 95 = .ok (.iconst 1, 1) := by decide +kernel
theorem dX12_count_96 : decode cX12_count 96 = .ok (.iaload, 1) := by decide +kernel
theorem dX12_count_97 : decode cX12_count 97 = .ok (.ireturn, 1) := by decide +kernel
theorem dX12_count_98 : decode cX12_count 98 = .ok (.aload_n 0, 1) := by decide +kernel
theorem dX12_count_99 : decode cX12_count 99 = .ok (.invokevirtual 365, 3) := by decide +kernel
theorem dX12_count_102 : decode cX12_count 102 = .ok (.ireturn, 1) := by decide +kernel
theorem dX12_count_103 : decode cX12_count 103 = .ok (.iload_n 2, 1) := by decide +kernel
theorem dX12_count_104 : decode cX12_count 104 = .ok (.ireturn, 1) := by decide +kernel
theorem dX12_count_105 : decode cX12_count 105 = .ok (.aload_n 0, 1) := by decide +kernel
theorem dX12_count_106 : decode cX12_count 106 = .ok (.getfield 239, 3) := by decide +kernel
theorem dX12_count_109 : decode cX12_count 109 = .ok (.ireturn, 1) := by decide +kernel
theorem dX12_count_110 : decode cX12_count 110 = .ok (.aload_n 0, 1) := by decide +kernel
theorem dX12_count_111 : decode cX12_count 111 = .ok (.getfield 242, 3) := by decide +kernel
theorem dX12_count_114 : decode cX12_count 114 = .ok (.ireturn, 1) := by decide +kernel
theorem dX12_count_115 : decode cX12_count 115 = .ok (.aload_n 0, 1) := by decide +kernel
theorem dX12_count_116 : decode cX12_count 116 = .ok (.getfield 110, 3) := by decide +kernel
theorem dX12_count_119 : decode cX12_count 119 = .ok (.ireturn, 1) := by decide +kernel
theorem dX12_count_120 : decode cX12_count 120 = .ok (.iconst (-1), 1) := by decide +kernel
theorem dX12_count_121 : decode cX12_count 121 = .ok (.ireturn, 1) := by decide +kernel
theorem dJ6_bitCount_0f7a4_0 : decode cJ6_bitCount_0f7a4 0 = .ok (.iload_n 0, 1) := by decide +kernel
theorem dJ6_bitCount_0f7a4_1 : decode cJ6_bitCount_0f7a4 1 = .ok (.iload_n 0, 1) := by decide +kernel
theorem dJ6_bitCount_0f7a4_2 : decode cJ6_bitCount_0f7a4 2 = .ok (.iconst 1, 1) := by decide +kernel
theorem dJ6_bitCount_0f7a4_3 : decode cJ6_bitCount_0f7a4 3 = .ok (.iushr, 1) := by decide +kernel
theorem dJ6_bitCount_0f7a4_4 : decode cJ6_bitCount_0f7a4 4 = .ok (.ldc_w 265, 3) := by decide +kernel
theorem dJ6_bitCount_0f7a4_7 : decode cJ6_bitCount_0f7a4 7 = .ok (.iand, 1) := by decide +kernel
theorem dJ6_bitCount_0f7a4_8 : decode cJ6_bitCount_0f7a4 8 = .ok (.isub, 1) := by decide +kernel
theorem dJ6_bitCount_0f7a4_9 : decode cJ6_bitCount_0f7a4 9 = .ok (.istore_n 0, 1) := by decide +kernel
theorem dJ6_bitCount_0f7a4_10 : decode cJ6_bitCount_0f7a4 10 = .ok (.iload_n 0, 1) := by decide +kernel
theorem dJ6_bitCount_0f7a4_11 : decode cJ6_bitCount_0f7a4 11 = .ok (.ldc_w 266, 3) := by decide +kernel
theorem dJ6_bitCount_0f7a4_14 : decode cJ6_bitCount_0f7a4 14 = .ok (.iand, 1) := by decide +kernel
theorem dJ6_bitCount_0f7a4_15 : decode cJ6_bitCount_0f7a4 15 = .ok (.iload_n 0, 1) := by decide +kernel
theorem dJ6_bitCount_0f7a4_16 : decode cJ6_bitCount_0f7a4 16 = .ok (.iconst 2, 1) := by decide +kernel
theorem dJ6_bitCount_0f7a4_17 : decode cJ6_bitCount_0f7a4 17 = .ok (.iushr, 1) := by decide +kernel
theorem dJ6_bitCount_0f7a4_18 : decode cJ6_bitCount_0f7a4 18 = .ok (.ldc_w 266, 3) := by decide +kernel
theorem dJ6_bitCount_0f7a4_21 : decode cJ6_bitCount_0f7a4 21 = .ok (.iand, 1) := by decide +kernel
theorem dJ6_bitCount_0f7a4_22 : decode cJ6_bitCount_0f7a4 22 = .ok (.iadd, 1) := by decide +kernel
theorem dJ6_bitCount_0f7a4_23 : decode cJ6_bitCount_0f7a4 23 = .ok (.istore_n 0, 1) := by decide +kernel
theorem dJ6_bitCount_0f7a4_24 : decode cJ6_bitCount_0f7a4 24 = .ok (.iload_n 0, 1) := by decide +kernel
theorem dJ6_bitCount_0f7a4_25 : decode cJ6_bitCount_0f7a4 25 = .ok (.iload_n 0, 1) := by decide +kernel
theorem dJ6_bitCount_0f7a4_26 : decode cJ6_bitCount_0f7a4 26 = .ok (.iconst 4, 1) := by decide +kernel
theorem dJ6_bitCount_0f7a4_27 : decode cJ6_bitCount_0f7a4 27 = .ok (.iushr, 1) := by decide +kernel
theorem dJ6_bitCount_0f7a4_28 : decode cJ6_bitCount_0f7a4 28 = .ok (.iadd, 1) := by decide +kernel
theorem dJ6_bitCount_0f7a4_29 : decode cJ6_bitCount_0f7a4 29 = .ok (.ldc_w 267, 3) := by decide +kernel
theorem dJ6_bitCount_0f7a4_32 : decode cJ6_bitCount_0f7a4 32 = .ok (.iand, 1) := by decide +kernel
theorem dJ6_bitCount_0f7a4_33 : decode cJ6_bitCount_0f7a4 33 = .ok (.istore_n 0, 1) := by decide +kernel
theorem dJ6_bitCount_0f7a4_34 : decode cJ6_bitCount_0f7a4 34 = .ok (.iload_n 0, 1) := by decide +kernel
theorem dJ6_bitCount_0f7a4_35 : decode cJ6_bitCount_0f7a4 35 = .ok (.iload_n 0, 1) := by decide +kernel
theorem dJ6_bitCount_0f7a4_36 : decode cJ6_bitCount_0f7a4 36 = .ok (.bipush 8, 2) := by decide +kernel
theorem dJ6_bitCount_0f7a4_38 : decode cJ6_bitCount_0f7a4 38 = .ok (.iushr, 1) := by decide +kernel
theorem dJ6_bitCount_0f7a4_39 : decode cJ6_bitCount_0f7a4 39 = .ok (.iadd, 1) := by decide +kernel
theorem dJ6_bitCount_0f7a4_40 : decode cJ6_bitCount_0f7a4 40 = .ok (.istore_n 0, 1) := by decide +kernel
theorem dJ6_bitCount_0f7a4_41 : decode cJ6_bitCount_0f7a4 41 = .ok (.iload_n 0, 1) := by decide +kernel
theorem dJ6_bitCount_0f7a4_42 : decode cJ6_bitCount_0f7a4 42 = .ok (.iload_n 0, 1) := by decide +kernel
theorem dJ6_bitCount_0f7a4_43 : decode cJ6_bitCount_0f7a4 43 = .ok (.bipush 16, 2) := by decide +kernel
theorem dJ6_bitCount_0f7a4_45 : decode cJ6_bitCount_0f7a4 45 = .ok (.iushr, 1) := by decide +kernel
theorem dJ6_bitCount_0f7a4_46 : decode cJ6_bitCount_0f7a4 46 = .ok (.iadd, 1) := by decide +kernel
theorem dJ6_bitCount_0f7a4_47 : decode cJ6_bitCount_0f7a4 47 = .ok (.istore_n 0, 1) := by decide +kernel
theorem dJ6_bitCount_0f7a4_48 : decode cJ6_bitCount_0f7a4 48 = .ok (.iload_n 0, 1) := by decide +kernel
theorem dJ6_bitCount_0f7a4_49 : decode cJ6_bitCount_0f7a4 49 = .ok (.bipush 63, 2) := by decide +kernel
theorem dJ6_bitCount_0f7a4_51 : decode cJ6_bitCount_0f7a4 51 = .ok (.iand, 1) := by decide +kernel
theorem dJ6_bitCount_0f7a4_52 : decode cJ6_bitCount_0f7a4 52 = .ok (.ireturn, 1) := by decide +kernel
theorem dJ9_max_7cf53_0 : decode cJ9_max_7cf53 0 = .ok (.iload_n 0, 1) := by decide +kernel
theorem dJ9_max_7cf53_1 : decode cJ9_max_7cf53 1 = .ok (.iload_n 1, 1) := by decide +kernel
theorem dJ9_max_7cf53_2 : decode cJ9_max_7cf53 2 = .ok (.if_icmp .lt 7, 3) := by decide +kernel
theorem dJ9_max_7cf53_5 : decode cJ9_max_7cf53 5 = .ok (.iload_n 0, 1) := by decide +kernel
theorem dJ9_max_7cf53_6 : decode cJ9_max_7cf53 6 = .ok (.goto 4, 3) := by decide +kernel
theorem dJ9_max_7cf53_9 : decode cJ9_max_7cf53 9 = .ok (.iload_n 1, 1) := by decide +kernel
theorem dJ9_max_7cf53_10 : decode cJ9_max_7cf53 10 = .ok (.ireturn, 1) := by decide +kernel
theorem dJ9_min_7cf53_0 : decode cJ9_min_7cf53 0 = .ok (.iload_n 0, 1) := by decide +kernel
theorem dJ9_min_7cf53_1 : decode cJ9_min_7cf53 1 = .ok (.iload_n 1, 1) := by decide +kernel
theorem dJ9_min_7cf53_2 : decode cJ9_min_7cf53 2 = .ok (.if_icmp .gt 7, 3) := by decide +kernel
theorem dJ9_min_7cf53_5 : decode cJ9_min_7cf53 5 = .ok (.iload_n 0, 1) := by decide +kernel
theorem dJ9_min_7cf53_6 : decode cJ9_min_7cf53 6 = .ok (.goto 4, 3) := by decide +kernel
theorem dJ9_min_7cf53_9 : decode cJ9_min_7cf53 9 = .ok (.iload_n 1, 1) := by decide +kernel
theorem dJ9_min_7cf53_10 : decode cJ9_min_7cf53 10 = .ok (.ireturn, 1) := by decide +kernel
theorem dJ0_length_8abf5_0 : decode cJ0_length_8abf5 0 = .ok (.aload_n 0, 1) := by decide +kernel
theorem dJ0_length_8abf5_1 : decode cJ0_length_8abf5 1 = .ok (.getfield 9, 3) := by decide +kernel
theorem dJ0_length_8abf5_4 : decode cJ0_length_8abf5 4 = .ok (.arraylength, 1) := by decide +kernel
theorem dJ0_length_8abf5_5 : decode cJ0_length_8abf5 5 = .ok (.aload_n 0, 1) := by decide +kernel
theorem dJ0_length_8abf5_6 : decode cJ0_length_8abf5 6 = .ok (.invokevirtual 335, 3) := by decide +kernel
theorem dJ0_length_8abf5_9 : decode cJ0_length_8abf5 9 = .ok (.ishr, 1) := by decide +kernel
theorem dJ0_length_8abf5_10 : decode cJ0_length_8abf5 10 = .ok (.ireturn, 1) := by decide +kernel
theorem dJ0_charAt_5068e_0 : decode cJ0_charAt_5068e 0 = .ok (.aload_n 0, 1) := by decide +kernel
theorem dJ0_charAt_5068e_1 : decode cJ0_charAt_5068e 1 = .ok (.invokevirtual 492, 3) := by decide +kernel
theorem dJ0_charAt_5068e_4 : decode cJ0_charAt_5068e 4 = .ok (.ifCond .eq 12, 3) := by decide +kernel
theorem dJ0_charAt_5068e_7 : decode cJ0_charAt_5068e 7 = .ok (.aload_n 0, 1) := by decide +kernel
theorem dJ0_charAt_5068e_8 : decode cJ0_charAt_5068e 8 = .ok (.getfield 9, 3) := by decide +kernel
theorem dJ0_charAt_5068e_11 : decode cJ0_charAt_5068e 11 = .ok (.iload_n 1, 1) := by decide +kernel
theorem dJ0_charAt_5068e_12 : decode cJ0_charAt_5068e 12 = .ok (.invokestatic 495, 3) := by decide +kernel
theorem dJ0_charAt_5068e_15 : decode cJ0_charAt_5068e 15 = .ok (.ireturn, 1) := by decide +kernel
theorem dJ0_charAt_5068e_16 : decode cJ0_charAt_5068e 16 = .ok (.aload_n 0, 1) := by decide +kernel
theorem dJ0_charAt_5068e_17 : decode cJ0_charAt_5068e 17 = .ok (.getfield 9, 3) := by decide +kernel
theorem dJ0_charAt_5068e_20 : decode cJ0_charAt_5068e 20 = .ok (.iload_n 1, 1) := by decide +kernel
theorem dJ0_charAt_5068e_21 : decode cJ0_charAt_5068e 21 = .ok (.invokestatic 498, 3) := by decide +kernel
theorem dJ0_charAt_5068e_24 : decode cJ0_charAt_5068e 24 = .ok (.ireturn, 1) := by decide +kernel
theorem dJ0_coder_7d493_0 : decode cJ0_coder_7d493 0 = .ok (.getstatic 38, 3) := by decide +kernel
theorem dJ0_coder_7d493_3 : decode cJ0_coder_7d493 3 = .ok (.ifCond .eq 10, 3) := by decide +kernel
theorem dJ0_coder_7d493_6 : decode cJ0_coder_7d493 6 = .ok (.aload_n 0, 1) := by decide +kernel
theorem dJ0_coder_7d493_7 : decode cJ0_coder_7d493 7 = .ok (.getfield 15, 3) := by decide +kernel
theorem dJ0_coder_7d493_10 : decode cJ0_coder_7d493 10 = .ok (.goto 4, 3) := by decide +kernel
theorem dJ0_coder_7d493_13 : decode cJ0_coder_7d493 13 = .ok (.iconst 1, 1) := by decide +kernel
theorem dJ0_coder_7d493_14 : decode cJ0_coder_7d493 14 = .ok (.ireturn, 1) := by decide +kernel
theorem dJ0_isLatin1_aae02_0 : decode cJ0_isLatin1_aae02 0 = .ok (.getstatic 38, 3) := by decide +kernel
theorem dJ0_isLatin1_aae02_3 : decode cJ0_isLatin1_aae02 3 = .ok (.ifCond .eq 14, 3) := by decide +kernel
theorem dJ0_isLatin1_aae02_6 : decode cJ0_isLatin1_aae02 6 = .ok (.aload_n 0, 1) := by decide +kernel
theorem dJ0_isLatin1_aae02_7 : decode cJ0_isLatin1_aae02 7 = .ok (.getfield 15, 3) := by decide +kernel
theorem dJ0_isLatin1_aae02_10 : decode cJ0_isLatin1_aae02 10 = .ok (.ifCond .ne 7, 3) := by decide +kernel
theorem dJ0_isLatin1_aae02_13 : decode cJ0_isLatin1_aae02 13 = .ok (.iconst 1, 1) := by decide +kernel
theorem dJ0_isLatin1_aae02_14 : decode cJ0_isLatin1_aae02 14 = .ok (.goto 4, 3) := by decide +kernel
theorem dJ0_isLatin1_aae02_17 : decode cJ0_isLatin1_aae02 17 = .ok (.iconst 0, 1) := by decide +kernel
theorem dJ0_isLatin1_aae02_18 : decode cJ0_isLatin1_aae02 18 = .ok (.ireturn, 1) := by decide +kernel
theorem dJ0_checkIndex_df160_0 : decode cJ0_checkIndex_df160 0 = .ok (.iload_n 0, 1) := by decide +kernel
theorem dJ0_checkIndex_df160_1 : decode cJ0_checkIndex_df160 1 = .ok (.iload_n 1, 1) := by decide +kernel
theorem dJ0_checkIndex_df160_2 : decode cJ0_checkIndex_df160 2 = .ok (.getstatic 1053, 3) := by decide +kernel
theorem dJ0_checkIndex_df160_5 : decode cJ0_checkIndex_df160 5 = .ok (.invokestatic 1059, 3) := by decide +kernel
theorem dJ0_checkIndex_df160_8 : decode cJ0_checkIndex_df160 8 = .ok (.pop, 1) := by decide +kernel
theorem dJ0_checkIndex_df160_9 : decode cJ0_checkIndex_df160 9 = .ok (.return_, 1) := by decide +kernel
theorem dJ1_charAt_3b067_0 : decode cJ1_charAt_3b067 0 = .ok (.iload_n 1, 1) := by decide +kernel
theorem dJ1_charAt_3b067_1 : decode cJ1_charAt_3b067 1 = .ok (.aload_n 0, 1) := by decide +kernel
theorem dJ1_charAt_3b067_2 : decode cJ1_charAt_3b067 2 = .ok (.arraylength, 1) := by decide +kernel
theorem dJ1_charAt_3b067_3 : decode cJ1_charAt_3b067 3 = .ok (.invokestatic 9, 3) := by decide +kernel
theorem dJ1_charAt_3b067_6 : decode cJ1_charAt_3b067 6 = .ok (.aload_n 0, 1) := by decide +kernel
theorem dJ1_charAt_3b067_7 : decode cJ1_charAt_3b067 7 = .ok (.iload_n 1, 1) := by decide +kernel
theorem dJ1_charAt_3b067_8 : decode cJ1_charAt_3b067 8 = .ok (.baload, 1) := by decide +kernel
theorem dJ1_charAt_3b067_9 : decode cJ1_charAt_3b067 9 = .ok (.sipush 255, 3) := by decide +kernel
theorem dJ1_charAt_3b067_12 : decode cJ1_charAt_3b067 12 = .ok (.iand, 1) := by decide +kernel
theorem dJ1_charAt_3b067_13 : decode cJ1_charAt_3b067 13 = .ok (.i2c, 1) := by decide +kernel
theorem dJ1_charAt_3b067_14 : decode cJ1_charAt_3b067 14 = .ok (.ireturn, 1) := by decide +kernel
theorem dJ2_getChar_3b067_0 : decode cJ2_getChar_3b067 0 = .ok (.getstatic 44, 3) := by decide +kernel
theorem dJ2_getChar_3b067_3 : decode cJ2_getChar_3b067 3 = .ok (.ifCond .ne 25, 3) := by decide +kernel
theorem dJ2_getChar_3b067_6 : decode cJ2_getChar_3b067 6 = .ok (.iload_n 1, 1) := by decide +kernel
theorem dJ2_getChar_3b067_7 : decode cJ2_getChar_3b067 7 = .ok (.ifCond .lt 11, 3) := by decide +kernel
theorem dJ2_getChar_3b067_10 : decode cJ2_getChar_3b067 10 = .ok (.iload_n 1, 1) := by decide +kernel
theorem dJ2_getChar_3b067_11 : decode cJ2_getChar_3b067 11 = .ok (.aload_n 0, 1) := by decide +kernel
theorem dJ2_getChar_3b067_12 : decode cJ2_getChar_3b067 12 = .ok (.invokestatic 48, 3) := by decide +kernel
theorem dJ2_getChar_3b067_15 : decode cJ2_getChar_3b067 15 = .ok (.if_icmp .lt 13, 3) := by decide +kernel
theorem dJ2_getChar_3b067_18 : decode cJ2_getChar_3b067 18 = .ok (.new 52, 3) := by decide +kernel
theorem dJ2_getChar_3b067_21 : decode cJ2_getChar_3b067 21 = .ok (.dup, 1) := by decide +kernel
theorem dJ2_getChar_3b067_22 : decode cJ2_getChar_3b067 22 = .ok (.ldc 54, 2) := by decide +kernel
theorem dJ2_getChar_3b067_24 : decode cJ2_getChar_3b067 24 = .ok (.invokespecial 56, 3) := by decide +kernel
theorem dJ2_getChar_3b067_27 : decode cJ2_getChar_3b067 27 = .ok (.athrow, 1) := by decide +kernel
theorem dJ2_getChar_3b067_28 : decode cJ2_getChar_3b067 28 = .ok (.iload_n 1, 1) := by decide +kernel
theorem dJ2_getChar_3b067_29 : decode cJ2_getChar_3b067 29 = .ok (.iconst 1, 1) := by decide +kernel
theorem dJ2_getChar_3b067_30 : decode cJ2_getChar_3b067 30 = .ok (.ishl, 1) := by decide +kernel
theorem dJ2_getChar_3b067_31 : decode cJ2_getChar_3b067 31 = .ok (.istore_n 1, 1) := by decide +kernel
theorem dJ2_getChar_3b067_32 : decode cJ2_getChar_3b067 32 = .ok (.aload_n 0, 1) := by decide +kernel
theorem dJ2_getChar_3b067_33 : decode cJ2_getChar_3b067 33 = .ok (.iload_n 1, 1) := by decide +kernel
theorem dJ2_getChar_3b067_34 : decode cJ2_getChar_3b067 34 = .ok (.iinc 1 1, 3) := by decide +kernel
theorem dJ2_getChar_3b067_37 : decode cJ2_getChar_3b067 37 = .ok (.baload, 1) := by decide +kernel
theorem dJ2_getChar_3b067_38 : decode cJ2_getChar_3b067 38 = .ok (.sipush 255, 3) := by decide +kernel
theorem dJ2_getChar_3b067_41 : decode cJ2_getChar_3b067 41 = .ok (.iand, 1) := by decide +kernel
theorem dJ2_getChar_3b067_42 : decode cJ2_getChar_3b067 42 = .ok (.getstatic 59, 3) := by decide +kernel
theorem dJ2_getChar_3b067_45 : decode cJ2_getChar_3b067 45 = .ok (.ishl, 1) := by decide +kernel
theorem dJ2_getChar_3b067_46 : decode cJ2_getChar_3b067 46 = .ok (.aload_n 0, 1) := by decide +kernel
theorem dJ2_getChar_3b067_47 : decode cJ2_getChar_3b067 47 = .ok (.iload_n 1, 1) := by decide +kernel
theorem dJ2_getChar_3b067_48 : decode cJ2_getChar_3b067 48 = .ok (.baload, 1) := by decide +kernel
theorem dJ2_getChar_3b067_49 : decode cJ2_getChar_3b067 49 = .ok (.sipush 255, 3) := by decide +kernel
theorem dJ2_getChar_3b067_52 : decode cJ2_getChar_3b067 52 = .ok (.iand, 1) := by decide +kernel
theorem dJ2_getChar_3b067_53 : decode cJ2_getChar_3b067 53 = .ok (.getstatic 63, 3) := by decide +kernel
theorem dJ2_getChar_3b067_56 : decode cJ2_getChar_3b067 56 = .ok (.ishl, 1) := by decide +kernel
theorem dJ2_getChar_3b067_57 : decode cJ2_getChar_3b067 57 = .ok (.ior, 1) := by decide +kernel
theorem dJ2_getChar_3b067_58 : decode cJ2_getChar_3b067 58 = .ok (.i2c, 1) := by decide +kernel
theorem dJ2_getChar_3b067_59 : decode cJ2_getChar_3b067 59 = .ok (.ireturn, 1) := by decide +kernel
theorem dJ2_length_9d52b_0 : decode cJ2_length_9d52b 0 = .ok (.aload_n 0, 1) := by decide +kernel
theorem dJ2_length_9d52b_1 : decode cJ2_length_9d52b 1 = .ok (.arraylength, 1) := by decide +kernel
theorem dJ2_length_9d52b_2 : decode cJ2_length_9d52b 2 = .ok (.iconst 1, 1) := by decide +kernel
theorem dJ2_length_9d52b_3 : decode cJ2_length_9d52b 3 = .ok (.ishr, 1) := by decide +kernel
theorem dJ2_length_9d52b_4 : decode cJ2_length_9d52b 4 = .ok (.ireturn, 1) := by decide +kernel
theorem dJ2_charAt_3b067_0 : decode cJ2_charAt_3b067 0 = .ok (.iload_n 1, 1) := by decide +kernel
theorem dJ2_charAt_3b067_1 : decode cJ2_charAt_3b067 1 = .ok (.aload_n 0, 1) := by decide +kernel
theorem dJ2_charAt_3b067_2 : decode cJ2_charAt_3b067 2 = .ok (.invokestatic 67, 3) := by decide +kernel
theorem dJ2_charAt_3b067_5 : decode cJ2_charAt_3b067 5 = .ok (.aload_n 0, 1) := by decide +kernel
theorem dJ2_charAt_3b067_6 : decode cJ2_charAt_3b067 6 = .ok (.iload_n 1, 1) := by decide +kernel
theorem dJ2_charAt_3b067_7 : decode cJ2_charAt_3b067 7 = .ok (.invokestatic 71, 3) := by decide +kernel
theorem dJ2_charAt_3b067_10 : decode cJ2_charAt_3b067 10 = .ok (.ireturn, 1) := by decide +kernel
theorem dJ2_checkIndex_2214a_0 : decode cJ2_checkIndex_2214a 0 = .ok (.iload_n 0, 1) := by decide +kernel
theorem dJ2_checkIndex_2214a_1 : decode cJ2_checkIndex_2214a 1 = .ok (.aload_n 1, 1) := by decide +kernel
theorem dJ2_checkIndex_2214a_2 : decode cJ2_checkIndex_2214a 2 = .ok (.invokestatic 48, 3) := by decide +kernel
theorem dJ2_checkIndex_2214a_5 : decode cJ2_checkIndex_2214a 5 = .ok (.invokestatic 414, 3) := by decide +kernel
theorem dJ2_checkIndex_2214a_8 : decode cJ2_checkIndex_2214a 8 = .ok (.return_, 1) := by decide +kernel
theorem dJ3_checkIndex_8e157_0 : decode cJ3_checkIndex_8e157 0 = .ok (.iload_n 0, 1) := by decide +kernel
theorem dJ3_checkIndex_8e157_1 : decode cJ3_checkIndex_8e157 1 = .ok (.ifCond .lt 8, 3) := by decide +kernel
theorem dJ3_checkIndex_8e157_4 : decode cJ3_checkIndex_8e157 4 = .ok (.iload_n 0, 1) := by decide +kernel
theorem dJ3_checkIndex_8e157_5 : decode cJ3_checkIndex_8e157 5 = .ok (.iload_n 1, 1) := by decide +kernel
theorem dJ3_checkIndex_8e157_6 : decode cJ3_checkIndex_8e157 6 = .ok (.if_icmp .lt 10, 3) := by decide +kernel
theorem dJ3_checkIndex_8e157_9 : decode cJ3_checkIndex_8e157 9 = .ok (.aload_n 2, 1) := by decide +kernel
theorem dJ3_checkIndex_8e157_10 : decode cJ3_checkIndex_8e157 10 = .ok (.iload_n 0, 1) := by decide +kernel
theorem dJ3_checkIndex_8e157_11 : decode cJ3_checkIndex_8e157 11 = .ok (.iload_n 1, 1) := by decide +kernel
theorem dJ3_checkIndex_8e157_12 : decode cJ3_checkIndex_8e157 12 = .ok (.invokestatic 95, 3) := by decide +kernel
theorem dJ3_checkIndex_8e157_15 : decode cJ3_checkIndex_8e157 15 = .ok (.athrow, 1) := by decide +kernel
theorem dJ3_checkIndex_8e157_16 : decode cJ3_checkIndex_8e157 16 = .ok (.iload_n 0, 1) := by decide +kernel
theorem dJ3_checkIndex_8e157_17 : decode cJ3_checkIndex_8e157 17 = .ok (.ireturn, 1) := by decide +kernel
