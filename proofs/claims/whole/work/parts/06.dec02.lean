theorem dJ6_bitCount_0f7a4_0 : decode cJ6_bitCount_0f7a4 0 = .ok (.iload_n 0, 1) := by decide +kernel
theorem dJ6_bitCount_0f7a4_1 : decode cJ6_bitCount_0f7a4 1 = .ok (.iload_n 0, 1) := by decide +kernel
theorem dJ6_bitCount_0f7a4_2 : decode cJ6_bitCount_0f7a4 2 = .ok (.iconst 1, 1) := by decide +kernel
theorem dJ6_bitCount_0f7a4_3 : decode cJ6_bitCount_0f7a4 3 = .ok (.iushr, 1) := by decide +kernel
theorem dJ6_bitCount_0f7a4_4 : decode cJ6_bitCount_0f7a4 4 = .ok (.ldc_w 265, 3) := by decide +kernel
theorem dJ6_bitCount_0f7a4_7 : decode cJ6_bitCount_0f7a4 7 = .ok (.iand, 1) := by decide +kernel
theorem dJ6_bitCount_0f7a4_8 : decode cJ6_bitCount_0f7a4 8 = .ok (.isub, 1) := by decide +kernel
theorem dJ6_bitCount_0f7a4_9 : decode cJ6_bitCount_0f7a4 9 = .ok (.istore_n 0, 1) := by decide +kernel
theorem dJ6_bitCount_0f7a4_10 : decode cJ6_bitCount_0f7a4 10 = .ok (.iload_n 0, 1) := by decide +kernel
theorem dJ6_bitCount_0f7a4_11 : decode cJ6_bitCount_0f7a4 11 = .ok (.ldc_w 266, 3) := by decide +kernel
theorem dJ6_bitCount_0f7a4_14 : decode cJ6_bitCount_0f7a4 14 = .ok (.iand, 1) := by decide +kernel
theorem dJ6_bitCount_0f7a4_15 : decode cJ6_bitCount_0f7a4 15 = .ok (.iload_n 0, 1) := by decide +kernel
theorem dJ6_bitCount_0f7a4_16 : decode cJ6_bitCount_0f7a4 16 = .ok (.iconst 2, 1) := by decide +kernel
theorem dJ6_bitCount_0f7a4_17 : decode cJ6_bitCount_0f7a4 17 = .ok (.iushr, 1) := by decide +kernel
theorem dJ6_bitCount_0f7a4_18 : decode cJ6_bitCount_0f7a4 18 = .ok (.ldc_w 266, 3) := by decide +kernel
theorem dJ6_bitCount_0f7a4_21 : decode cJ6_bitCount_0f7a4 21 = .ok (.iand, 1) := by decide +kernel
theorem dJ6_bitCount_0f7a4_22 : decode cJ6_bitCount_0f7a4 22 = .ok (.iadd, 1) := by decide +kernel
theorem dJ6_bitCount_0f7a4_23 : decode cJ6_bitCount_0f7a4 23 = .ok (.istore_n 0, 1) := by decide +kernel
theorem dJ6_bitCount_0f7a4_24 : decode cJ6_bitCount_0f7a4 24 = .ok (.iload_n 0, 1) := by decide +kernel
theorem dJ6_bitCount_0f7a4_25 : decode cJ6_bitCount_0f7a4 25 = .ok (.iload_n 0, 1) := by decide +kernel
theorem dJ6_bitCount_0f7a4_26 : decode cJ6_bitCount_0f7a4 26 = .ok (.iconst 4, 1) := by decide +kernel
theorem dJ6_bitCount_0f7a4_27 : decode cJ6_bitCount_0f7a4 27 = .ok (.iushr, 1) := by decide +kernel
theorem dJ6_bitCount_0f7a4_28 : decode cJ6_bitCount_0f7a4 28 = .ok (.iadd, 1) := by decide +kernel
theorem dJ6_bitCount_0f7a4_29 : decode cJ6_bitCount_0f7a4 29 = .ok (.ldc_w 267, 3) := by decide +kernel
theorem dJ6_bitCount_0f7a4_32 : decode cJ6_bitCount_0f7a4 32 = .ok (.iand, 1) := by decide +kernel
theorem dJ6_bitCount_0f7a4_33 : decode cJ6_bitCount_0f7a4 33 = .ok (.istore_n 0, 1) := by decide +kernel
theorem dJ6_bitCount_0f7a4_34 : decode cJ6_bitCount_0f7a4 34 = .ok (.iload_n 0, 1) := by decide +kernel
theorem dJ6_bitCount_0f7a4_35 : decode cJ6_bitCount_0f7a4 35 = .ok (.iload_n 0, 1) := by decide +kernel
theorem dJ6_bitCount_0f7a4_36 : decode cJ6_bitCount_0f7a4 36 = .ok (.bipush 8, 2) := by decide +kernel
theorem dJ6_bitCount_0f7a4_38 : decode cJ6_bitCount_0f7a4 38 = .ok (.iushr, 1) := by decide +kernel
theorem dJ6_bitCount_0f7a4_39 : decode cJ6_bitCount_0f7a4 39 = .ok (.iadd, 1) := by decide +kernel
theorem dJ6_bitCount_0f7a4_40 : decode cJ6_bitCount_0f7a4 40 = .ok (.istore_n 0, 1) := by decide +kernel
theorem dJ6_bitCount_0f7a4_41 : decode cJ6_bitCount_0f7a4 41 = .ok (.iload_n 0, 1) := by decide +kernel
theorem dJ6_bitCount_0f7a4_42 : decode cJ6_bitCount_0f7a4 42 = .ok (.iload_n 0, 1) := by decide +kernel
theorem dJ6_bitCount_0f7a4_43 : decode cJ6_bitCount_0f7a4 43 = .ok (.bipush 16, 2) := by decide +kernel
theorem dJ6_bitCount_0f7a4_45 : decode cJ6_bitCount_0f7a4 45 = .ok (.iushr, 1) := by decide +kernel
theorem dJ6_bitCount_0f7a4_46 : decode cJ6_bitCount_0f7a4 46 = .ok (.iadd, 1) := by decide +kernel
theorem dJ6_bitCount_0f7a4_47 : decode cJ6_bitCount_0f7a4 47 = .ok (.istore_n 0, 1) := by decide +kernel
theorem dJ6_bitCount_0f7a4_48 : decode cJ6_bitCount_0f7a4 48 = .ok (.iload_n 0, 1) := by decide +kernel
theorem dJ6_bitCount_0f7a4_49 : decode cJ6_bitCount_0f7a4 49 = .ok (.bipush 63, 2) := by decide +kernel
theorem dJ6_bitCount_0f7a4_51 : decode cJ6_bitCount_0f7a4 51 = .ok (.iand, 1) := by decide +kernel
theorem dJ6_bitCount_0f7a4_52 : decode cJ6_bitCount_0f7a4 52 = .ok (.ireturn, 1) := by decide +kernel
theorem dJ9_max_7cf53_0 : decode cJ9_max_7cf53 0 = .ok (.iload_n 0, 1) := by decide +kernel
theorem dJ9_max_7cf53_1 : decode cJ9_max_7cf53 1 = .ok (.iload_n 1, 1) := by decide +kernel
theorem dJ9_max_7cf53_2 : decode cJ9_max_7cf53 2 = .ok (.if_icmp .lt 7, 3) := by decide +kernel
theorem dJ9_max_7cf53_5 : decode cJ9_max_7cf53 5 = .ok (.iload_n 0, 1) := by decide +kernel
theorem dJ9_max_7cf53_6 : decode cJ9_max_7cf53 6 = .ok (.goto 4, 3) := by decide +kernel
theorem dJ9_max_7cf53_9 : decode cJ9_max_7cf53 9 = .ok (.iload_n 1, 1) := by decide +kernel
theorem dJ9_max_7cf53_10 : decode cJ9_max_7cf53 10 = .ok (.ireturn, 1) := by decide +kernel
theorem dJ9_min_7cf53_0 : decode cJ9_min_7cf53 0 = .ok (.iload_n 0, 1) := by decide +kernel
theorem dJ9_min_7cf53_1 : decode cJ9_min_7cf53 1 = .ok (.iload_n 1, 1) := by decide +kernel
theorem dJ9_min_7cf53_2 : decode cJ9_min_7cf53 2 = .ok (.if_icmp .gt 7, 3) := by decide +kernel
theorem dJ9_min_7cf53_5 : decode cJ9_min_7cf53 5 = .ok (.iload_n 0, 1) := by decide +kernel
theorem dJ9_min_7cf53_6 : decode cJ9_min_7cf53 6 = .ok (.goto 4, 3) := by decide +kernel
theorem dJ9_min_7cf53_9 : decode cJ9_min_7cf53 9 = .ok (.iload_n 1, 1) := by decide +kernel
theorem dJ9_min_7cf53_10 : decode cJ9_min_7cf53 10 = .ok (.ireturn, 1) := by decide +kernel
theorem dX0_note_0 : decode cX0_note 0 = .ok (.aload_n 1, 1) := by decide +kernel
theorem dX0_note_1 : decode cX0_note 1 = .ok (.getfield 86, 3) := by decide +kernel
theorem dX0_note_4 : decode cX0_note 4 = .ok (.iconst 0, 1) := by decide +kernel
theorem dX0_note_5 : decode cX0_note 5 = .ok (.bipush 7, 2) := by decide +kernel
theorem dX0_note_7 : decode cX0_note 7 = .ok (.invokestatic 89, 3) := by decide +kernel
theorem dX0_note_10 : decode cX0_note 10 = .ok (.lstore_n 2, 1) := by decide +kernel
theorem dX0_note_11 : decode cX0_note 11 = .ok (.aload_n 1, 1) := by decide +kernel
theorem dX0_note_12 : decode cX0_note 12 = .ok (.getfield 86, 3) := by decide +kernel
theorem dX0_note_15 : decode cX0_note 15 = .ok (.bipush 7, 2) := by decide +kernel
theorem dX0_note_17 : decode cX0_note 17 = .ok (.bipush 14, 2) := by decide +kernel
theorem dX0_note_19 : decode cX0_note 19 = .ok (.invokestatic 89, 3) := by decide +kernel
theorem dX0_note_22 : decode cX0_note 22 = .ok (.ldc2_w 93, 3) := by decide +kernel
theorem dX0_note_25 : decode cX0_note 25 = .ok (.lmul, 1) := by decide +kernel
theorem dX0_note_26 : decode cX0_note 26 = .ok (.aload_n 1, 1) := by decide +kernel
theorem dX0_note_27 : decode cX0_note 27 = .ok (.getfield 95, 3) := by decide +kernel
theorem dX0_note_30 : decode cX0_note 30 = .ok (.i2l, 1) := by decide +kernel
theorem dX0_note_31 : decode cX0_note 31 = .ok (.ladd, 1) := by decide +kernel
theorem dX0_note_32 : decode cX0_note 32 = .ok (.lstore 4, 2) := by decide +kernel
theorem dX0_note_34 : decode cX0_note 34 = .ok (.lload_n 2, 1) := by decide +kernel
theorem dX0_note_35 : decode cX0_note 35 = .ok (.ldc2_w 98, 3) := by decide +kernel
theorem dX0_note_38 : decode cX0_note 38 = .ok (.lmul, 1) := by decide +kernel
theorem dX0_note_39 : decode cX0_note 39 = .ok (.lload 4, 2) := by decide +kernel
theorem dX0_note_41 : decode cX0_note 41 = .ok (.ladd, 1) := by decide +kernel
theorem dX0_note_42 : decode cX0_note 42 = .ok (.ldc2_w 100, 3) := by decide +kernel
theorem dX0_note_45 : decode cX0_note 45 = .ok (.lmul, 1) := by decide +kernel
theorem dX0_note_46 : decode cX0_note 46 = .ok (.lstore 6, 2) := by decide +kernel
theorem dX0_note_48 : decode cX0_note 48 = .ok (.lload 6, 2) := by decide +kernel
theorem dX0_note_50 : decode cX0_note 50 = .ok (.bipush 52, 2) := by decide +kernel
theorem dX0_note_52 : decode cX0_note 52 = .ok (.lushr, 1) := by decide +kernel
theorem dX0_note_53 : decode cX0_note 53 = .ok (.l2i, 1) := by decide +kernel
theorem dX0_note_54 : decode cX0_note 54 = .ok (.istore 8, 2) := by decide +kernel
theorem dX0_note_56 : decode cX0_note 56 = .ok (.iconst 0, 1) := by decide +kernel
theorem dX0_note_57 : decode cX0_note 57 = .ok (.istore 9, 2) := by decide +kernel
theorem dX0_note_59 : decode cX0_note 59 = .ok (.iload 9, 2) := by decide +kernel
theorem dX0_note_61 : decode cX0_note 61 = .ok (.sipush 4096, 3) := by decide +kernel
theorem dX0_note_64 : decode cX0_note 64 = .ok (.if_icmp .ge 116, 3) := by decide +kernel
theorem dX0_note_67 : decode cX0_note 67 = .ok (.aload_n 0, 1) := by decide +kernel
theorem dX0_note_68 : decode cX0_note 68 = .ok (.getfield 76, 3) := by decide +kernel
theorem dX0_note_71 : decode cX0_note 71 = .ok (.sipush 1296, 3) := by decide +kernel
theorem dX0_note_74 : decode cX0_note 74 = .ok (.if_icmp .ge 106, 3) := by decide +kernel
theorem dX0_note_77 : decode cX0_note 77 = .ok (.aload_n 0, 1) := by decide +kernel
theorem dX0_note_78 : decode cX0_note 78 = .ok (.getfield 33, 3) := by decide +kernel
theorem dX0_note_81 : decode cX0_note 81 = .ok (.iload 8, 2) := by decide +kernel
theorem dX0_note_83 : decode cX0_note 83 = .ok (.iaload, 1) := by decide +kernel
theorem dX0_note_84 : decode cX0_note 84 = .ok (.istore 10, 2) := by decide +kernel
theorem dX0_note_86 : decode cX0_note 86 = .ok (.iload 10, 2) := by decide +kernel
theorem dX0_note_88 : decode cX0_note 88 = .ok (.ifCond .ne 46, 3) := by decide +kernel
theorem dX0_note_91 : decode cX0_note 91 = .ok (.aload_n 0, 1) := by decide +kernel
theorem dX0_note_92 : decode cX0_note 92 = .ok (.getfield 26, 3) := by decide +kernel
theorem dX0_note_95 : decode cX0_note 95 = .ok (.aload_n 0, 1) := by decide +kernel
theorem dX0_note_96 : decode cX0_note 96 = .ok (.getfield 76, 3) := by decide +kernel
theorem dX0_note_99 : decode cX0_note 99 = .ok (.lload_n 2, 1) := by decide +kernel
theorem dX0_note_100 : decode cX0_note 100 = .ok (.lastore, 1) := by decide +kernel
theorem dX0_note_101 : decode cX0_note 101 = .ok (.aload_n 0, 1) := by decide +kernel
theorem dX0_note_102 : decode cX0_note 102 = .ok (.getfield 30, 3) := by decide +kernel
theorem dX0_note_105 : decode cX0_note 105 = .ok (.aload_n 0, 1) := by decide +kernel
theorem dX0_note_106 : decode cX0_note 106 = .ok (.getfield 76, 3) := by decide +kernel
theorem dX0_note_109 : decode cX0_note 109 = .ok (.lload 4, 2) := by decide +kernel
theorem dX0_note_111 : decode cX0_note 111 = .ok (.lastore, 1) := by decide +kernel
theorem dX0_note_112 : decode cX0_note 112 = .ok (.aload_n 0, 1) := by decide +kernel
theorem dX0_note_113 : decode cX0_note 113 = .ok (.dup, 1) := by decide +kernel
theorem dX0_note_114 : decode cX0_note 114 = .ok (.getfield 76, 3) := by decide +kernel
theorem dX0_note_117 : decode cX0_note 117 = .ok (.iconst 1, 1) := by decide +kernel
theorem dX0_note_118 : decode cX0_note 118 = .ok (.iadd, 1) := by decide +kernel
theorem dX0_note_119 : decode cX0_note 119 = .ok (.putfield 76, 3) := by decide +kernel
theorem dX0_note_122 : decode cX0_note 122 = .ok (.aload_n 0, 1) := by decide +kernel
theorem dX0_note_123 : decode cX0_note 123 = .ok (.getfield 33, 3) := by decide +kernel
theorem dX0_note_126 : decode cX0_note 126 = .ok (.iload 8, 2) := by decide +kernel
theorem dX0_note_128 : decode cX0_note 128 = .ok (.aload_n 0, 1) := by decide +kernel
theorem dX0_note_129 : decode cX0_note 129 = .ok (.getfield 76, 3) := by decide +kernel
theorem dX0_note_132 : decode cX0_note 132 = .ok (.iastore, 1) := by decide +kernel
theorem dX0_note_133 : decode cX0_note 133 = .ok (.return_, 1) := by decide +kernel
theorem dX0_note_134 : decode cX0_note 134 = .ok (.aload_n 0, 1) := by decide +kernel
theorem dX0_note_135 : decode cX0_note 135 = .ok (.getfield 26, 3) := by decide +kernel
theorem dX0_note_138 : decode cX0_note 138 = .ok (.iload 10, 2) := by decide +kernel
theorem dX0_note_140 : decode cX0_note 140 = .ok (.iconst 1, 1) := by decide +kernel
theorem dX0_note_141 : decode cX0_note 141 = .ok (.isub, 1) := by decide +kernel
theorem dX0_note_142 : decode cX0_note 142 = .ok (.laload, 1) := by decide +kernel
theorem dX0_note_143 : decode cX0_note 143 = .ok (.lload_n 2, 1) := by decide +kernel
theorem dX0_note_144 : decode cX0_note 144 = .ok (.lcmp, 1) := by decide +kernel
theorem dX0_note_145 : decode cX0_note 145 = .ok (.ifCond .ne 19, 3) := by decide +kernel
theorem dX0_note_148 : decode cX0_note 148 = .ok (.aload_n 0, 1) := by decide +kernel
theorem dX0_note_149 : decode cX0_note 149 = .ok (.getfield 30, 3) := by decide +kernel
theorem dX0_note_152 : decode cX0_note 152 = .ok (.iload 10, 2) := by decide +kernel
theorem dX0_note_154 : decode cX0_note 154 = .ok (.iconst 1, 1) := by decide +kernel
theorem dX0_note_155 : decode cX0_note 155 = .ok (.isub, 1) := by decide +kernel
theorem dX0_note_156 : decode cX0_note 156 = .ok (.laload, 1) := by decide +kernel
theorem dX0_note_157 : decode cX0_note 157 = .ok (.lload 4, 2) := by decide +kernel
theorem dX0_note_159 : decode cX0_note 159 = .ok (.lcmp, 1) := by decide +kernel
theorem dX0_note_160 : decode cX0_note 160 = .ok (.ifCond .ne 4, 3) := by decide +kernel
theorem dX0_note_163 : decode cX0_note 163 = .ok (.return_, 1) := by decide +kernel
theorem dX0_note_164 : decode cX0_note 164 = .ok (.iload 8, 2) := by decide +kernel
theorem dX0_note_166 : decode cX0_note 166 = .ok (.iconst 1, 1) := by decide +kernel
theorem dX0_note_167 : decode cX0_note 167 = .ok (.iadd, 1) := by decide +kernel
theorem dX0_note_168 : decode cX0_note 168 = .ok (.sipush 4095, 3) := by decide +kernel
theorem dX0_note_171 : decode cX0_note 171 = .ok (.iand, 1) := by decide +kernel
theorem dX0_note_172 : decode cX0_note 172 = .ok (.istore 8, 2) := by decide +kernel
theorem dX0_note_174 : decode cX0_note 174 = .ok (.iinc 9 1, 3) := by decide +kernel
theorem dX0_note_177 : decode cX0_note 177 = .ok (.goto (-118), 3) := by decide +kernel
theorem dX0_note_180 : decode cX0_note 180 = .ok (.return_, 1) := by decide +kernel
theorem dX1_countWays_0 : decode cX1_countWays 0 = .ok (.aload_n 0, 1) := by decide +kernel
theorem dX1_countWays_1 : decode cX1_countWays 1 = .ok (.getfield 18, 3) := by decide +kernel
theorem dX1_countWays_4 : decode cX1_countWays 4 = .ok (.iconst 0, 1) := by decide +kernel
theorem dX1_countWays_5 : decode cX1_countWays 5 = .ok (.iconst 1, 1) := by decide +kernel
theorem dX1_countWays_6 : decode cX1_countWays 6 = .ok (.iastore, 1) := by decide +kernel
theorem dX1_countWays_7 : decode cX1_countWays 7 = .ok (.iconst 1, 1) := by decide +kernel
theorem dX1_countWays_8 : decode cX1_countWays 8 = .ok (.istore_n 1, 1) := by decide +kernel
theorem dX1_countWays_9 : decode cX1_countWays 9 = .ok (.iload_n 1, 1) := by decide +kernel
theorem dX1_countWays_10 : decode cX1_countWays 10 = .ok (.bipush 14, 2) := by decide +kernel
theorem dX1_countWays_12 : decode cX1_countWays 12 = .ok (.if_icmp .ge 81, 3) := by decide +kernel
theorem dX1_countWays_15 : decode cX1_countWays 15 = .ok (.iconst 0, 1) := by decide +kernel
theorem dX1_countWays_16 : decode cX1_countWays 16 = .ok (.istore_n 2, 1) := by decide +kernel
theorem dX1_countWays_17 : decode cX1_countWays 17 = .ok (.iload_n 2, 1) := by decide +kernel
theorem dX1_countWays_18 : decode cX1_countWays 18 = .ok (.bipush 40, 2) := by decide +kernel
theorem dX1_countWays_20 : decode cX1_countWays 20 = .ok (.if_icmp .gt 67, 3) := by decide +kernel
theorem dX1_countWays_23 : decode cX1_countWays 23 = .ok (.aload_n 0, 1) := by decide +kernel
theorem dX1_countWays_24 : decode cX1_countWays 24 = .ok (.getfield 18, 3) := by decide +kernel
theorem dX1_countWays_27 : decode cX1_countWays 27 = .ok (.iload_n 1, 1) := by decide +kernel
theorem dX1_countWays_28 : decode cX1_countWays 28 = .ok (.iconst 1, 1) := by decide +kernel
theorem dX1_countWays_29 : decode cX1_countWays 29 = .ok (.isub, 1) := by decide +kernel
theorem dX1_countWays_30 : decode cX1_countWays 30 = .ok (.bipush 41, 2) := by decide +kernel
theorem dX1_countWays_32 : decode cX1_countWays 32 = .ok (.imul, 1) := by decide +kernel
theorem dX1_countWays_33 : decode cX1_countWays 33 = .ok (.iload_n 2, 1) := by decide +kernel
theorem dX1_countWays_34 : decode cX1_countWays 34 = .ok (.iadd, 1) := by decide +kernel
theorem dX1_countWays_35 : decode cX1_countWays 35 = .ok (.iaload, 1) := by decide +kernel
theorem dX1_countWays_36 : decode cX1_countWays 36 = .ok (.istore_n 3, 1) := by decide +kernel
theorem dX1_countWays_37 : decode cX1_countWays 37 = .ok (.iload_n 2, 1) := by decide +kernel
theorem dX1_countWays_38 : decode cX1_countWays 38 = .ok (.ifCond .ne 7, 3) := by decide +kernel
theorem dX1_countWays_41 : decode cX1_countWays 41 = .ok (.iconst 0, 1) := by decide +kernel
theorem dX1_countWays_42 : decode cX1_countWays 42 = .ok (.goto 16, 3) := by decide +kernel
theorem dX1_countWays_45 : decode cX1_countWays 45 = .ok (.aload_n 0, 1) := by decide +kernel
theorem dX1_countWays_46 : decode cX1_countWays 46 = .ok (.getfield 18, 3) := by decide +kernel
theorem dX1_countWays_49 : decode cX1_countWays 49 = .ok (.iload_n 1, 1) := by decide +kernel
theorem dX1_countWays_50 : decode cX1_countWays 50 = .ok (.bipush 41, 2) := by decide +kernel
theorem dX1_countWays_52 : decode cX1_countWays 52 = .ok (.imul, 1) := by decide +kernel
theorem dX1_countWays_53 : decode cX1_countWays 53 = .ok (.iload_n 2, 1) := by decide +kernel
theorem dX1_countWays_54 : decode cX1_countWays 54 = .ok (.iadd, 1) := by decide +kernel
theorem dX1_countWays_55 : decode cX1_countWays 55 = .ok (.iconst 1, 1) := by decide +kernel
theorem dX1_countWays_56 : decode cX1_countWays 56 = .ok (.isub, 1) := by decide +kernel
theorem dX1_countWays_57 : decode cX1_countWays 57 = .ok (.iaload, 1) := by decide +kernel
theorem dX1_countWays_58 : decode cX1_countWays 58 = .ok (.istore 4, 2) := by decide +kernel
theorem dX1_countWays_60 : decode cX1_countWays 60 = .ok (.aload_n 0, 1) := by decide +kernel
theorem dX1_countWays_61 : decode cX1_countWays 61 = .ok (.getfield 18, 3) := by decide +kernel
theorem dX1_countWays_64 : decode cX1_countWays 64 = .ok (.iload_n 1, 1) := by decide +kernel
theorem dX1_countWays_65 : decode cX1_countWays 65 = .ok (.bipush 41, 2) := by decide +kernel
theorem dX1_countWays_67 : decode cX1_countWays 67 = .ok (.imul, 1) := by decide +kernel
theorem dX1_countWays_68 : decode cX1_countWays 68 = .ok (.iload_n 2, 1) := by decide +kernel
theorem dX1_countWays_69 : decode cX1_countWays 69 = .ok (.iadd, 1) := by decide +kernel
theorem dX1_countWays_70 : decode cX1_countWays 70 = .ok (.sipush 6001, 3) := by decide +kernel
theorem dX1_countWays_73 : decode cX1_countWays 73 = .ok (.iload_n 3, 1) := by decide +kernel
theorem dX1_countWays_74 : decode cX1_countWays 74 = .ok (.iload 4, 2) := by decide +kernel
theorem dX1_countWays_76 : decode cX1_countWays 76 = .ok (.iadd, 1) := by decide +kernel
theorem dX1_countWays_77 : decode cX1_countWays 77 = .ok (.invokestatic 31, 3) := by decide +kernel
theorem dX1_countWays_80 : decode cX1_countWays 80 = .ok (.iastore, 1) := by decide +kernel
theorem dX1_countWays_81 : decode cX1_countWays 81 = .ok (.iinc 2 1, 3) := by decide +kernel
theorem dX1_countWays_84 : decode cX1_countWays 84 = .ok (.goto (-67), 3) := by decide +kernel
theorem dX1_countWays_87 : decode cX1_countWays 87 = .ok (.iinc 1 1, 3) := by decide +kernel
theorem dX1_countWays_90 : decode cX1_countWays 90 = .ok (.goto (-81), 3) := by decide +kernel
theorem dX1_countWays_93 : decode cX1_countWays 93 = .ok (.return_, 1) := by decide +kernel
theorem dX1_cellOnWay_0 : decode cX1_cellOnWay 0 = .ok (.iload_n 2, 1) := by decide +kernel
theorem dX1_cellOnWay_1 : decode cX1_cellOnWay 1 = .ok (.aload_n 0, 1) := by decide +kernel
theorem dX1_cellOnWay_2 : decode cX1_cellOnWay 2 = .ok (.getfield 21, 3) := by decide +kernel
theorem dX1_cellOnWay_5 : decode cX1_cellOnWay 5 = .ok (.getfield 66, 3) := by decide +kernel
theorem dX1_cellOnWay_8 : decode cX1_cellOnWay 8 = .ok (.if_icmp .ne 22, 3) := by decide +kernel
theorem dX1_cellOnWay_11 : decode cX1_cellOnWay 11 = .ok (.aload_n 0, 1) := by decide +kernel
theorem dX1_cellOnWay_12 : decode cX1_cellOnWay 12 = .ok (.getfield 21, 3) := by decide +kernel
theorem dX1_cellOnWay_15 : decode cX1_cellOnWay 15 = .ok (.getfield 57, 3) := by decide +kernel
theorem dX1_cellOnWay_18 : decode cX1_cellOnWay 18 = .ok (.ifCond .eq 10, 3) := by decide +kernel
theorem dX1_cellOnWay_21 : decode cX1_cellOnWay 21 = .ok (.bipush 12, 2) := by decide +kernel
theorem dX1_cellOnWay_23 : decode cX1_cellOnWay 23 = .ok (.iload_n 1, 1) := by decide +kernel
theorem dX1_cellOnWay_24 : decode cX1_cellOnWay 24 = .ok (.iadd, 1) := by decide +kernel
theorem dX1_cellOnWay_25 : decode cX1_cellOnWay 25 = .ok (.goto 4, 3) := by decide +kernel
theorem dX1_cellOnWay_28 : decode cX1_cellOnWay 28 = .ok (.iconst (-1), 1) := by decide +kernel
theorem dX1_cellOnWay_29 : decode cX1_cellOnWay 29 = .ok (.ireturn, 1) := by decide +kernel
theorem dX1_cellOnWay_30 : decode cX1_cellOnWay 30 = .ok (.aload_n 0, 1) := by decide +kernel
theorem dX1_cellOnWay_31 : decode cX1_cellOnWay 31 = .ok (.iload_n 1, 1) := by decide +kernel
theorem dX1_cellOnWay_32 : decode cX1_cellOnWay 32 = .ok (.iload_n 2, 1) := by decide +kernel
theorem dX1_cellOnWay_33 : decode cX1_cellOnWay 33 = .ok (.aload_n 0, 1) := by decide +kernel
theorem dX1_cellOnWay_34 : decode cX1_cellOnWay 34 = .ok (.getfield 21, 3) := by decide +kernel
theorem dX1_cellOnWay_37 : decode cX1_cellOnWay 37 = .ok (.getfield 66, 3) := by decide +kernel
theorem dX1_cellOnWay_40 : decode cX1_cellOnWay 40 = .ok (.if_icmp .ge 7, 3) := by decide +kernel
theorem dX1_cellOnWay_43 : decode cX1_cellOnWay 43 = .ok (.iload_n 2, 1) := by decide +kernel
theorem dX1_cellOnWay_44 : decode cX1_cellOnWay 44 = .ok (.goto 6, 3) := by decide +kernel
theorem dX1_cellOnWay_47 : decode cX1_cellOnWay 47 = .ok (.iload_n 2, 1) := by decide +kernel
theorem dX1_cellOnWay_48 : decode cX1_cellOnWay 48 = .ok (.iconst 1, 1) := by decide +kernel
theorem dX1_cellOnWay_49 : decode cX1_cellOnWay 49 = .ok (.isub, 1) := by decide +kernel
theorem dX1_cellOnWay_50 : decode cX1_cellOnWay 50 = .ok (.invokevirtual 72, 3) := by decide +kernel
theorem dX1_cellOnWay_53 : decode cX1_cellOnWay 53 = .ok (.istore_n 3, 1) := by decide +kernel
theorem dX1_cellOnWay_54 : decode cX1_cellOnWay 54 = .ok (.aload_n 0, 1) := by decide +kernel
theorem dX1_cellOnWay_55 : decode cX1_cellOnWay 55 = .ok (.getfield 21, 3) := by decide +kernel
theorem dX1_cellOnWay_58 : decode cX1_cellOnWay 58 = .ok (.iload_n 3, 1) := by decide +kernel
theorem dX1_cellOnWay_59 : decode cX1_cellOnWay 59 = .ok (.invokevirtual 75, 3) := by decide +kernel
theorem dX1_cellOnWay_62 : decode cX1_cellOnWay 62 = .ok (.ifCond .eq 7, 3) := by decide +kernel
theorem dX1_cellOnWay_65 : decode cX1_cellOnWay 65 = .ok (.iconst (-1), 1) := by decide +kernel
theorem dX1_cellOnWay_66 : decode cX1_cellOnWay 66 = .ok (.goto 4, 3) := by decide +kernel
theorem dX1_cellOnWay_69 : decode cX1_cellOnWay 69 = .ok (.iload_n 3, 1) := by decide +kernel
theorem dX1_cellOnWay_70 : decode cX1_cellOnWay 70 = .ok (.ireturn, 1) := by decide +kernel
theorem dX1_listSeen_0 : decode cX1_listSeen 0 = .ok (.aload_n 0, 1) := by decide +kernel
theorem dX1_listSeen_1 : decode cX1_listSeen 1 = .ok (.iconst 0, 1) := by decide +kernel
theorem dX1_listSeen_2 : decode cX1_listSeen 2 = .ok (.putfield 60, 3) := by decide +kernel
theorem dX1_listSeen_5 : decode cX1_listSeen 5 = .ok (.iconst 0, 1) := by decide +kernel
theorem dX1_listSeen_6 : decode cX1_listSeen 6 = .ok (.istore_n 2, 1) := by decide +kernel
theorem dX1_listSeen_7 : decode cX1_listSeen 7 = .ok (.iload_n 2, 1) := by decide +kernel
theorem dX1_listSeen_8 : decode cX1_listSeen 8 = .ok (.iconst 2, 1) := by decide +kernel
theorem dX1_listSeen_9 : decode cX1_listSeen 9 = .ok (.aload_n 0, 1) := by decide +kernel
theorem dX1_listSeen_10 : decode cX1_listSeen 10 = .ok (.getfield 21, 3) := by decide +kernel
theorem dX1_listSeen_13 : decode cX1_listSeen 13 = .ok (.getfield 66, 3) := by decide +kernel
theorem dX1_listSeen_16 : decode cX1_listSeen 16 = .ok (.imul, 1) := by decide +kernel
theorem dX1_listSeen_17 : decode cX1_listSeen 17 = .ok (.if_icmp .ge 76, 3) := by decide +kernel
theorem dX1_listSeen_20 : decode cX1_listSeen 20 = .ok (.aload_n 0, 1) := by decide +kernel
theorem dX1_listSeen_21 : decode cX1_listSeen 21 = .ok (.iload_n 1, 1) := by decide +kernel
theorem dX1_listSeen_22 : decode cX1_listSeen 22 = .ok (.iload_n 2, 1) := by decide +kernel
theorem dX1_listSeen_23 : decode cX1_listSeen 23 = .ok (.invokevirtual 72, 3) := by decide +kernel
theorem dX1_listSeen_26 : decode cX1_listSeen 26 = .ok (.istore_n 3, 1) := by decide +kernel
theorem dX1_listSeen_27 : decode cX1_listSeen 27 = .ok (.aload_n 0, 1) := by decide +kernel
theorem dX1_listSeen_28 : decode cX1_listSeen 28 = .ok (.getfield 21, 3) := by decide +kernel
theorem dX1_listSeen_31 : decode cX1_listSeen 31 = .ok (.iload_n 3, 1) := by decide +kernel
theorem dX1_listSeen_32 : decode cX1_listSeen 32 = .ok (.invokevirtual 75, 3) := by decide +kernel
theorem dX1_listSeen_35 : decode cX1_listSeen 35 = .ok (.aload_n 0, 1) := by decide +kernel
theorem dX1_listSeen_36 : decode cX1_listSeen 36 = .ok (.getfield 21, 3) := by decide +kernel
theorem dX1_listSeen_39 : decode cX1_listSeen 39 = .ok (.iload_n 2, 1) := by decide +kernel
theorem dX1_listSeen_40 : decode cX1_listSeen 40 = .ok (.invokevirtual 75, 3) := by decide +kernel
theorem dX1_listSeen_43 : decode cX1_listSeen 43 = .ok (.if_icmp .eq 8, 3) := by decide +kernel
theorem dX1_listSeen_46 : decode cX1_listSeen 46 = .ok (.aload_n 0, 1) := by decide +kernel
theorem dX1_listSeen_47 : decode cX1_listSeen 47 = .ok (.iconst 0, 1) := by decide +kernel
theorem dX1_listSeen_48 : decode cX1_listSeen 48 = .ok (.putfield 37, 3) := by decide +kernel
theorem dX1_listSeen_51 : decode cX1_listSeen 51 = .ok (.aload_n 0, 1) := by decide +kernel
theorem dX1_listSeen_52 : decode cX1_listSeen 52 = .ok (.getfield 21, 3) := by decide +kernel
theorem dX1_listSeen_55 : decode cX1_listSeen 55 = .ok (.iload_n 3, 1) := by decide +kernel
theorem dX1_listSeen_56 : decode cX1_listSeen 56 = .ok (.invokevirtual 75, 3) := by decide +kernel
theorem dX1_listSeen_59 : decode cX1_listSeen 59 = .ok (.ifCond .ne 28, 3) := by decide +kernel
theorem dX1_listSeen_62 : decode cX1_listSeen 62 = .ok (.aload_n 0, 1) := by decide +kernel
theorem dX1_listSeen_63 : decode cX1_listSeen 63 = .ok (.getfield 15, 3) := by decide +kernel
theorem dX1_listSeen_66 : decode cX1_listSeen 66 = .ok (.iload_n 1, 1) := by decide +kernel
theorem dX1_listSeen_67 : decode cX1_listSeen 67 = .ok (.bipush 12, 2) := by decide +kernel
theorem dX1_listSeen_69 : decode cX1_listSeen 69 = .ok (.imul, 1) := by decide +kernel
theorem dX1_listSeen_70 : decode cX1_listSeen 70 = .ok (.aload_n 0, 1) := by decide +kernel
theorem dX1_listSeen_71 : decode cX1_listSeen 71 = .ok (.getfield 60, 3) := by decide +kernel
theorem dX1_listSeen_74 : decode cX1_listSeen 74 = .ok (.iadd, 1) := by decide +kernel
theorem dX1_listSeen_75 : decode cX1_listSeen 75 = .ok (.iload_n 3, 1) := by decide +kernel
theorem dX1_listSeen_76 : decode cX1_listSeen 76 = .ok (.iastore, 1) := by decide +kernel
theorem dX1_listSeen_77 : decode cX1_listSeen 77 = .ok (.aload_n 0, 1) := by decide +kernel
theorem dX1_listSeen_78 : decode cX1_listSeen 78 = .ok (.dup, 1) := by decide +kernel
theorem dX1_listSeen_79 : decode cX1_listSeen 79 = .ok (.getfield 60, 3) := by decide +kernel
theorem dX1_listSeen_82 : decode cX1_listSeen 82 = .ok (.iconst 1, 1) := by decide +kernel
theorem dX1_listSeen_83 : decode cX1_listSeen 83 = .ok (.iadd, 1) := by decide +kernel
theorem dX1_listSeen_84 : decode cX1_listSeen 84 = .ok (.putfield 60, 3) := by decide +kernel
theorem dX1_listSeen_87 : decode cX1_listSeen 87 = .ok (.iinc 2 1, 3) := by decide +kernel
theorem dX1_listSeen_90 : decode cX1_listSeen 90 = .ok (.goto (-83), 3) := by decide +kernel
theorem dX1_listSeen_93 : decode cX1_listSeen 93 = .ok (.return_, 1) := by decide +kernel
theorem dX1_lay_0 : decode cX1_lay 0 = .ok (.aload_n 1, 1) := by decide +kernel
theorem dX1_lay_1 : decode cX1_lay 1 = .ok (.invokevirtual 87, 3) := by decide +kernel
theorem dX1_lay_4 : decode cX1_lay 4 = .ok (.aload_n 1, 1) := by decide +kernel
theorem dX1_lay_5 : decode cX1_lay 5 = .ok (.iload_n 2, 1) := by decide +kernel
theorem dX1_lay_6 : decode cX1_lay 6 = .ok (.putfield 79, 3) := by decide +kernel
theorem dX1_lay_9 : decode cX1_lay 9 = .ok (.iload_n 2, 1) := by decide +kernel
theorem dX1_lay_10 : decode cX1_lay 10 = .ok (.bipush 12, 2) := by decide +kernel
theorem dX1_lay_12 : decode cX1_lay 12 = .ok (.imul, 1) := by decide +kernel
theorem dX1_lay_13 : decode cX1_lay 13 = .ok (.istore 5, 2) := by decide +kernel
theorem dX1_lay_15 : decode cX1_lay 15 = .ok (.iload_n 3, 1) := by decide +kernel
theorem dX1_lay_16 : decode cX1_lay 16 = .ok (.istore 6, 2) := by decide +kernel
theorem dX1_lay_18 : decode cX1_lay 18 = .ok (.iload 4, 2) := by decide +kernel
theorem dX1_lay_20 : decode cX1_lay 20 = .ok (.istore 7, 2) := by decide +kernel
theorem dX1_lay_22 : decode cX1_lay 22 = .ok (.iconst 0, 1) := by decide +kernel
theorem dX1_lay_23 : decode cX1_lay 23 = .ok (.istore 8, 2) := by decide +kernel
theorem dX1_lay_25 : decode cX1_lay 25 = .ok (.iload 8, 2) := by decide +kernel
theorem dX1_lay_27 : decode cX1_lay 27 = .ok (.aload_n 0, 1) := by decide +kernel
theorem dX1_lay_28 : decode cX1_lay 28 = .ok (.getfield 60, 3) := by decide +kernel
theorem dX1_lay_31 : decode cX1_lay 31 = .ok (.if_icmp .ge 103, 3) := by decide +kernel
theorem dX1_lay_34 : decode cX1_lay 34 = .ok (.iload 6, 2) := by decide +kernel
theorem dX1_lay_36 : decode cX1_lay 36 = .ok (.ifCond .le 98, 3) := by decide +kernel
theorem dX1_lay_39 : decode cX1_lay 39 = .ok (.aload_n 0, 1) := by decide +kernel
theorem dX1_lay_40 : decode cX1_lay 40 = .ok (.getfield 60, 3) := by decide +kernel
theorem dX1_lay_43 : decode cX1_lay 43 = .ok (.iload 8, 2) := by decide +kernel
theorem dX1_lay_45 : decode cX1_lay 45 = .ok (.isub, 1) := by decide +kernel
theorem dX1_lay_46 : decode cX1_lay 46 = .ok (.bipush 41, 2) := by decide +kernel
theorem dX1_lay_48 : decode cX1_lay 48 = .ok (.imul, 1) := by decide +kernel
theorem dX1_lay_49 : decode cX1_lay 49 = .ok (.istore 9, 2) := by decide +kernel
theorem dX1_lay_51 : decode cX1_lay 51 = .ok (.iconst 0, 1) := by decide +kernel
theorem dX1_lay_52 : decode cX1_lay 52 = .ok (.istore 10, 2) := by decide +kernel
theorem dX1_lay_54 : decode cX1_lay 54 = .ok (.iload 10, 2) := by decide +kernel
theorem dX1_lay_56 : decode cX1_lay 56 = .ok (.iload 6, 2) := by decide +kernel
theorem dX1_lay_58 : decode cX1_lay 58 = .ok (.if_icmp .ge 24, 3) := by decide +kernel
theorem dX1_lay_61 : decode cX1_lay 61 = .ok (.iload 7, 2) := by decide +kernel
theorem dX1_lay_63 : decode cX1_lay 63 = .ok (.aload_n 0, 1) := by decide +kernel
theorem dX1_lay_64 : decode cX1_lay 64 = .ok (.getfield 18, 3) := by decide +kernel
theorem dX1_lay_67 : decode cX1_lay 67 = .ok (.iload 9, 2) := by decide +kernel
theorem dX1_lay_69 : decode cX1_lay 69 = .ok (.iload 10, 2) := by decide +kernel
theorem dX1_lay_71 : decode cX1_lay 71 = .ok (.iadd, 1) := by decide +kernel
theorem dX1_lay_72 : decode cX1_lay 72 = .ok (.iaload, 1) := by decide +kernel
theorem dX1_lay_73 : decode cX1_lay 73 = .ok (.if_icmp .lt 9, 3) := by decide +kernel
theorem dX1_lay_76 : decode cX1_lay 76 = .ok (.iinc 10 1, 3) := by decide +kernel
theorem dX1_lay_79 : decode cX1_lay 79 = .ok (.goto (-25), 3) := by decide +kernel
theorem dX1_lay_82 : decode cX1_lay 82 = .ok (.iload 10, 2) := by decide +kernel
theorem dX1_lay_84 : decode cX1_lay 84 = .ok (.ifCond .le 20, 3) := by decide +kernel
theorem dX1_lay_87 : decode cX1_lay 87 = .ok (.iload 7, 2) := by decide +kernel
theorem dX1_lay_89 : decode cX1_lay 89 = .ok (.aload_n 0, 1) := by decide +kernel
theorem dX1_lay_90 : decode cX1_lay 90 = .ok (.getfield 18, 3) := by decide +kernel
theorem dX1_lay_93 : decode cX1_lay 93 = .ok (.iload 9, 2) := by decide +kernel
theorem dX1_lay_95 : decode cX1_lay 95 = .ok (.iload 10, 2) := by decide +kernel
theorem dX1_lay_97 : decode cX1_lay 97 = .ok (.iadd, 1) := by decide +kernel
theorem dX1_lay_98 : decode cX1_lay 98 = .ok (.iconst 1, 1) := by decide +kernel
theorem dX1_lay_99 : decode cX1_lay 99 = .ok (.isub, 1) := by decide +kernel
theorem dX1_lay_100 : decode cX1_lay 100 = .ok (.iaload, 1) := by decide +kernel
theorem dX1_lay_101 : decode cX1_lay 101 = .ok (.isub, 1) := by decide +kernel
theorem dX1_lay_102 : decode cX1_lay 102 = .ok (.istore 7, 2) := by decide +kernel
theorem dX1_lay_104 : decode cX1_lay 104 = .ok (.aload_n 1, 1) := by decide +kernel
theorem dX1_lay_105 : decode cX1_lay 105 = .ok (.getfield 84, 3) := by decide +kernel
theorem dX1_lay_108 : decode cX1_lay 108 = .ok (.aload_n 0, 1) := by decide +kernel
theorem dX1_lay_109 : decode cX1_lay 109 = .ok (.getfield 15, 3) := by decide +kernel
theorem dX1_lay_112 : decode cX1_lay 112 = .ok (.iload 5, 2) := by decide +kernel
theorem dX1_lay_114 : decode cX1_lay 114 = .ok (.iload 8, 2) := by decide +kernel
theorem dX1_lay_116 : decode cX1_lay 116 = .ok (.iadd, 1) := by decide +kernel
theorem dX1_lay_117 : decode cX1_lay 117 = .ok (.iaload, 1) := by decide +kernel
theorem dX1_lay_118 : decode cX1_lay 118 = .ok (.iload 6, 2) := by decide +kernel
theorem dX1_lay_120 : decode cX1_lay 120 = .ok (.iload 10, 2) := by decide +kernel
theorem dX1_lay_122 : decode cX1_lay 122 = .ok (.isub, 1) := by decide +kernel
theorem dX1_lay_123 : decode cX1_lay 123 = .ok (.iastore, 1) := by decide +kernel
theorem dX1_lay_124 : decode cX1_lay 124 = .ok (.iload 10, 2) := by decide +kernel
theorem dX1_lay_126 : decode cX1_lay 126 = .ok (.istore 6, 2) := by decide +kernel
theorem dX1_lay_128 : decode cX1_lay 128 = .ok (.iinc 8 1, 3) := by decide +kernel
theorem dX1_lay_131 : decode cX1_lay 131 = .ok (.goto (-106), 3) := by decide +kernel
theorem dX1_lay_134 : decode cX1_lay 134 = .ok (.return_, 1) := by decide +kernel
theorem dX3_keep_0 : decode cX3_keep 0 = .ok (.aload_n 0, 1) := by decide +kernel
theorem dX3_keep_1 : decode cX3_keep 1 = .ok (.getfield 22, 3) := by decide +kernel
theorem dX3_keep_4 : decode cX3_keep 4 = .ok (.bipush 40, 2) := by decide +kernel
theorem dX3_keep_6 : decode cX3_keep 6 = .ok (.if_icmp .ne 22, 3) := by decide +kernel
theorem dX3_keep_9 : decode cX3_keep 9 = .ok (.aload_n 0, 1) := by decide +kernel
theorem dX3_keep_10 : decode cX3_keep 10 = .ok (.aload_n 0, 1) := by decide +kernel
theorem dX3_keep_11 : decode cX3_keep 11 = .ok (.iconst 1, 1) := by decide +kernel
theorem dX3_keep_12 : decode cX3_keep 12 = .ok (.invokevirtual 32, 3) := by decide +kernel
theorem dX3_keep_15 : decode cX3_keep 15 = .ok (.putfield 29, 3) := by decide +kernel
theorem dX3_keep_18 : decode cX3_keep 18 = .ok (.aload_n 0, 1) := by decide +kernel
theorem dX3_keep_19 : decode cX3_keep 19 = .ok (.dup, 1) := by decide +kernel
theorem dX3_keep_20 : decode cX3_keep 20 = .ok (.getfield 22, 3) := by decide +kernel
theorem dX3_keep_23 : decode cX3_keep 23 = .ok (.iconst 1, 1) := by decide +kernel
theorem dX3_keep_24 : decode cX3_keep 24 = .ok (.isub, 1) := by decide +kernel
theorem dX3_keep_25 : decode cX3_keep 25 = .ok (.putfield 22, 3) := by decide +kernel
theorem dX3_keep_28 : decode cX3_keep 28 = .ok (.aload_n 0, 1) := by decide +kernel
theorem dX3_keep_29 : decode cX3_keep 29 = .ok (.aload_n 0, 1) := by decide +kernel
theorem dX3_keep_30 : decode cX3_keep 30 = .ok (.getfield 22, 3) := by decide +kernel
theorem dX3_keep_33 : decode cX3_keep 33 = .ok (.invokevirtual 32, 3) := by decide +kernel
theorem dX3_keep_36 : decode cX3_keep 36 = .ok (.istore_n 3, 1) := by decide +kernel
theorem dX3_keep_37 : decode cX3_keep 37 = .ok (.aload_n 0, 1) := by decide +kernel
theorem dX3_keep_38 : decode cX3_keep 38 = .ok (.getfield 9, 3) := by decide +kernel
theorem dX3_keep_41 : decode cX3_keep 41 = .ok (.iload_n 3, 1) := by decide +kernel
theorem dX3_keep_42 : decode cX3_keep 42 = .ok (.iload_n 2, 1) := by decide +kernel
theorem dX3_keep_43 : decode cX3_keep 43 = .ok (.iastore, 1) := by decide +kernel
theorem dX3_keep_44 : decode cX3_keep 44 = .ok (.aload_n 0, 1) := by decide +kernel
theorem dX3_keep_45 : decode cX3_keep 45 = .ok (.getfield 17, 3) := by decide +kernel
theorem dX3_keep_48 : decode cX3_keep 48 = .ok (.iload_n 3, 1) := by decide +kernel
theorem dX3_keep_49 : decode cX3_keep 49 = .ok (.aaload, 1) := by decide +kernel
theorem dX3_keep_50 : decode cX3_keep 50 = .ok (.aload_n 1, 1) := by decide +kernel
theorem dX3_keep_51 : decode cX3_keep 51 = .ok (.invokevirtual 36, 3) := by decide +kernel
theorem dX3_keep_54 : decode cX3_keep 54 = .ok (.aload_n 0, 1) := by decide +kernel
theorem dX3_keep_55 : decode cX3_keep 55 = .ok (.dup, 1) := by decide +kernel
theorem dX3_keep_56 : decode cX3_keep 56 = .ok (.getfield 22, 3) := by decide +kernel
theorem dX3_keep_59 : decode cX3_keep 59 = .ok (.iconst 1, 1) := by decide +kernel
theorem dX3_keep_60 : decode cX3_keep 60 = .ok (.iadd, 1) := by decide +kernel
theorem dX3_keep_61 : decode cX3_keep 61 = .ok (.putfield 22, 3) := by decide +kernel
theorem dX3_keep_64 : decode cX3_keep 64 = .ok (.aload_n 0, 1) := by decide +kernel
theorem dX3_keep_65 : decode cX3_keep 65 = .ok (.iconst 0, 1) := by decide +kernel
theorem dX3_keep_66 : decode cX3_keep 66 = .ok (.putfield 26, 3) := by decide +kernel
theorem dX3_keep_69 : decode cX3_keep 69 = .ok (.return_, 1) := by decide +kernel
theorem dX3_back_0 : decode cX3_back 0 = .ok (.aload_n 0, 1) := by decide +kernel
theorem dX3_back_1 : decode cX3_back 1 = .ok (.dup, 1) := by decide +kernel
theorem dX3_back_2 : decode cX3_back 2 = .ok (.getfield 22, 3) := by decide +kernel
theorem dX3_back_5 : decode cX3_back 5 = .ok (.iconst 1, 1) := by decide +kernel
theorem dX3_back_6 : decode cX3_back 6 = .ok (.isub, 1) := by decide +kernel
theorem dX3_back_7 : decode cX3_back 7 = .ok (.putfield 22, 3) := by decide +kernel
theorem dX3_back_10 : decode cX3_back 10 = .ok (.aload_n 0, 1) := by decide +kernel
theorem dX3_back_11 : decode cX3_back 11 = .ok (.dup, 1) := by decide +kernel
theorem dX3_back_12 : decode cX3_back 12 = .ok (.getfield 26, 3) := by decide +kernel
theorem dX3_back_15 : decode cX3_back 15 = .ok (.iconst 1, 1) := by decide +kernel
theorem dX3_back_16 : decode cX3_back 16 = .ok (.iadd, 1) := by decide +kernel
theorem dX3_back_17 : decode cX3_back 17 = .ok (.putfield 26, 3) := by decide +kernel
theorem dX3_back_20 : decode cX3_back 20 = .ok (.aload_n 1, 1) := by decide +kernel
theorem dX3_back_21 : decode cX3_back 21 = .ok (.aload_n 0, 1) := by decide +kernel
theorem dX3_back_22 : decode cX3_back 22 = .ok (.getfield 17, 3) := by decide +kernel
theorem dX3_back_25 : decode cX3_back 25 = .ok (.aload_n 0, 1) := by decide +kernel
theorem dX3_back_26 : decode cX3_back 26 = .ok (.aload_n 0, 1) := by decide +kernel
theorem dX3_back_27 : decode cX3_back 27 = .ok (.getfield 22, 3) := by decide +kernel
theorem dX3_back_30 : decode cX3_back 30 = .ok (.invokevirtual 32, 3) := by decide +kernel
theorem dX3_back_33 : decode cX3_back 33 = .ok (.aaload, 1) := by decide +kernel
theorem dX3_back_34 : decode cX3_back 34 = .ok (.invokevirtual 36, 3) := by decide +kernel
theorem dX3_back_37 : decode cX3_back 37 = .ok (.return_, 1) := by decide +kernel
theorem dX4_isSound_0 : decode cX4_isSound 0 = .ok (.iconst 0, 1) := by decide +kernel
theorem dX4_isSound_1 : decode cX4_isSound 1 = .ok (.istore_n 1, 1) := by decide +kernel
theorem dX4_isSound_2 : decode cX4_isSound 2 = .ok (.iload_n 1, 1) := by decide +kernel
theorem dX4_isSound_3 : decode cX4_isSound 3 = .ok (.bipush 12, 2) := by decide +kernel
theorem dX4_isSound_5 : decode cX4_isSound 5 = .ok (.if_icmp .ge 34, 3) := by decide +kernel
theorem dX4_isSound_8 : decode cX4_isSound 8 = .ok (.aload_n 0, 1) := by decide +kernel
theorem dX4_isSound_9 : decode cX4_isSound 9 = .ok (.getfield 12, 3) := by decide +kernel
theorem dX4_isSound_12 : decode cX4_isSound 12 = .ok (.iload_n 1, 1) := by decide +kernel
theorem dX4_isSound_13 : decode cX4_isSound 13 = .ok (.invokevirtual 62, 3) := by decide +kernel
theorem dX4_isSound_16 : decode cX4_isSound 16 = .ok (.ifCond .eq 17, 3) := by decide +kernel
theorem dX4_isSound_19 : decode cX4_isSound 19 = .ok (.aload_n 0, 1) := by decide +kernel
theorem dX4_isSound_20 : decode cX4_isSound 20 = .ok (.getfield 21, 3) := by decide +kernel
theorem dX4_isSound_23 : decode cX4_isSound 23 = .ok (.getfield 66, 3) := by decide +kernel
theorem dX4_isSound_26 : decode cX4_isSound 26 = .ok (.iload_n 1, 1) := by decide +kernel
theorem dX4_isSound_27 : decode cX4_isSound 27 = .ok (.iaload, 1) := by decide +kernel
theorem dX4_isSound_28 : decode cX4_isSound 28 = .ok (.ifCond .le 5, 3) := by decide +kernel
theorem dX4_isSound_31 : decode cX4_isSound 31 = .ok (.iconst 0, 1) := by decide +kernel
theorem dX4_isSound_32 : decode cX4_isSound 32 = .ok (.ireturn, 1) := by decide +kernel
theorem dX4_isSound_33 : decode cX4_isSound 33 = .ok (.iinc 1 1, 3) := by decide +kernel
theorem dX4_isSound_36 : decode cX4_isSound 36 = .ok (.goto (-34), 3) := by decide +kernel
theorem dX4_isSound_39 : decode cX4_isSound 39 = .ok (.aload_n 0, 1) := by decide +kernel
theorem dX4_isSound_40 : decode cX4_isSound 40 = .ok (.getfield 21, 3) := by decide +kernel
theorem dX4_isSound_43 : decode cX4_isSound 43 = .ok (.invokevirtual 69, 3) := by decide +kernel
theorem dX4_isSound_46 : decode cX4_isSound 46 = .ok (.bipush 40, 2) := by decide +kernel
theorem dX4_isSound_48 : decode cX4_isSound 48 = .ok (.if_icmp .gt 7, 3) := by decide +kernel
theorem dX4_isSound_51 : decode cX4_isSound 51 = .ok (.iconst 1, 1) := by decide +kernel
theorem dX4_isSound_52 : decode cX4_isSound 52 = .ok (.goto 4, 3) := by decide +kernel
theorem dX4_isSound_55 : decode cX4_isSound 55 = .ok (.iconst 0, 1) := by decide +kernel
theorem dX4_isSound_56 : decode cX4_isSound 56 = .ok (.ireturn, 1) := by decide +kernel
theorem dX4_stepNumber_0 : decode cX4_stepNumber 0 = .ok (.aload_n 0, 1) := by decide +kernel
theorem dX4_stepNumber_1 : decode cX4_stepNumber 1 = .ok (.iconst 2, 1) := by decide +kernel
theorem dX4_stepNumber_2 : decode cX4_stepNumber 2 = .ok (.putfield 52, 3) := by decide +kernel
theorem dX4_stepNumber_5 : decode cX4_stepNumber 5 = .ok (.aload_n 0, 1) := by decide +kernel
theorem dX4_stepNumber_6 : decode cX4_stepNumber 6 = .ok (.iconst 0, 1) := by decide +kernel
theorem dX4_stepNumber_7 : decode cX4_stepNumber 7 = .ok (.putfield 158, 3) := by decide +kernel
theorem dX4_stepNumber_10 : decode cX4_stepNumber 10 = .ok (.aload_n 0, 1) := by decide +kernel
theorem dX4_stepNumber_11 : decode cX4_stepNumber 11 = .ok (.getfield 46, 3) := by decide +kernel
theorem dX4_stepNumber_14 : decode cX4_stepNumber 14 = .ok (.aload_n 0, 1) := by decide +kernel
theorem dX4_stepNumber_15 : decode cX4_stepNumber 15 = .ok (.getfield 43, 3) := by decide +kernel
theorem dX4_stepNumber_18 : decode cX4_stepNumber 18 = .ok (.if_icmp .ge 64, 3) := by decide +kernel
theorem dX4_stepNumber_21 : decode cX4_stepNumber 21 = .ok (.aload_n 0, 1) := by decide +kernel
theorem dX4_stepNumber_22 : decode cX4_stepNumber 22 = .ok (.getfield 46, 3) := by decide +kernel
theorem dX4_stepNumber_25 : decode cX4_stepNumber 25 = .ok (.aload_n 0, 1) := by decide +kernel
theorem dX4_stepNumber_26 : decode cX4_stepNumber 26 = .ok (.getfield 73, 3) := by decide +kernel
theorem dX4_stepNumber_29 : decode cX4_stepNumber 29 = .ok (.isub, 1) := by decide +kernel
theorem dX4_stepNumber_30 : decode cX4_stepNumber 30 = .ok (.iconst 4, 1) := by decide +kernel
theorem dX4_stepNumber_31 : decode cX4_stepNumber 31 = .ok (.if_icmp .ge 51, 3) := by decide +kernel
theorem dX4_stepNumber_34 : decode cX4_stepNumber 34 = .ok (.aload_n 0, 1) := by decide +kernel
theorem dX4_stepNumber_35 : decode cX4_stepNumber 35 = .ok (.aload_n 0, 1) := by decide +kernel
theorem dX4_stepNumber_36 : decode cX4_stepNumber 36 = .ok (.getfield 46, 3) := by decide +kernel
theorem dX4_stepNumber_39 : decode cX4_stepNumber 39 = .ok (.invokevirtual 169, 3) := by decide +kernel
theorem dX4_stepNumber_42 : decode cX4_stepNumber 42 = .ok (.ifCond .eq 40, 3) := by decide +kernel
theorem dX4_stepNumber_45 : decode cX4_stepNumber 45 = .ok (.aload_n 0, 1) := by decide +kernel
theorem dX4_stepNumber_46 : decode cX4_stepNumber 46 = .ok (.bipush 10, 2) := by decide +kernel
theorem dX4_stepNumber_48 : decode cX4_stepNumber 48 = .ok (.aload_n 0, 1) := by decide +kernel
theorem dX4_stepNumber_49 : decode cX4_stepNumber 49 = .ok (.getfield 158, 3) := by decide +kernel
theorem dX4_stepNumber_52 : decode cX4_stepNumber 52 = .ok (.imul, 1) := by decide +kernel
theorem dX4_stepNumber_53 : decode cX4_stepNumber 53 = .ok (.aload_n 0, 1) := by decide +kernel
theorem dX4_stepNumber_54 : decode cX4_stepNumber 54 = .ok (.getfield 29, 3) := by decide +kernel
theorem dX4_stepNumber_57 : decode cX4_stepNumber 57 = .ok (.aload_n 0, 1) := by decide +kernel
theorem dX4_stepNumber_58 : decode cX4_stepNumber 58 = .ok (.getfield 46, 3) := by decide +kernel
theorem dX4_stepNumber_61 : decode cX4_stepNumber 61 = .ok (.iaload, 1) := by decide +kernel
theorem dX4_stepNumber_62 : decode cX4_stepNumber 62 = .ok (.iadd, 1) := by decide +kernel
theorem dX4_stepNumber_63 : decode cX4_stepNumber 63 = .ok (.bipush 48, 2) := by decide +kernel
theorem dX4_stepNumber_65 : decode cX4_stepNumber 65 = .ok (.isub, 1) := by decide +kernel
theorem dX4_stepNumber_66 : decode cX4_stepNumber 66 = .ok (.putfield 158, 3) := by decide +kernel
theorem dX4_stepNumber_69 : decode cX4_stepNumber 69 = .ok (.aload_n 0, 1) := by decide +kernel
theorem dX4_stepNumber_70 : decode cX4_stepNumber 70 = .ok (.dup, 1) := by decide +kernel
theorem dX4_stepNumber_71 : decode cX4_stepNumber 71 = .ok (.getfield 46, 3) := by decide +kernel
theorem dX4_stepNumber_74 : decode cX4_stepNumber 74 = .ok (.iconst 1, 1) := by decide +kernel
theorem dX4_stepNumber_75 : decode cX4_stepNumber 75 = .ok (.iadd, 1) := by decide +kernel
theorem dX4_stepNumber_76 : decode cX4_stepNumber 76 = .ok (.putfield 46, 3) := by decide +kernel
theorem dX4_stepNumber_79 : decode cX4_stepNumber 79 = .ok (.goto (-69), 3) := by decide +kernel
theorem dX4_stepNumber_82 : decode cX4_stepNumber 82 = .ok (.aload_n 0, 1) := by decide +kernel
theorem dX4_stepNumber_83 : decode cX4_stepNumber 83 = .ok (.getfield 46, 3) := by decide +kernel
theorem dX4_stepNumber_86 : decode cX4_stepNumber 86 = .ok (.aload_n 0, 1) := by decide +kernel
theorem dX4_stepNumber_87 : decode cX4_stepNumber 87 = .ok (.getfield 73, 3) := by decide +kernel
theorem dX4_stepNumber_90 : decode cX4_stepNumber 90 = .ok (.isub, 1) := by decide +kernel
theorem dX4_stepNumber_91 : decode cX4_stepNumber 91 = .ok (.iconst 3, 1) := by decide +kernel
theorem dX4_stepNumber_92 : decode cX4_stepNumber 92 = .ok (.if_icmp .le 13, 3) := by decide +kernel
theorem dX4_stepNumber_95 : decode cX4_stepNumber 95 = .ok (.aload_n 0, 1) := by decide +kernel
theorem dX4_stepNumber_96 : decode cX4_stepNumber 96 = .ok (.iconst 4, 1) := by decide +kernel
theorem dX4_stepNumber_97 : decode cX4_stepNumber 97 = .ok (.putfield 52, 3) := by decide +kernel
theorem dX4_stepNumber_100 : decode cX4_stepNumber 100 = .ok (.aload_n 0, 1) := by decide +kernel
theorem dX4_stepNumber_101 : decode cX4_stepNumber 101 = .ok (.iconst 1, 1) := by decide +kernel
theorem dX4_stepNumber_102 : decode cX4_stepNumber 102 = .ok (.invokevirtual 120, 3) := by decide +kernel
theorem dX4_stepNumber_105 : decode cX4_stepNumber 105 = .ok (.return_, 1) := by decide +kernel
theorem dX4_stepWord_0 : decode cX4_stepWord 0 = .ok (.aload_n 0, 1) := by decide +kernel
theorem dX4_stepWord_1 : decode cX4_stepWord 1 = .ok (.iconst 1, 1) := by decide +kernel
theorem dX4_stepWord_2 : decode cX4_stepWord 2 = .ok (.putfield 52, 3) := by decide +kernel
theorem dX4_stepWord_5 : decode cX4_stepWord 5 = .ok (.aload_n 0, 1) := by decide +kernel
theorem dX4_stepWord_6 : decode cX4_stepWord 6 = .ok (.getfield 46, 3) := by decide +kernel
theorem dX4_stepWord_9 : decode cX4_stepWord 9 = .ok (.aload_n 0, 1) := by decide +kernel
theorem dX4_stepWord_10 : decode cX4_stepWord 10 = .ok (.getfield 43, 3) := by decide +kernel
theorem dX4_stepWord_13 : decode cX4_stepWord 13 = .ok (.if_icmp .ge 27, 3) := by decide +kernel
theorem dX4_stepWord_16 : decode cX4_stepWord 16 = .ok (.aload_n 0, 1) := by decide +kernel
theorem dX4_stepWord_17 : decode cX4_stepWord 17 = .ok (.aload_n 0, 1) := by decide +kernel
theorem dX4_stepWord_18 : decode cX4_stepWord 18 = .ok (.getfield 46, 3) := by decide +kernel
theorem dX4_stepWord_21 : decode cX4_stepWord 21 = .ok (.invokevirtual 175, 3) := by decide +kernel
theorem dX4_stepWord_24 : decode cX4_stepWord 24 = .ok (.ifCond .eq 16, 3) := by decide +kernel
theorem dX4_stepWord_27 : decode cX4_stepWord 27 = .ok (.aload_n 0, 1) := by decide +kernel
theorem dX4_stepWord_28 : decode cX4_stepWord 28 = .ok (.dup, 1) := by decide +kernel
theorem dX4_stepWord_29 : decode cX4_stepWord 29 = .ok (.getfield 46, 3) := by decide +kernel
theorem dX4_stepWord_32 : decode cX4_stepWord 32 = .ok (.iconst 1, 1) := by decide +kernel
theorem dX4_stepWord_33 : decode cX4_stepWord 33 = .ok (.iadd, 1) := by decide +kernel
theorem dX4_stepWord_34 : decode cX4_stepWord 34 = .ok (.putfield 46, 3) := by decide +kernel
theorem dX4_stepWord_37 : decode cX4_stepWord 37 = .ok (.goto (-32), 3) := by decide +kernel
theorem dX4_stepWord_40 : decode cX4_stepWord 40 = .ok (.return_, 1) := by decide +kernel
theorem dX7_weighLevel_0 : decode cX7_weighLevel 0 = .ok (.iconst 1, 1) := by decide +kernel
theorem dX7_weighLevel_1 : decode cX7_weighLevel 1 = .ok (.istore_n 2, 1) := by decide +kernel
theorem dX7_weighLevel_2 : decode cX7_weighLevel 2 = .ok (.iconst 1, 1) := by decide +kernel
theorem dX7_weighLevel_3 : decode cX7_weighLevel 3 = .ok (.istore_n 3, 1) := by decide +kernel
theorem dX7_weighLevel_4 : decode cX7_weighLevel 4 = .ok (.iload_n 2, 1) := by decide +kernel
theorem dX7_weighLevel_5 : decode cX7_weighLevel 5 = .ok (.ifCond .eq 74, 3) := by decide +kernel
theorem dX7_weighLevel_8 : decode cX7_weighLevel 8 = .ok (.iload_n 3, 1) := by decide +kernel
theorem dX7_weighLevel_9 : decode cX7_weighLevel 9 = .ok (.sipush 6007, 3) := by decide +kernel
theorem dX7_weighLevel_12 : decode cX7_weighLevel 12 = .ok (.if_icmp .gt 67, 3) := by decide +kernel
theorem dX7_weighLevel_15 : decode cX7_weighLevel 15 = .ok (.iconst 0, 1) := by decide +kernel
theorem dX7_weighLevel_16 : decode cX7_weighLevel 16 = .ok (.istore_n 2, 1) := by decide +kernel
theorem dX7_weighLevel_17 : decode cX7_weighLevel 17 = .ok (.iconst 0, 1) := by decide +kernel
theorem dX7_weighLevel_18 : decode cX7_weighLevel 18 = .ok (.istore 4, 2) := by decide +kernel
theorem dX7_weighLevel_20 : decode cX7_weighLevel 20 = .ok (.iload 4, 2) := by decide +kernel
theorem dX7_weighLevel_22 : decode cX7_weighLevel 22 = .ok (.aload_n 0, 1) := by decide +kernel
theorem dX7_weighLevel_23 : decode cX7_weighLevel 23 = .ok (.iconst 1, 1) := by decide +kernel
theorem dX7_weighLevel_24 : decode cX7_weighLevel 24 = .ok (.invokevirtual 72, 3) := by decide +kernel
theorem dX7_weighLevel_27 : decode cX7_weighLevel 27 = .ok (.if_icmp .gt 16, 3) := by decide +kernel
theorem dX7_weighLevel_30 : decode cX7_weighLevel 30 = .ok (.aload_n 0, 1) := by decide +kernel
theorem dX7_weighLevel_31 : decode cX7_weighLevel 31 = .ok (.iload 4, 2) := by decide +kernel
theorem dX7_weighLevel_33 : decode cX7_weighLevel 33 = .ok (.iload_n 1, 1) := by decide +kernel
theorem dX7_weighLevel_34 : decode cX7_weighLevel 34 = .ok (.invokevirtual 98, 3) := by decide +kernel
theorem dX7_weighLevel_37 : decode cX7_weighLevel 37 = .ok (.iinc 4 1, 3) := by decide +kernel
theorem dX7_weighLevel_40 : decode cX7_weighLevel 40 = .ok (.goto (-20), 3) := by decide +kernel
theorem dX7_weighLevel_43 : decode cX7_weighLevel 43 = .ok (.iconst 0, 1) := by decide +kernel
theorem dX7_weighLevel_44 : decode cX7_weighLevel 44 = .ok (.istore 4, 2) := by decide +kernel
theorem dX7_weighLevel_46 : decode cX7_weighLevel 46 = .ok (.iload 4, 2) := by decide +kernel
theorem dX7_weighLevel_48 : decode cX7_weighLevel 48 = .ok (.aload_n 0, 1) := by decide +kernel
theorem dX7_weighLevel_49 : decode cX7_weighLevel 49 = .ok (.iconst 1, 1) := by decide +kernel
theorem dX7_weighLevel_50 : decode cX7_weighLevel 50 = .ok (.invokevirtual 72, 3) := by decide +kernel
theorem dX7_weighLevel_53 : decode cX7_weighLevel 53 = .ok (.if_icmp .gt 20, 3) := by decide +kernel
theorem dX7_weighLevel_56 : decode cX7_weighLevel 56 = .ok (.iload_n 2, 1) := by decide +kernel
theorem dX7_weighLevel_57 : decode cX7_weighLevel 57 = .ok (.aload_n 0, 1) := by decide +kernel
theorem dX7_weighLevel_58 : decode cX7_weighLevel 58 = .ok (.iload 4, 2) := by decide +kernel
theorem dX7_weighLevel_60 : decode cX7_weighLevel 60 = .ok (.iload_n 1, 1) := by decide +kernel
theorem dX7_weighLevel_61 : decode cX7_weighLevel 61 = .ok (.iload_n 3, 1) := by decide +kernel
theorem dX7_weighLevel_62 : decode cX7_weighLevel 62 = .ok (.invokevirtual 102, 3) := by decide +kernel
theorem dX7_weighLevel_65 : decode cX7_weighLevel 65 = .ok (.ior, 1) := by decide +kernel
theorem dX7_weighLevel_66 : decode cX7_weighLevel 66 = .ok (.istore_n 2, 1) := by decide +kernel
theorem dX7_weighLevel_67 : decode cX7_weighLevel 67 = .ok (.iinc 4 1, 3) := by decide +kernel
theorem dX7_weighLevel_70 : decode cX7_weighLevel 70 = .ok (.goto (-24), 3) := by decide +kernel
theorem dX7_weighLevel_73 : decode cX7_weighLevel 73 = .ok (.iinc 3 1, 3) := by decide +kernel
theorem dX7_weighLevel_76 : decode cX7_weighLevel 76 = .ok (.goto (-72), 3) := by decide +kernel
theorem dX7_weighLevel_79 : decode cX7_weighLevel 79 = .ok (.return_, 1) := by decide +kernel
theorem dX7_readMove_0 : decode cX7_readMove 0 = .ok (.aload_n 0, 1) := by decide +kernel
theorem dX7_readMove_1 : decode cX7_readMove 1 = .ok (.getfield 50, 3) := by decide +kernel
theorem dX7_readMove_4 : decode cX7_readMove 4 = .ok (.getfield 130, 3) := by decide +kernel
theorem dX7_readMove_7 : decode cX7_readMove 7 = .ok (.iload_n 3, 1) := by decide +kernel
theorem dX7_readMove_8 : decode cX7_readMove 8 = .ok (.iaload, 1) := by decide +kernel
theorem dX7_readMove_9 : decode cX7_readMove 9 = .ok (.istore 4, 2) := by decide +kernel
theorem dX7_readMove_11 : decode cX7_readMove 11 = .ok (.aload_n 0, 1) := by decide +kernel
theorem dX7_readMove_12 : decode cX7_readMove 12 = .ok (.aload_n 0, 1) := by decide +kernel
theorem dX7_readMove_13 : decode cX7_readMove 13 = .ok (.getfield 50, 3) := by decide +kernel
theorem dX7_readMove_16 : decode cX7_readMove 16 = .ok (.getfield 133, 3) := by decide +kernel
theorem dX7_readMove_19 : decode cX7_readMove 19 = .ok (.iload_n 3, 1) := by decide +kernel
theorem dX7_readMove_20 : decode cX7_readMove 20 = .ok (.aaload, 1) := by decide +kernel
theorem dX7_readMove_21 : decode cX7_readMove 21 = .ok (.iload_n 2, 1) := by decide +kernel
theorem dX7_readMove_22 : decode cX7_readMove 22 = .ok (.iload 4, 2) := by decide +kernel
theorem dX7_readMove_24 : decode cX7_readMove 24 = .ok (.isub, 1) := by decide +kernel
theorem dX7_readMove_25 : decode cX7_readMove 25 = .ok (.invokevirtual 137, 3) := by decide +kernel
theorem dX7_readMove_28 : decode cX7_readMove 28 = .ok (.istore 5, 2) := by decide +kernel
theorem dX7_readMove_30 : decode cX7_readMove 30 = .ok (.iload 4, 2) := by decide +kernel
theorem dX7_readMove_32 : decode cX7_readMove 32 = .ok (.ifCond .le 68, 3) := by decide +kernel
theorem dX7_readMove_35 : decode cX7_readMove 35 = .ok (.aload_n 0, 1) := by decide +kernel
theorem dX7_readMove_36 : decode cX7_readMove 36 = .ok (.getfield 50, 3) := by decide +kernel
theorem dX7_readMove_39 : decode cX7_readMove 39 = .ok (.getfield 133, 3) := by decide +kernel
theorem dX7_readMove_42 : decode cX7_readMove 42 = .ok (.iload_n 3, 1) := by decide +kernel
theorem dX7_readMove_43 : decode cX7_readMove 43 = .ok (.aaload, 1) := by decide +kernel
theorem dX7_readMove_44 : decode cX7_readMove 44 = .ok (.getfield 87, 3) := by decide +kernel
theorem dX7_readMove_47 : decode cX7_readMove 47 = .ok (.aload_n 0, 1) := by decide +kernel
theorem dX7_readMove_48 : decode cX7_readMove 48 = .ok (.getfield 21, 3) := by decide +kernel
theorem dX7_readMove_51 : decode cX7_readMove 51 = .ok (.getfield 87, 3) := by decide +kernel
theorem dX7_readMove_54 : decode cX7_readMove 54 = .ok (.if_icmp .ne 13, 3) := by decide +kernel
theorem dX7_readMove_57 : decode cX7_readMove 57 = .ok (.aload_n 0, 1) := by decide +kernel
theorem dX7_readMove_58 : decode cX7_readMove 58 = .ok (.getfield 9, 3) := by decide +kernel
theorem dX7_readMove_61 : decode cX7_readMove 61 = .ok (.iload 5, 2) := by decide +kernel
theorem dX7_readMove_63 : decode cX7_readMove 63 = .ok (.iaload, 1) := by decide +kernel
theorem dX7_readMove_64 : decode cX7_readMove 64 = .ok (.goto 11, 3) := by decide +kernel
theorem dX7_readMove_67 : decode cX7_readMove 67 = .ok (.aload_n 0, 1) := by decide +kernel
theorem dX7_readMove_68 : decode cX7_readMove 68 = .ok (.getfield 9, 3) := by decide +kernel
theorem dX7_readMove_71 : decode cX7_readMove 71 = .ok (.iload 5, 2) := by decide +kernel
theorem dX7_readMove_73 : decode cX7_readMove 73 = .ok (.iaload, 1) := by decide +kernel
theorem dX7_readMove_74 : decode cX7_readMove 74 = .ok (.ineg, 1) := by decide +kernel
theorem dX7_readMove_75 : decode cX7_readMove 75 = .ok (.istore 6, 2) := by decide +kernel
theorem dX7_readMove_77 : decode cX7_readMove 77 = .ok (.aload_n 0, 1) := by decide +kernel
theorem dX7_readMove_78 : decode cX7_readMove 78 = .ok (.getfield 29, 3) := by decide +kernel
theorem dX7_readMove_81 : decode cX7_readMove 81 = .ok (.iload_n 1, 1) := by decide +kernel
theorem dX7_readMove_82 : decode cX7_readMove 82 = .ok (.aload_n 0, 1) := by decide +kernel
theorem dX7_readMove_83 : decode cX7_readMove 83 = .ok (.getfield 29, 3) := by decide +kernel
theorem dX7_readMove_86 : decode cX7_readMove 86 = .ok (.iload_n 1, 1) := by decide +kernel
theorem dX7_readMove_87 : decode cX7_readMove 87 = .ok (.iaload, 1) := by decide +kernel
theorem dX7_readMove_88 : decode cX7_readMove 88 = .ok (.iload 4, 2) := by decide +kernel
theorem dX7_readMove_90 : decode cX7_readMove 90 = .ok (.iload 6, 2) := by decide +kernel
theorem dX7_readMove_92 : decode cX7_readMove 92 = .ok (.iadd, 1) := by decide +kernel
theorem dX7_readMove_93 : decode cX7_readMove 93 = .ok (.invokestatic 140, 3) := by decide +kernel
theorem dX7_readMove_96 : decode cX7_readMove 96 = .ok (.iastore, 1) := by decide +kernel
theorem dX7_readMove_97 : decode cX7_readMove 97 = .ok (.goto 31, 3) := by decide +kernel
theorem dX7_readMove_100 : decode cX7_readMove 100 = .ok (.aload_n 0, 1) := by decide +kernel
theorem dX7_readMove_101 : decode cX7_readMove 101 = .ok (.getfield 39, 3) := by decide +kernel
theorem dX7_readMove_104 : decode cX7_readMove 104 = .ok (.iload_n 1, 1) := by decide +kernel
theorem dX7_readMove_105 : decode cX7_readMove 105 = .ok (.bipush 6, 2) := by decide +kernel
theorem dX7_readMove_107 : decode cX7_readMove 107 = .ok (.imul, 1) := by decide +kernel
theorem dX7_readMove_108 : decode cX7_readMove 108 = .ok (.aload_n 0, 1) := by decide +kernel
theorem dX7_readMove_109 : decode cX7_readMove 109 = .ok (.getfield 35, 3) := by decide +kernel
theorem dX7_readMove_112 : decode cX7_readMove 112 = .ok (.iload_n 1, 1) := by decide +kernel
theorem dX7_readMove_113 : decode cX7_readMove 113 = .ok (.iaload, 1) := by decide +kernel
theorem dX7_readMove_114 : decode cX7_readMove 114 = .ok (.iadd, 1) := by decide +kernel
theorem dX7_readMove_115 : decode cX7_readMove 115 = .ok (.iload 5, 2) := by decide +kernel
theorem dX7_readMove_117 : decode cX7_readMove 117 = .ok (.iastore, 1) := by decide +kernel
theorem dX7_readMove_118 : decode cX7_readMove 118 = .ok (.aload_n 0, 1) := by decide +kernel
theorem dX7_readMove_119 : decode cX7_readMove 119 = .ok (.getfield 35, 3) := by decide +kernel
theorem dX7_readMove_122 : decode cX7_readMove 122 = .ok (.iload_n 1, 1) := by decide +kernel
theorem dX7_readMove_123 : decode cX7_readMove 123 = .ok (.dup2, 1) := by decide +kernel
theorem dX7_readMove_124 : decode cX7_readMove 124 = .ok (.iaload, 1) := by decide +kernel
theorem dX7_readMove_125 : decode cX7_readMove 125 = .ok (.iconst 1, 1) := by decide +kernel
theorem dX7_readMove_126 : decode cX7_readMove 126 = .ok (.iadd, 1) := by decide +kernel
theorem dX7_readMove_127 : decode cX7_readMove 127 = .ok (.iastore, 1) := by decide +kernel
theorem dX7_readMove_128 : decode cX7_readMove 128 = .ok (.return_, 1) := by decide +kernel
theorem dX7_rankOf_0 : decode cX7_rankOf 0 = .ok (.iconst 0, 1) := by decide +kernel
theorem dX7_rankOf_1 : decode cX7_rankOf 1 = .ok (.aload_n 0, 1) := by decide +kernel
theorem dX7_rankOf_2 : decode cX7_rankOf 2 = .ok (.getfield 15, 3) := by decide +kernel
theorem dX7_rankOf_5 : decode cX7_rankOf 5 = .ok (.iload_n 1, 1) := by decide +kernel
theorem dX7_rankOf_6 : decode cX7_rankOf 6 = .ok (.iaload, 1) := by decide +kernel
theorem dX7_rankOf_7 : decode cX7_rankOf 7 = .ok (.invokestatic 140, 3) := by decide +kernel
theorem dX7_rankOf_10 : decode cX7_rankOf 10 = .ok (.ireturn, 1) := by decide +kernel
theorem dX7_measure_0 : decode cX7_measure 0 = .ok (.iload_n 2, 1) := by decide +kernel
theorem dX7_measure_1 : decode cX7_measure 1 = .ok (.lookupswitch 42 #[(0, 27), (1, 34)], 27) := by decide +kernel
theorem dX7_measure_28 : decode cX7_measure 28 = .ok (.aload_n 0, 1) := by decide +kernel
theorem dX7_measure_29 : decode cX7_measure 29 = .ok (.getfield 9, 3) := by decide +kernel
theorem dX7_measure_32 : decode cX7_measure 32 = .ok (.iload_n 1, 1) := by decide +kernel
theorem dX7_measure_33 : decode cX7_measure 33 = .ok (.iaload, 1) := by decide +kernel
theorem dX7_measure_34 : decode cX7_measure 34 = .ok (.ireturn, 1) := by decide +kernel
theorem dX7_measure_35 : decode cX7_measure 35 = .ok (.aload_n 0, 1) := by decide +kernel
theorem dX7_measure_36 : decode cX7_measure 36 = .ok (.getfield 9, 3) := by decide +kernel
theorem dX7_measure_39 : decode cX7_measure 39 = .ok (.iload_n 1, 1) := by decide +kernel
theorem dX7_measure_40 : decode cX7_measure 40 = .ok (.iaload, 1) := by decide +kernel
theorem dX7_measure_41 : decode cX7_measure 41 = .ok (.ineg, 1) := by decide +kernel
theorem dX7_measure_42 : decode cX7_measure 42 = .ok (.ireturn, 1) := by decide +kernel
theorem dX7_measure_43 : decode cX7_measure 43 = .ok (.aload_n 0, 1) := by decide +kernel
theorem dX7_measure_44 : decode cX7_measure 44 = .ok (.iload_n 1, 1) := by decide +kernel
theorem dX7_measure_45 : decode cX7_measure 45 = .ok (.invokevirtual 148, 3) := by decide +kernel
theorem dX7_measure_48 : decode cX7_measure 48 = .ok (.ireturn, 1) := by decide +kernel
theorem dX7_worthOfTried_0 : decode cX7_worthOfTried 0 = .ok (.aload_n 0, 1) := by decide +kernel
theorem dX7_worthOfTried_1 : decode cX7_worthOfTried 1 = .ok (.getfield 50, 3) := by decide +kernel
theorem dX7_worthOfTried_4 : decode cX7_worthOfTried 4 = .ok (.getfield 133, 3) := by decide +kernel
theorem dX7_worthOfTried_7 : decode cX7_worthOfTried 7 = .ok (.iload_n 2, 1) := by decide +kernel
theorem dX7_worthOfTried_8 : decode cX7_worthOfTried 8 = .ok (.aaload, 1) := by decide +kernel
theorem dX7_worthOfTried_9 : decode cX7_worthOfTried 9 = .ok (.astore_n 3, 1) := by decide +kernel
theorem dX7_worthOfTried_10 : decode cX7_worthOfTried 10 = .ok (.aload_n 0, 1) := by decide +kernel
theorem dX7_worthOfTried_11 : decode cX7_worthOfTried 11 = .ok (.aload_n 3, 1) := by decide +kernel
theorem dX7_worthOfTried_12 : decode cX7_worthOfTried 12 = .ok (.aload_n 3, 1) := by decide +kernel
theorem dX7_worthOfTried_13 : decode cX7_worthOfTried 13 = .ok (.invokevirtual 145, 3) := by decide +kernel
theorem dX7_worthOfTried_16 : decode cX7_worthOfTried 16 = .ok (.invokevirtual 137, 3) := by decide +kernel
theorem dX7_worthOfTried_19 : decode cX7_worthOfTried 19 = .ok (.istore 4, 2) := by decide +kernel
theorem dX7_worthOfTried_21 : decode cX7_worthOfTried 21 = .ok (.aload_n 0, 1) := by decide +kernel
theorem dX7_worthOfTried_22 : decode cX7_worthOfTried 22 = .ok (.aload_n 0, 1) := by decide +kernel
theorem dX7_worthOfTried_23 : decode cX7_worthOfTried 23 = .ok (.getfield 50, 3) := by decide +kernel
theorem dX7_worthOfTried_26 : decode cX7_worthOfTried 26 = .ok (.getfield 130, 3) := by decide +kernel
theorem dX7_worthOfTried_29 : decode cX7_worthOfTried 29 = .ok (.iload_n 2, 1) := by decide +kernel
theorem dX7_worthOfTried_30 : decode cX7_worthOfTried 30 = .ok (.iaload, 1) := by decide +kernel
theorem dX7_worthOfTried_31 : decode cX7_worthOfTried 31 = .ok (.ifCond .le 7, 3) := by decide +kernel
theorem dX7_worthOfTried_34 : decode cX7_worthOfTried 34 = .ok (.iconst 0, 1) := by decide +kernel
theorem dX7_worthOfTried_35 : decode cX7_worthOfTried 35 = .ok (.goto 9, 3) := by decide +kernel
theorem dX7_worthOfTried_38 : decode cX7_worthOfTried 38 = .ok (.aload_n 0, 1) := by decide +kernel
theorem dX7_worthOfTried_39 : decode cX7_worthOfTried 39 = .ok (.iload 4, 2) := by decide +kernel
theorem dX7_worthOfTried_41 : decode cX7_worthOfTried 41 = .ok (.invokevirtual 148, 3) := by decide +kernel
theorem dX7_worthOfTried_44 : decode cX7_worthOfTried 44 = .ok (.putfield 151, 3) := by decide +kernel
theorem dX7_worthOfTried_47 : decode cX7_worthOfTried 47 = .ok (.aload_n 0, 1) := by decide +kernel
theorem dX7_worthOfTried_48 : decode cX7_worthOfTried 48 = .ok (.getfield 50, 3) := by decide +kernel
theorem dX7_worthOfTried_51 : decode cX7_worthOfTried 51 = .ok (.getfield 130, 3) := by decide +kernel
theorem dX7_worthOfTried_54 : decode cX7_worthOfTried 54 = .ok (.iload_n 2, 1) := by decide +kernel
theorem dX7_worthOfTried_55 : decode cX7_worthOfTried 55 = .ok (.iaload, 1) := by decide +kernel
theorem dX7_worthOfTried_56 : decode cX7_worthOfTried 56 = .ok (.aload_n 3, 1) := by decide +kernel
theorem dX7_worthOfTried_57 : decode cX7_worthOfTried 57 = .ok (.getfield 87, 3) := by decide +kernel
theorem dX7_worthOfTried_60 : decode cX7_worthOfTried 60 = .ok (.aload_n 1, 1) := by decide +kernel
theorem dX7_worthOfTried_61 : decode cX7_worthOfTried 61 = .ok (.getfield 87, 3) := by decide +kernel
theorem dX7_worthOfTried_64 : decode cX7_worthOfTried 64 = .ok (.if_icmp .ne 13, 3) := by decide +kernel
theorem dX7_worthOfTried_67 : decode cX7_worthOfTried 67 = .ok (.aload_n 0, 1) := by decide +kernel
theorem dX7_worthOfTried_68 : decode cX7_worthOfTried 68 = .ok (.getfield 9, 3) := by decide +kernel
theorem dX7_worthOfTried_71 : decode cX7_worthOfTried 71 = .ok (.iload 4, 2) := by decide +kernel
theorem dX7_worthOfTried_73 : decode cX7_worthOfTried 73 = .ok (.iaload, 1) := by decide +kernel
theorem dX7_worthOfTried_74 : decode cX7_worthOfTried 74 = .ok (.goto 11, 3) := by decide +kernel
theorem dX7_worthOfTried_77 : decode cX7_worthOfTried 77 = .ok (.aload_n 0, 1) := by decide +kernel
theorem dX7_worthOfTried_78 : decode cX7_worthOfTried 78 = .ok (.getfield 9, 3) := by decide +kernel
theorem dX7_worthOfTried_81 : decode cX7_worthOfTried 81 = .ok (.iload 4, 2) := by decide +kernel
theorem dX7_worthOfTried_83 : decode cX7_worthOfTried 83 = .ok (.iaload, 1) := by decide +kernel
theorem dX7_worthOfTried_84 : decode cX7_worthOfTried 84 = .ok (.ineg, 1) := by decide +kernel
theorem dX7_worthOfTried_85 : decode cX7_worthOfTried 85 = .ok (.iadd, 1) := by decide +kernel
theorem dX7_worthOfTried_86 : decode cX7_worthOfTried 86 = .ok (.ireturn, 1) := by decide +kernel
theorem dX8_sow_0 : decode cX8_sow 0 = .ok (.iload_n 2, 1) := by decide +kernel
theorem dX8_sow_1 : decode cX8_sow 1 = .ok (.istore_n 3, 1) := by decide +kernel
theorem dX8_sow_2 : decode cX8_sow 2 = .ok (.aload_n 1, 1) := by decide +kernel
theorem dX8_sow_3 : decode cX8_sow 3 = .ok (.getfield 43, 3) := by decide +kernel
theorem dX8_sow_6 : decode cX8_sow 6 = .ok (.bipush 12, 2) := by decide +kernel
theorem dX8_sow_8 : decode cX8_sow 8 = .ok (.aload_n 1, 1) := by decide +kernel
theorem dX8_sow_9 : decode cX8_sow 9 = .ok (.getfield 30, 3) := by decide +kernel
theorem dX8_sow_12 : decode cX8_sow 12 = .ok (.iadd, 1) := by decide +kernel
theorem dX8_sow_13 : decode cX8_sow 13 = .ok (.iaload, 1) := by decide +kernel
theorem dX8_sow_14 : decode cX8_sow 14 = .ok (.istore 4, 2) := by decide +kernel
theorem dX8_sow_16 : decode cX8_sow 16 = .ok (.iconst 0, 1) := by decide +kernel
theorem dX8_sow_17 : decode cX8_sow 17 = .ok (.istore 5, 2) := by decide +kernel
theorem dX8_sow_19 : decode cX8_sow 19 = .ok (.iload 5, 2) := by decide +kernel
theorem dX8_sow_21 : decode cX8_sow 21 = .ok (.aload_n 0, 1) := by decide +kernel
theorem dX8_sow_22 : decode cX8_sow 22 = .ok (.getfield 21, 3) := by decide +kernel
theorem dX8_sow_25 : decode cX8_sow 25 = .ok (.getfield 46, 3) := by decide +kernel
theorem dX8_sow_28 : decode cX8_sow 28 = .ok (.if_icmp .gt 195, 3) := by decide +kernel
theorem dX8_sow_31 : decode cX8_sow 31 = .ok (.aload_n 0, 1) := by decide +kernel
theorem dX8_sow_32 : decode cX8_sow 32 = .ok (.getfield 21, 3) := by decide +kernel
theorem dX8_sow_35 : decode cX8_sow 35 = .ok (.getfield 49, 3) := by decide +kernel
theorem dX8_sow_38 : decode cX8_sow 38 = .ok (.ifCond .eq 26, 3) := by decide +kernel
theorem dX8_sow_41 : decode cX8_sow 41 = .ok (.aload_n 0, 1) := by decide +kernel
theorem dX8_sow_42 : decode cX8_sow 42 = .ok (.getfield 25, 3) := by decide +kernel
theorem dX8_sow_45 : decode cX8_sow 45 = .ok (.getfield 53, 3) := by decide +kernel
theorem dX8_sow_48 : decode cX8_sow 48 = .ok (.aload_n 1, 1) := by decide +kernel
theorem dX8_sow_49 : decode cX8_sow 49 = .ok (.getfield 30, 3) := by decide +kernel
theorem dX8_sow_52 : decode cX8_sow 52 = .ok (.bipush 14, 2) := by decide +kernel
theorem dX8_sow_54 : decode cX8_sow 54 = .ok (.imul, 1) := by decide +kernel
theorem dX8_sow_55 : decode cX8_sow 55 = .ok (.iload_n 3, 1) := by decide +kernel
theorem dX8_sow_56 : decode cX8_sow 56 = .ok (.iadd, 1) := by decide +kernel
theorem dX8_sow_57 : decode cX8_sow 57 = .ok (.iaload, 1) := by decide +kernel
theorem dX8_sow_58 : decode cX8_sow 58 = .ok (.iload_n 3, 1) := by decide +kernel
theorem dX8_sow_59 : decode cX8_sow 59 = .ok (.if_icmp .ne 5, 3) := by decide +kernel
theorem dX8_sow_62 : decode cX8_sow 62 = .ok (.iconst 0, 1) := by decide +kernel
theorem dX8_sow_63 : decode cX8_sow 63 = .ok (.ireturn, 1) := by decide +kernel
theorem dX8_sow_64 : decode cX8_sow 64 = .ok (.aload_n 0, 1) := by decide +kernel
theorem dX8_sow_65 : decode cX8_sow 65 = .ok (.aload_n 0, 1) := by decide +kernel
theorem dX8_sow_66 : decode cX8_sow 66 = .ok (.aload_n 1, 1) := by decide +kernel
theorem dX8_sow_67 : decode cX8_sow 67 = .ok (.iload_n 3, 1) := by decide +kernel
theorem dX8_sow_68 : decode cX8_sow 68 = .ok (.invokevirtual 58, 3) := by decide +kernel
theorem dX8_sow_71 : decode cX8_sow 71 = .ok (.putfield 62, 3) := by decide +kernel
theorem dX8_sow_74 : decode cX8_sow 74 = .ok (.aload_n 0, 1) := by decide +kernel
theorem dX8_sow_75 : decode cX8_sow 75 = .ok (.getfield 21, 3) := by decide +kernel
theorem dX8_sow_78 : decode cX8_sow 78 = .ok (.getfield 46, 3) := by decide +kernel
theorem dX8_sow_81 : decode cX8_sow 81 = .ok (.ifCond .eq 25, 3) := by decide +kernel
theorem dX8_sow_84 : decode cX8_sow 84 = .ok (.aload_n 0, 1) := by decide +kernel
theorem dX8_sow_85 : decode cX8_sow 85 = .ok (.getfield 62, 3) := by decide +kernel
theorem dX8_sow_88 : decode cX8_sow 88 = .ok (.bipush 12, 2) := by decide +kernel
theorem dX8_sow_90 : decode cX8_sow 90 = .ok (.if_icmp .ge 16, 3) := by decide +kernel
theorem dX8_sow_93 : decode cX8_sow 93 = .ok (.aload_n 1, 1) := by decide +kernel
theorem dX8_sow_94 : decode cX8_sow 94 = .ok (.getfield 43, 3) := by decide +kernel
theorem dX8_sow_97 : decode cX8_sow 97 = .ok (.aload_n 0, 1) := by decide +kernel
theorem dX8_sow_98 : decode cX8_sow 98 = .ok (.getfield 62, 3) := by decide +kernel
theorem dX8_sow_101 : decode cX8_sow 101 = .ok (.iaload, 1) := by decide +kernel
theorem dX8_sow_102 : decode cX8_sow 102 = .ok (.iconst 1, 1) := by decide +kernel
theorem dX8_sow_103 : decode cX8_sow 103 = .ok (.if_icmp .ne 109, 3) := by decide +kernel
theorem dX8_sow_106 : decode cX8_sow 106 = .ok (.aload_n 0, 1) := by decide +kernel
theorem dX8_sow_107 : decode cX8_sow 107 = .ok (.iload 5, 2) := by decide +kernel
theorem dX8_sow_109 : decode cX8_sow 109 = .ok (.putfield 65, 3) := by decide +kernel
theorem dX8_sow_112 : decode cX8_sow 112 = .ok (.aload_n 0, 1) := by decide +kernel
theorem dX8_sow_113 : decode cX8_sow 113 = .ok (.aload_n 0, 1) := by decide +kernel
theorem dX8_sow_114 : decode cX8_sow 114 = .ok (.getfield 62, 3) := by decide +kernel
theorem dX8_sow_117 : decode cX8_sow 117 = .ok (.bipush 12, 2) := by decide +kernel
theorem dX8_sow_119 : decode cX8_sow 119 = .ok (.if_icmp .lt 7, 3) := by decide +kernel
theorem dX8_sow_122 : decode cX8_sow 122 = .ok (.iconst 0, 1) := by decide +kernel
theorem dX8_sow_123 : decode cX8_sow 123 = .ok (.goto 29, 3) := by decide +kernel
theorem dX8_sow_126 : decode cX8_sow 126 = .ok (.aload_n 0, 1) := by decide +kernel
theorem dX8_sow_127 : decode cX8_sow 127 = .ok (.aload_n 1, 1) := by decide +kernel
theorem dX8_sow_128 : decode cX8_sow 128 = .ok (.aload_n 0, 1) := by decide +kernel
theorem dX8_sow_129 : decode cX8_sow 129 = .ok (.getfield 62, 3) := by decide +kernel
theorem dX8_sow_132 : decode cX8_sow 132 = .ok (.i2l, 1) := by decide +kernel
theorem dX8_sow_133 : decode cX8_sow 133 = .ok (.invokevirtual 68, 3) := by decide +kernel
theorem dX8_sow_136 : decode cX8_sow 136 = .ok (.ifCond .eq 11, 3) := by decide +kernel
theorem dX8_sow_139 : decode cX8_sow 139 = .ok (.aload_n 0, 1) := by decide +kernel
theorem dX8_sow_140 : decode cX8_sow 140 = .ok (.aload_n 1, 1) := by decide +kernel
theorem dX8_sow_141 : decode cX8_sow 141 = .ok (.invokevirtual 72, 3) := by decide +kernel
theorem dX8_sow_144 : decode cX8_sow 144 = .ok (.goto 8, 3) := by decide +kernel
theorem dX8_sow_147 : decode cX8_sow 147 = .ok (.aload_n 0, 1) := by decide +kernel
theorem dX8_sow_148 : decode cX8_sow 148 = .ok (.aload_n 1, 1) := by decide +kernel
theorem dX8_sow_149 : decode cX8_sow 149 = .ok (.invokevirtual 76, 3) := by decide +kernel
theorem dX8_sow_152 : decode cX8_sow 152 = .ok (.putfield 79, 3) := by decide +kernel
theorem dX8_sow_155 : decode cX8_sow 155 = .ok (.aload_n 0, 1) := by decide +kernel
theorem dX8_sow_156 : decode cX8_sow 156 = .ok (.aload_n 1, 1) := by decide +kernel
theorem dX8_sow_157 : decode cX8_sow 157 = .ok (.getfield 43, 3) := by decide +kernel
theorem dX8_sow_160 : decode cX8_sow 160 = .ok (.bipush 12, 2) := by decide +kernel
theorem dX8_sow_162 : decode cX8_sow 162 = .ok (.aload_n 1, 1) := by decide +kernel
theorem dX8_sow_163 : decode cX8_sow 163 = .ok (.getfield 30, 3) := by decide +kernel
theorem dX8_sow_166 : decode cX8_sow 166 = .ok (.iadd, 1) := by decide +kernel
theorem dX8_sow_167 : decode cX8_sow 167 = .ok (.iaload, 1) := by decide +kernel
theorem dX8_sow_168 : decode cX8_sow 168 = .ok (.iload 4, 2) := by decide +kernel
theorem dX8_sow_170 : decode cX8_sow 170 = .ok (.isub, 1) := by decide +kernel
theorem dX8_sow_171 : decode cX8_sow 171 = .ok (.putfield 82, 3) := by decide +kernel
theorem dX8_sow_174 : decode cX8_sow 174 = .ok (.aload_n 1, 1) := by decide +kernel
theorem dX8_sow_175 : decode cX8_sow 175 = .ok (.aload_n 0, 1) := by decide +kernel
theorem dX8_sow_176 : decode cX8_sow 176 = .ok (.getfield 21, 3) := by decide +kernel
theorem dX8_sow_179 : decode cX8_sow 179 = .ok (.getfield 85, 3) := by decide +kernel
theorem dX8_sow_182 : decode cX8_sow 182 = .ok (.ifCond .eq 19, 3) := by decide +kernel
theorem dX8_sow_185 : decode cX8_sow 185 = .ok (.aload_n 0, 1) := by decide +kernel
theorem dX8_sow_186 : decode cX8_sow 186 = .ok (.getfield 62, 3) := by decide +kernel
theorem dX8_sow_189 : decode cX8_sow 189 = .ok (.bipush 12, 2) := by decide +kernel
theorem dX8_sow_191 : decode cX8_sow 191 = .ok (.if_icmp .lt 10, 3) := by decide +kernel
theorem dX8_sow_194 : decode cX8_sow 194 = .ok (.aload_n 1, 1) := by decide +kernel
theorem dX8_sow_195 : decode cX8_sow 195 = .ok (.getfield 30, 3) := by decide +kernel
theorem dX8_sow_198 : decode cX8_sow 198 = .ok (.goto 9, 3) := by decide +kernel
theorem dX8_sow_201 : decode cX8_sow 201 = .ok (.iconst 1, 1) := by decide +kernel
theorem dX8_sow_202 : decode cX8_sow 202 = .ok (.aload_n 1, 1) := by decide +kernel
theorem dX8_sow_203 : decode cX8_sow 203 = .ok (.getfield 30, 3) := by decide +kernel
theorem dX8_sow_206 : decode cX8_sow 206 = .ok (.isub, 1) := by decide +kernel
theorem dX8_sow_207 : decode cX8_sow 207 = .ok (.putfield 30, 3) := by decide +kernel
theorem dX8_sow_210 : decode cX8_sow 210 = .ok (.iconst 1, 1) := by decide +kernel
theorem dX8_sow_211 : decode cX8_sow 211 = .ok (.ireturn, 1) := by decide +kernel
theorem dX8_sow_212 : decode cX8_sow 212 = .ok (.aload_n 0, 1) := by decide +kernel
theorem dX8_sow_213 : decode cX8_sow 213 = .ok (.getfield 62, 3) := by decide +kernel
theorem dX8_sow_216 : decode cX8_sow 216 = .ok (.istore_n 3, 1) := by decide +kernel
theorem dX8_sow_217 : decode cX8_sow 217 = .ok (.iinc 5 1, 3) := by decide +kernel
theorem dX8_sow_220 : decode cX8_sow 220 = .ok (.goto (-201), 3) := by decide +kernel
theorem dX8_sow_223 : decode cX8_sow 223 = .ok (.iconst 0, 1) := by decide +kernel
theorem dX8_sow_224 : decode cX8_sow 224 = .ok (.ireturn, 1) := by decide +kernel
theorem dX8_tryAll_0 : decode cX8_tryAll 0 = .ok (.aload_n 1, 1) := by decide +kernel
theorem dX8_tryAll_1 : decode cX8_tryAll 1 = .ok (.getfield 30, 3) := by decide +kernel
theorem dX8_tryAll_4 : decode cX8_tryAll 4 = .ok (.aload_n 0, 1) := by decide +kernel
theorem dX8_tryAll_5 : decode cX8_tryAll 5 = .ok (.getfield 21, 3) := by decide +kernel
theorem dX8_tryAll_8 : decode cX8_tryAll 8 = .ok (.getfield 34, 3) := by decide +kernel
theorem dX8_tryAll_11 : decode cX8_tryAll 11 = .ok (.imul, 1) := by decide +kernel
theorem dX8_tryAll_12 : decode cX8_tryAll 12 = .ok (.istore_n 2, 1) := by decide +kernel
theorem dX8_tryAll_13 : decode cX8_tryAll 13 = .ok (.iconst 0, 1) := by decide +kernel
theorem dX8_tryAll_14 : decode cX8_tryAll 14 = .ok (.istore_n 3, 1) := by decide +kernel
theorem dX8_tryAll_15 : decode cX8_tryAll 15 = .ok (.iconst 0, 1) := by decide +kernel
theorem dX8_tryAll_16 : decode cX8_tryAll 16 = .ok (.istore 4, 2) := by decide +kernel
theorem dX8_tryAll_18 : decode cX8_tryAll 18 = .ok (.iconst 0, 1) := by decide +kernel
theorem dX8_tryAll_19 : decode cX8_tryAll 19 = .ok (.istore 5, 2) := by decide +kernel
theorem dX8_tryAll_21 : decode cX8_tryAll 21 = .ok (.iload 5, 2) := by decide +kernel
theorem dX8_tryAll_23 : decode cX8_tryAll 23 = .ok (.aload_n 0, 1) := by decide +kernel
theorem dX8_tryAll_24 : decode cX8_tryAll 24 = .ok (.getfield 21, 3) := by decide +kernel
theorem dX8_tryAll_27 : decode cX8_tryAll 27 = .ok (.getfield 34, 3) := by decide +kernel
theorem dX8_tryAll_30 : decode cX8_tryAll 30 = .ok (.if_icmp .ge 110, 3) := by decide +kernel
theorem dX8_tryAll_33 : decode cX8_tryAll 33 = .ok (.aload_n 1, 1) := by decide +kernel
theorem dX8_tryAll_34 : decode cX8_tryAll 34 = .ok (.getfield 43, 3) := by decide +kernel
theorem dX8_tryAll_37 : decode cX8_tryAll 37 = .ok (.iload_n 2, 1) := by decide +kernel
theorem dX8_tryAll_38 : decode cX8_tryAll 38 = .ok (.iload 5, 2) := by decide +kernel
theorem dX8_tryAll_40 : decode cX8_tryAll 40 = .ok (.iadd, 1) := by decide +kernel
theorem dX8_tryAll_41 : decode cX8_tryAll 41 = .ok (.iaload, 1) := by decide +kernel
theorem dX8_tryAll_42 : decode cX8_tryAll 42 = .ok (.ifCond .ne 6, 3) := by decide +kernel
theorem dX8_tryAll_45 : decode cX8_tryAll 45 = .ok (.goto 89, 3) := by decide +kernel
theorem dX8_tryAll_48 : decode cX8_tryAll 48 = .ok (.aload_n 0, 1) := by decide +kernel
theorem dX8_tryAll_49 : decode cX8_tryAll 49 = .ok (.getfield 11, 3) := by decide +kernel
theorem dX8_tryAll_52 : decode cX8_tryAll 52 = .ok (.iload 5, 2) := by decide +kernel
theorem dX8_tryAll_54 : decode cX8_tryAll 54 = .ok (.aaload, 1) := by decide +kernel
theorem dX8_tryAll_55 : decode cX8_tryAll 55 = .ok (.aload_n 1, 1) := by decide +kernel
theorem dX8_tryAll_56 : decode cX8_tryAll 56 = .ok (.invokevirtual 108, 3) := by decide +kernel
theorem dX8_tryAll_59 : decode cX8_tryAll 59 = .ok (.aload_n 0, 1) := by decide +kernel
theorem dX8_tryAll_60 : decode cX8_tryAll 60 = .ok (.aload_n 0, 1) := by decide +kernel
theorem dX8_tryAll_61 : decode cX8_tryAll 61 = .ok (.getfield 11, 3) := by decide +kernel
theorem dX8_tryAll_64 : decode cX8_tryAll 64 = .ok (.iload 5, 2) := by decide +kernel
theorem dX8_tryAll_66 : decode cX8_tryAll 66 = .ok (.aaload, 1) := by decide +kernel
theorem dX8_tryAll_67 : decode cX8_tryAll 67 = .ok (.iload_n 2, 1) := by decide +kernel
theorem dX8_tryAll_68 : decode cX8_tryAll 68 = .ok (.iload 5, 2) := by decide +kernel
theorem dX8_tryAll_70 : decode cX8_tryAll 70 = .ok (.iadd, 1) := by decide +kernel
theorem dX8_tryAll_71 : decode cX8_tryAll 71 = .ok (.invokevirtual 112, 3) := by decide +kernel
theorem dX8_tryAll_74 : decode cX8_tryAll 74 = .ok (.ifCond .eq 60, 3) := by decide +kernel
theorem dX8_tryAll_77 : decode cX8_tryAll 77 = .ok (.aload_n 0, 1) := by decide +kernel
theorem dX8_tryAll_78 : decode cX8_tryAll 78 = .ok (.getfield 17, 3) := by decide +kernel
theorem dX8_tryAll_81 : decode cX8_tryAll 81 = .ok (.iload 5, 2) := by decide +kernel
theorem dX8_tryAll_83 : decode cX8_tryAll 83 = .ok (.aload_n 0, 1) := by decide +kernel
theorem dX8_tryAll_84 : decode cX8_tryAll 84 = .ok (.getfield 82, 3) := by decide +kernel
theorem dX8_tryAll_87 : decode cX8_tryAll 87 = .ok (.iastore, 1) := by decide +kernel
theorem dX8_tryAll_88 : decode cX8_tryAll 88 = .ok (.iload_n 3, 1) := by decide +kernel
theorem dX8_tryAll_89 : decode cX8_tryAll 89 = .ok (.iconst 1, 1) := by decide +kernel
theorem dX8_tryAll_90 : decode cX8_tryAll 90 = .ok (.iload_n 2, 1) := by decide +kernel
theorem dX8_tryAll_91 : decode cX8_tryAll 91 = .ok (.iload 5, 2) := by decide +kernel
theorem dX8_tryAll_93 : decode cX8_tryAll 93 = .ok (.iadd, 1) := by decide +kernel
theorem dX8_tryAll_94 : decode cX8_tryAll 94 = .ok (.ishl, 1) := by decide +kernel
theorem dX8_tryAll_95 : decode cX8_tryAll 95 = .ok (.ior, 1) := by decide +kernel
theorem dX8_tryAll_96 : decode cX8_tryAll 96 = .ok (.istore_n 3, 1) := by decide +kernel
theorem dX8_tryAll_97 : decode cX8_tryAll 97 = .ok (.aload_n 0, 1) := by decide +kernel
theorem dX8_tryAll_98 : decode cX8_tryAll 98 = .ok (.getfield 11, 3) := by decide +kernel
theorem dX8_tryAll_101 : decode cX8_tryAll 101 = .ok (.iload 5, 2) := by decide +kernel
theorem dX8_tryAll_103 : decode cX8_tryAll 103 = .ok (.aaload, 1) := by decide +kernel
theorem dX8_tryAll_104 : decode cX8_tryAll 104 = .ok (.iconst 1, 1) := by decide +kernel
theorem dX8_tryAll_105 : decode cX8_tryAll 105 = .ok (.aload_n 1, 1) := by decide +kernel
theorem dX8_tryAll_106 : decode cX8_tryAll 106 = .ok (.getfield 30, 3) := by decide +kernel
theorem dX8_tryAll_109 : decode cX8_tryAll 109 = .ok (.isub, 1) := by decide +kernel
theorem dX8_tryAll_110 : decode cX8_tryAll 110 = .ok (.aload_n 0, 1) := by decide +kernel
theorem dX8_tryAll_111 : decode cX8_tryAll 111 = .ok (.getfield 21, 3) := by decide +kernel
theorem dX8_tryAll_114 : decode cX8_tryAll 114 = .ok (.getfield 34, 3) := by decide +kernel
theorem dX8_tryAll_117 : decode cX8_tryAll 117 = .ok (.invokevirtual 91, 3) := by decide +kernel
theorem dX8_tryAll_120 : decode cX8_tryAll 120 = .ok (.ifCond .le 14, 3) := by decide +kernel
theorem dX8_tryAll_123 : decode cX8_tryAll 123 = .ok (.iload 4, 2) := by decide +kernel
theorem dX8_tryAll_125 : decode cX8_tryAll 125 = .ok (.iconst 1, 1) := by decide +kernel
theorem dX8_tryAll_126 : decode cX8_tryAll 126 = .ok (.iload_n 2, 1) := by decide +kernel
theorem dX8_tryAll_127 : decode cX8_tryAll 127 = .ok (.iload 5, 2) := by decide +kernel
theorem dX8_tryAll_129 : decode cX8_tryAll 129 = .ok (.iadd, 1) := by decide +kernel
theorem dX8_tryAll_130 : decode cX8_tryAll 130 = .ok (.ishl, 1) := by decide +kernel
theorem dX8_tryAll_131 : decode cX8_tryAll 131 = .ok (.ior, 1) := by decide +kernel
theorem dX8_tryAll_132 : decode cX8_tryAll 132 = .ok (.istore 4, 2) := by decide +kernel
theorem dX8_tryAll_134 : decode cX8_tryAll 134 = .ok (.iinc 5 1, 3) := by decide +kernel
theorem dX8_tryAll_137 : decode cX8_tryAll 137 = .ok (.goto (-116), 3) := by decide +kernel
theorem dX8_tryAll_140 : decode cX8_tryAll 140 = .ok (.aload_n 0, 1) := by decide +kernel
theorem dX8_tryAll_141 : decode cX8_tryAll 141 = .ok (.getfield 21, 3) := by decide +kernel
theorem dX8_tryAll_144 : decode cX8_tryAll 144 = .ok (.getfield 95, 3) := by decide +kernel
theorem dX8_tryAll_147 : decode cX8_tryAll 147 = .ok (.ifCond .eq 13, 3) := by decide +kernel
theorem dX8_tryAll_150 : decode cX8_tryAll 150 = .ok (.iload 4, 2) := by decide +kernel
theorem dX8_tryAll_152 : decode cX8_tryAll 152 = .ok (.ifCond .eq 8, 3) := by decide +kernel
theorem dX8_tryAll_155 : decode cX8_tryAll 155 = .ok (.iload 4, 2) := by decide +kernel
theorem dX8_tryAll_157 : decode cX8_tryAll 157 = .ok (.goto 4, 3) := by decide +kernel
theorem dX8_tryAll_160 : decode cX8_tryAll 160 = .ok (.iload_n 3, 1) := by decide +kernel
theorem dX8_tryAll_161 : decode cX8_tryAll 161 = .ok (.ireturn, 1) := by decide +kernel
theorem dX8_isLong_0 : decode cX8_isLong 0 = .ok (.aload_n 0, 1) := by decide +kernel
theorem dX8_isLong_1 : decode cX8_isLong 1 = .ok (.getfield 11, 3) := by decide +kernel
theorem dX8_isLong_4 : decode cX8_isLong 4 = .ok (.iload_n 2, 1) := by decide +kernel
theorem dX8_isLong_5 : decode cX8_isLong 5 = .ok (.aaload, 1) := by decide +kernel
theorem dX8_isLong_6 : decode cX8_isLong 6 = .ok (.aload_n 1, 1) := by decide +kernel
theorem dX8_isLong_7 : decode cX8_isLong 7 = .ok (.invokevirtual 108, 3) := by decide +kernel
theorem dX8_isLong_10 : decode cX8_isLong 10 = .ok (.aload_n 0, 1) := by decide +kernel
theorem dX8_isLong_11 : decode cX8_isLong 11 = .ok (.aload_n 0, 1) := by decide +kernel
theorem dX8_isLong_12 : decode cX8_isLong 12 = .ok (.getfield 11, 3) := by decide +kernel
theorem dX8_isLong_15 : decode cX8_isLong 15 = .ok (.iload_n 2, 1) := by decide +kernel
theorem dX8_isLong_16 : decode cX8_isLong 16 = .ok (.aaload, 1) := by decide +kernel
theorem dX8_isLong_17 : decode cX8_isLong 17 = .ok (.aload_n 1, 1) := by decide +kernel
theorem dX8_isLong_18 : decode cX8_isLong 18 = .ok (.getfield 30, 3) := by decide +kernel
theorem dX8_isLong_21 : decode cX8_isLong 21 = .ok (.aload_n 0, 1) := by decide +kernel
theorem dX8_isLong_22 : decode cX8_isLong 22 = .ok (.getfield 21, 3) := by decide +kernel
theorem dX8_isLong_25 : decode cX8_isLong 25 = .ok (.getfield 34, 3) := by decide +kernel
theorem dX8_isLong_28 : decode cX8_isLong 28 = .ok (.imul, 1) := by decide +kernel
theorem dX8_isLong_29 : decode cX8_isLong 29 = .ok (.iload_n 2, 1) := by decide +kernel
theorem dX8_isLong_30 : decode cX8_isLong 30 = .ok (.iadd, 1) := by decide +kernel
theorem dX8_isLong_31 : decode cX8_isLong 31 = .ok (.invokevirtual 112, 3) := by decide +kernel
theorem dX8_isLong_34 : decode cX8_isLong 34 = .ok (.ifCond .ne 7, 3) := by decide +kernel
theorem dX8_isLong_37 : decode cX8_isLong 37 = .ok (.iconst 1, 1) := by decide +kernel
theorem dX8_isLong_38 : decode cX8_isLong 38 = .ok (.goto 4, 3) := by decide +kernel
theorem dX8_isLong_41 : decode cX8_isLong 41 = .ok (.iconst 0, 1) := by decide +kernel
theorem dX8_isLong_42 : decode cX8_isLong 42 = .ok (.ireturn, 1) := by decide +kernel
theorem dX8_isOver_0 : decode cX8_isOver 0 = .ok (.aload_n 1, 1) := by decide +kernel
theorem dX8_isOver_1 : decode cX8_isOver 1 = .ok (.getfield 30, 3) := by decide +kernel
theorem dX8_isOver_4 : decode cX8_isOver 4 = .ok (.aload_n 0, 1) := by decide +kernel
theorem dX8_isOver_5 : decode cX8_isOver 5 = .ok (.getfield 21, 3) := by decide +kernel
theorem dX8_isOver_8 : decode cX8_isOver 8 = .ok (.getfield 34, 3) := by decide +kernel
theorem dX8_isOver_11 : decode cX8_isOver 11 = .ok (.imul, 1) := by decide +kernel
theorem dX8_isOver_12 : decode cX8_isOver 12 = .ok (.istore_n 2, 1) := by decide +kernel
theorem dX8_isOver_13 : decode cX8_isOver 13 = .ok (.iconst 0, 1) := by decide +kernel
theorem dX8_isOver_14 : decode cX8_isOver 14 = .ok (.istore_n 3, 1) := by decide +kernel
theorem dX8_isOver_15 : decode cX8_isOver 15 = .ok (.iload_n 3, 1) := by decide +kernel
theorem dX8_isOver_16 : decode cX8_isOver 16 = .ok (.aload_n 0, 1) := by decide +kernel
theorem dX8_isOver_17 : decode cX8_isOver 17 = .ok (.getfield 21, 3) := by decide +kernel
theorem dX8_isOver_20 : decode cX8_isOver 20 = .ok (.getfield 34, 3) := by decide +kernel
theorem dX8_isOver_23 : decode cX8_isOver 23 = .ok (.if_icmp .ge 41, 3) := by decide +kernel
theorem dX8_isOver_26 : decode cX8_isOver 26 = .ok (.aload_n 1, 1) := by decide +kernel
theorem dX8_isOver_27 : decode cX8_isOver 27 = .ok (.getfield 43, 3) := by decide +kernel
theorem dX8_isOver_30 : decode cX8_isOver 30 = .ok (.iload_n 2, 1) := by decide +kernel
theorem dX8_isOver_31 : decode cX8_isOver 31 = .ok (.iload_n 3, 1) := by decide +kernel
theorem dX8_isOver_32 : decode cX8_isOver 32 = .ok (.iadd, 1) := by decide +kernel
theorem dX8_isOver_33 : decode cX8_isOver 33 = .ok (.iaload, 1) := by decide +kernel
theorem dX8_isOver_34 : decode cX8_isOver 34 = .ok (.ifCond .le 24, 3) := by decide +kernel
theorem dX8_isOver_37 : decode cX8_isOver 37 = .ok (.aload_n 0, 1) := by decide +kernel
theorem dX8_isOver_38 : decode cX8_isOver 38 = .ok (.getfield 25, 3) := by decide +kernel
theorem dX8_isOver_41 : decode cX8_isOver 41 = .ok (.getfield 98, 3) := by decide +kernel
theorem dX8_isOver_44 : decode cX8_isOver 44 = .ok (.ifCond .eq 12, 3) := by decide +kernel
theorem dX8_isOver_47 : decode cX8_isOver 47 = .ok (.aload_n 0, 1) := by decide +kernel
theorem dX8_isOver_48 : decode cX8_isOver 48 = .ok (.aload_n 1, 1) := by decide +kernel
theorem dX8_isOver_49 : decode cX8_isOver 49 = .ok (.iload_n 3, 1) := by decide +kernel
theorem dX8_isOver_50 : decode cX8_isOver 50 = .ok (.invokevirtual 116, 3) := by decide +kernel
theorem dX8_isOver_53 : decode cX8_isOver 53 = .ok (.ifCond .ne 5, 3) := by decide +kernel
theorem dX8_isOver_56 : decode cX8_isOver 56 = .ok (.iconst 0, 1) := by decide +kernel
theorem dX8_isOver_57 : decode cX8_isOver 57 = .ok (.ireturn, 1) := by decide +kernel
theorem dX8_isOver_58 : decode cX8_isOver 58 = .ok (.iinc 3 1, 3) := by decide +kernel
theorem dX8_isOver_61 : decode cX8_isOver 61 = .ok (.goto (-46), 3) := by decide +kernel
theorem dX8_isOver_64 : decode cX8_isOver 64 = .ok (.iconst 1, 1) := by decide +kernel
theorem dX8_isOver_65 : decode cX8_isOver 65 = .ok (.ireturn, 1) := by decide +kernel
theorem dX8_scoreOf_0 : decode cX8_scoreOf 0 = .ok (.aload_n 1, 1) := by decide +kernel
theorem dX8_scoreOf_1 : decode cX8_scoreOf 1 = .ok (.getfield 43, 3) := by decide +kernel
theorem dX8_scoreOf_4 : decode cX8_scoreOf 4 = .ok (.bipush 12, 2) := by decide +kernel
theorem dX8_scoreOf_6 : decode cX8_scoreOf 6 = .ok (.iaload, 1) := by decide +kernel
theorem dX8_scoreOf_7 : decode cX8_scoreOf 7 = .ok (.aload_n 1, 1) := by decide +kernel
theorem dX8_scoreOf_8 : decode cX8_scoreOf 8 = .ok (.getfield 43, 3) := by decide +kernel
theorem dX8_scoreOf_11 : decode cX8_scoreOf 11 = .ok (.bipush 13, 2) := by decide +kernel
theorem dX8_scoreOf_13 : decode cX8_scoreOf 13 = .ok (.iaload, 1) := by decide +kernel
theorem dX8_scoreOf_14 : decode cX8_scoreOf 14 = .ok (.isub, 1) := by decide +kernel
theorem dX8_scoreOf_15 : decode cX8_scoreOf 15 = .ok (.istore_n 2, 1) := by decide +kernel
theorem dX8_scoreOf_16 : decode cX8_scoreOf 16 = .ok (.aload_n 0, 1) := by decide +kernel
theorem dX8_scoreOf_17 : decode cX8_scoreOf 17 = .ok (.aload_n 1, 1) := by decide +kernel
theorem dX8_scoreOf_18 : decode cX8_scoreOf 18 = .ok (.invokevirtual 126, 3) := by decide +kernel
theorem dX8_scoreOf_21 : decode cX8_scoreOf 21 = .ok (.ifCond .ne 5, 3) := by decide +kernel
theorem dX8_scoreOf_24 : decode cX8_scoreOf 24 = .ok (.iload_n 2, 1) := by decide +kernel
theorem dX8_scoreOf_25 : decode cX8_scoreOf 25 = .ok (.ireturn, 1) := by decide +kernel
theorem dX8_scoreOf_26 : decode cX8_scoreOf 26 = .ok (.iload_n 2, 1) := by decide +kernel
theorem dX8_scoreOf_27 : decode cX8_scoreOf 27 = .ok (.aload_n 1, 1) := by decide +kernel
theorem dX8_scoreOf_28 : decode cX8_scoreOf 28 = .ok (.iconst 0, 1) := by decide +kernel
theorem dX8_scoreOf_29 : decode cX8_scoreOf 29 = .ok (.aload_n 0, 1) := by decide +kernel
theorem dX8_scoreOf_30 : decode cX8_scoreOf 30 = .ok (.getfield 21, 3) := by decide +kernel
theorem dX8_scoreOf_33 : decode cX8_scoreOf 33 = .ok (.getfield 34, 3) := by decide +kernel
theorem dX8_scoreOf_36 : decode cX8_scoreOf 36 = .ok (.invokevirtual 91, 3) := by decide +kernel
theorem dX8_scoreOf_39 : decode cX8_scoreOf 39 = .ok (.iadd, 1) := by decide +kernel
theorem dX8_scoreOf_40 : decode cX8_scoreOf 40 = .ok (.aload_n 1, 1) := by decide +kernel
theorem dX8_scoreOf_41 : decode cX8_scoreOf 41 = .ok (.iconst 1, 1) := by decide +kernel
theorem dX8_scoreOf_42 : decode cX8_scoreOf 42 = .ok (.aload_n 0, 1) := by decide +kernel
theorem dX8_scoreOf_43 : decode cX8_scoreOf 43 = .ok (.getfield 21, 3) := by decide +kernel
theorem dX8_scoreOf_46 : decode cX8_scoreOf 46 = .ok (.getfield 34, 3) := by decide +kernel
theorem dX8_scoreOf_49 : decode cX8_scoreOf 49 = .ok (.invokevirtual 91, 3) := by decide +kernel
theorem dX8_scoreOf_52 : decode cX8_scoreOf 52 = .ok (.isub, 1) := by decide +kernel
theorem dX8_scoreOf_53 : decode cX8_scoreOf 53 = .ok (.ireturn, 1) := by decide +kernel
theorem dX10_go_0 : decode cX10_go 0 = .ok (.aload_n 0, 1) := by decide +kernel
theorem dX10_go_1 : decode cX10_go 1 = .ok (.getfield 25, 3) := by decide +kernel
theorem dX10_go_4 : decode cX10_go 4 = .ok (.aload_n 0, 1) := by decide +kernel
theorem dX10_go_5 : decode cX10_go 5 = .ok (.getfield 12, 3) := by decide +kernel
theorem dX10_go_8 : decode cX10_go 8 = .ok (.iload_n 1, 1) := by decide +kernel
theorem dX10_go_9 : decode cX10_go 9 = .ok (.invokevirtual 45, 3) := by decide +kernel
theorem dX10_go_12 : decode cX10_go 12 = .ok (.pop, 1) := by decide +kernel
theorem dX10_go_13 : decode cX10_go 13 = .ok (.aload_n 0, 1) := by decide +kernel
theorem dX10_go_14 : decode cX10_go 14 = .ok (.getfield 18, 3) := by decide +kernel
theorem dX10_go_17 : decode cX10_go 17 = .ok (.aload_n 0, 1) := by decide +kernel
theorem dX10_go_18 : decode cX10_go 18 = .ok (.getfield 37, 3) := by decide +kernel
theorem dX10_go_21 : decode cX10_go 21 = .ok (.iload_n 1, 1) := by decide +kernel
theorem dX10_go_22 : decode cX10_go 22 = .ok (.iastore, 1) := by decide +kernel
theorem dX10_go_23 : decode cX10_go 23 = .ok (.aload_n 0, 1) := by decide +kernel
theorem dX10_go_24 : decode cX10_go 24 = .ok (.dup, 1) := by decide +kernel
theorem dX10_go_25 : decode cX10_go 25 = .ok (.getfield 37, 3) := by decide +kernel
theorem dX10_go_28 : decode cX10_go 28 = .ok (.iconst 1, 1) := by decide +kernel
theorem dX10_go_29 : decode cX10_go 29 = .ok (.iadd, 1) := by decide +kernel
theorem dX10_go_30 : decode cX10_go 30 = .ok (.putfield 37, 3) := by decide +kernel
theorem dX10_go_33 : decode cX10_go 33 = .ok (.return_, 1) := by decide +kernel
theorem dX10_pick_0 : decode cX10_pick 0 = .ok (.iload_n 0, 1) := by decide +kernel
theorem dX10_pick_1 : decode cX10_pick 1 = .ok (.invokestatic 74, 3) := by decide +kernel
theorem dX10_pick_4 : decode cX10_pick 4 = .ok (.istore_n 2, 1) := by decide +kernel
theorem dX10_pick_5 : decode cX10_pick 5 = .ok (.iload_n 2, 1) := by decide +kernel
theorem dX10_pick_6 : decode cX10_pick 6 = .ok (.ifCond .ne 7, 3) := by decide +kernel
theorem dX10_pick_9 : decode cX10_pick 9 = .ok (.iconst 0, 1) := by decide +kernel
theorem dX10_pick_10 : decode cX10_pick 10 = .ok (.goto 6, 3) := by decide +kernel
theorem dX10_pick_13 : decode cX10_pick 13 = .ok (.iload_n 1, 1) := by decide +kernel
theorem dX10_pick_14 : decode cX10_pick 14 = .ok (.iload_n 2, 1) := by decide +kernel
theorem dX10_pick_15 : decode cX10_pick 15 = .ok (.irem, 1) := by decide +kernel
theorem dX10_pick_16 : decode cX10_pick 16 = .ok (.istore_n 3, 1) := by decide +kernel
theorem dX10_pick_17 : decode cX10_pick 17 = .ok (.iconst 0, 1) := by decide +kernel
theorem dX10_pick_18 : decode cX10_pick 18 = .ok (.istore 4, 2) := by decide +kernel
theorem dX10_pick_20 : decode cX10_pick 20 = .ok (.iload 4, 2) := by decide +kernel
theorem dX10_pick_22 : decode cX10_pick 22 = .ok (.bipush 12, 2) := by decide +kernel
theorem dX10_pick_24 : decode cX10_pick 24 = .ok (.if_icmp .ge 28, 3) := by decide +kernel
theorem dX10_pick_27 : decode cX10_pick 27 = .ok (.iload_n 0, 1) := by decide +kernel
theorem dX10_pick_28 : decode cX10_pick 28 = .ok (.iload 4, 2) := by decide +kernel
theorem dX10_pick_30 : decode cX10_pick 30 = .ok (.invokestatic 88, 3) := by decide +kernel
theorem dX10_pick_33 : decode cX10_pick 33 = .ok (.ifCond .eq 13, 3) := by decide +kernel
theorem dX10_pick_36 : decode cX10_pick 36 = .ok (.iload_n 3, 1) := by decide +kernel
theorem dX10_pick_37 : decode cX10_pick 37 = .ok (.ifCond .ne 6, 3) := by decide +kernel
theorem dX10_pick_40 : decode cX10_pick 40 = .ok (.iload 4, 2) := by decide +kernel
theorem dX10_pick_42 : decode cX10_pick 42 = .ok (.ireturn, 1) := by decide +kernel
theorem dX10_pick_43 : decode cX10_pick 43 = .ok (.iinc 3 (-1), 3) := by decide +kernel
theorem dX10_pick_46 : decode cX10_pick 46 = .ok (.iinc 4 1, 3) := by decide +kernel
theorem dX10_pick_49 : decode cX10_pick 49 = .ok (.goto (-29), 3) := by decide +kernel
theorem dX10_pick_52 : decode cX10_pick 52 = .ok (.iconst (-1), 1) := by decide +kernel
theorem dX10_pick_53 : decode cX10_pick 53 = .ok (.ireturn, 1) := by decide +kernel
theorem dX11_undo_0 : decode cX11_undo 0 = .ok (.aload_n 0, 1) := by decide +kernel
theorem dX11_undo_1 : decode cX11_undo 1 = .ok (.getfield 47, 3) := by decide +kernel
theorem dX11_undo_4 : decode cX11_undo 4 = .ok (.getfield 197, 3) := by decide +kernel
theorem dX11_undo_7 : decode cX11_undo 7 = .ok (.ifCond .ne 5, 3) := by decide +kernel
theorem dX11_undo_10 : decode cX11_undo 10 = .ok (.iconst 0, 1) := by decide +kernel
theorem dX11_undo_11 : decode cX11_undo 11 = .ok (.ireturn, 1) := by decide +kernel
theorem dX11_undo_12 : decode cX11_undo 12 = .ok (.aload_n 0, 1) := by decide +kernel
theorem dX11_undo_13 : decode cX11_undo 13 = .ok (.getfield 47, 3) := by decide +kernel
theorem dX11_undo_16 : decode cX11_undo 16 = .ok (.aload_n 0, 1) := by decide +kernel
theorem dX11_undo_17 : decode cX11_undo 17 = .ok (.getfield 37, 3) := by decide +kernel
theorem dX11_undo_20 : decode cX11_undo 20 = .ok (.invokevirtual 200, 3) := by decide +kernel
theorem dX11_undo_23 : decode cX11_undo 23 = .ok (.iconst 1, 1) := by decide +kernel
theorem dX11_undo_24 : decode cX11_undo 24 = .ok (.ireturn, 1) := by decide +kernel
theorem dX11_redo_0 : decode cX11_redo 0 = .ok (.aload_n 0, 1) := by decide +kernel
theorem dX11_redo_1 : decode cX11_redo 1 = .ok (.getfield 47, 3) := by decide +kernel
theorem dX11_redo_4 : decode cX11_redo 4 = .ok (.getfield 203, 3) := by decide +kernel
theorem dX11_redo_7 : decode cX11_redo 7 = .ok (.ifCond .ne 5, 3) := by decide +kernel
theorem dX11_redo_10 : decode cX11_redo 10 = .ok (.iconst 0, 1) := by decide +kernel
theorem dX11_redo_11 : decode cX11_redo 11 = .ok (.ireturn, 1) := by decide +kernel
theorem dX11_redo_12 : decode cX11_redo 12 = .ok (.aload_n 0, 1) := by decide +kernel
theorem dX11_redo_13 : decode cX11_redo 13 = .ok (.getfield 30, 3) := by decide +kernel
theorem dX11_redo_16 : decode cX11_redo 16 = .ok (.aload_n 0, 1) := by decide +kernel
theorem dX11_redo_17 : decode cX11_redo 17 = .ok (.getfield 37, 3) := by decide +kernel
theorem dX11_redo_20 : decode cX11_redo 20 = .ok (.aload_n 0, 1) := by decide +kernel
theorem dX11_redo_21 : decode cX11_redo 21 = .ok (.getfield 47, 3) := by decide +kernel
theorem dX11_redo_24 : decode cX11_redo 24 = .ok (.invokevirtual 206, 3) := by decide +kernel
theorem dX11_redo_27 : decode cX11_redo 27 = .ok (.invokevirtual 164, 3) := by decide +kernel
theorem dX11_redo_30 : decode cX11_redo 30 = .ok (.pop, 1) := by decide +kernel
theorem dX11_redo_31 : decode cX11_redo 31 = .ok (.iconst 1, 1) := by decide +kernel
theorem dX11_redo_32 : decode cX11_redo 32 = .ok (.ireturn, 1) := by decide +kernel
theorem dX11_over_0 : decode cX11_over 0 = .ok (.aload_n 0, 1) := by decide +kernel
theorem dX11_over_1 : decode cX11_over 1 = .ok (.getfield 30, 3) := by decide +kernel
theorem dX11_over_4 : decode cX11_over 4 = .ok (.aload_n 0, 1) := by decide +kernel
theorem dX11_over_5 : decode cX11_over 5 = .ok (.getfield 37, 3) := by decide +kernel
theorem dX11_over_8 : decode cX11_over 8 = .ok (.invokevirtual 210, 3) := by decide +kernel
theorem dX11_over_11 : decode cX11_over 11 = .ok (.ireturn, 1) := by decide +kernel
theorem dX11_score_0 : decode cX11_score 0 = .ok (.aload_n 0, 1) := by decide +kernel
theorem dX11_score_1 : decode cX11_score 1 = .ok (.getfield 30, 3) := by decide +kernel
theorem dX11_score_4 : decode cX11_score 4 = .ok (.aload_n 0, 1) := by decide +kernel
theorem dX11_score_5 : decode cX11_score 5 = .ok (.getfield 37, 3) := by decide +kernel
theorem dX11_score_8 : decode cX11_score 8 = .ok (.invokevirtual 214, 3) := by decide +kernel
theorem dX11_score_11 : decode cX11_score 11 = .ok (.ireturn, 1) := by decide +kernel
theorem dX11_count_0 : decode cX11_count 0 = .ok (.iload_n 1, 1) := by decide +kernel
theorem dX11_count_1 : decode cX11_count 1 = .ok (.tableswitch 102 0 6 #[43, 51, 59, 67, 78, 86, 94], 43) := by decide +kernel
theorem dX11_count_44 : decode cX11_count 44 = .ok (.aload_n 0, 1) := by decide +kernel
theorem dX11_count_45 : decode cX11_count 45 = .ok (.getfield 12, 3) := by decide +kernel
theorem dX11_count_48 : decode cX11_count 48 = .ok (.getfield 128, 3) := by decide +kernel
theorem dX11_count_51 : decode cX11_count 51 = .ok (.ireturn, 1) := by decide +kernel
theorem dX11_count_52 : decode cX11_count 52 = .ok (.aload_n 0, 1) := by decide +kernel
theorem dX11_count_53 : decode cX11_count 53 = .ok (.getfield 12, 3) := by decide +kernel
theorem dX11_count_56 : decode cX11_count 56 = .ok (.getfield 134, 3) := by decide +kernel
theorem dX11_count_59 : decode cX11_count 59 = .ok (.ireturn, 1) := by decide +kernel
theorem dX11_count_60 : decode cX11_count 60 = .ok (.aload_n 0, 1) := by decide +kernel
theorem dX11_count_61 : decode cX11_count 61 = .ok (.getfield 37, 3) := by decide +kernel
theorem dX11_count_64 : decode cX11_count 64 = .ok (.invokevirtual 236, 3) := by decide +kernel
theorem dX11_count_67 : decode cX11_count 67 = .ok (.ireturn, 1) := by decide +kernel
theorem dX11_count_68 : decode cX11_count 68 = .ok (.aload_n 0, 1) := by decide +kernel
theorem dX11_count_69 : decode cX11_count 69 = .ok (.getfield 12, 3) := by decide +kernel
theorem dX11_count_72 : decode cX11_count 72 = .ok (.getfield 387, 3) := by decide +kernel
theorem dX11_count_75 : decode cX11_count 75 = .ok (.invokestatic 293, 3) := by decide +kernel
theorem dX11_count_78 : decode cX11_count 78 = .ok (.ireturn, 1) := by decide +kernel
theorem dX11_count_79 : decode cX11_count 79 = .ok (.aload_n 0, 1) := by decide +kernel
theorem dX11_count_80 : decode cX11_count 80 = .ok (.getfield 47, 3) := by decide +kernel
theorem dX11_count_83 : decode cX11_count 83 = .ok (.getfield 197, 3) := by decide +kernel
theorem dX11_count_86 : decode cX11_count 86 = .ok (.ireturn, 1) := by decide +kernel
theorem dX11_count_87 : decode cX11_count 87 = .ok (.aload_n 0, 1) := by decide +kernel
theorem dX11_count_88 : decode cX11_count 88 = .ok (.getfield 47, 3) := by decide +kernel
theorem dX11_count_91 : decode cX11_count 91 = .ok (.getfield 203, 3) := by decide +kernel
theorem dX11_count_94 : decode cX11_count 94 = .ok (.ireturn, 1) := by decide +kernel
theorem dX11_count_95 : decode cX11_count 95 = .ok (.aload_n 0, 1) := by decide +kernel
theorem dX11_count_96 : decode cX11_count 96 = .ok (.getfield 54, 3) := by decide +kernel
theorem dX11_count_99 : decode cX11_count 99 = .ok (.getfield 99, 3) := by decide +kernel
theorem dX11_count_102 : decode cX11_count 102 = .ok (.ireturn, 1) := by decide +kernel
theorem dX11_count_103 : decode cX11_count 103 = .ok (.iconst (-1), 1) := by decide +kernel
theorem dX11_count_104 : decode cX11_count 104 = .ok (.ireturn, 1) := by decide +kernel
theorem dX11_isNotable_0 : decode cX11_isNotable 0 = .ok (.aload_n 0, 1) := by decide +kernel
theorem dX11_isNotable_1 : decode cX11_isNotable 1 = .ok (.getfield 41, 3) := by decide +kernel
theorem dX11_isNotable_4 : decode cX11_isNotable 4 = .ok (.aload_n 0, 1) := by decide +kernel
theorem dX11_isNotable_5 : decode cX11_isNotable 5 = .ok (.getfield 37, 3) := by decide +kernel
theorem dX11_isNotable_8 : decode cX11_isNotable 8 = .ok (.invokevirtual 177, 3) := by decide +kernel
theorem dX11_isNotable_11 : decode cX11_isNotable 11 = .ok (.aload_n 0, 1) := by decide +kernel
theorem dX11_isNotable_12 : decode cX11_isNotable 12 = .ok (.getfield 30, 3) := by decide +kernel
theorem dX11_isNotable_15 : decode cX11_isNotable 15 = .ok (.aload_n 0, 1) := by decide +kernel
theorem dX11_isNotable_16 : decode cX11_isNotable 16 = .ok (.getfield 41, 3) := by decide +kernel
theorem dX11_isNotable_19 : decode cX11_isNotable 19 = .ok (.iload_n 1, 1) := by decide +kernel
theorem dX11_isNotable_20 : decode cX11_isNotable 20 = .ok (.invokevirtual 164, 3) := by decide +kernel
theorem dX11_isNotable_23 : decode cX11_isNotable 23 = .ok (.pop, 1) := by decide +kernel
theorem dX11_isNotable_24 : decode cX11_isNotable 24 = .ok (.iload_n 2, 1) := by decide +kernel
theorem dX11_isNotable_25 : decode cX11_isNotable 25 = .ok (.lookupswitch 61 #[(0, 27), (1, 45)], 27) := by decide +kernel
theorem dX11_isNotable_52 : decode cX11_isNotable 52 = .ok (.aload_n 0, 1) := by decide +kernel
theorem dX11_isNotable_53 : decode cX11_isNotable 53 = .ok (.getfield 30, 3) := by decide +kernel
theorem dX11_isNotable_56 : decode cX11_isNotable 56 = .ok (.getfield 186, 3) := by decide +kernel
theorem dX11_isNotable_59 : decode cX11_isNotable 59 = .ok (.bipush 12, 2) := by decide +kernel
theorem dX11_isNotable_61 : decode cX11_isNotable 61 = .ok (.if_icmp .lt 7, 3) := by decide +kernel
theorem dX11_isNotable_64 : decode cX11_isNotable 64 = .ok (.iconst 1, 1) := by decide +kernel
theorem dX11_isNotable_65 : decode cX11_isNotable 65 = .ok (.goto 4, 3) := by decide +kernel
theorem dX11_isNotable_68 : decode cX11_isNotable 68 = .ok (.iconst 0, 1) := by decide +kernel
theorem dX11_isNotable_69 : decode cX11_isNotable 69 = .ok (.ireturn, 1) := by decide +kernel
theorem dX11_isNotable_70 : decode cX11_isNotable 70 = .ok (.aload_n 0, 1) := by decide +kernel
theorem dX11_isNotable_71 : decode cX11_isNotable 71 = .ok (.getfield 30, 3) := by decide +kernel
theorem dX11_isNotable_74 : decode cX11_isNotable 74 = .ok (.getfield 192, 3) := by decide +kernel
theorem dX11_isNotable_77 : decode cX11_isNotable 77 = .ok (.ifCond .le 7, 3) := by decide +kernel
theorem dX11_isNotable_80 : decode cX11_isNotable 80 = .ok (.iconst 1, 1) := by decide +kernel
theorem dX11_isNotable_81 : decode cX11_isNotable 81 = .ok (.goto 4, 3) := by decide +kernel
theorem dX11_isNotable_84 : decode cX11_isNotable 84 = .ok (.iconst 0, 1) := by decide +kernel
theorem dX11_isNotable_85 : decode cX11_isNotable 85 = .ok (.ireturn, 1) := by decide +kernel
theorem dX11_isNotable_86 : decode cX11_isNotable 86 = .ok (.aload_n 0, 1) := by decide +kernel
theorem dX11_isNotable_87 : decode cX11_isNotable 87 = .ok (.getfield 41, 3) := by decide +kernel
theorem dX11_isNotable_90 : decode cX11_isNotable 90 = .ok (.iconst 1, 1) := by decide +kernel
theorem dX11_isNotable_91 : decode cX11_isNotable 91 = .ok (.aload_n 0, 1) := by decide +kernel
theorem dX11_isNotable_92 : decode cX11_isNotable 92 = .ok (.getfield 37, 3) := by decide +kernel
theorem dX11_isNotable_95 : decode cX11_isNotable 95 = .ok (.getfield 153, 3) := by decide +kernel
theorem dX11_isNotable_98 : decode cX11_isNotable 98 = .ok (.isub, 1) := by decide +kernel
theorem dX11_isNotable_99 : decode cX11_isNotable 99 = .ok (.aload_n 0, 1) := by decide +kernel
theorem dX11_isNotable_100 : decode cX11_isNotable 100 = .ok (.getfield 12, 3) := by decide +kernel
theorem dX11_isNotable_103 : decode cX11_isNotable 103 = .ok (.getfield 134, 3) := by decide +kernel
theorem dX11_isNotable_106 : decode cX11_isNotable 106 = .ok (.invokevirtual 414, 3) := by decide +kernel
theorem dX11_isNotable_109 : decode cX11_isNotable 109 = .ok (.ifCond .ne 7, 3) := by decide +kernel
theorem dX11_isNotable_112 : decode cX11_isNotable 112 = .ok (.iconst 1, 1) := by decide +kernel
theorem dX11_isNotable_113 : decode cX11_isNotable 113 = .ok (.goto 4, 3) := by decide +kernel
theorem dX11_isNotable_116 : decode cX11_isNotable 116 = .ok (.iconst 0, 1) := by decide +kernel
theorem dX11_isNotable_117 : decode cX11_isNotable 117 = .ok (.ireturn, 1) := by decide +kernel
theorem dX11_toldOfPlay_0 : decode cX11_toldOfPlay 0 = .ok (.iload_n 1, 1) := by decide +kernel
theorem dX11_toldOfPlay_1 : decode cX11_toldOfPlay 1 = .ok (.lookupswitch 50 #[(0, 27), (1, 42)], 27) := by decide +kernel
theorem dX11_toldOfPlay_28 : decode cX11_toldOfPlay 28 = .ok (.aload_n 0, 1) := by decide +kernel
theorem dX11_toldOfPlay_29 : decode cX11_toldOfPlay 29 = .ok (.getfield 30, 3) := by decide +kernel
theorem dX11_toldOfPlay_32 : decode cX11_toldOfPlay 32 = .ok (.aload_n 0, 1) := by decide +kernel
theorem dX11_toldOfPlay_33 : decode cX11_toldOfPlay 33 = .ok (.getfield 72, 3) := by decide +kernel
theorem dX11_toldOfPlay_36 : decode cX11_toldOfPlay 36 = .ok (.getfield 312, 3) := by decide +kernel
theorem dX11_toldOfPlay_39 : decode cX11_toldOfPlay 39 = .ok (.invokevirtual 214, 3) := by decide +kernel
theorem dX11_toldOfPlay_42 : decode cX11_toldOfPlay 42 = .ok (.ireturn, 1) := by decide +kernel
theorem dX11_toldOfPlay_43 : decode cX11_toldOfPlay 43 = .ok (.aload_n 0, 1) := by decide +kernel
theorem dX11_toldOfPlay_44 : decode cX11_toldOfPlay 44 = .ok (.getfield 72, 3) := by decide +kernel
theorem dX11_toldOfPlay_47 : decode cX11_toldOfPlay 47 = .ok (.getfield 319, 3) := by decide +kernel
theorem dX11_toldOfPlay_50 : decode cX11_toldOfPlay 50 = .ok (.ireturn, 1) := by decide +kernel
theorem dX11_toldOfPlay_51 : decode cX11_toldOfPlay 51 = .ok (.aload_n 0, 1) := by decide +kernel
theorem dX11_toldOfPlay_52 : decode cX11_toldOfPlay 52 = .ok (.getfield 30, 3) := by decide +kernel
theorem dX11_toldOfPlay_55 : decode cX11_toldOfPlay 55 = .ok (.aload_n 0, 1) := by decide +kernel
theorem dX11_toldOfPlay_56 : decode cX11_toldOfPlay 56 = .ok (.getfield 72, 3) := by decide +kernel
theorem dX11_toldOfPlay_59 : decode cX11_toldOfPlay 59 = .ok (.getfield 312, 3) := by decide +kernel
theorem dX11_toldOfPlay_62 : decode cX11_toldOfPlay 62 = .ok (.invokevirtual 210, 3) := by decide +kernel
theorem dX11_toldOfPlay_65 : decode cX11_toldOfPlay 65 = .ok (.ifCond .eq 7, 3) := by decide +kernel
theorem dX11_toldOfPlay_68 : decode cX11_toldOfPlay 68 = .ok (.iconst 1, 1) := by decide +kernel
theorem dX11_toldOfPlay_69 : decode cX11_toldOfPlay 69 = .ok (.goto 4, 3) := by decide +kernel
theorem dX11_toldOfPlay_72 : decode cX11_toldOfPlay 72 = .ok (.iconst 0, 1) := by decide +kernel
theorem dX11_toldOfPlay_73 : decode cX11_toldOfPlay 73 = .ok (.ireturn, 1) := by decide +kernel
theorem dX12_takes_0 : decode cX12_takes 0 = .ok (.aload_n 0, 1) := by decide +kernel
theorem dX12_takes_1 : decode cX12_takes 1 = .ok (.getfield 9, 3) := by decide +kernel
theorem dX12_takes_4 : decode cX12_takes 4 = .ok (.bipush 7, 2) := by decide +kernel
theorem dX12_takes_6 : decode cX12_takes 6 = .ok (.iaload, 1) := by decide +kernel
theorem dX12_takes_7 : decode cX12_takes 7 = .ok (.iconst 1, 1) := by decide +kernel
theorem dX12_takes_8 : decode cX12_takes 8 = .ok (.if_icmp .ne 89, 3) := by decide +kernel
theorem dX12_takes_11 : decode cX12_takes 11 = .ok (.aload_n 0, 1) := by decide +kernel
theorem dX12_takes_12 : decode cX12_takes 12 = .ok (.invokevirtual 245, 3) := by decide +kernel
theorem dX12_takes_15 : decode cX12_takes 15 = .ok (.iconst 1, 1) := by decide +kernel
theorem dX12_takes_16 : decode cX12_takes 16 = .ok (.isub, 1) := by decide +kernel
theorem dX12_takes_17 : decode cX12_takes 17 = .ok (.aload_n 0, 1) := by decide +kernel
theorem dX12_takes_18 : decode cX12_takes 18 = .ok (.getfield 277, 3) := by decide +kernel
theorem dX12_takes_21 : decode cX12_takes 21 = .ok (.isub, 1) := by decide +kernel
theorem dX12_takes_22 : decode cX12_takes 22 = .ok (.istore_n 3, 1) := by decide +kernel
theorem dX12_takes_23 : decode cX12_takes 23 = .ok (.aload_n 0, 1) := by decide +kernel
theorem dX12_takes_24 : decode cX12_takes 24 = .ok (.aload_n 0, 1) := by decide +kernel
theorem dX12_takes_25 : decode cX12_takes 25 = .ok (.getfield 277, 3) := by decide +kernel
theorem dX12_takes_28 : decode cX12_takes 28 = .ok (.invokevirtual 257, 3) := by decide +kernel
theorem dX12_takes_31 : decode cX12_takes 31 = .ok (.iload_n 1, 1) := by decide +kernel
theorem dX12_takes_32 : decode cX12_takes 32 = .ok (.if_icmp .ne 24, 3) := by decide +kernel
theorem dX12_takes_35 : decode cX12_takes 35 = .ok (.iload_n 2, 1) := by decide +kernel
theorem dX12_takes_36 : decode cX12_takes 36 = .ok (.ifCond .gt 20, 3) := by decide +kernel
theorem dX12_takes_39 : decode cX12_takes 39 = .ok (.aload_n 0, 1) := by decide +kernel
theorem dX12_takes_40 : decode cX12_takes 40 = .ok (.iload_n 3, 1) := by decide +kernel
theorem dX12_takes_41 : decode cX12_takes 41 = .ok (.invokevirtual 251, 3) := by decide +kernel
theorem dX12_takes_44 : decode cX12_takes 44 = .ok (.ifCond .ne 12, 3) := by decide +kernel
theorem dX12_takes_47 : decode cX12_takes 47 = .ok (.aload_n 0, 1) := by decide +kernel
theorem dX12_takes_48 : decode cX12_takes 48 = .ok (.getfield 33, 3) := by decide +kernel
theorem dX12_takes_51 : decode cX12_takes 51 = .ok (.iload_n 3, 1) := by decide +kernel
theorem dX12_takes_52 : decode cX12_takes 52 = .ok (.iaload, 1) := by decide +kernel
theorem dX12_takes_53 : decode cX12_takes 53 = .ok (.ifCond .ne 4, 3) := by decide +kernel
theorem dX12_takes_56 : decode cX12_takes 56 = .ok (.return_, 1) := by decide +kernel
theorem dX12_takes_57 : decode cX12_takes 57 = .ok (.aload_n 0, 1) := by decide +kernel
theorem dX12_takes_58 : decode cX12_takes 58 = .ok (.aload_n 0, 1) := by decide +kernel
theorem dX12_takes_59 : decode cX12_takes 59 = .ok (.getfield 33, 3) := by decide +kernel
theorem dX12_takes_62 : decode cX12_takes 62 = .ok (.iload_n 3, 1) := by decide +kernel
theorem dX12_takes_63 : decode cX12_takes 63 = .ok (.iaload, 1) := by decide +kernel
theorem dX12_takes_64 : decode cX12_takes 64 = .ok (.aload_n 0, 1) := by decide +kernel
theorem dX12_takes_65 : decode cX12_takes 65 = .ok (.getfield 33, 3) := by decide +kernel
theorem dX12_takes_68 : decode cX12_takes 68 = .ok (.aload_n 0, 1) := by decide +kernel
theorem dX12_takes_69 : decode cX12_takes 69 = .ok (.getfield 277, 3) := by decide +kernel
theorem dX12_takes_72 : decode cX12_takes 72 = .ok (.iaload, 1) := by decide +kernel
theorem dX12_takes_73 : decode cX12_takes 73 = .ok (.iadd, 1) := by decide +kernel
theorem dX12_takes_74 : decode cX12_takes 74 = .ok (.putfield 266, 3) := by decide +kernel
theorem dX12_takes_77 : decode cX12_takes 77 = .ok (.aload_n 0, 1) := by decide +kernel
theorem dX12_takes_78 : decode cX12_takes 78 = .ok (.getfield 33, 3) := by decide +kernel
theorem dX12_takes_81 : decode cX12_takes 81 = .ok (.iload_n 3, 1) := by decide +kernel
theorem dX12_takes_82 : decode cX12_takes 82 = .ok (.iconst 0, 1) := by decide +kernel
theorem dX12_takes_83 : decode cX12_takes 83 = .ok (.iastore, 1) := by decide +kernel
theorem dX12_takes_84 : decode cX12_takes 84 = .ok (.aload_n 0, 1) := by decide +kernel
theorem dX12_takes_85 : decode cX12_takes 85 = .ok (.getfield 33, 3) := by decide +kernel
theorem dX12_takes_88 : decode cX12_takes 88 = .ok (.aload_n 0, 1) := by decide +kernel
theorem dX12_takes_89 : decode cX12_takes 89 = .ok (.getfield 277, 3) := by decide +kernel
theorem dX12_takes_92 : decode cX12_takes 92 = .ok (.iconst 0, 1) := by decide +kernel
theorem dX12_takes_93 : decode cX12_takes 93 = .ok (.iastore, 1) := by decide +kernel
theorem dX12_takes_94 : decode cX12_takes 94 = .ok (.goto 159, 3) := by decide +kernel
theorem dX12_takes_97 : decode cX12_takes 97 = .ok (.aload_n 0, 1) := by decide +kernel
theorem dX12_takes_98 : decode cX12_takes 98 = .ok (.getfield 9, 3) := by decide +kernel
theorem dX12_takes_101 : decode cX12_takes 101 = .ok (.bipush 7, 2) := by decide +kernel
theorem dX12_takes_103 : decode cX12_takes 103 = .ok (.iaload, 1) := by decide +kernel
theorem dX12_takes_104 : decode cX12_takes 104 = .ok (.iconst 2, 1) := by decide +kernel
theorem dX12_takes_105 : decode cX12_takes 105 = .ok (.if_icmp .ne 148, 3) := by decide +kernel
theorem dX12_takes_108 : decode cX12_takes 108 = .ok (.iconst 0, 1) := by decide +kernel
theorem dX12_takes_109 : decode cX12_takes 109 = .ok (.istore_n 3, 1) := by decide +kernel
theorem dX12_takes_110 : decode cX12_takes 110 = .ok (.iconst 0, 1) := by decide +kernel
theorem dX12_takes_111 : decode cX12_takes 111 = .ok (.istore 4, 2) := by decide +kernel
theorem dX12_takes_113 : decode cX12_takes 113 = .ok (.aload_n 0, 1) := by decide +kernel
theorem dX12_takes_114 : decode cX12_takes 114 = .ok (.getfield 277, 3) := by decide +kernel
theorem dX12_takes_117 : decode cX12_takes 117 = .ok (.istore 5, 2) := by decide +kernel
theorem dX12_takes_119 : decode cX12_takes 119 = .ok (.iload 5, 2) := by decide +kernel
theorem dX12_takes_121 : decode cX12_takes 121 = .ok (.iconst (-1), 1) := by decide +kernel
theorem dX12_takes_122 : decode cX12_takes 122 = .ok (.if_icmp .eq 65, 3) := by decide +kernel
theorem dX12_takes_125 : decode cX12_takes 125 = .ok (.aload_n 0, 1) := by decide +kernel
theorem dX12_takes_126 : decode cX12_takes 126 = .ok (.iload 5, 2) := by decide +kernel
theorem dX12_takes_128 : decode cX12_takes 128 = .ok (.invokevirtual 257, 3) := by decide +kernel
theorem dX12_takes_131 : decode cX12_takes 131 = .ok (.iload_n 1, 1) := by decide +kernel
theorem dX12_takes_132 : decode cX12_takes 132 = .ok (.if_icmp .eq 55, 3) := by decide +kernel
theorem dX12_takes_135 : decode cX12_takes 135 = .ok (.aload_n 0, 1) := by decide +kernel
theorem dX12_takes_136 : decode cX12_takes 136 = .ok (.getfield 33, 3) := by decide +kernel
theorem dX12_takes_139 : decode cX12_takes 139 = .ok (.iload 5, 2) := by decide +kernel
theorem dX12_takes_141 : decode cX12_takes 141 = .ok (.iaload, 1) := by decide +kernel
theorem dX12_takes_142 : decode cX12_takes 142 = .ok (.iconst 2, 1) := by decide +kernel
theorem dX12_takes_143 : decode cX12_takes 143 = .ok (.if_icmp .eq 14, 3) := by decide +kernel
theorem dX12_takes_146 : decode cX12_takes 146 = .ok (.aload_n 0, 1) := by decide +kernel
theorem dX12_takes_147 : decode cX12_takes 147 = .ok (.getfield 33, 3) := by decide +kernel
theorem dX12_takes_150 : decode cX12_takes 150 = .ok (.iload 5, 2) := by decide +kernel
theorem dX12_takes_152 : decode cX12_takes 152 = .ok (.iaload, 1) := by decide +kernel
theorem dX12_takes_153 : decode cX12_takes 153 = .ok (.iconst 3, 1) := by decide +kernel
theorem dX12_takes_154 : decode cX12_takes 154 = .ok (.if_icmp .ne 33, 3) := by decide +kernel
theorem dX12_takes_157 : decode cX12_takes 157 = .ok (.iload_n 3, 1) := by decide +kernel
theorem dX12_takes_158 : decode cX12_takes 158 = .ok (.iconst 1, 1) := by decide +kernel
theorem dX12_takes_159 : decode cX12_takes 159 = .ok (.iload 5, 2) := by decide +kernel
theorem dX12_takes_161 : decode cX12_takes 161 = .ok (.ishl, 1) := by decide +kernel
theorem dX12_takes_162 : decode cX12_takes 162 = .ok (.ior, 1) := by decide +kernel
theorem dX12_takes_163 : decode cX12_takes 163 = .ok (.istore_n 3, 1) := by decide +kernel
theorem dX12_takes_164 : decode cX12_takes 164 = .ok (.iload 4, 2) := by decide +kernel
theorem dX12_takes_166 : decode cX12_takes 166 = .ok (.aload_n 0, 1) := by decide +kernel
theorem dX12_takes_167 : decode cX12_takes 167 = .ok (.getfield 33, 3) := by decide +kernel
theorem dX12_takes_170 : decode cX12_takes 170 = .ok (.iload 5, 2) := by decide +kernel
theorem dX12_takes_172 : decode cX12_takes 172 = .ok (.iaload, 1) := by decide +kernel
theorem dX12_takes_173 : decode cX12_takes 173 = .ok (.iadd, 1) := by decide +kernel
theorem dX12_takes_174 : decode cX12_takes 174 = .ok (.istore 4, 2) := by decide +kernel
theorem dX12_takes_176 : decode cX12_takes 176 = .ok (.aload_n 0, 1) := by decide +kernel
theorem dX12_takes_177 : decode cX12_takes 177 = .ok (.iload 5, 2) := by decide +kernel
theorem dX12_takes_179 : decode cX12_takes 179 = .ok (.invokevirtual 287, 3) := by decide +kernel
theorem dX12_takes_182 : decode cX12_takes 182 = .ok (.istore 5, 2) := by decide +kernel
theorem dX12_takes_184 : decode cX12_takes 184 = .ok (.goto (-65), 3) := by decide +kernel
theorem dX12_takes_187 : decode cX12_takes 187 = .ok (.aload_n 0, 1) := by decide +kernel
theorem dX12_takes_188 : decode cX12_takes 188 = .ok (.getfield 9, 3) := by decide +kernel
theorem dX12_takes_191 : decode cX12_takes 191 = .ok (.bipush 8, 2) := by decide +kernel
theorem dX12_takes_193 : decode cX12_takes 193 = .ok (.iaload, 1) := by decide +kernel
theorem dX12_takes_194 : decode cX12_takes 194 = .ok (.iconst 1, 1) := by decide +kernel
theorem dX12_takes_195 : decode cX12_takes 195 = .ok (.if_icmp .ne 16, 3) := by decide +kernel
theorem dX12_takes_198 : decode cX12_takes 198 = .ok (.iload 4, 2) := by decide +kernel
theorem dX12_takes_200 : decode cX12_takes 200 = .ok (.aload_n 0, 1) := by decide +kernel
theorem dX12_takes_201 : decode cX12_takes 201 = .ok (.iconst 1, 1) := by decide +kernel
theorem dX12_takes_202 : decode cX12_takes 202 = .ok (.iload_n 1, 1) := by decide +kernel
theorem dX12_takes_203 : decode cX12_takes 203 = .ok (.isub, 1) := by decide +kernel
theorem dX12_takes_204 : decode cX12_takes 204 = .ok (.invokevirtual 290, 3) := by decide +kernel
theorem dX12_takes_207 : decode cX12_takes 207 = .ok (.if_icmp .ne 4, 3) := by decide +kernel
theorem dX12_takes_210 : decode cX12_takes 210 = .ok (.return_, 1) := by decide +kernel
theorem dX12_takes_211 : decode cX12_takes 211 = .ok (.aload_n 0, 1) := by decide +kernel
theorem dX12_takes_212 : decode cX12_takes 212 = .ok (.iload 4, 2) := by decide +kernel
theorem dX12_takes_214 : decode cX12_takes 214 = .ok (.putfield 266, 3) := by decide +kernel
theorem dX12_takes_217 : decode cX12_takes 217 = .ok (.iconst 0, 1) := by decide +kernel
theorem dX12_takes_218 : decode cX12_takes 218 = .ok (.istore 5, 2) := by decide +kernel
theorem dX12_takes_220 : decode cX12_takes 220 = .ok (.iload 5, 2) := by decide +kernel
theorem dX12_takes_222 : decode cX12_takes 222 = .ok (.aload_n 0, 1) := by decide +kernel
theorem dX12_takes_223 : decode cX12_takes 223 = .ok (.invokevirtual 245, 3) := by decide +kernel
theorem dX12_takes_226 : decode cX12_takes 226 = .ok (.if_icmp .ge 27, 3) := by decide +kernel
theorem dX12_takes_229 : decode cX12_takes 229 = .ok (.iload_n 3, 1) := by decide +kernel
theorem dX12_takes_230 : decode cX12_takes 230 = .ok (.iload 5, 2) := by decide +kernel
theorem dX12_takes_232 : decode cX12_takes 232 = .ok (.ishr, 1) := by decide +kernel
theorem dX12_takes_233 : decode cX12_takes 233 = .ok (.iconst 1, 1) := by decide +kernel
theorem dX12_takes_234 : decode cX12_takes 234 = .ok (.iand, 1) := by decide +kernel
theorem dX12_takes_235 : decode cX12_takes 235 = .ok (.iconst 1, 1) := by decide +kernel
theorem dX12_takes_236 : decode cX12_takes 236 = .ok (.if_icmp .ne 11, 3) := by decide +kernel
theorem dX12_takes_239 : decode cX12_takes 239 = .ok (.aload_n 0, 1) := by decide +kernel
theorem dX12_takes_240 : decode cX12_takes 240 = .ok (.getfield 33, 3) := by decide +kernel
theorem dX12_takes_243 : decode cX12_takes 243 = .ok (.iload 5, 2) := by decide +kernel
theorem dX12_takes_245 : decode cX12_takes 245 = .ok (.iconst 0, 1) := by decide +kernel
theorem dX12_takes_246 : decode cX12_takes 246 = .ok (.iastore, 1) := by decide +kernel
theorem dX12_takes_247 : decode cX12_takes 247 = .ok (.iinc 5 1, 3) := by decide +kernel
theorem dX12_takes_250 : decode cX12_takes 250 = .ok (.goto (-30), 3) := by decide +kernel
theorem dX12_takes_253 : decode cX12_takes 253 = .ok (.return_, 1) := by decide +kernel
theorem dX12_trayFault_0 : decode cX12_trayFault 0 = .ok (.iload_n 1, 1) := by decide +kernel
theorem dX12_trayFault_1 : decode cX12_trayFault 1 = .ok (.invokestatic 335, 3) := by decide +kernel
theorem dX12_trayFault_4 : decode cX12_trayFault 4 = .ok (.ifCond .ne 7, 3) := by decide +kernel
theorem dX12_trayFault_7 : decode cX12_trayFault 7 = .ok (.iconst 1, 1) := by decide +kernel
theorem dX12_trayFault_8 : decode cX12_trayFault 8 = .ok (.goto 18, 3) := by decide +kernel
theorem dX12_trayFault_11 : decode cX12_trayFault 11 = .ok (.aload_n 0, 1) := by decide +kernel
theorem dX12_trayFault_12 : decode cX12_trayFault 12 = .ok (.getfield 97, 3) := by decide +kernel
theorem dX12_trayFault_15 : decode cX12_trayFault 15 = .ok (.iload_n 1, 1) := by decide +kernel
theorem dX12_trayFault_16 : decode cX12_trayFault 16 = .ok (.iaload, 1) := by decide +kernel
theorem dX12_trayFault_17 : decode cX12_trayFault 17 = .ok (.iconst (-1), 1) := by decide +kernel
theorem dX12_trayFault_18 : decode cX12_trayFault 18 = .ok (.if_icmp .ne 7, 3) := by decide +kernel
theorem dX12_trayFault_21 : decode cX12_trayFault 21 = .ok (.iconst 2, 1) := by decide +kernel
theorem dX12_trayFault_22 : decode cX12_trayFault 22 = .ok (.goto 4, 3) := by decide +kernel
theorem dX12_trayFault_25 : decode cX12_trayFault 25 = .ok (.iconst 0, 1) := by decide +kernel
theorem dX12_trayFault_26 : decode cX12_trayFault 26 = .ok (.ireturn, 1) := by decide +kernel
theorem dX12_betters_0 : decode cX12_betters 0 = .ok (.aload_n 0, 1) := by decide +kernel
theorem dX12_betters_1 : decode cX12_betters 1 = .ok (.getfield 70, 3) := by decide +kernel
theorem dX12_betters_4 : decode cX12_betters 4 = .ok (.iload_n 1, 1) := by decide +kernel
theorem dX12_betters_5 : decode cX12_betters 5 = .ok (.baload, 1) := by decide +kernel
theorem dX12_betters_6 : decode cX12_betters 6 = .ok (.ifCond .eq 5, 3) := by decide +kernel
theorem dX12_betters_9 : decode cX12_betters 9 = .ok (.iconst 0, 1) := by decide +kernel
theorem dX12_betters_10 : decode cX12_betters 10 = .ok (.ireturn, 1) := by decide +kernel
theorem dX12_betters_11 : decode cX12_betters 11 = .ok (.sipush (-1000), 3) := by decide +kernel
theorem dX12_betters_14 : decode cX12_betters 14 = .ok (.istore 4, 2) := by decide +kernel
theorem dX12_betters_16 : decode cX12_betters 16 = .ok (.iconst 0, 1) := by decide +kernel
theorem dX12_betters_17 : decode cX12_betters 17 = .ok (.istore 5, 2) := by decide +kernel
theorem dX12_betters_19 : decode cX12_betters 19 = .ok (.iload 5, 2) := by decide +kernel
theorem dX12_betters_21 : decode cX12_betters 21 = .ok (.aload_n 0, 1) := by decide +kernel
theorem dX12_betters_22 : decode cX12_betters 22 = .ok (.getfield 9, 3) := by decide +kernel
theorem dX12_betters_25 : decode cX12_betters 25 = .ok (.iconst 1, 1) := by decide +kernel
theorem dX12_betters_26 : decode cX12_betters 26 = .ok (.iaload, 1) := by decide +kernel
theorem dX12_betters_27 : decode cX12_betters 27 = .ok (.if_icmp .ge 72, 3) := by decide +kernel
theorem dX12_betters_30 : decode cX12_betters 30 = .ok (.aload_n 0, 1) := by decide +kernel
theorem dX12_betters_31 : decode cX12_betters 31 = .ok (.getfield 61, 3) := by decide +kernel
theorem dX12_betters_34 : decode cX12_betters 34 = .ok (.bipush 6, 2) := by decide +kernel
theorem dX12_betters_36 : decode cX12_betters 36 = .ok (.iload_n 1, 1) := by decide +kernel
theorem dX12_betters_37 : decode cX12_betters 37 = .ok (.imul, 1) := by decide +kernel
theorem dX12_betters_38 : decode cX12_betters 38 = .ok (.iload 5, 2) := by decide +kernel
theorem dX12_betters_40 : decode cX12_betters 40 = .ok (.iadd, 1) := by decide +kernel
theorem dX12_betters_41 : decode cX12_betters 41 = .ok (.iaload, 1) := by decide +kernel
theorem dX12_betters_42 : decode cX12_betters 42 = .ok (.istore 6, 2) := by decide +kernel
theorem dX12_betters_44 : decode cX12_betters 44 = .ok (.iload 6, 2) := by decide +kernel
theorem dX12_betters_46 : decode cX12_betters 46 = .ok (.iconst (-1), 1) := by decide +kernel
theorem dX12_betters_47 : decode cX12_betters 47 = .ok (.if_icmp .ne 6, 3) := by decide +kernel
theorem dX12_betters_50 : decode cX12_betters 50 = .ok (.goto 43, 3) := by decide +kernel
theorem dX12_betters_53 : decode cX12_betters 53 = .ok (.iload 4, 2) := by decide +kernel
theorem dX12_betters_55 : decode cX12_betters 55 = .ok (.aload_n 0, 1) := by decide +kernel
theorem dX12_betters_56 : decode cX12_betters 56 = .ok (.iload_n 1, 1) := by decide +kernel
theorem dX12_betters_57 : decode cX12_betters 57 = .ok (.iload 5, 2) := by decide +kernel
theorem dX12_betters_59 : decode cX12_betters 59 = .ok (.aload_n 0, 1) := by decide +kernel
theorem dX12_betters_60 : decode cX12_betters 60 = .ok (.getfield 64, 3) := by decide +kernel
theorem dX12_betters_63 : decode cX12_betters 63 = .ok (.bipush 6, 2) := by decide +kernel
theorem dX12_betters_65 : decode cX12_betters 65 = .ok (.iload_n 1, 1) := by decide +kernel
theorem dX12_betters_66 : decode cX12_betters 66 = .ok (.imul, 1) := by decide +kernel
theorem dX12_betters_67 : decode cX12_betters 67 = .ok (.iload 5, 2) := by decide +kernel
theorem dX12_betters_69 : decode cX12_betters 69 = .ok (.iadd, 1) := by decide +kernel
theorem dX12_betters_70 : decode cX12_betters 70 = .ok (.iaload, 1) := by decide +kernel
theorem dX12_betters_71 : decode cX12_betters 71 = .ok (.ifCond .le 10, 3) := by decide +kernel
theorem dX12_betters_74 : decode cX12_betters 74 = .ok (.aload_n 0, 1) := by decide +kernel
theorem dX12_betters_75 : decode cX12_betters 75 = .ok (.getfield 51, 3) := by decide +kernel
theorem dX12_betters_78 : decode cX12_betters 78 = .ok (.goto 7, 3) := by decide +kernel
theorem dX12_betters_81 : decode cX12_betters 81 = .ok (.aload_n 0, 1) := by decide +kernel
theorem dX12_betters_82 : decode cX12_betters 82 = .ok (.getfield 57, 3) := by decide +kernel
theorem dX12_betters_85 : decode cX12_betters 85 = .ok (.invokevirtual 398, 3) := by decide +kernel
theorem dX12_betters_88 : decode cX12_betters 88 = .ok (.invokestatic 402, 3) := by decide +kernel
theorem dX12_betters_91 : decode cX12_betters 91 = .ok (.istore 4, 2) := by decide +kernel
theorem dX12_betters_93 : decode cX12_betters 93 = .ok (.iinc 5 1, 3) := by decide +kernel
theorem dX12_betters_96 : decode cX12_betters 96 = .ok (.goto (-77), 3) := by decide +kernel
theorem dX12_betters_99 : decode cX12_betters 99 = .ok (.iload 4, 2) := by decide +kernel
theorem dX12_betters_101 : decode cX12_betters 101 = .ok (.aload_n 0, 1) := by decide +kernel
theorem dX12_betters_102 : decode cX12_betters 102 = .ok (.getfield 51, 3) := by decide +kernel
theorem dX12_betters_105 : decode cX12_betters 105 = .ok (.iload_n 1, 1) := by decide +kernel
theorem dX12_betters_106 : decode cX12_betters 106 = .ok (.iaload, 1) := by decide +kernel
theorem dX12_betters_107 : decode cX12_betters 107 = .ok (.if_icmp .ne 5, 3) := by decide +kernel
theorem dX12_betters_110 : decode cX12_betters 110 = .ok (.iconst 0, 1) := by decide +kernel
theorem dX12_betters_111 : decode cX12_betters 111 = .ok (.ireturn, 1) := by decide +kernel
theorem dX12_betters_112 : decode cX12_betters 112 = .ok (.aload_n 0, 1) := by decide +kernel
theorem dX12_betters_113 : decode cX12_betters 113 = .ok (.getfield 51, 3) := by decide +kernel
theorem dX12_betters_116 : decode cX12_betters 116 = .ok (.iload_n 1, 1) := by decide +kernel
theorem dX12_betters_117 : decode cX12_betters 117 = .ok (.iload 4, 2) := by decide +kernel
theorem dX12_betters_119 : decode cX12_betters 119 = .ok (.iastore, 1) := by decide +kernel
theorem dX12_betters_120 : decode cX12_betters 120 = .ok (.aload_n 0, 1) := by decide +kernel
theorem dX12_betters_121 : decode cX12_betters 121 = .ok (.getfield 54, 3) := by decide +kernel
theorem dX12_betters_124 : decode cX12_betters 124 = .ok (.iload_n 1, 1) := by decide +kernel
theorem dX12_betters_125 : decode cX12_betters 125 = .ok (.iload_n 3, 1) := by decide +kernel
theorem dX12_betters_126 : decode cX12_betters 126 = .ok (.iastore, 1) := by decide +kernel
theorem dX12_betters_127 : decode cX12_betters 127 = .ok (.iconst 1, 1) := by decide +kernel
theorem dX12_betters_128 : decode cX12_betters 128 = .ok (.ireturn, 1) := by decide +kernel
theorem dX12_write_0 : decode cX12_write 0 = .ok (.aload_n 0, 1) := by decide +kernel
theorem dX12_write_1 : decode cX12_write 1 = .ok (.aload_n 0, 1) := by decide +kernel
theorem dX12_write_2 : decode cX12_write 2 = .ok (.iload_n 1, 1) := by decide +kernel
theorem dX12_write_3 : decode cX12_write 3 = .ok (.invokevirtual 340, 3) := by decide +kernel
theorem dX12_write_6 : decode cX12_write 6 = .ok (.putfield 107, 3) := by decide +kernel
theorem dX12_write_9 : decode cX12_write 9 = .ok (.aload_n 0, 1) := by decide +kernel
theorem dX12_write_10 : decode cX12_write 10 = .ok (.getfield 107, 3) := by decide +kernel
theorem dX12_write_13 : decode cX12_write 13 = .ok (.ifCond .le 5, 3) := by decide +kernel
theorem dX12_write_16 : decode cX12_write 16 = .ok (.lconst 0, 1) := by decide +kernel
theorem dX12_write_17 : decode cX12_write 17 = .ok (.lreturn, 1) := by decide +kernel
theorem dX12_write_18 : decode cX12_write 18 = .ok (.iload_n 2, 1) := by decide +kernel
theorem dX12_write_19 : decode cX12_write 19 = .ok (.i2l, 1) := by decide +kernel
theorem dX12_write_20 : decode cX12_write 20 = .ok (.lconst 0, 1) := by decide +kernel
theorem dX12_write_21 : decode cX12_write 21 = .ok (.aload_n 0, 1) := by decide +kernel
theorem dX12_write_22 : decode cX12_write 22 = .ok (.getfield 100, 3) := by decide +kernel
theorem dX12_write_25 : decode cX12_write 25 = .ok (.iload_n 1, 1) := by decide +kernel
theorem dX12_write_26 : decode cX12_write 26 = .ok (.iaload, 1) := by decide +kernel
theorem dX12_write_27 : decode cX12_write 27 = .ok (.iconst 1, 1) := by decide +kernel
theorem dX12_write_28 : decode cX12_write 28 = .ok (.isub, 1) := by decide +kernel
theorem dX12_write_29 : decode cX12_write 29 = .ok (.i2l, 1) := by decide +kernel
theorem dX12_write_30 : decode cX12_write 30 = .ok (.invokestatic 166, 3) := by decide +kernel
theorem dX12_write_33 : decode cX12_write 33 = .ok (.ifCond .eq 13, 3) := by decide +kernel
theorem dX12_write_36 : decode cX12_write 36 = .ok (.aload_n 0, 1) := by decide +kernel
theorem dX12_write_37 : decode cX12_write 37 = .ok (.iload_n 1, 1) := by decide +kernel
theorem dX12_write_38 : decode cX12_write 38 = .ok (.iload_n 2, 1) := by decide +kernel
theorem dX12_write_39 : decode cX12_write 39 = .ok (.lload_n 3, 1) := by decide +kernel
theorem dX12_write_40 : decode cX12_write 40 = .ok (.invokevirtual 475, 3) := by decide +kernel
theorem dX12_write_43 : decode cX12_write 43 = .ok (.goto 9, 3) := by decide +kernel
theorem dX12_write_46 : decode cX12_write 46 = .ok (.aload_n 0, 1) := by decide +kernel
theorem dX12_write_47 : decode cX12_write 47 = .ok (.iconst 3, 1) := by decide +kernel
theorem dX12_write_48 : decode cX12_write 48 = .ok (.invokevirtual 221, 3) := by decide +kernel
theorem dX12_write_51 : decode cX12_write 51 = .ok (.i2l, 1) := by decide +kernel
theorem dX12_write_52 : decode cX12_write 52 = .ok (.lreturn, 1) := by decide +kernel
