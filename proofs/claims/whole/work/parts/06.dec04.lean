theorem dX12_readStored_0 : decode cX12_readStored 0 = .ok (.aload_n 0, 1) := by decide +kernel
theorem dX12_readStored_1 : decode cX12_readStored 1 = .ok (.iconst 0, 1) := by decide +kernel
theorem dX12_readStored_2 : decode cX12_readStored 2 = .ok (.bipush 99, 2) := by decide +kernel
theorem dX12_readStored_4 : decode cX12_readStored 4 = .ok (.invokevirtual 172, 3) := by decide +kernel
theorem dX12_readStored_7 : decode cX12_readStored 7 = .ok (.istore_n 1, 1) := by decide +kernel
theorem dX12_readStored_8 : decode cX12_readStored 8 = .ok (.aload_n 0, 1) := by decide +kernel
theorem dX12_readStored_9 : decode cX12_readStored 9 = .ok (.iconst 0, 1) := by decide +kernel
theorem dX12_readStored_10 : decode cX12_readStored 10 = .ok (.bipush 99, 2) := by decide +kernel
theorem dX12_readStored_12 : decode cX12_readStored 12 = .ok (.invokevirtual 172, 3) := by decide +kernel
theorem dX12_readStored_15 : decode cX12_readStored 15 = .ok (.istore_n 2, 1) := by decide +kernel
theorem dX12_readStored_16 : decode cX12_readStored 16 = .ok (.aload_n 0, 1) := by decide +kernel
theorem dX12_readStored_17 : decode cX12_readStored 17 = .ok (.getfield 13, 3) := by decide +kernel
theorem dX12_readStored_20 : decode cX12_readStored 20 = .ok (.bipush 11, 2) := by decide +kernel
theorem dX12_readStored_22 : decode cX12_readStored 22 = .ok (.iload_n 1, 1) := by decide +kernel
theorem dX12_readStored_23 : decode cX12_readStored 23 = .ok (.iastore, 1) := by decide +kernel
theorem dX12_readStored_24 : decode cX12_readStored 24 = .ok (.aload_n 0, 1) := by decide +kernel
theorem dX12_readStored_25 : decode cX12_readStored 25 = .ok (.getfield 13, 3) := by decide +kernel
theorem dX12_readStored_28 : decode cX12_readStored 28 = .ok (.bipush 12, 2) := by decide +kernel
theorem dX12_readStored_30 : decode cX12_readStored 30 = .ok (.iload_n 2, 1) := by decide +kernel
theorem dX12_readStored_31 : decode cX12_readStored 31 = .ok (.iastore, 1) := by decide +kernel
theorem dX12_readStored_32 : decode cX12_readStored 32 = .ok (.return_, 1) := by decide +kernel
theorem dX12_lacks_0 : decode cX12_lacks 0 = .ok (.aload_n 0, 1) := by decide +kernel
theorem dX12_lacks_1 : decode cX12_lacks 1 = .ok (.getfield 139, 3) := by decide +kernel
theorem dX12_lacks_4 : decode cX12_lacks 4 = .ok (.ifCond .ne 15, 3) := by decide +kernel
theorem dX12_lacks_7 : decode cX12_lacks 7 = .ok (.aload_n 0, 1) := by decide +kernel
theorem dX12_lacks_8 : decode cX12_lacks 8 = .ok (.getfield 13, 3) := by decide +kernel
theorem dX12_lacks_11 : decode cX12_lacks 11 = .ok (.iconst 3, 1) := by decide +kernel
theorem dX12_lacks_12 : decode cX12_lacks 12 = .ok (.dup2, 1) := by decide +kernel
theorem dX12_lacks_13 : decode cX12_lacks 13 = .ok (.iaload, 1) := by decide +kernel
theorem dX12_lacks_14 : decode cX12_lacks 14 = .ok (.iconst 1, 1) := by decide +kernel
theorem dX12_lacks_15 : decode cX12_lacks 15 = .ok (.iload_n 1, 1) := by decide +kernel
theorem dX12_lacks_16 : decode cX12_lacks 16 = .ok (.ishl, 1) := by decide +kernel
theorem dX12_lacks_17 : decode cX12_lacks 17 = .ok (.ior, 1) := by decide +kernel
theorem dX12_lacks_18 : decode cX12_lacks 18 = .ok (.iastore, 1) := by decide +kernel
theorem dX12_lacks_19 : decode cX12_lacks 19 = .ok (.return_, 1) := by decide +kernel
theorem dX12_isWrong_0 : decode cX12_isWrong 0 = .ok (.iconst 0, 1) := by decide +kernel
theorem dX12_isWrong_1 : decode cX12_isWrong 1 = .ok (.istore_n 1, 1) := by decide +kernel
theorem dX12_isWrong_2 : decode cX12_isWrong 2 = .ok (.iconst 0, 1) := by decide +kernel
theorem dX12_isWrong_3 : decode cX12_isWrong 3 = .ok (.istore_n 2, 1) := by decide +kernel
theorem dX12_isWrong_4 : decode cX12_isWrong 4 = .ok (.iconst 0, 1) := by decide +kernel
theorem dX12_isWrong_5 : decode cX12_isWrong 5 = .ok (.istore_n 3, 1) := by decide +kernel
theorem dX12_isWrong_6 : decode cX12_isWrong 6 = .ok (.iload_n 3, 1) := by decide +kernel
theorem dX12_isWrong_7 : decode cX12_isWrong 7 = .ok (.iconst 2, 1) := by decide +kernel
theorem dX12_isWrong_8 : decode cX12_isWrong 8 = .ok (.aload_n 0, 1) := by decide +kernel
theorem dX12_isWrong_9 : decode cX12_isWrong 9 = .ok (.getfield 13, 3) := by decide +kernel
theorem dX12_isWrong_12 : decode cX12_isWrong 12 = .ok (.iconst 1, 1) := by decide +kernel
theorem dX12_isWrong_13 : decode cX12_isWrong 13 = .ok (.iaload, 1) := by decide +kernel
theorem dX12_isWrong_14 : decode cX12_isWrong 14 = .ok (.imul, 1) := by decide +kernel
theorem dX12_isWrong_15 : decode cX12_isWrong 15 = .ok (.if_icmp .ge 57, 3) := by decide +kernel
theorem dX12_isWrong_18 : decode cX12_isWrong 18 = .ok (.iload_n 1, 1) := by decide +kernel
theorem dX12_isWrong_19 : decode cX12_isWrong 19 = .ok (.aload_n 0, 1) := by decide +kernel
theorem dX12_isWrong_20 : decode cX12_isWrong 20 = .ok (.getfield 13, 3) := by decide +kernel
theorem dX12_isWrong_23 : decode cX12_isWrong 23 = .ok (.bipush 13, 2) := by decide +kernel
theorem dX12_isWrong_25 : decode cX12_isWrong 25 = .ok (.iload_n 3, 1) := by decide +kernel
theorem dX12_isWrong_26 : decode cX12_isWrong 26 = .ok (.iadd, 1) := by decide +kernel
theorem dX12_isWrong_27 : decode cX12_isWrong 27 = .ok (.iaload, 1) := by decide +kernel
theorem dX12_isWrong_28 : decode cX12_isWrong 28 = .ok (.iadd, 1) := by decide +kernel
theorem dX12_isWrong_29 : decode cX12_isWrong 29 = .ok (.istore_n 1, 1) := by decide +kernel
theorem dX12_isWrong_30 : decode cX12_isWrong 30 = .ok (.iload_n 2, 1) := by decide +kernel
theorem dX12_isWrong_31 : decode cX12_isWrong 31 = .ok (.ifCond .ne 29, 3) := by decide +kernel
theorem dX12_isWrong_34 : decode cX12_isWrong 34 = .ok (.aload_n 0, 1) := by decide +kernel
theorem dX12_isWrong_35 : decode cX12_isWrong 35 = .ok (.getfield 13, 3) := by decide +kernel
theorem dX12_isWrong_38 : decode cX12_isWrong 38 = .ok (.bipush 13, 2) := by decide +kernel
theorem dX12_isWrong_40 : decode cX12_isWrong 40 = .ok (.iload_n 3, 1) := by decide +kernel
theorem dX12_isWrong_41 : decode cX12_isWrong 41 = .ok (.iadd, 1) := by decide +kernel
theorem dX12_isWrong_42 : decode cX12_isWrong 42 = .ok (.iaload, 1) := by decide +kernel
theorem dX12_isWrong_43 : decode cX12_isWrong 43 = .ok (.ifCond .le 21, 3) := by decide +kernel
theorem dX12_isWrong_46 : decode cX12_isWrong 46 = .ok (.aload_n 0, 1) := by decide +kernel
theorem dX12_isWrong_47 : decode cX12_isWrong 47 = .ok (.getfield 13, 3) := by decide +kernel
theorem dX12_isWrong_50 : decode cX12_isWrong 50 = .ok (.iconst 3, 1) := by decide +kernel
theorem dX12_isWrong_51 : decode cX12_isWrong 51 = .ok (.iaload, 1) := by decide +kernel
theorem dX12_isWrong_52 : decode cX12_isWrong 52 = .ok (.iload_n 3, 1) := by decide +kernel
theorem dX12_isWrong_53 : decode cX12_isWrong 53 = .ok (.ishr, 1) := by decide +kernel
theorem dX12_isWrong_54 : decode cX12_isWrong 54 = .ok (.iconst 1, 1) := by decide +kernel
theorem dX12_isWrong_55 : decode cX12_isWrong 55 = .ok (.iand, 1) := by decide +kernel
theorem dX12_isWrong_56 : decode cX12_isWrong 56 = .ok (.iconst 1, 1) := by decide +kernel
theorem dX12_isWrong_57 : decode cX12_isWrong 57 = .ok (.if_icmp .ne 7, 3) := by decide +kernel
theorem dX12_isWrong_60 : decode cX12_isWrong 60 = .ok (.iconst 1, 1) := by decide +kernel
theorem dX12_isWrong_61 : decode cX12_isWrong 61 = .ok (.goto 4, 3) := by decide +kernel
theorem dX12_isWrong_64 : decode cX12_isWrong 64 = .ok (.iconst 0, 1) := by decide +kernel
theorem dX12_isWrong_65 : decode cX12_isWrong 65 = .ok (.istore_n 2, 1) := by decide +kernel
theorem dX12_isWrong_66 : decode cX12_isWrong 66 = .ok (.iinc 3 1, 3) := by decide +kernel
theorem dX12_isWrong_69 : decode cX12_isWrong 69 = .ok (.goto (-63), 3) := by decide +kernel
theorem dX12_isWrong_72 : decode cX12_isWrong 72 = .ok (.iload_n 2, 1) := by decide +kernel
theorem dX12_isWrong_73 : decode cX12_isWrong 73 = .ok (.ifCond .ne 9, 3) := by decide +kernel
theorem dX12_isWrong_76 : decode cX12_isWrong 76 = .ok (.iload_n 1, 1) := by decide +kernel
theorem dX12_isWrong_77 : decode cX12_isWrong 77 = .ok (.bipush 40, 2) := by decide +kernel
theorem dX12_isWrong_79 : decode cX12_isWrong 79 = .ok (.if_icmp .le 7, 3) := by decide +kernel
theorem dX12_isWrong_82 : decode cX12_isWrong 82 = .ok (.iconst 1, 1) := by decide +kernel
theorem dX12_isWrong_83 : decode cX12_isWrong 83 = .ok (.goto 4, 3) := by decide +kernel
theorem dX12_isWrong_86 : decode cX12_isWrong 86 = .ok (.iconst 0, 1) := by decide +kernel
theorem dX12_isWrong_87 : decode cX12_isWrong 87 = .ok (.ireturn, 1) := by decide +kernel
theorem dX12_board_0 : decode cX12_board 0 = .ok (.aload_n 0, 1) := by decide +kernel
theorem dX12_board_1 : decode cX12_board 1 = .ok (.iconst 0, 1) := by decide +kernel
theorem dX12_board_2 : decode cX12_board 2 = .ok (.putfield 107, 3) := by decide +kernel
theorem dX12_board_5 : decode cX12_board 5 = .ok (.iload_n 1, 1) := by decide +kernel
theorem dX12_board_6 : decode cX12_board 6 = .ok (.i2l, 1) := by decide +kernel
theorem dX12_board_7 : decode cX12_board 7 = .ok (.lconst 0, 1) := by decide +kernel
theorem dX12_board_8 : decode cX12_board 8 = .ok (.aload_n 0, 1) := by decide +kernel
theorem dX12_board_9 : decode cX12_board 9 = .ok (.getfield 110, 3) := by decide +kernel
theorem dX12_board_12 : decode cX12_board 12 = .ok (.i2l, 1) := by decide +kernel
theorem dX12_board_13 : decode cX12_board 13 = .ok (.invokestatic 166, 3) := by decide +kernel
theorem dX12_board_16 : decode cX12_board 16 = .ok (.ifCond .ne 9, 3) := by decide +kernel
theorem dX12_board_19 : decode cX12_board 19 = .ok (.aload_n 0, 1) := by decide +kernel
theorem dX12_board_20 : decode cX12_board 20 = .ok (.iconst 1, 1) := by decide +kernel
theorem dX12_board_21 : decode cX12_board 21 = .ok (.invokevirtual 221, 3) := by decide +kernel
theorem dX12_board_24 : decode cX12_board 24 = .ok (.ireturn, 1) := by decide +kernel
theorem dX12_board_25 : decode cX12_board 25 = .ok (.aload_n 0, 1) := by decide +kernel
theorem dX12_board_26 : decode cX12_board 26 = .ok (.iload_n 1, 1) := by decide +kernel
theorem dX12_board_27 : decode cX12_board 27 = .ok (.putfield 113, 3) := by decide +kernel
theorem dX12_board_30 : decode cX12_board 30 = .ok (.aload_n 0, 1) := by decide +kernel
theorem dX12_board_31 : decode cX12_board 31 = .ok (.iconst 0, 1) := by decide +kernel
theorem dX12_board_32 : decode cX12_board 32 = .ok (.putfield 110, 3) := by decide +kernel
theorem dX12_board_35 : decode cX12_board 35 = .ok (.aload_n 0, 1) := by decide +kernel
theorem dX12_board_36 : decode cX12_board 36 = .ok (.iconst 0, 1) := by decide +kernel
theorem dX12_board_37 : decode cX12_board 37 = .ok (.putfield 116, 3) := by decide +kernel
theorem dX12_board_40 : decode cX12_board 40 = .ok (.aload_n 0, 1) := by decide +kernel
theorem dX12_board_41 : decode cX12_board 41 = .ok (.iconst 0, 1) := by decide +kernel
theorem dX12_board_42 : decode cX12_board 42 = .ok (.putfield 139, 3) := by decide +kernel
theorem dX12_board_45 : decode cX12_board 45 = .ok (.iconst 0, 1) := by decide +kernel
theorem dX12_board_46 : decode cX12_board 46 = .ok (.istore_n 2, 1) := by decide +kernel
theorem dX12_board_47 : decode cX12_board 47 = .ok (.iload_n 2, 1) := by decide +kernel
theorem dX12_board_48 : decode cX12_board 48 = .ok (.bipush 25, 2) := by decide +kernel
theorem dX12_board_50 : decode cX12_board 50 = .ok (.if_icmp .ge 16, 3) := by decide +kernel
theorem dX12_board_53 : decode cX12_board 53 = .ok (.aload_n 0, 1) := by decide +kernel
theorem dX12_board_54 : decode cX12_board 54 = .ok (.getfield 13, 3) := by decide +kernel
theorem dX12_board_57 : decode cX12_board 57 = .ok (.iload_n 2, 1) := by decide +kernel
theorem dX12_board_58 : decode cX12_board 58 = .ok (.iconst 0, 1) := by decide +kernel
theorem dX12_board_59 : decode cX12_board 59 = .ok (.iastore, 1) := by decide +kernel
theorem dX12_board_60 : decode cX12_board 60 = .ok (.iinc 2 1, 3) := by decide +kernel
theorem dX12_board_63 : decode cX12_board 63 = .ok (.goto (-16), 3) := by decide +kernel
theorem dX12_board_66 : decode cX12_board 66 = .ok (.aload_n 0, 1) := by decide +kernel
theorem dX12_board_67 : decode cX12_board 67 = .ok (.getfield 13, 3) := by decide +kernel
theorem dX12_board_70 : decode cX12_board 70 = .ok (.iconst 1, 1) := by decide +kernel
theorem dX12_board_71 : decode cX12_board 71 = .ok (.iconst 3, 1) := by decide +kernel
theorem dX12_board_72 : decode cX12_board 72 = .ok (.iastore, 1) := by decide +kernel
theorem dX12_board_73 : decode cX12_board 73 = .ok (.aload_n 0, 1) := by decide +kernel
theorem dX12_board_74 : decode cX12_board 74 = .ok (.invokevirtual 159, 3) := by decide +kernel
theorem dX12_board_77 : decode cX12_board 77 = .ok (.iconst 1, 1) := by decide +kernel
theorem dX12_board_78 : decode cX12_board 78 = .ok (.istore_n 2, 1) := by decide +kernel
theorem dX12_board_79 : decode cX12_board 79 = .ok (.aload_n 0, 1) := by decide +kernel
theorem dX12_board_80 : decode cX12_board 80 = .ok (.getfield 139, 3) := by decide +kernel
theorem dX12_board_83 : decode cX12_board 83 = .ok (.ifCond .ne 20, 3) := by decide +kernel
theorem dX12_board_86 : decode cX12_board 86 = .ok (.aload_n 0, 1) := by decide +kernel
theorem dX12_board_87 : decode cX12_board 87 = .ok (.getfield 122, 3) := by decide +kernel
theorem dX12_board_90 : decode cX12_board 90 = .ok (.ifCond .eq 13, 3) := by decide +kernel
theorem dX12_board_93 : decode cX12_board 93 = .ok (.aload_n 0, 1) := by decide +kernel
theorem dX12_board_94 : decode cX12_board 94 = .ok (.iload_n 2, 1) := by decide +kernel
theorem dX12_board_95 : decode cX12_board 95 = .ok (.invokevirtual 224, 3) := by decide +kernel
theorem dX12_board_98 : decode cX12_board 98 = .ok (.iconst 0, 1) := by decide +kernel
theorem dX12_board_99 : decode cX12_board 99 = .ok (.istore_n 2, 1) := by decide +kernel
theorem dX12_board_100 : decode cX12_board 100 = .ok (.goto (-21), 3) := by decide +kernel
theorem dX12_board_103 : decode cX12_board 103 = .ok (.aload_n 0, 1) := by decide +kernel
theorem dX12_board_104 : decode cX12_board 104 = .ok (.getfield 139, 3) := by decide +kernel
theorem dX12_board_107 : decode cX12_board 107 = .ok (.ifCond .ne 20, 3) := by decide +kernel
theorem dX12_board_110 : decode cX12_board 110 = .ok (.aload_n 0, 1) := by decide +kernel
theorem dX12_board_111 : decode cX12_board 111 = .ok (.invokevirtual 228, 3) := by decide +kernel
theorem dX12_board_114 : decode cX12_board 114 = .ok (.ifCond .eq 13, 3) := by decide +kernel
theorem dX12_board_117 : decode cX12_board 117 = .ok (.aload_n 0, 1) := by decide +kernel
theorem dX12_board_118 : decode cX12_board 118 = .ok (.iconst 5, 1) := by decide +kernel
theorem dX12_board_119 : decode cX12_board 119 = .ok (.putfield 139, 3) := by decide +kernel
theorem dX12_board_122 : decode cX12_board 122 = .ok (.aload_n 0, 1) := by decide +kernel
theorem dX12_board_123 : decode cX12_board 123 = .ok (.iload_n 1, 1) := by decide +kernel
theorem dX12_board_124 : decode cX12_board 124 = .ok (.putfield 142, 3) := by decide +kernel
theorem dX12_board_127 : decode cX12_board 127 = .ok (.aload_n 0, 1) := by decide +kernel
theorem dX12_board_128 : decode cX12_board 128 = .ok (.aload_n 0, 1) := by decide +kernel
theorem dX12_board_129 : decode cX12_board 129 = .ok (.getfield 139, 3) := by decide +kernel
theorem dX12_board_132 : decode cX12_board 132 = .ok (.putfield 232, 3) := by decide +kernel
theorem dX12_board_135 : decode cX12_board 135 = .ok (.aload_n 0, 1) := by decide +kernel
theorem dX12_board_136 : decode cX12_board 136 = .ok (.aload_n 0, 1) := by decide +kernel
theorem dX12_board_137 : decode cX12_board 137 = .ok (.getfield 139, 3) := by decide +kernel
theorem dX12_board_140 : decode cX12_board 140 = .ok (.ifCond .ne 7, 3) := by decide +kernel
theorem dX12_board_143 : decode cX12_board 143 = .ok (.iconst (-1), 1) := by decide +kernel
theorem dX12_board_144 : decode cX12_board 144 = .ok (.goto 7, 3) := by decide +kernel
theorem dX12_board_147 : decode cX12_board 147 = .ok (.aload_n 0, 1) := by decide +kernel
theorem dX12_board_148 : decode cX12_board 148 = .ok (.getfield 142, 3) := by decide +kernel
theorem dX12_board_151 : decode cX12_board 151 = .ok (.putfield 29, 3) := by decide +kernel
theorem dX12_board_154 : decode cX12_board 154 = .ok (.aload_n 0, 1) := by decide +kernel
theorem dX12_board_155 : decode cX12_board 155 = .ok (.getfield 139, 3) := by decide +kernel
theorem dX12_board_158 : decode cX12_board 158 = .ok (.ifCond .eq 11, 3) := by decide +kernel
theorem dX12_board_161 : decode cX12_board 161 = .ok (.bipush (-10), 2) := by decide +kernel
theorem dX12_board_163 : decode cX12_board 163 = .ok (.aload_n 0, 1) := by decide +kernel
theorem dX12_board_164 : decode cX12_board 164 = .ok (.getfield 139, 3) := by decide +kernel
theorem dX12_board_167 : decode cX12_board 167 = .ok (.isub, 1) := by decide +kernel
theorem dX12_board_168 : decode cX12_board 168 = .ok (.ireturn, 1) := by decide +kernel
theorem dX12_board_169 : decode cX12_board 169 = .ok (.aload_n 0, 1) := by decide +kernel
theorem dX12_board_170 : decode cX12_board 170 = .ok (.getfield 13, 3) := by decide +kernel
theorem dX12_board_173 : decode cX12_board 173 = .ok (.aload_n 0, 1) := by decide +kernel
theorem dX12_board_174 : decode cX12_board 174 = .ok (.getfield 9, 3) := by decide +kernel
theorem dX12_board_177 : decode cX12_board 177 = .ok (.invokestatic 235, 3) := by decide +kernel
theorem dX12_board_180 : decode cX12_board 180 = .ok (.aload_n 0, 1) := by decide +kernel
theorem dX12_board_181 : decode cX12_board 181 = .ok (.iconst 0, 1) := by decide +kernel
theorem dX12_board_182 : decode cX12_board 182 = .ok (.putfield 239, 3) := by decide +kernel
theorem dX12_board_185 : decode cX12_board 185 = .ok (.aload_n 0, 1) := by decide +kernel
theorem dX12_board_186 : decode cX12_board 186 = .ok (.iconst 0, 1) := by decide +kernel
theorem dX12_board_187 : decode cX12_board 187 = .ok (.putfield 242, 3) := by decide +kernel
theorem dX12_board_190 : decode cX12_board 190 = .ok (.aload_n 0, 1) := by decide +kernel
theorem dX12_board_191 : decode cX12_board 191 = .ok (.getfield 9, 3) := by decide +kernel
theorem dX12_board_194 : decode cX12_board 194 = .ok (.iconst 0, 1) := by decide +kernel
theorem dX12_board_195 : decode cX12_board 195 = .ok (.iaload, 1) := by decide +kernel
theorem dX12_board_196 : decode cX12_board 196 = .ok (.ireturn, 1) := by decide +kernel
theorem dX12_fault_0 : decode cX12_fault 0 = .ok (.aload_n 0, 1) := by decide +kernel
theorem dX12_fault_1 : decode cX12_fault 1 = .ok (.iconst 0, 1) := by decide +kernel
theorem dX12_fault_2 : decode cX12_fault 2 = .ok (.putfield 107, 3) := by decide +kernel
theorem dX12_fault_5 : decode cX12_fault 5 = .ok (.iload_n 1, 1) := by decide +kernel
theorem dX12_fault_6 : decode cX12_fault 6 = .ok (.ifCond .ne 10, 3) := by decide +kernel
theorem dX12_fault_9 : decode cX12_fault 9 = .ok (.aload_n 0, 1) := by decide +kernel
theorem dX12_fault_10 : decode cX12_fault 10 = .ok (.getfield 232, 3) := by decide +kernel
theorem dX12_fault_13 : decode cX12_fault 13 = .ok (.goto 16, 3) := by decide +kernel
theorem dX12_fault_16 : decode cX12_fault 16 = .ok (.iload_n 1, 1) := by decide +kernel
theorem dX12_fault_17 : decode cX12_fault 17 = .ok (.iconst 1, 1) := by decide +kernel
theorem dX12_fault_18 : decode cX12_fault 18 = .ok (.if_icmp .ne 10, 3) := by decide +kernel
theorem dX12_fault_21 : decode cX12_fault 21 = .ok (.aload_n 0, 1) := by decide +kernel
theorem dX12_fault_22 : decode cX12_fault 22 = .ok (.getfield 29, 3) := by decide +kernel
theorem dX12_fault_25 : decode cX12_fault 25 = .ok (.goto 4, 3) := by decide +kernel
theorem dX12_fault_28 : decode cX12_fault 28 = .ok (.iconst (-1), 1) := by decide +kernel
theorem dX12_fault_29 : decode cX12_fault 29 = .ok (.ireturn, 1) := by decide +kernel
theorem dX12_pitMany_0 : decode cX12_pitMany 0 = .ok (.iconst 2, 1) := by decide +kernel
theorem dX12_pitMany_1 : decode cX12_pitMany 1 = .ok (.aload_n 0, 1) := by decide +kernel
theorem dX12_pitMany_2 : decode cX12_pitMany 2 = .ok (.getfield 9, 3) := by decide +kernel
theorem dX12_pitMany_5 : decode cX12_pitMany 5 = .ok (.iconst 1, 1) := by decide +kernel
theorem dX12_pitMany_6 : decode cX12_pitMany 6 = .ok (.iaload, 1) := by decide +kernel
theorem dX12_pitMany_7 : decode cX12_pitMany 7 = .ok (.imul, 1) := by decide +kernel
theorem dX12_pitMany_8 : decode cX12_pitMany 8 = .ok (.ireturn, 1) := by decide +kernel
theorem dX12_isPit_0 : decode cX12_isPit 0 = .ok (.iload_n 1, 1) := by decide +kernel
theorem dX12_isPit_1 : decode cX12_isPit 1 = .ok (.i2l, 1) := by decide +kernel
theorem dX12_isPit_2 : decode cX12_isPit 2 = .ok (.lconst 0, 1) := by decide +kernel
theorem dX12_isPit_3 : decode cX12_isPit 3 = .ok (.aload_n 0, 1) := by decide +kernel
theorem dX12_isPit_4 : decode cX12_isPit 4 = .ok (.invokevirtual 245, 3) := by decide +kernel
theorem dX12_isPit_7 : decode cX12_isPit 7 = .ok (.iconst 1, 1) := by decide +kernel
theorem dX12_isPit_8 : decode cX12_isPit 8 = .ok (.isub, 1) := by decide +kernel
theorem dX12_isPit_9 : decode cX12_isPit 9 = .ok (.i2l, 1) := by decide +kernel
theorem dX12_isPit_10 : decode cX12_isPit 10 = .ok (.invokestatic 166, 3) := by decide +kernel
theorem dX12_isPit_13 : decode cX12_isPit 13 = .ok (.ireturn, 1) := by decide +kernel
theorem dX12_isLacking_0 : decode cX12_isLacking 0 = .ok (.aload_n 0, 1) := by decide +kernel
theorem dX12_isLacking_1 : decode cX12_isLacking 1 = .ok (.getfield 9, 3) := by decide +kernel
theorem dX12_isLacking_4 : decode cX12_isLacking 4 = .ok (.iconst 3, 1) := by decide +kernel
theorem dX12_isLacking_5 : decode cX12_isLacking 5 = .ok (.iaload, 1) := by decide +kernel
theorem dX12_isLacking_6 : decode cX12_isLacking 6 = .ok (.iload_n 1, 1) := by decide +kernel
theorem dX12_isLacking_7 : decode cX12_isLacking 7 = .ok (.ishr, 1) := by decide +kernel
theorem dX12_isLacking_8 : decode cX12_isLacking 8 = .ok (.iconst 1, 1) := by decide +kernel
theorem dX12_isLacking_9 : decode cX12_isLacking 9 = .ok (.iand, 1) := by decide +kernel
theorem dX12_isLacking_10 : decode cX12_isLacking 10 = .ok (.iconst 1, 1) := by decide +kernel
theorem dX12_isLacking_11 : decode cX12_isLacking 11 = .ok (.if_icmp .ne 7, 3) := by decide +kernel
theorem dX12_isLacking_14 : decode cX12_isLacking 14 = .ok (.iconst 1, 1) := by decide +kernel
theorem dX12_isLacking_15 : decode cX12_isLacking 15 = .ok (.goto 4, 3) := by decide +kernel
theorem dX12_isLacking_18 : decode cX12_isLacking 18 = .ok (.iconst 0, 1) := by decide +kernel
theorem dX12_isLacking_19 : decode cX12_isLacking 19 = .ok (.ireturn, 1) := by decide +kernel
theorem dX12_sideOf_0 : decode cX12_sideOf 0 = .ok (.iload_n 1, 1) := by decide +kernel
theorem dX12_sideOf_1 : decode cX12_sideOf 1 = .ok (.aload_n 0, 1) := by decide +kernel
theorem dX12_sideOf_2 : decode cX12_sideOf 2 = .ok (.getfield 9, 3) := by decide +kernel
theorem dX12_sideOf_5 : decode cX12_sideOf 5 = .ok (.iconst 1, 1) := by decide +kernel
theorem dX12_sideOf_6 : decode cX12_sideOf 6 = .ok (.iaload, 1) := by decide +kernel
theorem dX12_sideOf_7 : decode cX12_sideOf 7 = .ok (.if_icmp .ge 7, 3) := by decide +kernel
theorem dX12_sideOf_10 : decode cX12_sideOf 10 = .ok (.iconst 0, 1) := by decide +kernel
theorem dX12_sideOf_11 : decode cX12_sideOf 11 = .ok (.goto 4, 3) := by decide +kernel
theorem dX12_sideOf_14 : decode cX12_sideOf 14 = .ok (.iconst 1, 1) := by decide +kernel
theorem dX12_sideOf_15 : decode cX12_sideOf 15 = .ok (.ireturn, 1) := by decide +kernel
theorem dX12_pit_0 : decode cX12_pit 0 = .ok (.aload_n 0, 1) := by decide +kernel
theorem dX12_pit_1 : decode cX12_pit 1 = .ok (.iconst 0, 1) := by decide +kernel
theorem dX12_pit_2 : decode cX12_pit 2 = .ok (.putfield 107, 3) := by decide +kernel
theorem dX12_pit_5 : decode cX12_pit 5 = .ok (.aload_n 0, 1) := by decide +kernel
theorem dX12_pit_6 : decode cX12_pit 6 = .ok (.iload_n 1, 1) := by decide +kernel
theorem dX12_pit_7 : decode cX12_pit 7 = .ok (.invokevirtual 248, 3) := by decide +kernel
theorem dX12_pit_10 : decode cX12_pit 10 = .ok (.ifCond .ne 9, 3) := by decide +kernel
theorem dX12_pit_13 : decode cX12_pit 13 = .ok (.aload_n 0, 1) := by decide +kernel
theorem dX12_pit_14 : decode cX12_pit 14 = .ok (.iconst 1, 1) := by decide +kernel
theorem dX12_pit_15 : decode cX12_pit 15 = .ok (.invokevirtual 221, 3) := by decide +kernel
theorem dX12_pit_18 : decode cX12_pit 18 = .ok (.ireturn, 1) := by decide +kernel
theorem dX12_pit_19 : decode cX12_pit 19 = .ok (.aload_n 0, 1) := by decide +kernel
theorem dX12_pit_20 : decode cX12_pit 20 = .ok (.iload_n 1, 1) := by decide +kernel
theorem dX12_pit_21 : decode cX12_pit 21 = .ok (.invokevirtual 251, 3) := by decide +kernel
theorem dX12_pit_24 : decode cX12_pit 24 = .ok (.ifCond .eq 7, 3) := by decide +kernel
theorem dX12_pit_27 : decode cX12_pit 27 = .ok (.iconst (-1), 1) := by decide +kernel
theorem dX12_pit_28 : decode cX12_pit 28 = .ok (.goto 12, 3) := by decide +kernel
theorem dX12_pit_31 : decode cX12_pit 31 = .ok (.aload_n 0, 1) := by decide +kernel
theorem dX12_pit_32 : decode cX12_pit 32 = .ok (.getfield 9, 3) := by decide +kernel
theorem dX12_pit_35 : decode cX12_pit 35 = .ok (.bipush 13, 2) := by decide +kernel
theorem dX12_pit_37 : decode cX12_pit 37 = .ok (.iload_n 1, 1) := by decide +kernel
theorem dX12_pit_38 : decode cX12_pit 38 = .ok (.iadd, 1) := by decide +kernel
theorem dX12_pit_39 : decode cX12_pit 39 = .ok (.iaload, 1) := by decide +kernel
theorem dX12_pit_40 : decode cX12_pit 40 = .ok (.ireturn, 1) := by decide +kernel
theorem dX12_isSide_0 : decode cX12_isSide 0 = .ok (.iload_n 0, 1) := by decide +kernel
theorem dX12_isSide_1 : decode cX12_isSide 1 = .ok (.i2l, 1) := by decide +kernel
theorem dX12_isSide_2 : decode cX12_isSide 2 = .ok (.lconst 0, 1) := by decide +kernel
theorem dX12_isSide_3 : decode cX12_isSide 3 = .ok (.lconst 1, 1) := by decide +kernel
theorem dX12_isSide_4 : decode cX12_isSide 4 = .ok (.invokestatic 166, 3) := by decide +kernel
theorem dX12_isSide_7 : decode cX12_isSide 7 = .ok (.ireturn, 1) := by decide +kernel
theorem dX12_store_0 : decode cX12_store 0 = .ok (.aload_n 0, 1) := by decide +kernel
theorem dX12_store_1 : decode cX12_store 1 = .ok (.iconst 0, 1) := by decide +kernel
theorem dX12_store_2 : decode cX12_store 2 = .ok (.putfield 107, 3) := by decide +kernel
theorem dX12_store_5 : decode cX12_store 5 = .ok (.iload_n 1, 1) := by decide +kernel
theorem dX12_store_6 : decode cX12_store 6 = .ok (.invokestatic 254, 3) := by decide +kernel
theorem dX12_store_9 : decode cX12_store 9 = .ok (.ifCond .eq 15, 3) := by decide +kernel
theorem dX12_store_12 : decode cX12_store 12 = .ok (.aload_n 0, 1) := by decide +kernel
theorem dX12_store_13 : decode cX12_store 13 = .ok (.getfield 9, 3) := by decide +kernel
theorem dX12_store_16 : decode cX12_store 16 = .ok (.bipush 11, 2) := by decide +kernel
theorem dX12_store_18 : decode cX12_store 18 = .ok (.iload_n 1, 1) := by decide +kernel
theorem dX12_store_19 : decode cX12_store 19 = .ok (.iadd, 1) := by decide +kernel
theorem dX12_store_20 : decode cX12_store 20 = .ok (.iaload, 1) := by decide +kernel
theorem dX12_store_21 : decode cX12_store 21 = .ok (.goto 8, 3) := by decide +kernel
theorem dX12_store_24 : decode cX12_store 24 = .ok (.aload_n 0, 1) := by decide +kernel
theorem dX12_store_25 : decode cX12_store 25 = .ok (.iconst 1, 1) := by decide +kernel
theorem dX12_store_26 : decode cX12_store 26 = .ok (.invokevirtual 221, 3) := by decide +kernel
theorem dX12_store_29 : decode cX12_store 29 = .ok (.ireturn, 1) := by decide +kernel
theorem dX12_mover_0 : decode cX12_mover 0 = .ok (.aload_n 0, 1) := by decide +kernel
theorem dX12_mover_1 : decode cX12_mover 1 = .ok (.iconst 0, 1) := by decide +kernel
theorem dX12_mover_2 : decode cX12_mover 2 = .ok (.putfield 107, 3) := by decide +kernel
theorem dX12_mover_5 : decode cX12_mover 5 = .ok (.aload_n 0, 1) := by decide +kernel
theorem dX12_mover_6 : decode cX12_mover 6 = .ok (.getfield 9, 3) := by decide +kernel
theorem dX12_mover_9 : decode cX12_mover 9 = .ok (.iconst 2, 1) := by decide +kernel
theorem dX12_mover_10 : decode cX12_mover 10 = .ok (.iaload, 1) := by decide +kernel
theorem dX12_mover_11 : decode cX12_mover 11 = .ok (.ireturn, 1) := by decide +kernel
theorem dX12_takesUp_0 : decode cX12_takesUp 0 = .ok (.iconst 0, 1) := by decide +kernel
theorem dX12_takesUp_1 : decode cX12_takesUp 1 = .ok (.istore_n 1, 1) := by decide +kernel
theorem dX12_takesUp_2 : decode cX12_takesUp 2 = .ok (.iload_n 1, 1) := by decide +kernel
theorem dX12_takesUp_3 : decode cX12_takesUp 3 = .ok (.aload_n 0, 1) := by decide +kernel
theorem dX12_takesUp_4 : decode cX12_takesUp 4 = .ok (.invokevirtual 245, 3) := by decide +kernel
theorem dX12_takesUp_7 : decode cX12_takesUp 7 = .ok (.if_icmp .ge 24, 3) := by decide +kernel
theorem dX12_takesUp_10 : decode cX12_takesUp 10 = .ok (.aload_n 0, 1) := by decide +kernel
theorem dX12_takesUp_11 : decode cX12_takesUp 11 = .ok (.getfield 33, 3) := by decide +kernel
theorem dX12_takesUp_14 : decode cX12_takesUp 14 = .ok (.iload_n 1, 1) := by decide +kernel
theorem dX12_takesUp_15 : decode cX12_takesUp 15 = .ok (.aload_n 0, 1) := by decide +kernel
theorem dX12_takesUp_16 : decode cX12_takesUp 16 = .ok (.getfield 9, 3) := by decide +kernel
theorem dX12_takesUp_19 : decode cX12_takesUp 19 = .ok (.bipush 13, 2) := by decide +kernel
theorem dX12_takesUp_21 : decode cX12_takesUp 21 = .ok (.iload_n 1, 1) := by decide +kernel
theorem dX12_takesUp_22 : decode cX12_takesUp 22 = .ok (.iadd, 1) := by decide +kernel
theorem dX12_takesUp_23 : decode cX12_takesUp 23 = .ok (.iaload, 1) := by decide +kernel
theorem dX12_takesUp_24 : decode cX12_takesUp 24 = .ok (.iastore, 1) := by decide +kernel
theorem dX12_takesUp_25 : decode cX12_takesUp 25 = .ok (.iinc 1 1, 3) := by decide +kernel
theorem dX12_takesUp_28 : decode cX12_takesUp 28 = .ok (.goto (-26), 3) := by decide +kernel
theorem dX12_takesUp_31 : decode cX12_takesUp 31 = .ok (.return_, 1) := by decide +kernel
theorem dX12_next_0 : decode cX12_next 0 = .ok (.iload_n 2, 1) := by decide +kernel
theorem dX12_next_1 : decode cX12_next 1 = .ok (.istore 4, 2) := by decide +kernel
theorem dX12_next_3 : decode cX12_next 3 = .ok (.iconst 0, 1) := by decide +kernel
theorem dX12_next_4 : decode cX12_next 4 = .ok (.istore 5, 2) := by decide +kernel
theorem dX12_next_6 : decode cX12_next 6 = .ok (.iload 5, 2) := by decide +kernel
theorem dX12_next_8 : decode cX12_next 8 = .ok (.bipush 36, 2) := by decide +kernel
theorem dX12_next_10 : decode cX12_next 10 = .ok (.if_icmp .ge 153, 3) := by decide +kernel
theorem dX12_next_13 : decode cX12_next 13 = .ok (.iload 4, 2) := by decide +kernel
theorem dX12_next_15 : decode cX12_next 15 = .ok (.bipush 100, 2) := by decide +kernel
theorem dX12_next_17 : decode cX12_next 17 = .ok (.if_icmp .ne 14, 3) := by decide +kernel
theorem dX12_next_20 : decode cX12_next 20 = .ok (.aload_n 0, 1) := by decide +kernel
theorem dX12_next_21 : decode cX12_next 21 = .ok (.getfield 9, 3) := by decide +kernel
theorem dX12_next_24 : decode cX12_next 24 = .ok (.iconst 1, 1) := by decide +kernel
theorem dX12_next_25 : decode cX12_next 25 = .ok (.iaload, 1) := by decide +kernel
theorem dX12_next_26 : decode cX12_next 26 = .ok (.iconst 1, 1) := by decide +kernel
theorem dX12_next_27 : decode cX12_next 27 = .ok (.isub, 1) := by decide +kernel
theorem dX12_next_28 : decode cX12_next 28 = .ok (.goto 25, 3) := by decide +kernel
theorem dX12_next_31 : decode cX12_next 31 = .ok (.iload 4, 2) := by decide +kernel
theorem dX12_next_33 : decode cX12_next 33 = .ok (.iload_n 1, 1) := by decide +kernel
theorem dX12_next_34 : decode cX12_next 34 = .ok (.ifCond .ne 7, 3) := by decide +kernel
theorem dX12_next_37 : decode cX12_next 37 = .ok (.iconst 0, 1) := by decide +kernel
theorem dX12_next_38 : decode cX12_next 38 = .ok (.goto 9, 3) := by decide +kernel
theorem dX12_next_41 : decode cX12_next 41 = .ok (.aload_n 0, 1) := by decide +kernel
theorem dX12_next_42 : decode cX12_next 42 = .ok (.getfield 9, 3) := by decide +kernel
theorem dX12_next_45 : decode cX12_next 45 = .ok (.iconst 1, 1) := by decide +kernel
theorem dX12_next_46 : decode cX12_next 46 = .ok (.iaload, 1) := by decide +kernel
theorem dX12_next_47 : decode cX12_next 47 = .ok (.iadd, 1) := by decide +kernel
theorem dX12_next_48 : decode cX12_next 48 = .ok (.aload_n 0, 1) := by decide +kernel
theorem dX12_next_49 : decode cX12_next 49 = .ok (.invokevirtual 245, 3) := by decide +kernel
theorem dX12_next_52 : decode cX12_next 52 = .ok (.irem, 1) := by decide +kernel
theorem dX12_next_53 : decode cX12_next 53 = .ok (.istore 6, 2) := by decide +kernel
theorem dX12_next_55 : decode cX12_next 55 = .ok (.iload 4, 2) := by decide +kernel
theorem dX12_next_57 : decode cX12_next 57 = .ok (.bipush 100, 2) := by decide +kernel
theorem dX12_next_59 : decode cX12_next 59 = .ok (.if_icmp .eq 20, 3) := by decide +kernel
theorem dX12_next_62 : decode cX12_next 62 = .ok (.iload 6, 2) := by decide +kernel
theorem dX12_next_64 : decode cX12_next 64 = .ok (.aload_n 0, 1) := by decide +kernel
theorem dX12_next_65 : decode cX12_next 65 = .ok (.getfield 9, 3) := by decide +kernel
theorem dX12_next_68 : decode cX12_next 68 = .ok (.iconst 1, 1) := by decide +kernel
theorem dX12_next_69 : decode cX12_next 69 = .ok (.iaload, 1) := by decide +kernel
theorem dX12_next_70 : decode cX12_next 70 = .ok (.iconst 1, 1) := by decide +kernel
theorem dX12_next_71 : decode cX12_next 71 = .ok (.isub, 1) := by decide +kernel
theorem dX12_next_72 : decode cX12_next 72 = .ok (.if_icmp .ne 7, 3) := by decide +kernel
theorem dX12_next_75 : decode cX12_next 75 = .ok (.iconst 1, 1) := by decide +kernel
theorem dX12_next_76 : decode cX12_next 76 = .ok (.goto 4, 3) := by decide +kernel
theorem dX12_next_79 : decode cX12_next 79 = .ok (.iconst 0, 1) := by decide +kernel
theorem dX12_next_80 : decode cX12_next 80 = .ok (.istore 7, 2) := by decide +kernel
theorem dX12_next_82 : decode cX12_next 82 = .ok (.iload 7, 2) := by decide +kernel
theorem dX12_next_84 : decode cX12_next 84 = .ok (.ifCond .eq 20, 3) := by decide +kernel
theorem dX12_next_87 : decode cX12_next 87 = .ok (.aload_n 0, 1) := by decide +kernel
theorem dX12_next_88 : decode cX12_next 88 = .ok (.getfield 9, 3) := by decide +kernel
theorem dX12_next_91 : decode cX12_next 91 = .ok (.iconst 4, 1) := by decide +kernel
theorem dX12_next_92 : decode cX12_next 92 = .ok (.iaload, 1) := by decide +kernel
theorem dX12_next_93 : decode cX12_next 93 = .ok (.iconst 1, 1) := by decide +kernel
theorem dX12_next_94 : decode cX12_next 94 = .ok (.if_icmp .ne 10, 3) := by decide +kernel
theorem dX12_next_97 : decode cX12_next 97 = .ok (.bipush 100, 2) := by decide +kernel
theorem dX12_next_99 : decode cX12_next 99 = .ok (.istore 4, 2) := by decide +kernel
theorem dX12_next_101 : decode cX12_next 101 = .ok (.iload 4, 2) := by decide +kernel
theorem dX12_next_103 : decode cX12_next 103 = .ok (.ireturn, 1) := by decide +kernel
theorem dX12_next_104 : decode cX12_next 104 = .ok (.iload 6, 2) := by decide +kernel
theorem dX12_next_106 : decode cX12_next 106 = .ok (.iconst 1, 1) := by decide +kernel
theorem dX12_next_107 : decode cX12_next 107 = .ok (.iadd, 1) := by decide +kernel
theorem dX12_next_108 : decode cX12_next 108 = .ok (.aload_n 0, 1) := by decide +kernel
theorem dX12_next_109 : decode cX12_next 109 = .ok (.invokevirtual 245, 3) := by decide +kernel
theorem dX12_next_112 : decode cX12_next 112 = .ok (.irem, 1) := by decide +kernel
theorem dX12_next_113 : decode cX12_next 113 = .ok (.istore 6, 2) := by decide +kernel
theorem dX12_next_115 : decode cX12_next 115 = .ok (.iload 6, 2) := by decide +kernel
theorem dX12_next_117 : decode cX12_next 117 = .ok (.iload_n 1, 1) := by decide +kernel
theorem dX12_next_118 : decode cX12_next 118 = .ok (.ifCond .ne 7, 3) := by decide +kernel
theorem dX12_next_121 : decode cX12_next 121 = .ok (.iconst 0, 1) := by decide +kernel
theorem dX12_next_122 : decode cX12_next 122 = .ok (.goto 9, 3) := by decide +kernel
theorem dX12_next_125 : decode cX12_next 125 = .ok (.aload_n 0, 1) := by decide +kernel
theorem dX12_next_126 : decode cX12_next 126 = .ok (.getfield 9, 3) := by decide +kernel
theorem dX12_next_129 : decode cX12_next 129 = .ok (.iconst 1, 1) := by decide +kernel
theorem dX12_next_130 : decode cX12_next 130 = .ok (.iaload, 1) := by decide +kernel
theorem dX12_next_131 : decode cX12_next 131 = .ok (.iadd, 1) := by decide +kernel
theorem dX12_next_132 : decode cX12_next 132 = .ok (.aload_n 0, 1) := by decide +kernel
theorem dX12_next_133 : decode cX12_next 133 = .ok (.invokevirtual 245, 3) := by decide +kernel
theorem dX12_next_136 : decode cX12_next 136 = .ok (.irem, 1) := by decide +kernel
theorem dX12_next_137 : decode cX12_next 137 = .ok (.istore 4, 2) := by decide +kernel
theorem dX12_next_139 : decode cX12_next 139 = .ok (.aload_n 0, 1) := by decide +kernel
theorem dX12_next_140 : decode cX12_next 140 = .ok (.iload 4, 2) := by decide +kernel
theorem dX12_next_142 : decode cX12_next 142 = .ok (.invokevirtual 251, 3) := by decide +kernel
theorem dX12_next_145 : decode cX12_next 145 = .ok (.ifCond .ne 12, 3) := by decide +kernel
theorem dX12_next_148 : decode cX12_next 148 = .ok (.iload 4, 2) := by decide +kernel
theorem dX12_next_150 : decode cX12_next 150 = .ok (.iload_n 3, 1) := by decide +kernel
theorem dX12_next_151 : decode cX12_next 151 = .ok (.if_icmp .eq 6, 3) := by decide +kernel
theorem dX12_next_154 : decode cX12_next 154 = .ok (.iload 4, 2) := by decide +kernel
theorem dX12_next_156 : decode cX12_next 156 = .ok (.ireturn, 1) := by decide +kernel
theorem dX12_next_157 : decode cX12_next 157 = .ok (.iinc 5 1, 3) := by decide +kernel
theorem dX12_next_160 : decode cX12_next 160 = .ok (.goto (-154), 3) := by decide +kernel
theorem dX12_next_163 : decode cX12_next 163 = .ok (.iconst (-1), 1) := by decide +kernel
theorem dX12_next_164 : decode cX12_next 164 = .ok (.ireturn, 1) := by decide +kernel
theorem dX12_sum_0 : decode cX12_sum 0 = .ok (.iconst 0, 1) := by decide +kernel
theorem dX12_sum_1 : decode cX12_sum 1 = .ok (.istore_n 2, 1) := by decide +kernel
theorem dX12_sum_2 : decode cX12_sum 2 = .ok (.iconst 0, 1) := by decide +kernel
theorem dX12_sum_3 : decode cX12_sum 3 = .ok (.istore_n 3, 1) := by decide +kernel
theorem dX12_sum_4 : decode cX12_sum 4 = .ok (.iload_n 3, 1) := by decide +kernel
theorem dX12_sum_5 : decode cX12_sum 5 = .ok (.aload_n 0, 1) := by decide +kernel
theorem dX12_sum_6 : decode cX12_sum 6 = .ok (.invokevirtual 245, 3) := by decide +kernel
theorem dX12_sum_9 : decode cX12_sum 9 = .ok (.if_icmp .ge 31, 3) := by decide +kernel
theorem dX12_sum_12 : decode cX12_sum 12 = .ok (.iload_n 2, 1) := by decide +kernel
theorem dX12_sum_13 : decode cX12_sum 13 = .ok (.aload_n 0, 1) := by decide +kernel
theorem dX12_sum_14 : decode cX12_sum 14 = .ok (.iload_n 3, 1) := by decide +kernel
theorem dX12_sum_15 : decode cX12_sum 15 = .ok (.invokevirtual 257, 3) := by decide +kernel
theorem dX12_sum_18 : decode cX12_sum 18 = .ok (.iload_n 1, 1) := by decide +kernel
theorem dX12_sum_19 : decode cX12_sum 19 = .ok (.if_icmp .ne 12, 3) := by decide +kernel
theorem dX12_sum_22 : decode cX12_sum 22 = .ok (.aload_n 0, 1) := by decide +kernel
theorem dX12_sum_23 : decode cX12_sum 23 = .ok (.getfield 33, 3) := by decide +kernel
theorem dX12_sum_26 : decode cX12_sum 26 = .ok (.iload_n 3, 1) := by decide +kernel
theorem dX12_sum_27 : decode cX12_sum 27 = .ok (.iaload, 1) := by decide +kernel
theorem dX12_sum_28 : decode cX12_sum 28 = .ok (.goto 4, 3) := by decide +kernel
theorem dX12_sum_31 : decode cX12_sum 31 = .ok (.iconst 0, 1) := by decide +kernel
theorem dX12_sum_32 : decode cX12_sum 32 = .ok (.iadd, 1) := by decide +kernel
theorem dX12_sum_33 : decode cX12_sum 33 = .ok (.istore_n 2, 1) := by decide +kernel
theorem dX12_sum_34 : decode cX12_sum 34 = .ok (.iinc 3 1, 3) := by decide +kernel
theorem dX12_sum_37 : decode cX12_sum 37 = .ok (.goto (-33), 3) := by decide +kernel
theorem dX12_sum_40 : decode cX12_sum 40 = .ok (.iload_n 2, 1) := by decide +kernel
theorem dX12_sum_41 : decode cX12_sum 41 = .ok (.ireturn, 1) := by decide +kernel
theorem dX12_sows_0 : decode cX12_sows 0 = .ok (.aload_n 0, 1) := by decide +kernel
theorem dX12_sows_1 : decode cX12_sows 1 = .ok (.iconst 0, 1) := by decide +kernel
theorem dX12_sows_2 : decode cX12_sows 2 = .ok (.putfield 260, 3) := by decide +kernel
theorem dX12_sows_5 : decode cX12_sows 5 = .ok (.aload_n 0, 1) := by decide +kernel
theorem dX12_sows_6 : decode cX12_sows 6 = .ok (.iconst 0, 1) := by decide +kernel
theorem dX12_sows_7 : decode cX12_sows 7 = .ok (.putfield 263, 3) := by decide +kernel
theorem dX12_sows_10 : decode cX12_sows 10 = .ok (.aload_n 0, 1) := by decide +kernel
theorem dX12_sows_11 : decode cX12_sows 11 = .ok (.iconst 0, 1) := by decide +kernel
theorem dX12_sows_12 : decode cX12_sows 12 = .ok (.putfield 266, 3) := by decide +kernel
theorem dX12_sows_15 : decode cX12_sows 15 = .ok (.aload_n 0, 1) := by decide +kernel
theorem dX12_sows_16 : decode cX12_sows 16 = .ok (.iconst 0, 1) := by decide +kernel
theorem dX12_sows_17 : decode cX12_sows 17 = .ok (.putfield 269, 3) := by decide +kernel
theorem dX12_sows_20 : decode cX12_sows 20 = .ok (.iload_n 2, 1) := by decide +kernel
theorem dX12_sows_21 : decode cX12_sows 21 = .ok (.istore_n 3, 1) := by decide +kernel
theorem dX12_sows_22 : decode cX12_sows 22 = .ok (.iconst 1, 1) := by decide +kernel
theorem dX12_sows_23 : decode cX12_sows 23 = .ok (.istore 4, 2) := by decide +kernel
theorem dX12_sows_25 : decode cX12_sows 25 = .ok (.iload 4, 2) := by decide +kernel
theorem dX12_sows_27 : decode cX12_sows 27 = .ok (.ifCond .eq 209, 3) := by decide +kernel
theorem dX12_sows_30 : decode cX12_sows 30 = .ok (.aload_n 0, 1) := by decide +kernel
theorem dX12_sows_31 : decode cX12_sows 31 = .ok (.getfield 33, 3) := by decide +kernel
theorem dX12_sows_34 : decode cX12_sows 34 = .ok (.iload_n 3, 1) := by decide +kernel
theorem dX12_sows_35 : decode cX12_sows 35 = .ok (.iaload, 1) := by decide +kernel
theorem dX12_sows_36 : decode cX12_sows 36 = .ok (.istore 5, 2) := by decide +kernel
theorem dX12_sows_38 : decode cX12_sows 38 = .ok (.aload_n 0, 1) := by decide +kernel
theorem dX12_sows_39 : decode cX12_sows 39 = .ok (.getfield 33, 3) := by decide +kernel
theorem dX12_sows_42 : decode cX12_sows 42 = .ok (.iload_n 3, 1) := by decide +kernel
theorem dX12_sows_43 : decode cX12_sows 43 = .ok (.iconst 0, 1) := by decide +kernel
theorem dX12_sows_44 : decode cX12_sows 44 = .ok (.iastore, 1) := by decide +kernel
theorem dX12_sows_45 : decode cX12_sows 45 = .ok (.iload_n 3, 1) := by decide +kernel
theorem dX12_sows_46 : decode cX12_sows 46 = .ok (.istore 6, 2) := by decide +kernel
theorem dX12_sows_48 : decode cX12_sows 48 = .ok (.iconst 0, 1) := by decide +kernel
theorem dX12_sows_49 : decode cX12_sows 49 = .ok (.istore 7, 2) := by decide +kernel
theorem dX12_sows_51 : decode cX12_sows 51 = .ok (.iload 5, 2) := by decide +kernel
theorem dX12_sows_53 : decode cX12_sows 53 = .ok (.ifCond .le 85, 3) := by decide +kernel
theorem dX12_sows_56 : decode cX12_sows 56 = .ok (.aload_n 0, 1) := by decide +kernel
theorem dX12_sows_57 : decode cX12_sows 57 = .ok (.iload_n 1, 1) := by decide +kernel
theorem dX12_sows_58 : decode cX12_sows 58 = .ok (.iload 6, 2) := by decide +kernel
theorem dX12_sows_60 : decode cX12_sows 60 = .ok (.aload_n 0, 1) := by decide +kernel
theorem dX12_sows_61 : decode cX12_sows 61 = .ok (.getfield 9, 3) := by decide +kernel
theorem dX12_sows_64 : decode cX12_sows 64 = .ok (.iconst 5, 1) := by decide +kernel
theorem dX12_sows_65 : decode cX12_sows 65 = .ok (.iaload, 1) := by decide +kernel
theorem dX12_sows_66 : decode cX12_sows 66 = .ok (.iconst 1, 1) := by decide +kernel
theorem dX12_sows_67 : decode cX12_sows 67 = .ok (.if_icmp .ne 7, 3) := by decide +kernel
theorem dX12_sows_70 : decode cX12_sows 70 = .ok (.iload_n 3, 1) := by decide +kernel
theorem dX12_sows_71 : decode cX12_sows 71 = .ok (.goto 4, 3) := by decide +kernel
theorem dX12_sows_74 : decode cX12_sows 74 = .ok (.iconst (-1), 1) := by decide +kernel
theorem dX12_sows_75 : decode cX12_sows 75 = .ok (.invokevirtual 273, 3) := by decide +kernel
theorem dX12_sows_78 : decode cX12_sows 78 = .ok (.istore 6, 2) := by decide +kernel
theorem dX12_sows_80 : decode cX12_sows 80 = .ok (.iload 6, 2) := by decide +kernel
theorem dX12_sows_82 : decode cX12_sows 82 = .ok (.iconst (-1), 1) := by decide +kernel
theorem dX12_sows_83 : decode cX12_sows 83 = .ok (.if_icmp .ne 9, 3) := by decide +kernel
theorem dX12_sows_86 : decode cX12_sows 86 = .ok (.aload_n 0, 1) := by decide +kernel
theorem dX12_sows_87 : decode cX12_sows 87 = .ok (.iconst 1, 1) := by decide +kernel
theorem dX12_sows_88 : decode cX12_sows 88 = .ok (.putfield 269, 3) := by decide +kernel
theorem dX12_sows_91 : decode cX12_sows 91 = .ok (.return_, 1) := by decide +kernel
theorem dX12_sows_92 : decode cX12_sows 92 = .ok (.iload 6, 2) := by decide +kernel
theorem dX12_sows_94 : decode cX12_sows 94 = .ok (.bipush 100, 2) := by decide +kernel
theorem dX12_sows_96 : decode cX12_sows 96 = .ok (.if_icmp .ne 16, 3) := by decide +kernel
theorem dX12_sows_99 : decode cX12_sows 99 = .ok (.aload_n 0, 1) := by decide +kernel
theorem dX12_sows_100 : decode cX12_sows 100 = .ok (.dup, 1) := by decide +kernel
theorem dX12_sows_101 : decode cX12_sows 101 = .ok (.getfield 263, 3) := by decide +kernel
theorem dX12_sows_104 : decode cX12_sows 104 = .ok (.iconst 1, 1) := by decide +kernel
theorem dX12_sows_105 : decode cX12_sows 105 = .ok (.iadd, 1) := by decide +kernel
theorem dX12_sows_106 : decode cX12_sows 106 = .ok (.putfield 263, 3) := by decide +kernel
theorem dX12_sows_109 : decode cX12_sows 109 = .ok (.goto 23, 3) := by decide +kernel
theorem dX12_sows_112 : decode cX12_sows 112 = .ok (.aload_n 0, 1) := by decide +kernel
theorem dX12_sows_113 : decode cX12_sows 113 = .ok (.getfield 33, 3) := by decide +kernel
theorem dX12_sows_116 : decode cX12_sows 116 = .ok (.iload 6, 2) := by decide +kernel
theorem dX12_sows_118 : decode cX12_sows 118 = .ok (.iaload, 1) := by decide +kernel
theorem dX12_sows_119 : decode cX12_sows 119 = .ok (.istore 7, 2) := by decide +kernel
theorem dX12_sows_121 : decode cX12_sows 121 = .ok (.aload_n 0, 1) := by decide +kernel
theorem dX12_sows_122 : decode cX12_sows 122 = .ok (.getfield 33, 3) := by decide +kernel
theorem dX12_sows_125 : decode cX12_sows 125 = .ok (.iload 6, 2) := by decide +kernel
theorem dX12_sows_127 : decode cX12_sows 127 = .ok (.dup2, 1) := by decide +kernel
theorem dX12_sows_128 : decode cX12_sows 128 = .ok (.iaload, 1) := by decide +kernel
theorem dX12_sows_129 : decode cX12_sows 129 = .ok (.iconst 1, 1) := by decide +kernel
theorem dX12_sows_130 : decode cX12_sows 130 = .ok (.iadd, 1) := by decide +kernel
theorem dX12_sows_131 : decode cX12_sows 131 = .ok (.iastore, 1) := by decide +kernel
theorem dX12_sows_132 : decode cX12_sows 132 = .ok (.iinc 5 (-1), 3) := by decide +kernel
theorem dX12_sows_135 : decode cX12_sows 135 = .ok (.goto (-84), 3) := by decide +kernel
theorem dX12_sows_138 : decode cX12_sows 138 = .ok (.aload_n 0, 1) := by decide +kernel
theorem dX12_sows_139 : decode cX12_sows 139 = .ok (.iload 6, 2) := by decide +kernel
theorem dX12_sows_141 : decode cX12_sows 141 = .ok (.putfield 277, 3) := by decide +kernel
theorem dX12_sows_144 : decode cX12_sows 144 = .ok (.aload_n 0, 1) := by decide +kernel
theorem dX12_sows_145 : decode cX12_sows 145 = .ok (.getfield 9, 3) := by decide +kernel
theorem dX12_sows_148 : decode cX12_sows 148 = .ok (.bipush 6, 2) := by decide +kernel
theorem dX12_sows_150 : decode cX12_sows 150 = .ok (.iaload, 1) := by decide +kernel
theorem dX12_sows_151 : decode cX12_sows 151 = .ok (.ifCond .le 19, 3) := by decide +kernel
theorem dX12_sows_154 : decode cX12_sows 154 = .ok (.iload 6, 2) := by decide +kernel
theorem dX12_sows_156 : decode cX12_sows 156 = .ok (.bipush 100, 2) := by decide +kernel
theorem dX12_sows_158 : decode cX12_sows 158 = .ok (.if_icmp .eq 12, 3) := by decide +kernel
theorem dX12_sows_161 : decode cX12_sows 161 = .ok (.iload 7, 2) := by decide +kernel
theorem dX12_sows_163 : decode cX12_sows 163 = .ok (.ifCond .le 7, 3) := by decide +kernel
theorem dX12_sows_166 : decode cX12_sows 166 = .ok (.iconst 1, 1) := by decide +kernel
theorem dX12_sows_167 : decode cX12_sows 167 = .ok (.goto 4, 3) := by decide +kernel
theorem dX12_sows_170 : decode cX12_sows 170 = .ok (.iconst 0, 1) := by decide +kernel
theorem dX12_sows_171 : decode cX12_sows 171 = .ok (.istore 4, 2) := by decide +kernel
theorem dX12_sows_173 : decode cX12_sows 173 = .ok (.iload 4, 2) := by decide +kernel
theorem dX12_sows_175 : decode cX12_sows 175 = .ok (.ifCond .eq 23, 3) := by decide +kernel
theorem dX12_sows_178 : decode cX12_sows 178 = .ok (.aload_n 0, 1) := by decide +kernel
theorem dX12_sows_179 : decode cX12_sows 179 = .ok (.getfield 260, 3) := by decide +kernel
theorem dX12_sows_182 : decode cX12_sows 182 = .ok (.aload_n 0, 1) := by decide +kernel
theorem dX12_sows_183 : decode cX12_sows 183 = .ok (.getfield 9, 3) := by decide +kernel
theorem dX12_sows_186 : decode cX12_sows 186 = .ok (.bipush 6, 2) := by decide +kernel
theorem dX12_sows_188 : decode cX12_sows 188 = .ok (.iaload, 1) := by decide +kernel
theorem dX12_sows_189 : decode cX12_sows 189 = .ok (.if_icmp .ne 9, 3) := by decide +kernel
theorem dX12_sows_192 : decode cX12_sows 192 = .ok (.aload_n 0, 1) := by decide +kernel
theorem dX12_sows_193 : decode cX12_sows 193 = .ok (.iconst 1, 1) := by decide +kernel
theorem dX12_sows_194 : decode cX12_sows 194 = .ok (.putfield 269, 3) := by decide +kernel
theorem dX12_sows_197 : decode cX12_sows 197 = .ok (.return_, 1) := by decide +kernel
theorem dX12_sows_198 : decode cX12_sows 198 = .ok (.iload 4, 2) := by decide +kernel
theorem dX12_sows_200 : decode cX12_sows 200 = .ok (.ifCond .eq 19, 3) := by decide +kernel
theorem dX12_sows_203 : decode cX12_sows 203 = .ok (.aload_n 0, 1) := by decide +kernel
theorem dX12_sows_204 : decode cX12_sows 204 = .ok (.dup, 1) := by decide +kernel
theorem dX12_sows_205 : decode cX12_sows 205 = .ok (.getfield 260, 3) := by decide +kernel
theorem dX12_sows_208 : decode cX12_sows 208 = .ok (.iconst 1, 1) := by decide +kernel
theorem dX12_sows_209 : decode cX12_sows 209 = .ok (.iadd, 1) := by decide +kernel
theorem dX12_sows_210 : decode cX12_sows 210 = .ok (.putfield 260, 3) := by decide +kernel
theorem dX12_sows_213 : decode cX12_sows 213 = .ok (.iload 6, 2) := by decide +kernel
theorem dX12_sows_215 : decode cX12_sows 215 = .ok (.istore_n 3, 1) := by decide +kernel
theorem dX12_sows_216 : decode cX12_sows 216 = .ok (.goto 17, 3) := by decide +kernel
theorem dX12_sows_219 : decode cX12_sows 219 = .ok (.iload 6, 2) := by decide +kernel
theorem dX12_sows_221 : decode cX12_sows 221 = .ok (.bipush 100, 2) := by decide +kernel
theorem dX12_sows_223 : decode cX12_sows 223 = .ok (.if_icmp .eq 10, 3) := by decide +kernel
theorem dX12_sows_226 : decode cX12_sows 226 = .ok (.aload_n 0, 1) := by decide +kernel
theorem dX12_sows_227 : decode cX12_sows 227 = .ok (.iload_n 1, 1) := by decide +kernel
theorem dX12_sows_228 : decode cX12_sows 228 = .ok (.iload 7, 2) := by decide +kernel
theorem dX12_sows_230 : decode cX12_sows 230 = .ok (.invokevirtual 280, 3) := by decide +kernel
theorem dX12_sows_233 : decode cX12_sows 233 = .ok (.goto (-208), 3) := by decide +kernel
theorem dX12_sows_236 : decode cX12_sows 236 = .ok (.aload_n 0, 1) := by decide +kernel
theorem dX12_sows_237 : decode cX12_sows 237 = .ok (.dup, 1) := by decide +kernel
theorem dX12_sows_238 : decode cX12_sows 238 = .ok (.getfield 263, 3) := by decide +kernel
theorem dX12_sows_241 : decode cX12_sows 241 = .ok (.aload_n 0, 1) := by decide +kernel
theorem dX12_sows_242 : decode cX12_sows 242 = .ok (.getfield 266, 3) := by decide +kernel
theorem dX12_sows_245 : decode cX12_sows 245 = .ok (.iadd, 1) := by decide +kernel
theorem dX12_sows_246 : decode cX12_sows 246 = .ok (.putfield 263, 3) := by decide +kernel
theorem dX12_sows_249 : decode cX12_sows 249 = .ok (.aload_n 0, 1) := by decide +kernel
theorem dX12_sows_250 : decode cX12_sows 250 = .ok (.aload_n 0, 1) := by decide +kernel
theorem dX12_sows_251 : decode cX12_sows 251 = .ok (.getfield 9, 3) := by decide +kernel
theorem dX12_sows_254 : decode cX12_sows 254 = .ok (.bipush 9, 2) := by decide +kernel
theorem dX12_sows_256 : decode cX12_sows 256 = .ok (.iaload, 1) := by decide +kernel
theorem dX12_sows_257 : decode cX12_sows 257 = .ok (.iconst 1, 1) := by decide +kernel
theorem dX12_sows_258 : decode cX12_sows 258 = .ok (.if_icmp .ne 16, 3) := by decide +kernel
theorem dX12_sows_261 : decode cX12_sows 261 = .ok (.aload_n 0, 1) := by decide +kernel
theorem dX12_sows_262 : decode cX12_sows 262 = .ok (.getfield 277, 3) := by decide +kernel
theorem dX12_sows_265 : decode cX12_sows 265 = .ok (.bipush 100, 2) := by decide +kernel
theorem dX12_sows_267 : decode cX12_sows 267 = .ok (.if_icmp .ne 7, 3) := by decide +kernel
theorem dX12_sows_270 : decode cX12_sows 270 = .ok (.iload_n 1, 1) := by decide +kernel
theorem dX12_sows_271 : decode cX12_sows 271 = .ok (.goto 6, 3) := by decide +kernel
theorem dX12_sows_274 : decode cX12_sows 274 = .ok (.iconst 1, 1) := by decide +kernel
theorem dX12_sows_275 : decode cX12_sows 275 = .ok (.iload_n 1, 1) := by decide +kernel
theorem dX12_sows_276 : decode cX12_sows 276 = .ok (.isub, 1) := by decide +kernel
theorem dX12_sows_277 : decode cX12_sows 277 = .ok (.putfield 284, 3) := by decide +kernel
theorem dX12_sows_280 : decode cX12_sows 280 = .ok (.return_, 1) := by decide +kernel
theorem dX12_takes_0 : decode cX12_takes 0 = .ok (.aload_n 0, 1) := by decide +kernel
theorem dX12_takes_1 : decode cX12_takes 1 = .ok (.getfield 9, 3) := by decide +kernel
theorem dX12_takes_4 : decode cX12_takes 4 = .ok (.bipush 7, 2) := by decide +kernel
theorem dX12_takes_6 : decode cX12_takes 6 = .ok (.iaload, 1) := by decide +kernel
theorem dX12_takes_7 : decode cX12_takes 7 = .ok (.iconst 1, 1) := by decide +kernel
theorem dX12_takes_8 : decode cX12_takes 8 = .ok (.if_icmp .ne 89, 3) := by decide +kernel
theorem dX12_takes_11 : decode cX12_takes 11 = .ok (.aload_n 0, 1) := by decide +kernel
theorem dX12_takes_12 : decode cX12_takes 12 = .ok (.invokevirtual 245, 3) := by decide +kernel
theorem dX12_takes_15 : decode cX12_takes 15 = .ok (.iconst 1, 1) := by decide +kernel
theorem dX12_takes_16 : decode cX12_takes 16 = .ok (.isub, 1) := by decide +kernel
theorem dX12_takes_17 : decode cX12_takes 17 = .ok (.aload_n 0, 1) := by decide +kernel
theorem dX12_takes_18 : decode cX12_takes 18 = .ok (.getfield 277, 3) := by decide +kernel
theorem dX12_takes_21 : decode cX12_takes 21 = .ok (.isub, 1) := by decide +kernel
theorem dX12_takes_22 : decode cX12_takes 22 = .ok (.istore_n 3, 1) := by decide +kernel
theorem dX12_takes_23 : decode cX12_takes 23 = .ok (.aload_n 0, 1) := by decide +kernel
theorem dX12_takes_24 : decode cX12_takes 24 = .ok (.aload_n 0, 1) := by decide +kernel
theorem dX12_takes_25 : decode cX12_takes 25 = .ok (.getfield 277, 3) := by decide +kernel
theorem dX12_takes_28 : decode cX12_takes 28 = .ok (.invokevirtual 257, 3) := by decide +kernel
theorem dX12_takes_31 : decode cX12_takes 31 = .ok (.iload_n 1, 1) := by decide +kernel
theorem dX12_takes_32 : decode cX12_takes 32 = .ok (.if_icmp .ne 24, 3) := by decide +kernel
theorem dX12_takes_35 : decode cX12_takes 35 = .ok (.iload_n 2, 1) := by decide +kernel
theorem dX12_takes_36 : decode cX12_takes 36 = .ok (.ifCond .gt 20, 3) := by decide +kernel
theorem dX12_takes_39 : decode cX12_takes 39 = .ok (.aload_n 0, 1) := by decide +kernel
theorem dX12_takes_40 : decode cX12_takes 40 = .ok (.iload_n 3, 1) := by decide +kernel
theorem dX12_takes_41 : decode cX12_takes 41 = .ok (.invokevirtual 251, 3) := by decide +kernel
theorem dX12_takes_44 : decode cX12_takes 44 = .ok (.ifCond .ne 12, 3) := by decide +kernel
theorem dX12_takes_47 : decode cX12_takes 47 = .ok (.aload_n 0, 1) := by decide +kernel
theorem dX12_takes_48 : decode cX12_takes 48 = .ok (.getfield 33, 3) := by decide +kernel
theorem dX12_takes_51 : decode cX12_takes 51 = .ok (.iload_n 3, 1) := by decide +kernel
theorem dX12_takes_52 : decode cX12_takes 52 = .ok (.iaload, 1) := by decide +kernel
theorem dX12_takes_53 : decode cX12_takes 53 = .ok (.ifCond .ne 4, 3) := by decide +kernel
theorem dX12_takes_56 : decode cX12_takes 56 = .ok (.return_, 1) := by decide +kernel
theorem dX12_takes_57 : decode cX12_takes 57 = .ok (.aload_n 0, 1) := by decide +kernel
theorem dX12_takes_58 : decode cX12_takes 58 = .ok (.aload_n 0, 1) := by decide +kernel
theorem dX12_takes_59 : decode cX12_takes 59 = .ok (.getfield 33, 3) := by decide +kernel
theorem dX12_takes_62 : decode cX12_takes 62 = .ok (.iload_n 3, 1) := by decide +kernel
theorem dX12_takes_63 : decode cX12_takes 63 = .ok (.iaload, 1) := by decide +kernel
theorem dX12_takes_64 : decode cX12_takes 64 = .ok (.aload_n 0, 1) := by decide +kernel
theorem dX12_takes_65 : decode cX12_takes 65 = .ok (.getfield 33, 3) := by decide +kernel
theorem dX12_takes_68 : decode cX12_takes 68 = .ok (.aload_n 0, 1) := by decide +kernel
theorem dX12_takes_69 : decode cX12_takes 69 = .ok (.getfield 277, 3) := by decide +kernel
theorem dX12_takes_72 : decode cX12_takes 72 = .ok (.iaload, 1) := by decide +kernel
theorem dX12_takes_73 : decode cX12_takes 73 = .ok (.iadd, 1) := by decide +kernel
theorem dX12_takes_74 : decode cX12_takes 74 = .ok (.putfield 266, 3) := by decide +kernel
theorem dX12_takes_77 : decode cX12_takes 77 = .ok (.aload_n 0, 1) := by decide +kernel
theorem dX12_takes_78 : decode cX12_takes 78 = .ok (.getfield 33, 3) := by decide +kernel
theorem dX12_takes_81 : decode cX12_takes 81 = .ok (.iload_n 3, 1) := by decide +kernel
theorem dX12_takes_82 : decode cX12_takes 82 = .ok (.iconst 0, 1) := by decide +kernel
theorem dX12_takes_83 : decode cX12_takes 83 = .ok (.iastore, 1) := by decide +kernel
theorem dX12_takes_84 : decode cX12_takes 84 = .ok (.aload_n 0, 1) := by decide +kernel
theorem dX12_takes_85 : decode cX12_takes 85 = .ok (.getfield 33, 3) := by decide +kernel
theorem dX12_takes_88 : decode cX12_takes 88 = .ok (.aload_n 0, 1) := by decide +kernel
theorem dX12_takes_89 : decode cX12_takes 89 = .ok (.getfield 277, 3) := by decide +kernel
theorem dX12_takes_92 : decode cX12_takes 92 = .ok (.iconst 0, 1) := by decide +kernel
theorem dX12_takes_93 : decode cX12_takes 93 = .ok (.iastore, 1) := by decide +kernel
theorem dX12_takes_94 : decode cX12_takes 94 = .ok (.goto 159, 3) := by decide +kernel
theorem dX12_takes_97 : decode cX12_takes 97 = .ok (.aload_n 0, 1) := by decide +kernel
theorem dX12_takes_98 : decode cX12_takes 98 = .ok (.getfield 9, 3) := by decide +kernel
theorem dX12_takes_101 : decode cX12_takes 101 = .ok (.bipush 7, 2) := by decide +kernel
theorem dX12_takes_103 : decode cX12_takes 103 = .ok (.iaload, 1) := by decide +kernel
theorem dX12_takes_104 : decode cX12_takes 104 = .ok (.iconst 2, 1) := by decide +kernel
theorem dX12_takes_105 : decode cX12_takes 105 = .ok (.if_icmp .ne 148, 3) := by decide +kernel
theorem dX12_takes_108 : decode cX12_takes 108 = .ok (.iconst 0, 1) := by decide +kernel
theorem dX12_takes_109 : decode cX12_takes 109 = .ok (.istore_n 3, 1) := by decide +kernel
theorem dX12_takes_110 : decode cX12_takes 110 = .ok (.iconst 0, 1) := by decide +kernel
theorem dX12_takes_111 : decode cX12_takes 111 = .ok (.istore 4, 2) := by decide +kernel
theorem dX12_takes_113 : decode cX12_takes 113 = .ok (.aload_n 0, 1) := by decide +kernel
theorem dX12_takes_114 : decode cX12_takes 114 = .ok (.getfield 277, 3) := by decide +kernel
theorem dX12_takes_117 : decode cX12_takes 117 = .ok (.istore 5, 2) := by decide +kernel
theorem dX12_takes_119 : decode cX12_takes 119 = .ok (.iload 5, 2) := by decide +kernel
theorem dX12_takes_121 : decode cX12_takes 121 = .ok (.iconst (-1), 1) := by decide +kernel
theorem dX12_takes_122 : decode cX12_takes 122 = .ok (.if_icmp .eq 65, 3) := by decide +kernel
theorem dX12_takes_125 : decode cX12_takes 125 = .ok (.aload_n 0, 1) := by decide +kernel
theorem dX12_takes_126 : decode cX12_takes 126 = .ok (.iload 5, 2) := by decide +kernel
theorem dX12_takes_128 : decode cX12_takes 128 = .ok (.invokevirtual 257, 3) := by decide +kernel
theorem dX12_takes_131 : decode cX12_takes 131 = .ok (.iload_n 1, 1) := by decide +kernel
theorem dX12_takes_132 : decode cX12_takes 132 = .ok (.if_icmp .eq 55, 3) := by decide +kernel
theorem dX12_takes_135 : decode cX12_takes 135 = .ok (.aload_n 0, 1) := by decide +kernel
theorem dX12_takes_136 : decode cX12_takes 136 = .ok (.getfield 33, 3) := by decide +kernel
theorem dX12_takes_139 : decode cX12_takes 139 = .ok (.iload 5, 2) := by decide +kernel
theorem dX12_takes_141 : decode cX12_takes 141 = .ok (.iaload, 1) := by decide +kernel
theorem dX12_takes_142 : decode cX12_takes 142 = .ok (.iconst 2, 1) := by decide +kernel
theorem dX12_takes_143 : decode cX12_takes 143 = .ok (.if_icmp .eq 14, 3) := by decide +kernel
theorem dX12_takes_146 : decode cX12_takes 146 = .ok (.aload_n 0, 1) := by decide +kernel
theorem dX12_takes_147 : decode cX12_takes 147 = .ok (.getfield 33, 3) := by decide +kernel
theorem dX12_takes_150 : decode cX12_takes 150 = .ok (.iload 5, 2) := by decide +kernel
theorem dX12_takes_152 : decode cX12_takes 152 = .ok (.iaload, 1) := by decide +kernel
theorem dX12_takes_153 : decode cX12_takes 153 = .ok (.iconst 3, 1) := by decide +kernel
theorem dX12_takes_154 : decode cX12_takes 154 = .ok (.if_icmp .ne 33, 3) := by decide +kernel
theorem dX12_takes_157 : decode cX12_takes 157 = .ok (.iload_n 3, 1) := by decide +kernel
theorem dX12_takes_158 : decode cX12_takes 158 = .ok (.iconst 1, 1) := by decide +kernel
theorem dX12_takes_159 : decode cX12_takes 159 = .ok (.iload 5, 2) := by decide +kernel
theorem dX12_takes_161 : decode cX12_takes 161 = .ok (.ishl, 1) := by decide +kernel
theorem dX12_takes_162 : decode cX12_takes 162 = .ok (.ior, 1) := by decide +kernel
theorem dX12_takes_163 : decode cX12_takes 163 = .ok (.istore_n 3, 1) := by decide +kernel
theorem dX12_takes_164 : decode cX12_takes 164 = .ok (.iload 4, 2) := by decide +kernel
theorem dX12_takes_166 : decode cX12_takes 166 = .ok (.aload_n 0, 1) := by decide +kernel
theorem dX12_takes_167 : decode cX12_takes 167 = .ok (.getfield 33, 3) := by decide +kernel
theorem dX12_takes_170 : decode cX12_takes 170 = .ok (.iload 5, 2) := by decide +kernel
theorem dX12_takes_172 : decode cX12_takes 172 = .ok (.iaload, 1) := by decide +kernel
theorem dX12_takes_173 : decode cX12_takes 173 = .ok (.iadd, 1) := by decide +kernel
theorem dX12_takes_174 : decode cX12_takes 174 = .ok (.istore 4, 2) := by decide +kernel
theorem dX12_takes_176 : decode cX12_takes 176 = .ok (.aload_n 0, 1) := by decide +kernel
theorem dX12_takes_177 : decode cX12_takes 177 = .ok (.iload 5, 2) := by decide +kernel
theorem dX12_takes_179 : decode cX12_takes 179 = .ok (.invokevirtual 287, 3) := by decide +kernel
theorem dX12_takes_182 : decode cX12_takes 182 = .ok (.istore 5, 2) := by decide +kernel
theorem dX12_takes_184 : decode cX12_takes 184 = .ok (.goto (-65), 3) := by decide +kernel
theorem dX12_takes_187 : decode cX12_takes 187 = .ok (.aload_n 0, 1) := by decide +kernel
theorem dX12_takes_188 : decode cX12_takes 188 = .ok (.getfield 9, 3) := by decide +kernel
theorem dX12_takes_191 : decode cX12_takes 191 = .ok (.bipush 8, 2) := by decide +kernel
theorem dX12_takes_193 : decode cX12_takes 193 = .ok (.iaload, 1) := by decide +kernel
theorem dX12_takes_194 : decode cX12_takes 194 = .ok (.iconst 1, 1) := by decide +kernel
theorem dX12_takes_195 : decode cX12_takes 195 = .ok (.if_icmp .ne 16, 3) := by decide +kernel
theorem dX12_takes_198 : decode cX12_takes 198 = .ok (.iload 4, 2) := by decide +kernel
theorem dX12_takes_200 : decode cX12_takes 200 = .ok (.aload_n 0, 1) := by decide +kernel
theorem dX12_takes_201 : decode cX12_takes 201 = .ok (.iconst 1, 1) := by decide +kernel
theorem dX12_takes_202 : decode cX12_takes 202 = .ok (.iload_n 1, 1) := by decide +kernel
theorem dX12_takes_203 : decode cX12_takes 203 = .ok (.isub, 1) := by decide +kernel
theorem dX12_takes_204 : decode cX12_takes 204 = .ok (.invokevirtual 290, 3) := by decide +kernel
theorem dX12_takes_207 : decode cX12_takes 207 = .ok (.if_icmp .ne 4, 3) := by decide +kernel
theorem dX12_takes_210 : decode cX12_takes 210 = .ok (.return_, 1) := by decide +kernel
theorem dX12_takes_211 : decode cX12_takes 211 = .ok (.aload_n 0, 1) := by decide +kernel
theorem dX12_takes_212 : decode cX12_takes 212 = .ok (.iload 4, 2) := by decide +kernel
theorem dX12_takes_214 : decode cX12_takes 214 = .ok (.putfield 266, 3) := by decide +kernel
theorem dX12_takes_217 : decode cX12_takes 217 = .ok (.iconst 0, 1) := by decide +kernel
theorem dX12_takes_218 : decode cX12_takes 218 = .ok (.istore 5, 2) := by decide +kernel
theorem dX12_takes_220 : decode cX12_takes 220 = .ok (.iload 5, 2) := by decide +kernel
theorem dX12_takes_222 : decode cX12_takes 222 = .ok (.aload_n 0, 1) := by decide +kernel
theorem dX12_takes_223 : decode cX12_takes 223 = .ok (.invokevirtual 245, 3) := by decide +kernel
theorem dX12_takes_226 : decode cX12_takes 226 = .ok (.if_icmp .ge 27, 3) := by decide +kernel
theorem dX12_takes_229 : decode cX12_takes 229 = .ok (.iload_n 3, 1) := by decide +kernel
theorem dX12_takes_230 : decode cX12_takes 230 = .ok (.iload 5, 2) := by decide +kernel
theorem dX12_takes_232 : decode cX12_takes 232 = .ok (.ishr, 1) := by decide +kernel
theorem dX12_takes_233 : decode cX12_takes 233 = .ok (.iconst 1, 1) := by decide +kernel
theorem dX12_takes_234 : decode cX12_takes 234 = .ok (.iand, 1) := by decide +kernel
theorem dX12_takes_235 : decode cX12_takes 235 = .ok (.iconst 1, 1) := by decide +kernel
theorem dX12_takes_236 : decode cX12_takes 236 = .ok (.if_icmp .ne 11, 3) := by decide +kernel
theorem dX12_takes_239 : decode cX12_takes 239 = .ok (.aload_n 0, 1) := by decide +kernel
theorem dX12_takes_240 : decode cX12_takes 240 = .ok (.getfield 33, 3) := by decide +kernel
theorem dX12_takes_243 : decode cX12_takes 243 = .ok (.iload 5, 2) := by decide +kernel
theorem dX12_takes_245 : decode cX12_takes 245 = .ok (.iconst 0, 1) := by decide +kernel
theorem dX12_takes_246 : decode cX12_takes 246 = .ok (.iastore, 1) := by decide +kernel
theorem dX12_takes_247 : decode cX12_takes 247 = .ok (.iinc 5 1, 3) := by decide +kernel
theorem dX12_takes_250 : decode cX12_takes 250 = .ok (.goto (-30), 3) := by decide +kernel
theorem dX12_takes_253 : decode cX12_takes 253 = .ok (.return_, 1) := by decide +kernel
theorem dX12_ahead_0 : decode cX12_ahead 0 = .ok (.iload_n 1, 1) := by decide +kernel
theorem dX12_ahead_1 : decode cX12_ahead 1 = .ok (.iconst 1, 1) := by decide +kernel
theorem dX12_ahead_2 : decode cX12_ahead 2 = .ok (.isub, 1) := by decide +kernel
theorem dX12_ahead_3 : decode cX12_ahead 3 = .ok (.istore_n 2, 1) := by decide +kernel
theorem dX12_ahead_4 : decode cX12_ahead 4 = .ok (.iload_n 2, 1) := by decide +kernel
theorem dX12_ahead_5 : decode cX12_ahead 5 = .ok (.ifCond .lt 30, 3) := by decide +kernel
theorem dX12_ahead_8 : decode cX12_ahead 8 = .ok (.aload_n 0, 1) := by decide +kernel
theorem dX12_ahead_9 : decode cX12_ahead 9 = .ok (.iload_n 2, 1) := by decide +kernel
theorem dX12_ahead_10 : decode cX12_ahead 10 = .ok (.invokevirtual 257, 3) := by decide +kernel
theorem dX12_ahead_13 : decode cX12_ahead 13 = .ok (.aload_n 0, 1) := by decide +kernel
theorem dX12_ahead_14 : decode cX12_ahead 14 = .ok (.iload_n 1, 1) := by decide +kernel
theorem dX12_ahead_15 : decode cX12_ahead 15 = .ok (.invokevirtual 257, 3) := by decide +kernel
theorem dX12_ahead_18 : decode cX12_ahead 18 = .ok (.if_icmp .ne 17, 3) := by decide +kernel
theorem dX12_ahead_21 : decode cX12_ahead 21 = .ok (.aload_n 0, 1) := by decide +kernel
theorem dX12_ahead_22 : decode cX12_ahead 22 = .ok (.iload_n 2, 1) := by decide +kernel
theorem dX12_ahead_23 : decode cX12_ahead 23 = .ok (.invokevirtual 251, 3) := by decide +kernel
theorem dX12_ahead_26 : decode cX12_ahead 26 = .ok (.ifCond .eq 9, 3) := by decide +kernel
theorem dX12_ahead_29 : decode cX12_ahead 29 = .ok (.iinc 2 (-1), 3) := by decide +kernel
theorem dX12_ahead_32 : decode cX12_ahead 32 = .ok (.goto (-28), 3) := by decide +kernel
theorem dX12_ahead_35 : decode cX12_ahead 35 = .ok (.iload_n 2, 1) := by decide +kernel
theorem dX12_ahead_36 : decode cX12_ahead 36 = .ok (.ifCond .lt 20, 3) := by decide +kernel
theorem dX12_ahead_39 : decode cX12_ahead 39 = .ok (.aload_n 0, 1) := by decide +kernel
theorem dX12_ahead_40 : decode cX12_ahead 40 = .ok (.iload_n 2, 1) := by decide +kernel
theorem dX12_ahead_41 : decode cX12_ahead 41 = .ok (.invokevirtual 257, 3) := by decide +kernel
theorem dX12_ahead_44 : decode cX12_ahead 44 = .ok (.aload_n 0, 1) := by decide +kernel
theorem dX12_ahead_45 : decode cX12_ahead 45 = .ok (.iload_n 1, 1) := by decide +kernel
theorem dX12_ahead_46 : decode cX12_ahead 46 = .ok (.invokevirtual 257, 3) := by decide +kernel
theorem dX12_ahead_49 : decode cX12_ahead 49 = .ok (.if_icmp .ne 7, 3) := by decide +kernel
theorem dX12_ahead_52 : decode cX12_ahead 52 = .ok (.iload_n 2, 1) := by decide +kernel
theorem dX12_ahead_53 : decode cX12_ahead 53 = .ok (.goto 4, 3) := by decide +kernel
theorem dX12_ahead_56 : decode cX12_ahead 56 = .ok (.iconst (-1), 1) := by decide +kernel
theorem dX12_ahead_57 : decode cX12_ahead 57 = .ok (.ireturn, 1) := by decide +kernel
theorem dX12_isFull_0 : decode cX12_isFull 0 = .ok (.aload_n 0, 1) := by decide +kernel
theorem dX12_isFull_1 : decode cX12_isFull 1 = .ok (.iload_n 1, 1) := by decide +kernel
theorem dX12_isFull_2 : decode cX12_isFull 2 = .ok (.invokevirtual 248, 3) := by decide +kernel
theorem dX12_isFull_5 : decode cX12_isFull 5 = .ok (.ifCond .eq 41, 3) := by decide +kernel
theorem dX12_isFull_8 : decode cX12_isFull 8 = .ok (.aload_n 0, 1) := by decide +kernel
theorem dX12_isFull_9 : decode cX12_isFull 9 = .ok (.iload_n 1, 1) := by decide +kernel
theorem dX12_isFull_10 : decode cX12_isFull 10 = .ok (.invokevirtual 257, 3) := by decide +kernel
theorem dX12_isFull_13 : decode cX12_isFull 13 = .ok (.aload_n 0, 1) := by decide +kernel
theorem dX12_isFull_14 : decode cX12_isFull 14 = .ok (.getfield 9, 3) := by decide +kernel
theorem dX12_isFull_17 : decode cX12_isFull 17 = .ok (.iconst 2, 1) := by decide +kernel
theorem dX12_isFull_18 : decode cX12_isFull 18 = .ok (.iaload, 1) := by decide +kernel
theorem dX12_isFull_19 : decode cX12_isFull 19 = .ok (.if_icmp .ne 27, 3) := by decide +kernel
theorem dX12_isFull_22 : decode cX12_isFull 22 = .ok (.aload_n 0, 1) := by decide +kernel
theorem dX12_isFull_23 : decode cX12_isFull 23 = .ok (.iload_n 1, 1) := by decide +kernel
theorem dX12_isFull_24 : decode cX12_isFull 24 = .ok (.invokevirtual 251, 3) := by decide +kernel
theorem dX12_isFull_27 : decode cX12_isFull 27 = .ok (.ifCond .ne 19, 3) := by decide +kernel
theorem dX12_isFull_30 : decode cX12_isFull 30 = .ok (.aload_n 0, 1) := by decide +kernel
theorem dX12_isFull_31 : decode cX12_isFull 31 = .ok (.getfield 9, 3) := by decide +kernel
theorem dX12_isFull_34 : decode cX12_isFull 34 = .ok (.bipush 13, 2) := by decide +kernel
theorem dX12_isFull_36 : decode cX12_isFull 36 = .ok (.iload_n 1, 1) := by decide +kernel
theorem dX12_isFull_37 : decode cX12_isFull 37 = .ok (.iadd, 1) := by decide +kernel
theorem dX12_isFull_38 : decode cX12_isFull 38 = .ok (.iaload, 1) := by decide +kernel
theorem dX12_isFull_39 : decode cX12_isFull 39 = .ok (.ifCond .le 7, 3) := by decide +kernel
theorem dX12_isFull_42 : decode cX12_isFull 42 = .ok (.iconst 1, 1) := by decide +kernel
theorem dX12_isFull_43 : decode cX12_isFull 43 = .ok (.goto 4, 3) := by decide +kernel
theorem dX12_isFull_46 : decode cX12_isFull 46 = .ok (.iconst 0, 1) := by decide +kernel
theorem dX12_isFull_47 : decode cX12_isFull 47 = .ok (.ireturn, 1) := by decide +kernel
theorem dX12_triesFrom_0 : decode cX12_triesFrom 0 = .ok (.aload_n 0, 1) := by decide +kernel
theorem dX12_triesFrom_1 : decode cX12_triesFrom 1 = .ok (.invokevirtual 293, 3) := by decide +kernel
theorem dX12_triesFrom_4 : decode cX12_triesFrom 4 = .ok (.aload_n 0, 1) := by decide +kernel
theorem dX12_triesFrom_5 : decode cX12_triesFrom 5 = .ok (.aload_n 0, 1) := by decide +kernel
theorem dX12_triesFrom_6 : decode cX12_triesFrom 6 = .ok (.getfield 9, 3) := by decide +kernel
theorem dX12_triesFrom_9 : decode cX12_triesFrom 9 = .ok (.iconst 2, 1) := by decide +kernel
theorem dX12_triesFrom_10 : decode cX12_triesFrom 10 = .ok (.iaload, 1) := by decide +kernel
theorem dX12_triesFrom_11 : decode cX12_triesFrom 11 = .ok (.iload_n 1, 1) := by decide +kernel
theorem dX12_triesFrom_12 : decode cX12_triesFrom 12 = .ok (.invokevirtual 296, 3) := by decide +kernel
theorem dX12_triesFrom_15 : decode cX12_triesFrom 15 = .ok (.return_, 1) := by decide +kernel
theorem dX12_isOver_0 : decode cX12_isOver 0 = .ok (.iconst 0, 1) := by decide +kernel
theorem dX12_isOver_1 : decode cX12_isOver 1 = .ok (.istore_n 1, 1) := by decide +kernel
theorem dX12_isOver_2 : decode cX12_isOver 2 = .ok (.iload_n 1, 1) := by decide +kernel
theorem dX12_isOver_3 : decode cX12_isOver 3 = .ok (.aload_n 0, 1) := by decide +kernel
theorem dX12_isOver_4 : decode cX12_isOver 4 = .ok (.invokevirtual 245, 3) := by decide +kernel
theorem dX12_isOver_7 : decode cX12_isOver 7 = .ok (.if_icmp .ge 34, 3) := by decide +kernel
theorem dX12_isOver_10 : decode cX12_isOver 10 = .ok (.aload_n 0, 1) := by decide +kernel
theorem dX12_isOver_11 : decode cX12_isOver 11 = .ok (.iload_n 1, 1) := by decide +kernel
theorem dX12_isOver_12 : decode cX12_isOver 12 = .ok (.invokevirtual 299, 3) := by decide +kernel
theorem dX12_isOver_15 : decode cX12_isOver 15 = .ok (.ifCond .ne 6, 3) := by decide +kernel
theorem dX12_isOver_18 : decode cX12_isOver 18 = .ok (.goto 17, 3) := by decide +kernel
theorem dX12_isOver_21 : decode cX12_isOver 21 = .ok (.aload_n 0, 1) := by decide +kernel
theorem dX12_isOver_22 : decode cX12_isOver 22 = .ok (.iload_n 1, 1) := by decide +kernel
theorem dX12_isOver_23 : decode cX12_isOver 23 = .ok (.invokevirtual 302, 3) := by decide +kernel
theorem dX12_isOver_26 : decode cX12_isOver 26 = .ok (.aload_n 0, 1) := by decide +kernel
theorem dX12_isOver_27 : decode cX12_isOver 27 = .ok (.getfield 269, 3) := by decide +kernel
theorem dX12_isOver_30 : decode cX12_isOver 30 = .ok (.ifCond .ne 5, 3) := by decide +kernel
theorem dX12_isOver_33 : decode cX12_isOver 33 = .ok (.iconst 0, 1) := by decide +kernel
theorem dX12_isOver_34 : decode cX12_isOver 34 = .ok (.ireturn, 1) := by decide +kernel
theorem dX12_isOver_35 : decode cX12_isOver 35 = .ok (.iinc 1 1, 3) := by decide +kernel
theorem dX12_isOver_38 : decode cX12_isOver 38 = .ok (.goto (-36), 3) := by decide +kernel
theorem dX12_isOver_41 : decode cX12_isOver 41 = .ok (.iconst 1, 1) := by decide +kernel
theorem dX12_isOver_42 : decode cX12_isOver 42 = .ok (.ireturn, 1) := by decide +kernel
theorem dX12_canFeed_0 : decode cX12_canFeed 0 = .ok (.iconst 0, 1) := by decide +kernel
theorem dX12_canFeed_1 : decode cX12_canFeed 1 = .ok (.istore_n 1, 1) := by decide +kernel
theorem dX12_canFeed_2 : decode cX12_canFeed 2 = .ok (.iload_n 1, 1) := by decide +kernel
theorem dX12_canFeed_3 : decode cX12_canFeed 3 = .ok (.aload_n 0, 1) := by decide +kernel
theorem dX12_canFeed_4 : decode cX12_canFeed 4 = .ok (.invokevirtual 245, 3) := by decide +kernel
theorem dX12_canFeed_7 : decode cX12_canFeed 7 = .ok (.if_icmp .ge 49, 3) := by decide +kernel
theorem dX12_canFeed_10 : decode cX12_canFeed 10 = .ok (.aload_n 0, 1) := by decide +kernel
theorem dX12_canFeed_11 : decode cX12_canFeed 11 = .ok (.iload_n 1, 1) := by decide +kernel
theorem dX12_canFeed_12 : decode cX12_canFeed 12 = .ok (.invokevirtual 299, 3) := by decide +kernel
theorem dX12_canFeed_15 : decode cX12_canFeed 15 = .ok (.ifCond .ne 6, 3) := by decide +kernel
theorem dX12_canFeed_18 : decode cX12_canFeed 18 = .ok (.goto 32, 3) := by decide +kernel
theorem dX12_canFeed_21 : decode cX12_canFeed 21 = .ok (.aload_n 0, 1) := by decide +kernel
theorem dX12_canFeed_22 : decode cX12_canFeed 22 = .ok (.iload_n 1, 1) := by decide +kernel
theorem dX12_canFeed_23 : decode cX12_canFeed 23 = .ok (.invokevirtual 302, 3) := by decide +kernel
theorem dX12_canFeed_26 : decode cX12_canFeed 26 = .ok (.aload_n 0, 1) := by decide +kernel
theorem dX12_canFeed_27 : decode cX12_canFeed 27 = .ok (.getfield 269, 3) := by decide +kernel
theorem dX12_canFeed_30 : decode cX12_canFeed 30 = .ok (.ifCond .ne 20, 3) := by decide +kernel
theorem dX12_canFeed_33 : decode cX12_canFeed 33 = .ok (.aload_n 0, 1) := by decide +kernel
theorem dX12_canFeed_34 : decode cX12_canFeed 34 = .ok (.iconst 1, 1) := by decide +kernel
theorem dX12_canFeed_35 : decode cX12_canFeed 35 = .ok (.aload_n 0, 1) := by decide +kernel
theorem dX12_canFeed_36 : decode cX12_canFeed 36 = .ok (.getfield 9, 3) := by decide +kernel
theorem dX12_canFeed_39 : decode cX12_canFeed 39 = .ok (.iconst 2, 1) := by decide +kernel
theorem dX12_canFeed_40 : decode cX12_canFeed 40 = .ok (.iaload, 1) := by decide +kernel
theorem dX12_canFeed_41 : decode cX12_canFeed 41 = .ok (.isub, 1) := by decide +kernel
theorem dX12_canFeed_42 : decode cX12_canFeed 42 = .ok (.invokevirtual 290, 3) := by decide +kernel
theorem dX12_canFeed_45 : decode cX12_canFeed 45 = .ok (.ifCond .le 5, 3) := by decide +kernel
theorem dX12_canFeed_48 : decode cX12_canFeed 48 = .ok (.iconst 1, 1) := by decide +kernel
theorem dX12_canFeed_49 : decode cX12_canFeed 49 = .ok (.ireturn, 1) := by decide +kernel
theorem dX12_canFeed_50 : decode cX12_canFeed 50 = .ok (.iinc 1 1, 3) := by decide +kernel
theorem dX12_canFeed_53 : decode cX12_canFeed 53 = .ok (.goto (-51), 3) := by decide +kernel
theorem dX12_canFeed_56 : decode cX12_canFeed 56 = .ok (.iconst 0, 1) := by decide +kernel
theorem dX12_canFeed_57 : decode cX12_canFeed 57 = .ok (.ireturn, 1) := by decide +kernel
theorem dX12_whyNot_0 : decode cX12_whyNot 0 = .ok (.aload_n 0, 1) := by decide +kernel
theorem dX12_whyNot_1 : decode cX12_whyNot 1 = .ok (.invokevirtual 305, 3) := by decide +kernel
theorem dX12_whyNot_4 : decode cX12_whyNot 4 = .ok (.ifCond .eq 5, 3) := by decide +kernel
theorem dX12_whyNot_7 : decode cX12_whyNot 7 = .ok (.iconst 5, 1) := by decide +kernel
theorem dX12_whyNot_8 : decode cX12_whyNot 8 = .ok (.ireturn, 1) := by decide +kernel
theorem dX12_whyNot_9 : decode cX12_whyNot 9 = .ok (.aload_n 0, 1) := by decide +kernel
theorem dX12_whyNot_10 : decode cX12_whyNot 10 = .ok (.iload_n 1, 1) := by decide +kernel
theorem dX12_whyNot_11 : decode cX12_whyNot 11 = .ok (.invokevirtual 248, 3) := by decide +kernel
theorem dX12_whyNot_14 : decode cX12_whyNot 14 = .ok (.ifCond .eq 25, 3) := by decide +kernel
theorem dX12_whyNot_17 : decode cX12_whyNot 17 = .ok (.aload_n 0, 1) := by decide +kernel
theorem dX12_whyNot_18 : decode cX12_whyNot 18 = .ok (.iload_n 1, 1) := by decide +kernel
theorem dX12_whyNot_19 : decode cX12_whyNot 19 = .ok (.invokevirtual 257, 3) := by decide +kernel
theorem dX12_whyNot_22 : decode cX12_whyNot 22 = .ok (.aload_n 0, 1) := by decide +kernel
theorem dX12_whyNot_23 : decode cX12_whyNot 23 = .ok (.getfield 9, 3) := by decide +kernel
theorem dX12_whyNot_26 : decode cX12_whyNot 26 = .ok (.iconst 2, 1) := by decide +kernel
theorem dX12_whyNot_27 : decode cX12_whyNot 27 = .ok (.iaload, 1) := by decide +kernel
theorem dX12_whyNot_28 : decode cX12_whyNot 28 = .ok (.if_icmp .ne 11, 3) := by decide +kernel
theorem dX12_whyNot_31 : decode cX12_whyNot 31 = .ok (.aload_n 0, 1) := by decide +kernel
theorem dX12_whyNot_32 : decode cX12_whyNot 32 = .ok (.iload_n 1, 1) := by decide +kernel
theorem dX12_whyNot_33 : decode cX12_whyNot 33 = .ok (.invokevirtual 251, 3) := by decide +kernel
theorem dX12_whyNot_36 : decode cX12_whyNot 36 = .ok (.ifCond .eq 5, 3) := by decide +kernel
theorem dX12_whyNot_39 : decode cX12_whyNot 39 = .ok (.iconst 1, 1) := by decide +kernel
theorem dX12_whyNot_40 : decode cX12_whyNot 40 = .ok (.ireturn, 1) := by decide +kernel
theorem dX12_whyNot_41 : decode cX12_whyNot 41 = .ok (.aload_n 0, 1) := by decide +kernel
theorem dX12_whyNot_42 : decode cX12_whyNot 42 = .ok (.getfield 9, 3) := by decide +kernel
theorem dX12_whyNot_45 : decode cX12_whyNot 45 = .ok (.bipush 13, 2) := by decide +kernel
theorem dX12_whyNot_47 : decode cX12_whyNot 47 = .ok (.iload_n 1, 1) := by decide +kernel
theorem dX12_whyNot_48 : decode cX12_whyNot 48 = .ok (.iadd, 1) := by decide +kernel
theorem dX12_whyNot_49 : decode cX12_whyNot 49 = .ok (.iaload, 1) := by decide +kernel
theorem dX12_whyNot_50 : decode cX12_whyNot 50 = .ok (.ifCond .ne 5, 3) := by decide +kernel
theorem dX12_whyNot_53 : decode cX12_whyNot 53 = .ok (.iconst 2, 1) := by decide +kernel
theorem dX12_whyNot_54 : decode cX12_whyNot 54 = .ok (.ireturn, 1) := by decide +kernel
theorem dX12_whyNot_55 : decode cX12_whyNot 55 = .ok (.aload_n 0, 1) := by decide +kernel
theorem dX12_whyNot_56 : decode cX12_whyNot 56 = .ok (.iload_n 1, 1) := by decide +kernel
theorem dX12_whyNot_57 : decode cX12_whyNot 57 = .ok (.invokevirtual 302, 3) := by decide +kernel
theorem dX12_whyNot_60 : decode cX12_whyNot 60 = .ok (.aload_n 0, 1) := by decide +kernel
theorem dX12_whyNot_61 : decode cX12_whyNot 61 = .ok (.getfield 269, 3) := by decide +kernel
theorem dX12_whyNot_64 : decode cX12_whyNot 64 = .ok (.ifCond .eq 5, 3) := by decide +kernel
theorem dX12_whyNot_67 : decode cX12_whyNot 67 = .ok (.iconst 3, 1) := by decide +kernel
theorem dX12_whyNot_68 : decode cX12_whyNot 68 = .ok (.ireturn, 1) := by decide +kernel
theorem dX12_whyNot_69 : decode cX12_whyNot 69 = .ok (.aload_n 0, 1) := by decide +kernel
theorem dX12_whyNot_70 : decode cX12_whyNot 70 = .ok (.getfield 9, 3) := by decide +kernel
theorem dX12_whyNot_73 : decode cX12_whyNot 73 = .ok (.bipush 10, 2) := by decide +kernel
theorem dX12_whyNot_75 : decode cX12_whyNot 75 = .ok (.iaload, 1) := by decide +kernel
theorem dX12_whyNot_76 : decode cX12_whyNot 76 = .ok (.iconst 1, 1) := by decide +kernel
theorem dX12_whyNot_77 : decode cX12_whyNot 77 = .ok (.if_icmp .ne 29, 3) := by decide +kernel
theorem dX12_whyNot_80 : decode cX12_whyNot 80 = .ok (.aload_n 0, 1) := by decide +kernel
theorem dX12_whyNot_81 : decode cX12_whyNot 81 = .ok (.iconst 1, 1) := by decide +kernel
theorem dX12_whyNot_82 : decode cX12_whyNot 82 = .ok (.aload_n 0, 1) := by decide +kernel
theorem dX12_whyNot_83 : decode cX12_whyNot 83 = .ok (.getfield 9, 3) := by decide +kernel
theorem dX12_whyNot_86 : decode cX12_whyNot 86 = .ok (.iconst 2, 1) := by decide +kernel
theorem dX12_whyNot_87 : decode cX12_whyNot 87 = .ok (.iaload, 1) := by decide +kernel
theorem dX12_whyNot_88 : decode cX12_whyNot 88 = .ok (.isub, 1) := by decide +kernel
theorem dX12_whyNot_89 : decode cX12_whyNot 89 = .ok (.invokevirtual 290, 3) := by decide +kernel
theorem dX12_whyNot_92 : decode cX12_whyNot 92 = .ok (.ifCond .ne 14, 3) := by decide +kernel
theorem dX12_whyNot_95 : decode cX12_whyNot 95 = .ok (.aload_n 0, 1) := by decide +kernel
theorem dX12_whyNot_96 : decode cX12_whyNot 96 = .ok (.invokevirtual 308, 3) := by decide +kernel
theorem dX12_whyNot_99 : decode cX12_whyNot 99 = .ok (.ifCond .eq 7, 3) := by decide +kernel
theorem dX12_whyNot_102 : decode cX12_whyNot 102 = .ok (.iconst 4, 1) := by decide +kernel
theorem dX12_whyNot_103 : decode cX12_whyNot 103 = .ok (.goto 4, 3) := by decide +kernel
theorem dX12_whyNot_106 : decode cX12_whyNot 106 = .ok (.iconst 0, 1) := by decide +kernel
theorem dX12_whyNot_107 : decode cX12_whyNot 107 = .ok (.ireturn, 1) := by decide +kernel
theorem dX12_moves_0 : decode cX12_moves 0 = .ok (.aload_n 0, 1) := by decide +kernel
theorem dX12_moves_1 : decode cX12_moves 1 = .ok (.iload_n 1, 1) := by decide +kernel
theorem dX12_moves_2 : decode cX12_moves 2 = .ok (.invokevirtual 302, 3) := by decide +kernel
theorem dX12_moves_5 : decode cX12_moves 5 = .ok (.iconst 0, 1) := by decide +kernel
theorem dX12_moves_6 : decode cX12_moves 6 = .ok (.istore_n 2, 1) := by decide +kernel
theorem dX12_moves_7 : decode cX12_moves 7 = .ok (.iload_n 2, 1) := by decide +kernel
theorem dX12_moves_8 : decode cX12_moves 8 = .ok (.aload_n 0, 1) := by decide +kernel
theorem dX12_moves_9 : decode cX12_moves 9 = .ok (.invokevirtual 245, 3) := by decide +kernel
theorem dX12_moves_12 : decode cX12_moves 12 = .ok (.if_icmp .ge 24, 3) := by decide +kernel
theorem dX12_moves_15 : decode cX12_moves 15 = .ok (.aload_n 0, 1) := by decide +kernel
theorem dX12_moves_16 : decode cX12_moves 16 = .ok (.getfield 9, 3) := by decide +kernel
theorem dX12_moves_19 : decode cX12_moves 19 = .ok (.bipush 13, 2) := by decide +kernel
theorem dX12_moves_21 : decode cX12_moves 21 = .ok (.iload_n 2, 1) := by decide +kernel
theorem dX12_moves_22 : decode cX12_moves 22 = .ok (.iadd, 1) := by decide +kernel
theorem dX12_moves_23 : decode cX12_moves 23 = .ok (.aload_n 0, 1) := by decide +kernel
theorem dX12_moves_24 : decode cX12_moves 24 = .ok (.getfield 33, 3) := by decide +kernel
theorem dX12_moves_27 : decode cX12_moves 27 = .ok (.iload_n 2, 1) := by decide +kernel
theorem dX12_moves_28 : decode cX12_moves 28 = .ok (.iaload, 1) := by decide +kernel
theorem dX12_moves_29 : decode cX12_moves 29 = .ok (.iastore, 1) := by decide +kernel
theorem dX12_moves_30 : decode cX12_moves 30 = .ok (.iinc 2 1, 3) := by decide +kernel
theorem dX12_moves_33 : decode cX12_moves 33 = .ok (.goto (-26), 3) := by decide +kernel
theorem dX12_moves_36 : decode cX12_moves 36 = .ok (.aload_n 0, 1) := by decide +kernel
theorem dX12_moves_37 : decode cX12_moves 37 = .ok (.getfield 9, 3) := by decide +kernel
theorem dX12_moves_40 : decode cX12_moves 40 = .ok (.bipush 11, 2) := by decide +kernel
theorem dX12_moves_42 : decode cX12_moves 42 = .ok (.aload_n 0, 1) := by decide +kernel
theorem dX12_moves_43 : decode cX12_moves 43 = .ok (.getfield 9, 3) := by decide +kernel
theorem dX12_moves_46 : decode cX12_moves 46 = .ok (.iconst 2, 1) := by decide +kernel
theorem dX12_moves_47 : decode cX12_moves 47 = .ok (.iaload, 1) := by decide +kernel
theorem dX12_moves_48 : decode cX12_moves 48 = .ok (.iadd, 1) := by decide +kernel
theorem dX12_moves_49 : decode cX12_moves 49 = .ok (.dup2, 1) := by decide +kernel
theorem dX12_moves_50 : decode cX12_moves 50 = .ok (.iaload, 1) := by decide +kernel
theorem dX12_moves_51 : decode cX12_moves 51 = .ok (.aload_n 0, 1) := by decide +kernel
theorem dX12_moves_52 : decode cX12_moves 52 = .ok (.getfield 263, 3) := by decide +kernel
theorem dX12_moves_55 : decode cX12_moves 55 = .ok (.iadd, 1) := by decide +kernel
theorem dX12_moves_56 : decode cX12_moves 56 = .ok (.iastore, 1) := by decide +kernel
theorem dX12_moves_57 : decode cX12_moves 57 = .ok (.aload_n 0, 1) := by decide +kernel
theorem dX12_moves_58 : decode cX12_moves 58 = .ok (.getfield 9, 3) := by decide +kernel
theorem dX12_moves_61 : decode cX12_moves 61 = .ok (.iconst 2, 1) := by decide +kernel
theorem dX12_moves_62 : decode cX12_moves 62 = .ok (.aload_n 0, 1) := by decide +kernel
theorem dX12_moves_63 : decode cX12_moves 63 = .ok (.getfield 284, 3) := by decide +kernel
theorem dX12_moves_66 : decode cX12_moves 66 = .ok (.iastore, 1) := by decide +kernel
theorem dX12_moves_67 : decode cX12_moves 67 = .ok (.aload_n 0, 1) := by decide +kernel
theorem dX12_moves_68 : decode cX12_moves 68 = .ok (.getfield 263, 3) := by decide +kernel
theorem dX12_moves_71 : decode cX12_moves 71 = .ok (.ireturn, 1) := by decide +kernel
theorem dX12_may_0 : decode cX12_may 0 = .ok (.aload_n 0, 1) := by decide +kernel
theorem dX12_may_1 : decode cX12_may 1 = .ok (.iconst 0, 1) := by decide +kernel
theorem dX12_may_2 : decode cX12_may 2 = .ok (.putfield 107, 3) := by decide +kernel
theorem dX12_may_5 : decode cX12_may 5 = .ok (.aload_n 0, 1) := by decide +kernel
theorem dX12_may_6 : decode cX12_may 6 = .ok (.iload_n 1, 1) := by decide +kernel
theorem dX12_may_7 : decode cX12_may 7 = .ok (.invokevirtual 311, 3) := by decide +kernel
theorem dX12_may_10 : decode cX12_may 10 = .ok (.ireturn, 1) := by decide +kernel
theorem dX12_sown_0 : decode cX12_sown 0 = .ok (.aload_n 0, 1) := by decide +kernel
theorem dX12_sown_1 : decode cX12_sown 1 = .ok (.iconst 0, 1) := by decide +kernel
theorem dX12_sown_2 : decode cX12_sown 2 = .ok (.putfield 107, 3) := by decide +kernel
theorem dX12_sown_5 : decode cX12_sown 5 = .ok (.aload_n 0, 1) := by decide +kernel
theorem dX12_sown_6 : decode cX12_sown 6 = .ok (.iload_n 1, 1) := by decide +kernel
theorem dX12_sown_7 : decode cX12_sown 7 = .ok (.invokevirtual 299, 3) := by decide +kernel
theorem dX12_sown_10 : decode cX12_sown 10 = .ok (.ifCond .ne 9, 3) := by decide +kernel
theorem dX12_sown_13 : decode cX12_sown 13 = .ok (.aload_n 0, 1) := by decide +kernel
theorem dX12_sown_14 : decode cX12_sown 14 = .ok (.iconst 1, 1) := by decide +kernel
theorem dX12_sown_15 : decode cX12_sown 15 = .ok (.invokevirtual 221, 3) := by decide +kernel
theorem dX12_sown_18 : decode cX12_sown 18 = .ok (.ireturn, 1) := by decide +kernel
theorem dX12_sown_19 : decode cX12_sown 19 = .ok (.aload_n 0, 1) := by decide +kernel
theorem dX12_sown_20 : decode cX12_sown 20 = .ok (.iload_n 1, 1) := by decide +kernel
theorem dX12_sown_21 : decode cX12_sown 21 = .ok (.invokevirtual 302, 3) := by decide +kernel
theorem dX12_sown_24 : decode cX12_sown 24 = .ok (.aload_n 0, 1) := by decide +kernel
theorem dX12_sown_25 : decode cX12_sown 25 = .ok (.getfield 269, 3) := by decide +kernel
theorem dX12_sown_28 : decode cX12_sown 28 = .ok (.ifCond .eq 9, 3) := by decide +kernel
theorem dX12_sown_31 : decode cX12_sown 31 = .ok (.aload_n 0, 1) := by decide +kernel
theorem dX12_sown_32 : decode cX12_sown 32 = .ok (.iconst 2, 1) := by decide +kernel
theorem dX12_sown_33 : decode cX12_sown 33 = .ok (.invokevirtual 221, 3) := by decide +kernel
theorem dX12_sown_36 : decode cX12_sown 36 = .ok (.ireturn, 1) := by decide +kernel
theorem dX12_sown_37 : decode cX12_sown 37 = .ok (.iload_n 2, 1) := by decide +kernel
theorem dX12_sown_38 : decode cX12_sown 38 = .ok (.i2l, 1) := by decide +kernel
theorem dX12_sown_39 : decode cX12_sown 39 = .ok (.lconst 0, 1) := by decide +kernel
theorem dX12_sown_40 : decode cX12_sown 40 = .ok (.ldc2_w 314, 3) := by decide +kernel
theorem dX12_sown_43 : decode cX12_sown 43 = .ok (.invokestatic 166, 3) := by decide +kernel
theorem dX12_sown_46 : decode cX12_sown 46 = .ok (.ifCond .ne 9, 3) := by decide +kernel
theorem dX12_sown_49 : decode cX12_sown 49 = .ok (.aload_n 0, 1) := by decide +kernel
theorem dX12_sown_50 : decode cX12_sown 50 = .ok (.iconst 3, 1) := by decide +kernel
theorem dX12_sown_51 : decode cX12_sown 51 = .ok (.invokevirtual 221, 3) := by decide +kernel
theorem dX12_sown_54 : decode cX12_sown 54 = .ok (.ireturn, 1) := by decide +kernel
theorem dX12_sown_55 : decode cX12_sown 55 = .ok (.iload_n 2, 1) := by decide +kernel
theorem dX12_sown_56 : decode cX12_sown 56 = .ok (.ifCond .ne 23, 3) := by decide +kernel
theorem dX12_sown_59 : decode cX12_sown 59 = .ok (.aload_n 0, 1) := by decide +kernel
theorem dX12_sown_60 : decode cX12_sown 60 = .ok (.getfield 277, 3) := by decide +kernel
theorem dX12_sown_63 : decode cX12_sown 63 = .ok (.bipush 100, 2) := by decide +kernel
theorem dX12_sown_65 : decode cX12_sown 65 = .ok (.if_icmp .ne 7, 3) := by decide +kernel
theorem dX12_sown_68 : decode cX12_sown 68 = .ok (.iconst (-1), 1) := by decide +kernel
theorem dX12_sown_69 : decode cX12_sown 69 = .ok (.goto 38, 3) := by decide +kernel
theorem dX12_sown_72 : decode cX12_sown 72 = .ok (.aload_n 0, 1) := by decide +kernel
theorem dX12_sown_73 : decode cX12_sown 73 = .ok (.getfield 277, 3) := by decide +kernel
theorem dX12_sown_76 : decode cX12_sown 76 = .ok (.goto 31, 3) := by decide +kernel
theorem dX12_sown_79 : decode cX12_sown 79 = .ok (.iload_n 2, 1) := by decide +kernel
theorem dX12_sown_80 : decode cX12_sown 80 = .ok (.iconst 1, 1) := by decide +kernel
theorem dX12_sown_81 : decode cX12_sown 81 = .ok (.if_icmp .ne 10, 3) := by decide +kernel
theorem dX12_sown_84 : decode cX12_sown 84 = .ok (.aload_n 0, 1) := by decide +kernel
theorem dX12_sown_85 : decode cX12_sown 85 = .ok (.getfield 260, 3) := by decide +kernel
theorem dX12_sown_88 : decode cX12_sown 88 = .ok (.goto 19, 3) := by decide +kernel
theorem dX12_sown_91 : decode cX12_sown 91 = .ok (.iload_n 2, 1) := by decide +kernel
theorem dX12_sown_92 : decode cX12_sown 92 = .ok (.iconst 2, 1) := by decide +kernel
theorem dX12_sown_93 : decode cX12_sown 93 = .ok (.if_icmp .ne 10, 3) := by decide +kernel
theorem dX12_sown_96 : decode cX12_sown 96 = .ok (.aload_n 0, 1) := by decide +kernel
theorem dX12_sown_97 : decode cX12_sown 97 = .ok (.getfield 266, 3) := by decide +kernel
theorem dX12_sown_100 : decode cX12_sown 100 = .ok (.goto 7, 3) := by decide +kernel
theorem dX12_sown_103 : decode cX12_sown 103 = .ok (.aload_n 0, 1) := by decide +kernel
theorem dX12_sown_104 : decode cX12_sown 104 = .ok (.getfield 284, 3) := by decide +kernel
theorem dX12_sown_107 : decode cX12_sown 107 = .ok (.ireturn, 1) := by decide +kernel
theorem dX12_over_0 : decode cX12_over 0 = .ok (.aload_n 0, 1) := by decide +kernel
theorem dX12_over_1 : decode cX12_over 1 = .ok (.iconst 0, 1) := by decide +kernel
theorem dX12_over_2 : decode cX12_over 2 = .ok (.putfield 107, 3) := by decide +kernel
theorem dX12_over_5 : decode cX12_over 5 = .ok (.aload_n 0, 1) := by decide +kernel
theorem dX12_over_6 : decode cX12_over 6 = .ok (.invokevirtual 305, 3) := by decide +kernel
theorem dX12_over_9 : decode cX12_over 9 = .ok (.ireturn, 1) := by decide +kernel
theorem dX12_scoreNow_0 : decode cX12_scoreNow 0 = .ok (.aload_n 0, 1) := by decide +kernel
theorem dX12_scoreNow_1 : decode cX12_scoreNow 1 = .ok (.getfield 9, 3) := by decide +kernel
theorem dX12_scoreNow_4 : decode cX12_scoreNow 4 = .ok (.bipush 11, 2) := by decide +kernel
theorem dX12_scoreNow_6 : decode cX12_scoreNow 6 = .ok (.iaload, 1) := by decide +kernel
theorem dX12_scoreNow_7 : decode cX12_scoreNow 7 = .ok (.aload_n 0, 1) := by decide +kernel
theorem dX12_scoreNow_8 : decode cX12_scoreNow 8 = .ok (.getfield 9, 3) := by decide +kernel
theorem dX12_scoreNow_11 : decode cX12_scoreNow 11 = .ok (.bipush 12, 2) := by decide +kernel
theorem dX12_scoreNow_13 : decode cX12_scoreNow 13 = .ok (.iaload, 1) := by decide +kernel
theorem dX12_scoreNow_14 : decode cX12_scoreNow 14 = .ok (.isub, 1) := by decide +kernel
theorem dX12_scoreNow_15 : decode cX12_scoreNow 15 = .ok (.istore_n 1, 1) := by decide +kernel
theorem dX12_scoreNow_16 : decode cX12_scoreNow 16 = .ok (.aload_n 0, 1) := by decide +kernel
theorem dX12_scoreNow_17 : decode cX12_scoreNow 17 = .ok (.invokevirtual 305, 3) := by decide +kernel
theorem dX12_scoreNow_20 : decode cX12_scoreNow 20 = .ok (.ifCond .ne 5, 3) := by decide +kernel
theorem dX12_scoreNow_23 : decode cX12_scoreNow 23 = .ok (.iload_n 1, 1) := by decide +kernel
theorem dX12_scoreNow_24 : decode cX12_scoreNow 24 = .ok (.ireturn, 1) := by decide +kernel
theorem dX12_scoreNow_25 : decode cX12_scoreNow 25 = .ok (.iconst 0, 1) := by decide +kernel
theorem dX12_scoreNow_26 : decode cX12_scoreNow 26 = .ok (.istore_n 2, 1) := by decide +kernel
theorem dX12_scoreNow_27 : decode cX12_scoreNow 27 = .ok (.iload_n 2, 1) := by decide +kernel
theorem dX12_scoreNow_28 : decode cX12_scoreNow 28 = .ok (.aload_n 0, 1) := by decide +kernel
theorem dX12_scoreNow_29 : decode cX12_scoreNow 29 = .ok (.invokevirtual 245, 3) := by decide +kernel
theorem dX12_scoreNow_32 : decode cX12_scoreNow 32 = .ok (.if_icmp .ge 42, 3) := by decide +kernel
theorem dX12_scoreNow_35 : decode cX12_scoreNow 35 = .ok (.iload_n 1, 1) := by decide +kernel
theorem dX12_scoreNow_36 : decode cX12_scoreNow 36 = .ok (.aload_n 0, 1) := by decide +kernel
theorem dX12_scoreNow_37 : decode cX12_scoreNow 37 = .ok (.iload_n 2, 1) := by decide +kernel
theorem dX12_scoreNow_38 : decode cX12_scoreNow 38 = .ok (.invokevirtual 257, 3) := by decide +kernel
theorem dX12_scoreNow_41 : decode cX12_scoreNow 41 = .ok (.ifCond .ne 15, 3) := by decide +kernel
theorem dX12_scoreNow_44 : decode cX12_scoreNow 44 = .ok (.aload_n 0, 1) := by decide +kernel
theorem dX12_scoreNow_45 : decode cX12_scoreNow 45 = .ok (.getfield 9, 3) := by decide +kernel
theorem dX12_scoreNow_48 : decode cX12_scoreNow 48 = .ok (.bipush 13, 2) := by decide +kernel
theorem dX12_scoreNow_50 : decode cX12_scoreNow 50 = .ok (.iload_n 2, 1) := by decide +kernel
theorem dX12_scoreNow_51 : decode cX12_scoreNow 51 = .ok (.iadd, 1) := by decide +kernel
theorem dX12_scoreNow_52 : decode cX12_scoreNow 52 = .ok (.iaload, 1) := by decide +kernel
theorem dX12_scoreNow_53 : decode cX12_scoreNow 53 = .ok (.goto 13, 3) := by decide +kernel
theorem dX12_scoreNow_56 : decode cX12_scoreNow 56 = .ok (.aload_n 0, 1) := by decide +kernel
theorem dX12_scoreNow_57 : decode cX12_scoreNow 57 = .ok (.getfield 9, 3) := by decide +kernel
theorem dX12_scoreNow_60 : decode cX12_scoreNow 60 = .ok (.bipush 13, 2) := by decide +kernel
theorem dX12_scoreNow_62 : decode cX12_scoreNow 62 = .ok (.iload_n 2, 1) := by decide +kernel
theorem dX12_scoreNow_63 : decode cX12_scoreNow 63 = .ok (.iadd, 1) := by decide +kernel
theorem dX12_scoreNow_64 : decode cX12_scoreNow 64 = .ok (.iaload, 1) := by decide +kernel
theorem dX12_scoreNow_65 : decode cX12_scoreNow 65 = .ok (.ineg, 1) := by decide +kernel
theorem dX12_scoreNow_66 : decode cX12_scoreNow 66 = .ok (.iadd, 1) := by decide +kernel
theorem dX12_scoreNow_67 : decode cX12_scoreNow 67 = .ok (.istore_n 1, 1) := by decide +kernel
theorem dX12_scoreNow_68 : decode cX12_scoreNow 68 = .ok (.iinc 2 1, 3) := by decide +kernel
theorem dX12_scoreNow_71 : decode cX12_scoreNow 71 = .ok (.goto (-44), 3) := by decide +kernel
theorem dX12_scoreNow_74 : decode cX12_scoreNow 74 = .ok (.iload_n 1, 1) := by decide +kernel
theorem dX12_scoreNow_75 : decode cX12_scoreNow 75 = .ok (.ireturn, 1) := by decide +kernel
theorem dX12_score_0 : decode cX12_score 0 = .ok (.aload_n 0, 1) := by decide +kernel
theorem dX12_score_1 : decode cX12_score 1 = .ok (.iconst 0, 1) := by decide +kernel
theorem dX12_score_2 : decode cX12_score 2 = .ok (.putfield 107, 3) := by decide +kernel
theorem dX12_score_5 : decode cX12_score 5 = .ok (.aload_n 0, 1) := by decide +kernel
theorem dX12_score_6 : decode cX12_score 6 = .ok (.invokevirtual 316, 3) := by decide +kernel
theorem dX12_score_9 : decode cX12_score 9 = .ok (.ireturn, 1) := by decide +kernel
theorem dX12_puts_0 : decode cX12_puts 0 = .ok (.iconst 0, 1) := by decide +kernel
theorem dX12_puts_1 : decode cX12_puts 1 = .ok (.istore_n 3, 1) := by decide +kernel
theorem dX12_puts_2 : decode cX12_puts 2 = .ok (.iload_n 3, 1) := by decide +kernel
theorem dX12_puts_3 : decode cX12_puts 3 = .ok (.bipush 25, 2) := by decide +kernel
theorem dX12_puts_5 : decode cX12_puts 5 = .ok (.if_icmp .ge 20, 3) := by decide +kernel
theorem dX12_puts_8 : decode cX12_puts 8 = .ok (.aload_n 0, 1) := by decide +kernel
theorem dX12_puts_9 : decode cX12_puts 9 = .ok (.bipush 25, 2) := by decide +kernel
theorem dX12_puts_11 : decode cX12_puts 11 = .ok (.iload_n 1, 1) := by decide +kernel
theorem dX12_puts_12 : decode cX12_puts 12 = .ok (.imul, 1) := by decide +kernel
theorem dX12_puts_13 : decode cX12_puts 13 = .ok (.iload_n 3, 1) := by decide +kernel
theorem dX12_puts_14 : decode cX12_puts 14 = .ok (.iadd, 1) := by decide +kernel
theorem dX12_puts_15 : decode cX12_puts 15 = .ok (.aload_n 2, 1) := by decide +kernel
theorem dX12_puts_16 : decode cX12_puts 16 = .ok (.iload_n 3, 1) := by decide +kernel
theorem dX12_puts_17 : decode cX12_puts 17 = .ok (.iaload, 1) := by decide +kernel
theorem dX12_puts_18 : decode cX12_puts 18 = .ok (.iastore, 1) := by decide +kernel
theorem dX12_puts_19 : decode cX12_puts 19 = .ok (.iinc 3 1, 3) := by decide +kernel
theorem dX12_puts_22 : decode cX12_puts 22 = .ok (.goto (-20), 3) := by decide +kernel
theorem dX12_puts_25 : decode cX12_puts 25 = .ok (.return_, 1) := by decide +kernel
theorem dX12_gets_0 : decode cX12_gets 0 = .ok (.iconst 0, 1) := by decide +kernel
theorem dX12_gets_1 : decode cX12_gets 1 = .ok (.istore_n 3, 1) := by decide +kernel
theorem dX12_gets_2 : decode cX12_gets 2 = .ok (.iload_n 3, 1) := by decide +kernel
theorem dX12_gets_3 : decode cX12_gets 3 = .ok (.bipush 25, 2) := by decide +kernel
theorem dX12_gets_5 : decode cX12_gets 5 = .ok (.if_icmp .ge 20, 3) := by decide +kernel
theorem dX12_gets_8 : decode cX12_gets 8 = .ok (.aload_n 2, 1) := by decide +kernel
theorem dX12_gets_9 : decode cX12_gets 9 = .ok (.iload_n 3, 1) := by decide +kernel
theorem dX12_gets_10 : decode cX12_gets 10 = .ok (.aload_n 0, 1) := by decide +kernel
theorem dX12_gets_11 : decode cX12_gets 11 = .ok (.bipush 25, 2) := by decide +kernel
theorem dX12_gets_13 : decode cX12_gets 13 = .ok (.iload_n 1, 1) := by decide +kernel
theorem dX12_gets_14 : decode cX12_gets 14 = .ok (.imul, 1) := by decide +kernel
theorem dX12_gets_15 : decode cX12_gets 15 = .ok (.iload_n 3, 1) := by decide +kernel
theorem dX12_gets_16 : decode cX12_gets 16 = .ok (.iadd, 1) := by decide +kernel
theorem dX12_gets_17 : decode cX12_gets 17 = .ok (.iaload, 1) := by decide +kernel
theorem dX12_gets_18 : decode cX12_gets 18 = .ok (.iastore, 1) := by decide +kernel
theorem dX12_gets_19 : decode cX12_gets 19 = .ok (.iinc 3 1, 3) := by decide +kernel
theorem dX12_gets_22 : decode cX12_gets 22 = .ok (.goto (-20), 3) := by decide +kernel
theorem dX12_gets_25 : decode cX12_gets 25 = .ok (.return_, 1) := by decide +kernel
theorem dX12_keeps_0 : decode cX12_keeps 0 = .ok (.aload_n 0, 1) := by decide +kernel
theorem dX12_keeps_1 : decode cX12_keeps 1 = .ok (.getfield 239, 3) := by decide +kernel
theorem dX12_keeps_4 : decode cX12_keeps 4 = .ok (.bipush 40, 2) := by decide +kernel
theorem dX12_keeps_6 : decode cX12_keeps 6 = .ok (.if_icmp .ne 72, 3) := by decide +kernel
theorem dX12_keeps_9 : decode cX12_keeps 9 = .ok (.bipush 25, 2) := by decide +kernel
theorem dX12_keeps_11 : decode cX12_keeps 11 = .ok (.istore_n 2, 1) := by decide +kernel
theorem dX12_keeps_12 : decode cX12_keeps 12 = .ok (.iload_n 2, 1) := by decide +kernel
theorem dX12_keeps_13 : decode cX12_keeps 13 = .ok (.sipush 1000, 3) := by decide +kernel
theorem dX12_keeps_16 : decode cX12_keeps 16 = .ok (.if_icmp .ge 24, 3) := by decide +kernel
theorem dX12_keeps_19 : decode cX12_keeps 19 = .ok (.aload_n 0, 1) := by decide +kernel
theorem dX12_keeps_20 : decode cX12_keeps 20 = .ok (.getfield 36, 3) := by decide +kernel
theorem dX12_keeps_23 : decode cX12_keeps 23 = .ok (.iload_n 2, 1) := by decide +kernel
theorem dX12_keeps_24 : decode cX12_keeps 24 = .ok (.bipush 25, 2) := by decide +kernel
theorem dX12_keeps_26 : decode cX12_keeps 26 = .ok (.isub, 1) := by decide +kernel
theorem dX12_keeps_27 : decode cX12_keeps 27 = .ok (.aload_n 0, 1) := by decide +kernel
theorem dX12_keeps_28 : decode cX12_keeps 28 = .ok (.getfield 36, 3) := by decide +kernel
theorem dX12_keeps_31 : decode cX12_keeps 31 = .ok (.iload_n 2, 1) := by decide +kernel
theorem dX12_keeps_32 : decode cX12_keeps 32 = .ok (.iaload, 1) := by decide +kernel
theorem dX12_keeps_33 : decode cX12_keeps 33 = .ok (.iastore, 1) := by decide +kernel
theorem dX12_keeps_34 : decode cX12_keeps 34 = .ok (.iinc 2 1, 3) := by decide +kernel
theorem dX12_keeps_37 : decode cX12_keeps 37 = .ok (.goto (-25), 3) := by decide +kernel
theorem dX12_keeps_40 : decode cX12_keeps 40 = .ok (.iconst 1, 1) := by decide +kernel
theorem dX12_keeps_41 : decode cX12_keeps 41 = .ok (.istore_n 2, 1) := by decide +kernel
theorem dX12_keeps_42 : decode cX12_keeps 42 = .ok (.iload_n 2, 1) := by decide +kernel
theorem dX12_keeps_43 : decode cX12_keeps 43 = .ok (.bipush 40, 2) := by decide +kernel
theorem dX12_keeps_45 : decode cX12_keeps 45 = .ok (.if_icmp .ge 23, 3) := by decide +kernel
theorem dX12_keeps_48 : decode cX12_keeps 48 = .ok (.aload_n 0, 1) := by decide +kernel
theorem dX12_keeps_49 : decode cX12_keeps 49 = .ok (.getfield 39, 3) := by decide +kernel
theorem dX12_keeps_52 : decode cX12_keeps 52 = .ok (.iload_n 2, 1) := by decide +kernel
theorem dX12_keeps_53 : decode cX12_keeps 53 = .ok (.iconst 1, 1) := by decide +kernel
theorem dX12_keeps_54 : decode cX12_keeps 54 = .ok (.isub, 1) := by decide +kernel
theorem dX12_keeps_55 : decode cX12_keeps 55 = .ok (.aload_n 0, 1) := by decide +kernel
theorem dX12_keeps_56 : decode cX12_keeps 56 = .ok (.getfield 39, 3) := by decide +kernel
theorem dX12_keeps_59 : decode cX12_keeps 59 = .ok (.iload_n 2, 1) := by decide +kernel
theorem dX12_keeps_60 : decode cX12_keeps 60 = .ok (.iaload, 1) := by decide +kernel
theorem dX12_keeps_61 : decode cX12_keeps 61 = .ok (.iastore, 1) := by decide +kernel
theorem dX12_keeps_62 : decode cX12_keeps 62 = .ok (.iinc 2 1, 3) := by decide +kernel
theorem dX12_keeps_65 : decode cX12_keeps 65 = .ok (.goto (-23), 3) := by decide +kernel
theorem dX12_keeps_68 : decode cX12_keeps 68 = .ok (.aload_n 0, 1) := by decide +kernel
theorem dX12_keeps_69 : decode cX12_keeps 69 = .ok (.dup, 1) := by decide +kernel
theorem dX12_keeps_70 : decode cX12_keeps 70 = .ok (.getfield 239, 3) := by decide +kernel
theorem dX12_keeps_73 : decode cX12_keeps 73 = .ok (.iconst 1, 1) := by decide +kernel
theorem dX12_keeps_74 : decode cX12_keeps 74 = .ok (.isub, 1) := by decide +kernel
theorem dX12_keeps_75 : decode cX12_keeps 75 = .ok (.putfield 239, 3) := by decide +kernel
theorem dX12_keeps_78 : decode cX12_keeps 78 = .ok (.aload_n 0, 1) := by decide +kernel
theorem dX12_keeps_79 : decode cX12_keeps 79 = .ok (.getfield 36, 3) := by decide +kernel
theorem dX12_keeps_82 : decode cX12_keeps 82 = .ok (.aload_n 0, 1) := by decide +kernel
theorem dX12_keeps_83 : decode cX12_keeps 83 = .ok (.getfield 239, 3) := by decide +kernel
theorem dX12_keeps_86 : decode cX12_keeps 86 = .ok (.aload_n 0, 1) := by decide +kernel
theorem dX12_keeps_87 : decode cX12_keeps 87 = .ok (.getfield 9, 3) := by decide +kernel
theorem dX12_keeps_90 : decode cX12_keeps 90 = .ok (.invokestatic 319, 3) := by decide +kernel
theorem dX12_keeps_93 : decode cX12_keeps 93 = .ok (.aload_n 0, 1) := by decide +kernel
theorem dX12_keeps_94 : decode cX12_keeps 94 = .ok (.getfield 39, 3) := by decide +kernel
theorem dX12_keeps_97 : decode cX12_keeps 97 = .ok (.aload_n 0, 1) := by decide +kernel
theorem dX12_keeps_98 : decode cX12_keeps 98 = .ok (.getfield 239, 3) := by decide +kernel
theorem dX12_keeps_101 : decode cX12_keeps 101 = .ok (.iload_n 1, 1) := by decide +kernel
theorem dX12_keeps_102 : decode cX12_keeps 102 = .ok (.iastore, 1) := by decide +kernel
theorem dX12_keeps_103 : decode cX12_keeps 103 = .ok (.aload_n 0, 1) := by decide +kernel
theorem dX12_keeps_104 : decode cX12_keeps 104 = .ok (.dup, 1) := by decide +kernel
theorem dX12_keeps_105 : decode cX12_keeps 105 = .ok (.getfield 239, 3) := by decide +kernel
theorem dX12_keeps_108 : decode cX12_keeps 108 = .ok (.iconst 1, 1) := by decide +kernel
theorem dX12_keeps_109 : decode cX12_keeps 109 = .ok (.iadd, 1) := by decide +kernel
theorem dX12_keeps_110 : decode cX12_keeps 110 = .ok (.putfield 239, 3) := by decide +kernel
theorem dX12_keeps_113 : decode cX12_keeps 113 = .ok (.return_, 1) := by decide +kernel
theorem dX12_does_0 : decode cX12_does 0 = .ok (.aload_n 0, 1) := by decide +kernel
theorem dX12_does_1 : decode cX12_does 1 = .ok (.iload_n 1, 1) := by decide +kernel
theorem dX12_does_2 : decode cX12_does 2 = .ok (.invokevirtual 323, 3) := by decide +kernel
theorem dX12_does_5 : decode cX12_does 5 = .ok (.aload_n 0, 1) := by decide +kernel
theorem dX12_does_6 : decode cX12_does 6 = .ok (.iconst 0, 1) := by decide +kernel
theorem dX12_does_7 : decode cX12_does 7 = .ok (.putfield 242, 3) := by decide +kernel
theorem dX12_does_10 : decode cX12_does 10 = .ok (.aload_n 0, 1) := by decide +kernel
theorem dX12_does_11 : decode cX12_does 11 = .ok (.iload_n 1, 1) := by decide +kernel
theorem dX12_does_12 : decode cX12_does 12 = .ok (.invokevirtual 326, 3) := by decide +kernel
theorem dX12_does_15 : decode cX12_does 15 = .ok (.ireturn, 1) := by decide +kernel
theorem dX12_move_0 : decode cX12_move 0 = .ok (.aload_n 0, 1) := by decide +kernel
theorem dX12_move_1 : decode cX12_move 1 = .ok (.iconst 0, 1) := by decide +kernel
theorem dX12_move_2 : decode cX12_move 2 = .ok (.putfield 107, 3) := by decide +kernel
theorem dX12_move_5 : decode cX12_move 5 = .ok (.aload_n 0, 1) := by decide +kernel
theorem dX12_move_6 : decode cX12_move 6 = .ok (.iload_n 1, 1) := by decide +kernel
theorem dX12_move_7 : decode cX12_move 7 = .ok (.invokevirtual 311, 3) := by decide +kernel
theorem dX12_move_10 : decode cX12_move 10 = .ok (.istore_n 2, 1) := by decide +kernel
theorem dX12_move_11 : decode cX12_move 11 = .ok (.iload_n 2, 1) := by decide +kernel
theorem dX12_move_12 : decode cX12_move 12 = .ok (.ifCond .ne 11, 3) := by decide +kernel
theorem dX12_move_15 : decode cX12_move 15 = .ok (.aload_n 0, 1) := by decide +kernel
theorem dX12_move_16 : decode cX12_move 16 = .ok (.iload_n 1, 1) := by decide +kernel
theorem dX12_move_17 : decode cX12_move 17 = .ok (.invokevirtual 329, 3) := by decide +kernel
theorem dX12_move_20 : decode cX12_move 20 = .ok (.goto 5, 3) := by decide +kernel
theorem dX12_move_23 : decode cX12_move 23 = .ok (.iload_n 2, 1) := by decide +kernel
theorem dX12_move_24 : decode cX12_move 24 = .ok (.ineg, 1) := by decide +kernel
theorem dX12_move_25 : decode cX12_move 25 = .ok (.ireturn, 1) := by decide +kernel
theorem dX12_undo_0 : decode cX12_undo 0 = .ok (.aload_n 0, 1) := by decide +kernel
theorem dX12_undo_1 : decode cX12_undo 1 = .ok (.iconst 0, 1) := by decide +kernel
theorem dX12_undo_2 : decode cX12_undo 2 = .ok (.putfield 107, 3) := by decide +kernel
theorem dX12_undo_5 : decode cX12_undo 5 = .ok (.aload_n 0, 1) := by decide +kernel
theorem dX12_undo_6 : decode cX12_undo 6 = .ok (.getfield 239, 3) := by decide +kernel
theorem dX12_undo_9 : decode cX12_undo 9 = .ok (.ifCond .ne 5, 3) := by decide +kernel
theorem dX12_undo_12 : decode cX12_undo 12 = .ok (.iconst 0, 1) := by decide +kernel
theorem dX12_undo_13 : decode cX12_undo 13 = .ok (.ireturn, 1) := by decide +kernel
theorem dX12_undo_14 : decode cX12_undo 14 = .ok (.aload_n 0, 1) := by decide +kernel
theorem dX12_undo_15 : decode cX12_undo 15 = .ok (.dup, 1) := by decide +kernel
theorem dX12_undo_16 : decode cX12_undo 16 = .ok (.getfield 239, 3) := by decide +kernel
theorem dX12_undo_19 : decode cX12_undo 19 = .ok (.iconst 1, 1) := by decide +kernel
theorem dX12_undo_20 : decode cX12_undo 20 = .ok (.isub, 1) := by decide +kernel
theorem dX12_undo_21 : decode cX12_undo 21 = .ok (.putfield 239, 3) := by decide +kernel
theorem dX12_undo_24 : decode cX12_undo 24 = .ok (.aload_n 0, 1) := by decide +kernel
theorem dX12_undo_25 : decode cX12_undo 25 = .ok (.getfield 42, 3) := by decide +kernel
theorem dX12_undo_28 : decode cX12_undo 28 = .ok (.aload_n 0, 1) := by decide +kernel
theorem dX12_undo_29 : decode cX12_undo 29 = .ok (.getfield 242, 3) := by decide +kernel
theorem dX12_undo_32 : decode cX12_undo 32 = .ok (.aload_n 0, 1) := by decide +kernel
theorem dX12_undo_33 : decode cX12_undo 33 = .ok (.getfield 9, 3) := by decide +kernel
theorem dX12_undo_36 : decode cX12_undo 36 = .ok (.invokestatic 319, 3) := by decide +kernel
theorem dX12_undo_39 : decode cX12_undo 39 = .ok (.aload_n 0, 1) := by decide +kernel
theorem dX12_undo_40 : decode cX12_undo 40 = .ok (.getfield 45, 3) := by decide +kernel
theorem dX12_undo_43 : decode cX12_undo 43 = .ok (.aload_n 0, 1) := by decide +kernel
theorem dX12_undo_44 : decode cX12_undo 44 = .ok (.getfield 242, 3) := by decide +kernel
theorem dX12_undo_47 : decode cX12_undo 47 = .ok (.aload_n 0, 1) := by decide +kernel
theorem dX12_undo_48 : decode cX12_undo 48 = .ok (.getfield 39, 3) := by decide +kernel
theorem dX12_undo_51 : decode cX12_undo 51 = .ok (.aload_n 0, 1) := by decide +kernel
theorem dX12_undo_52 : decode cX12_undo 52 = .ok (.getfield 239, 3) := by decide +kernel
theorem dX12_undo_55 : decode cX12_undo 55 = .ok (.iaload, 1) := by decide +kernel
theorem dX12_undo_56 : decode cX12_undo 56 = .ok (.iastore, 1) := by decide +kernel
theorem dX12_undo_57 : decode cX12_undo 57 = .ok (.aload_n 0, 1) := by decide +kernel
theorem dX12_undo_58 : decode cX12_undo 58 = .ok (.dup, 1) := by decide +kernel
theorem dX12_undo_59 : decode cX12_undo 59 = .ok (.getfield 242, 3) := by decide +kernel
theorem dX12_undo_62 : decode cX12_undo 62 = .ok (.iconst 1, 1) := by decide +kernel
theorem dX12_undo_63 : decode cX12_undo 63 = .ok (.iadd, 1) := by decide +kernel
theorem dX12_undo_64 : decode cX12_undo 64 = .ok (.putfield 242, 3) := by decide +kernel
theorem dX12_undo_67 : decode cX12_undo 67 = .ok (.aload_n 0, 1) := by decide +kernel
theorem dX12_undo_68 : decode cX12_undo 68 = .ok (.getfield 36, 3) := by decide +kernel
theorem dX12_undo_71 : decode cX12_undo 71 = .ok (.aload_n 0, 1) := by decide +kernel
theorem dX12_undo_72 : decode cX12_undo 72 = .ok (.getfield 239, 3) := by decide +kernel
theorem dX12_undo_75 : decode cX12_undo 75 = .ok (.aload_n 0, 1) := by decide +kernel
theorem dX12_undo_76 : decode cX12_undo 76 = .ok (.getfield 9, 3) := by decide +kernel
theorem dX12_undo_79 : decode cX12_undo 79 = .ok (.invokestatic 332, 3) := by decide +kernel
theorem dX12_undo_82 : decode cX12_undo 82 = .ok (.iconst 1, 1) := by decide +kernel
theorem dX12_undo_83 : decode cX12_undo 83 = .ok (.ireturn, 1) := by decide +kernel
theorem dX12_redo_0 : decode cX12_redo 0 = .ok (.aload_n 0, 1) := by decide +kernel
theorem dX12_redo_1 : decode cX12_redo 1 = .ok (.iconst 0, 1) := by decide +kernel
theorem dX12_redo_2 : decode cX12_redo 2 = .ok (.putfield 107, 3) := by decide +kernel
theorem dX12_redo_5 : decode cX12_redo 5 = .ok (.aload_n 0, 1) := by decide +kernel
theorem dX12_redo_6 : decode cX12_redo 6 = .ok (.getfield 242, 3) := by decide +kernel
theorem dX12_redo_9 : decode cX12_redo 9 = .ok (.ifCond .ne 5, 3) := by decide +kernel
theorem dX12_redo_12 : decode cX12_redo 12 = .ok (.iconst 0, 1) := by decide +kernel
theorem dX12_redo_13 : decode cX12_redo 13 = .ok (.ireturn, 1) := by decide +kernel
theorem dX12_redo_14 : decode cX12_redo 14 = .ok (.aload_n 0, 1) := by decide +kernel
theorem dX12_redo_15 : decode cX12_redo 15 = .ok (.dup, 1) := by decide +kernel
theorem dX12_redo_16 : decode cX12_redo 16 = .ok (.getfield 242, 3) := by decide +kernel
theorem dX12_redo_19 : decode cX12_redo 19 = .ok (.iconst 1, 1) := by decide +kernel
theorem dX12_redo_20 : decode cX12_redo 20 = .ok (.isub, 1) := by decide +kernel
theorem dX12_redo_21 : decode cX12_redo 21 = .ok (.putfield 242, 3) := by decide +kernel
theorem dX12_redo_24 : decode cX12_redo 24 = .ok (.aload_n 0, 1) := by decide +kernel
theorem dX12_redo_25 : decode cX12_redo 25 = .ok (.aload_n 0, 1) := by decide +kernel
theorem dX12_redo_26 : decode cX12_redo 26 = .ok (.getfield 45, 3) := by decide +kernel
theorem dX12_redo_29 : decode cX12_redo 29 = .ok (.aload_n 0, 1) := by decide +kernel
theorem dX12_redo_30 : decode cX12_redo 30 = .ok (.getfield 242, 3) := by decide +kernel
theorem dX12_redo_33 : decode cX12_redo 33 = .ok (.iaload, 1) := by decide +kernel
theorem dX12_redo_34 : decode cX12_redo 34 = .ok (.invokevirtual 323, 3) := by decide +kernel
theorem dX12_redo_37 : decode cX12_redo 37 = .ok (.aload_n 0, 1) := by decide +kernel
theorem dX12_redo_38 : decode cX12_redo 38 = .ok (.getfield 42, 3) := by decide +kernel
theorem dX12_redo_41 : decode cX12_redo 41 = .ok (.aload_n 0, 1) := by decide +kernel
theorem dX12_redo_42 : decode cX12_redo 42 = .ok (.getfield 242, 3) := by decide +kernel
theorem dX12_redo_45 : decode cX12_redo 45 = .ok (.aload_n 0, 1) := by decide +kernel
theorem dX12_redo_46 : decode cX12_redo 46 = .ok (.getfield 9, 3) := by decide +kernel
theorem dX12_redo_49 : decode cX12_redo 49 = .ok (.invokestatic 332, 3) := by decide +kernel
theorem dX12_redo_52 : decode cX12_redo 52 = .ok (.iconst 1, 1) := by decide +kernel
theorem dX12_redo_53 : decode cX12_redo 53 = .ok (.ireturn, 1) := by decide +kernel
theorem dX12_trayFault_0 : decode cX12_trayFault 0 = .ok (.iload_n 1, 1) := by decide +kernel
theorem dX12_trayFault_1 : decode cX12_trayFault 1 = .ok (.invokestatic 335, 3) := by decide +kernel
theorem dX12_trayFault_4 : decode cX12_trayFault 4 = .ok (.ifCond .ne 7, 3) := by decide +kernel
theorem dX12_trayFault_7 : decode cX12_trayFault 7 = .ok (.iconst 1, 1) := by decide +kernel
theorem dX12_trayFault_8 : decode cX12_trayFault 8 = .ok (.goto 18, 3) := by decide +kernel
theorem dX12_trayFault_11 : decode cX12_trayFault 11 = .ok (.aload_n 0, 1) := by decide +kernel
theorem dX12_trayFault_12 : decode cX12_trayFault 12 = .ok (.getfield 97, 3) := by decide +kernel
theorem dX12_trayFault_15 : decode cX12_trayFault 15 = .ok (.iload_n 1, 1) := by decide +kernel
theorem dX12_trayFault_16 : decode cX12_trayFault 16 = .ok (.iaload, 1) := by decide +kernel
theorem dX12_trayFault_17 : decode cX12_trayFault 17 = .ok (.iconst (-1), 1) := by decide +kernel
theorem dX12_trayFault_18 : decode cX12_trayFault 18 = .ok (.if_icmp .ne 7, 3) := by decide +kernel
theorem dX12_trayFault_21 : decode cX12_trayFault 21 = .ok (.iconst 2, 1) := by decide +kernel
theorem dX12_trayFault_22 : decode cX12_trayFault 22 = .ok (.goto 4, 3) := by decide +kernel
theorem dX12_trayFault_25 : decode cX12_trayFault 25 = .ok (.iconst 0, 1) := by decide +kernel
theorem dX12_trayFault_26 : decode cX12_trayFault 26 = .ok (.ireturn, 1) := by decide +kernel
theorem dX12_whyTold_0 : decode cX12_whyTold 0 = .ok (.aload_n 0, 1) := by decide +kernel
theorem dX12_whyTold_1 : decode cX12_whyTold 1 = .ok (.lload_n 1, 1) := by decide +kernel
theorem dX12_whyTold_2 : decode cX12_whyTold 2 = .ok (.lconst 0, 1) := by decide +kernel
theorem dX12_whyTold_3 : decode cX12_whyTold 3 = .ok (.ldc2_w 338, 3) := by decide +kernel
theorem dX12_whyTold_6 : decode cX12_whyTold 6 = .ok (.invokestatic 166, 3) := by decide +kernel
theorem dX12_whyTold_9 : decode cX12_whyTold 9 = .ok (.ifCond .eq 8, 3) := by decide +kernel
theorem dX12_whyTold_12 : decode cX12_whyTold 12 = .ok (.lload_n 1, 1) := by decide +kernel
theorem dX12_whyTold_13 : decode cX12_whyTold 13 = .ok (.l2i, 1) := by decide +kernel
theorem dX12_whyTold_14 : decode cX12_whyTold 14 = .ok (.goto 4, 3) := by decide +kernel
theorem dX12_whyTold_17 : decode cX12_whyTold 17 = .ok (.iconst (-1), 1) := by decide +kernel
theorem dX12_whyTold_18 : decode cX12_whyTold 18 = .ok (.invokevirtual 311, 3) := by decide +kernel
theorem dX12_whyTold_21 : decode cX12_whyTold 21 = .ok (.ireturn, 1) := by decide +kernel
theorem dX12_judge_0 : decode cX12_judge 0 = .ok (.aload_n 0, 1) := by decide +kernel
theorem dX12_judge_1 : decode cX12_judge 1 = .ok (.aload_n 0, 1) := by decide +kernel
theorem dX12_judge_2 : decode cX12_judge 2 = .ok (.iload_n 1, 1) := by decide +kernel
theorem dX12_judge_3 : decode cX12_judge 3 = .ok (.invokevirtual 340, 3) := by decide +kernel
theorem dX12_judge_6 : decode cX12_judge 6 = .ok (.putfield 107, 3) := by decide +kernel
theorem dX12_judge_9 : decode cX12_judge 9 = .ok (.aload_n 0, 1) := by decide +kernel
theorem dX12_judge_10 : decode cX12_judge 10 = .ok (.getfield 107, 3) := by decide +kernel
theorem dX12_judge_13 : decode cX12_judge 13 = .ok (.ifCond .ne 20, 3) := by decide +kernel
theorem dX12_judge_16 : decode cX12_judge 16 = .ok (.iload_n 2, 1) := by decide +kernel
theorem dX12_judge_17 : decode cX12_judge 17 = .ok (.i2l, 1) := by decide +kernel
theorem dX12_judge_18 : decode cX12_judge 18 = .ok (.lconst 0, 1) := by decide +kernel
theorem dX12_judge_19 : decode cX12_judge 19 = .ok (.ldc2_w 314, 3) := by decide +kernel
theorem dX12_judge_22 : decode cX12_judge 22 = .ok (.invokestatic 166, 3) := by decide +kernel
theorem dX12_judge_25 : decode cX12_judge 25 = .ok (.ifCond .ne 8, 3) := by decide +kernel
theorem dX12_judge_28 : decode cX12_judge 28 = .ok (.aload_n 0, 1) := by decide +kernel
theorem dX12_judge_29 : decode cX12_judge 29 = .ok (.iconst 3, 1) := by decide +kernel
theorem dX12_judge_30 : decode cX12_judge 30 = .ok (.putfield 107, 3) := by decide +kernel
theorem dX12_judge_33 : decode cX12_judge 33 = .ok (.aload_n 0, 1) := by decide +kernel
theorem dX12_judge_34 : decode cX12_judge 34 = .ok (.getfield 107, 3) := by decide +kernel
theorem dX12_judge_37 : decode cX12_judge 37 = .ok (.ifCond .le 5, 3) := by decide +kernel
theorem dX12_judge_40 : decode cX12_judge 40 = .ok (.iconst 0, 1) := by decide +kernel
theorem dX12_judge_41 : decode cX12_judge 41 = .ok (.ireturn, 1) := by decide +kernel
theorem dX12_judge_42 : decode cX12_judge 42 = .ok (.aload_n 0, 1) := by decide +kernel
theorem dX12_judge_43 : decode cX12_judge 43 = .ok (.getfield 9, 3) := by decide +kernel
theorem dX12_judge_46 : decode cX12_judge 46 = .ok (.aload_n 0, 1) := by decide +kernel
theorem dX12_judge_47 : decode cX12_judge 47 = .ok (.getfield 19, 3) := by decide +kernel
theorem dX12_judge_50 : decode cX12_judge 50 = .ok (.invokestatic 235, 3) := by decide +kernel
theorem dX12_judge_53 : decode cX12_judge 53 = .ok (.iconst 0, 1) := by decide +kernel
theorem dX12_judge_54 : decode cX12_judge 54 = .ok (.istore_n 3, 1) := by decide +kernel
theorem dX12_judge_55 : decode cX12_judge 55 = .ok (.iconst 0, 1) := by decide +kernel
theorem dX12_judge_56 : decode cX12_judge 56 = .ok (.istore 4, 2) := by decide +kernel
theorem dX12_judge_58 : decode cX12_judge 58 = .ok (.iload_n 3, 1) := by decide +kernel
theorem dX12_judge_59 : decode cX12_judge 59 = .ok (.aload_n 0, 1) := by decide +kernel
theorem dX12_judge_60 : decode cX12_judge 60 = .ok (.getfield 100, 3) := by decide +kernel
theorem dX12_judge_63 : decode cX12_judge 63 = .ok (.iload_n 1, 1) := by decide +kernel
theorem dX12_judge_64 : decode cX12_judge 64 = .ok (.iaload, 1) := by decide +kernel
theorem dX12_judge_65 : decode cX12_judge 65 = .ok (.if_icmp .ge 53, 3) := by decide +kernel
theorem dX12_judge_68 : decode cX12_judge 68 = .ok (.iload 4, 2) := by decide +kernel
theorem dX12_judge_70 : decode cX12_judge 70 = .ok (.ifCond .ne 48, 3) := by decide +kernel
theorem dX12_judge_73 : decode cX12_judge 73 = .ok (.aload_n 0, 1) := by decide +kernel
theorem dX12_judge_74 : decode cX12_judge 74 = .ok (.aload_n 0, 1) := by decide +kernel
theorem dX12_judge_75 : decode cX12_judge 75 = .ok (.getfield 103, 3) := by decide +kernel
theorem dX12_judge_78 : decode cX12_judge 78 = .ok (.bipush 40, 2) := by decide +kernel
theorem dX12_judge_80 : decode cX12_judge 80 = .ok (.iload_n 1, 1) := by decide +kernel
theorem dX12_judge_81 : decode cX12_judge 81 = .ok (.imul, 1) := by decide +kernel
theorem dX12_judge_82 : decode cX12_judge 82 = .ok (.iload_n 3, 1) := by decide +kernel
theorem dX12_judge_83 : decode cX12_judge 83 = .ok (.iadd, 1) := by decide +kernel
theorem dX12_judge_84 : decode cX12_judge 84 = .ok (.laload, 1) := by decide +kernel
theorem dX12_judge_85 : decode cX12_judge 85 = .ok (.invokevirtual 343, 3) := by decide +kernel
theorem dX12_judge_88 : decode cX12_judge 88 = .ok (.istore 4, 2) := by decide +kernel
theorem dX12_judge_90 : decode cX12_judge 90 = .ok (.iload 4, 2) := by decide +kernel
theorem dX12_judge_92 : decode cX12_judge 92 = .ok (.ifCond .ne (-34), 3) := by decide +kernel
theorem dX12_judge_95 : decode cX12_judge 95 = .ok (.aload_n 0, 1) := by decide +kernel
theorem dX12_judge_96 : decode cX12_judge 96 = .ok (.aload_n 0, 1) := by decide +kernel
theorem dX12_judge_97 : decode cX12_judge 97 = .ok (.getfield 103, 3) := by decide +kernel
theorem dX12_judge_100 : decode cX12_judge 100 = .ok (.bipush 40, 2) := by decide +kernel
theorem dX12_judge_102 : decode cX12_judge 102 = .ok (.iload_n 1, 1) := by decide +kernel
theorem dX12_judge_103 : decode cX12_judge 103 = .ok (.imul, 1) := by decide +kernel
theorem dX12_judge_104 : decode cX12_judge 104 = .ok (.iload_n 3, 1) := by decide +kernel
theorem dX12_judge_105 : decode cX12_judge 105 = .ok (.iadd, 1) := by decide +kernel
theorem dX12_judge_106 : decode cX12_judge 106 = .ok (.laload, 1) := by decide +kernel
theorem dX12_judge_107 : decode cX12_judge 107 = .ok (.l2i, 1) := by decide +kernel
theorem dX12_judge_108 : decode cX12_judge 108 = .ok (.invokevirtual 326, 3) := by decide +kernel
theorem dX12_judge_111 : decode cX12_judge 111 = .ok (.pop, 1) := by decide +kernel
theorem dX12_judge_112 : decode cX12_judge 112 = .ok (.iinc 3 1, 3) := by decide +kernel
theorem dX12_judge_115 : decode cX12_judge 115 = .ok (.goto (-57), 3) := by decide +kernel
theorem dX12_judge_118 : decode cX12_judge 118 = .ok (.aload_n 0, 1) := by decide +kernel
theorem dX12_judge_119 : decode cX12_judge 119 = .ok (.invokevirtual 316, 3) := by decide +kernel
theorem dX12_judge_122 : decode cX12_judge 122 = .ok (.istore 5, 2) := by decide +kernel
theorem dX12_judge_124 : decode cX12_judge 124 = .ok (.aload_n 0, 1) := by decide +kernel
theorem dX12_judge_125 : decode cX12_judge 125 = .ok (.getfield 9, 3) := by decide +kernel
theorem dX12_judge_128 : decode cX12_judge 128 = .ok (.iconst 2, 1) := by decide +kernel
theorem dX12_judge_129 : decode cX12_judge 129 = .ok (.iaload, 1) := by decide +kernel
theorem dX12_judge_130 : decode cX12_judge 130 = .ok (.istore 6, 2) := by decide +kernel
theorem dX12_judge_132 : decode cX12_judge 132 = .ok (.aload_n 0, 1) := by decide +kernel
theorem dX12_judge_133 : decode cX12_judge 133 = .ok (.getfield 19, 3) := by decide +kernel
theorem dX12_judge_136 : decode cX12_judge 136 = .ok (.aload_n 0, 1) := by decide +kernel
theorem dX12_judge_137 : decode cX12_judge 137 = .ok (.getfield 9, 3) := by decide +kernel
theorem dX12_judge_140 : decode cX12_judge 140 = .ok (.invokestatic 235, 3) := by decide +kernel
theorem dX12_judge_143 : decode cX12_judge 143 = .ok (.iload_n 2, 1) := by decide +kernel
theorem dX12_judge_144 : decode cX12_judge 144 = .ok (.ifCond .ne 16, 3) := by decide +kernel
theorem dX12_judge_147 : decode cX12_judge 147 = .ok (.iload 4, 2) := by decide +kernel
theorem dX12_judge_149 : decode cX12_judge 149 = .ok (.ifCond .ne 7, 3) := by decide +kernel
theorem dX12_judge_152 : decode cX12_judge 152 = .ok (.iconst (-1), 1) := by decide +kernel
theorem dX12_judge_153 : decode cX12_judge 153 = .ok (.goto 29, 3) := by decide +kernel
theorem dX12_judge_156 : decode cX12_judge 156 = .ok (.iload_n 3, 1) := by decide +kernel
theorem dX12_judge_157 : decode cX12_judge 157 = .ok (.goto 25, 3) := by decide +kernel
theorem dX12_judge_160 : decode cX12_judge 160 = .ok (.iload_n 2, 1) := by decide +kernel
theorem dX12_judge_161 : decode cX12_judge 161 = .ok (.iconst 1, 1) := by decide +kernel
theorem dX12_judge_162 : decode cX12_judge 162 = .ok (.if_icmp .ne 8, 3) := by decide +kernel
theorem dX12_judge_165 : decode cX12_judge 165 = .ok (.iload 4, 2) := by decide +kernel
theorem dX12_judge_167 : decode cX12_judge 167 = .ok (.goto 15, 3) := by decide +kernel
theorem dX12_judge_170 : decode cX12_judge 170 = .ok (.iload_n 2, 1) := by decide +kernel
theorem dX12_judge_171 : decode cX12_judge 171 = .ok (.iconst 2, 1) := by decide +kernel
theorem dX12_judge_172 : decode cX12_judge 172 = .ok (.if_icmp .ne 8, 3) := by decide +kernel
theorem dX12_judge_175 : decode cX12_judge 175 = .ok (.iload 5, 2) := by decide +kernel
theorem dX12_judge_177 : decode cX12_judge 177 = .ok (.goto 5, 3) := by decide +kernel
theorem dX12_judge_180 : decode cX12_judge 180 = .ok (.iload 6, 2) := by decide +kernel
theorem dX12_judge_182 : decode cX12_judge 182 = .ok (.ireturn, 1) := by decide +kernel
theorem dX12_perform_0 : decode cX12_perform 0 = .ok (.aload_n 0, 1) := by decide +kernel
theorem dX12_perform_1 : decode cX12_perform 1 = .ok (.aload_n 0, 1) := by decide +kernel
theorem dX12_perform_2 : decode cX12_perform 2 = .ok (.iload_n 1, 1) := by decide +kernel
theorem dX12_perform_3 : decode cX12_perform 3 = .ok (.invokevirtual 340, 3) := by decide +kernel
theorem dX12_perform_6 : decode cX12_perform 6 = .ok (.putfield 107, 3) := by decide +kernel
theorem dX12_perform_9 : decode cX12_perform 9 = .ok (.aload_n 0, 1) := by decide +kernel
theorem dX12_perform_10 : decode cX12_perform 10 = .ok (.getfield 107, 3) := by decide +kernel
theorem dX12_perform_13 : decode cX12_perform 13 = .ok (.ifCond .le 5, 3) := by decide +kernel
theorem dX12_perform_16 : decode cX12_perform 16 = .ok (.iconst 0, 1) := by decide +kernel
theorem dX12_perform_17 : decode cX12_perform 17 = .ok (.ireturn, 1) := by decide +kernel
theorem dX12_perform_18 : decode cX12_perform 18 = .ok (.iconst 0, 1) := by decide +kernel
theorem dX12_perform_19 : decode cX12_perform 19 = .ok (.istore_n 2, 1) := by decide +kernel
theorem dX12_perform_20 : decode cX12_perform 20 = .ok (.iload_n 2, 1) := by decide +kernel
theorem dX12_perform_21 : decode cX12_perform 21 = .ok (.aload_n 0, 1) := by decide +kernel
theorem dX12_perform_22 : decode cX12_perform 22 = .ok (.getfield 100, 3) := by decide +kernel
theorem dX12_perform_25 : decode cX12_perform 25 = .ok (.iload_n 1, 1) := by decide +kernel
theorem dX12_perform_26 : decode cX12_perform 26 = .ok (.iaload, 1) := by decide +kernel
theorem dX12_perform_27 : decode cX12_perform 27 = .ok (.if_icmp .ge 44, 3) := by decide +kernel
theorem dX12_perform_30 : decode cX12_perform 30 = .ok (.aload_n 0, 1) := by decide +kernel
theorem dX12_perform_31 : decode cX12_perform 31 = .ok (.aload_n 0, 1) := by decide +kernel
theorem dX12_perform_32 : decode cX12_perform 32 = .ok (.getfield 103, 3) := by decide +kernel
theorem dX12_perform_35 : decode cX12_perform 35 = .ok (.bipush 40, 2) := by decide +kernel
theorem dX12_perform_37 : decode cX12_perform 37 = .ok (.iload_n 1, 1) := by decide +kernel
theorem dX12_perform_38 : decode cX12_perform 38 = .ok (.imul, 1) := by decide +kernel
theorem dX12_perform_39 : decode cX12_perform 39 = .ok (.iload_n 2, 1) := by decide +kernel
theorem dX12_perform_40 : decode cX12_perform 40 = .ok (.iadd, 1) := by decide +kernel
theorem dX12_perform_41 : decode cX12_perform 41 = .ok (.laload, 1) := by decide +kernel
theorem dX12_perform_42 : decode cX12_perform 42 = .ok (.invokevirtual 343, 3) := by decide +kernel
theorem dX12_perform_45 : decode cX12_perform 45 = .ok (.ifCond .ne 26, 3) := by decide +kernel
theorem dX12_perform_48 : decode cX12_perform 48 = .ok (.aload_n 0, 1) := by decide +kernel
theorem dX12_perform_49 : decode cX12_perform 49 = .ok (.aload_n 0, 1) := by decide +kernel
theorem dX12_perform_50 : decode cX12_perform 50 = .ok (.getfield 103, 3) := by decide +kernel
theorem dX12_perform_53 : decode cX12_perform 53 = .ok (.bipush 40, 2) := by decide +kernel
theorem dX12_perform_55 : decode cX12_perform 55 = .ok (.iload_n 1, 1) := by decide +kernel
theorem dX12_perform_56 : decode cX12_perform 56 = .ok (.imul, 1) := by decide +kernel
theorem dX12_perform_57 : decode cX12_perform 57 = .ok (.iload_n 2, 1) := by decide +kernel
theorem dX12_perform_58 : decode cX12_perform 58 = .ok (.iadd, 1) := by decide +kernel
theorem dX12_perform_59 : decode cX12_perform 59 = .ok (.laload, 1) := by decide +kernel
theorem dX12_perform_60 : decode cX12_perform 60 = .ok (.l2i, 1) := by decide +kernel
theorem dX12_perform_61 : decode cX12_perform 61 = .ok (.invokevirtual 329, 3) := by decide +kernel
theorem dX12_perform_64 : decode cX12_perform 64 = .ok (.pop, 1) := by decide +kernel
theorem dX12_perform_65 : decode cX12_perform 65 = .ok (.iinc 2 1, 3) := by decide +kernel
theorem dX12_perform_68 : decode cX12_perform 68 = .ok (.goto (-48), 3) := by decide +kernel
theorem dX12_perform_71 : decode cX12_perform 71 = .ok (.iload_n 2, 1) := by decide +kernel
theorem dX12_perform_72 : decode cX12_perform 72 = .ok (.ireturn, 1) := by decide +kernel
