theorem dX12_pour_0 : decode cX12_pour 0 = .ok (.aload_n 0, 1) := by decide +kernel
theorem dX12_pour_1 : decode cX12_pour 1 = .ok (.aload_n 0, 1) := by decide +kernel
theorem dX12_pour_2 : decode cX12_pour 2 = .ok (.iload_n 1, 1) := by decide +kernel
theorem dX12_pour_3 : decode cX12_pour 3 = .ok (.invokevirtual 340, 3) := by decide +kernel
theorem dX12_pour_6 : decode cX12_pour 6 = .ok (.putfield 107, 3) := by decide +kernel
theorem dX12_pour_9 : decode cX12_pour 9 = .ok (.aload_n 0, 1) := by decide +kernel
theorem dX12_pour_10 : decode cX12_pour 10 = .ok (.getfield 107, 3) := by decide +kernel
theorem dX12_pour_13 : decode cX12_pour 13 = .ok (.ifCond .le 5, 3) := by decide +kernel
theorem dX12_pour_16 : decode cX12_pour 16 = .ok (.iconst 0, 1) := by decide +kernel
theorem dX12_pour_17 : decode cX12_pour 17 = .ok (.ireturn, 1) := by decide +kernel
theorem dX12_pour_18 : decode cX12_pour 18 = .ok (.aload_n 0, 1) := by decide +kernel
theorem dX12_pour_19 : decode cX12_pour 19 = .ok (.getfield 100, 3) := by decide +kernel
theorem dX12_pour_22 : decode cX12_pour 22 = .ok (.iload_n 1, 1) := by decide +kernel
theorem dX12_pour_23 : decode cX12_pour 23 = .ok (.iaload, 1) := by decide +kernel
theorem dX12_pour_24 : decode cX12_pour 24 = .ok (.aload_n 0, 1) := by decide +kernel
theorem dX12_pour_25 : decode cX12_pour 25 = .ok (.getfield 239, 3) := by decide +kernel
theorem dX12_pour_28 : decode cX12_pour 28 = .ok (.invokestatic 479, 3) := by decide +kernel
theorem dX12_pour_31 : decode cX12_pour 31 = .ok (.istore_n 2, 1) := by decide +kernel
theorem dX12_pour_32 : decode cX12_pour 32 = .ok (.iconst 0, 1) := by decide +kernel
theorem dX12_pour_33 : decode cX12_pour 33 = .ok (.istore_n 3, 1) := by decide +kernel
theorem dX12_pour_34 : decode cX12_pour 34 = .ok (.iload_n 3, 1) := by decide +kernel
theorem dX12_pour_35 : decode cX12_pour 35 = .ok (.iload_n 2, 1) := by decide +kernel
theorem dX12_pour_36 : decode cX12_pour 36 = .ok (.if_icmp .ge 23, 3) := by decide +kernel
theorem dX12_pour_39 : decode cX12_pour 39 = .ok (.aload_n 0, 1) := by decide +kernel
theorem dX12_pour_40 : decode cX12_pour 40 = .ok (.iload_n 1, 1) := by decide +kernel
theorem dX12_pour_41 : decode cX12_pour 41 = .ok (.iload_n 3, 1) := by decide +kernel
theorem dX12_pour_42 : decode cX12_pour 42 = .ok (.aload_n 0, 1) := by decide +kernel
theorem dX12_pour_43 : decode cX12_pour 43 = .ok (.getfield 39, 3) := by decide +kernel
theorem dX12_pour_46 : decode cX12_pour 46 = .ok (.iload_n 3, 1) := by decide +kernel
theorem dX12_pour_47 : decode cX12_pour 47 = .ok (.iaload, 1) := by decide +kernel
theorem dX12_pour_48 : decode cX12_pour 48 = .ok (.i2l, 1) := by decide +kernel
theorem dX12_pour_49 : decode cX12_pour 49 = .ok (.invokevirtual 475, 3) := by decide +kernel
theorem dX12_pour_52 : decode cX12_pour 52 = .ok (.pop2, 1) := by decide +kernel
theorem dX12_pour_53 : decode cX12_pour 53 = .ok (.iinc 3 1, 3) := by decide +kernel
theorem dX12_pour_56 : decode cX12_pour 56 = .ok (.goto (-22), 3) := by decide +kernel
theorem dX12_pour_59 : decode cX12_pour 59 = .ok (.iload_n 2, 1) := by decide +kernel
theorem dX12_pour_60 : decode cX12_pour 60 = .ok (.ireturn, 1) := by decide +kernel
theorem dX0_goDown_0 : decode cX0_goDown 0 = .ok (.aload_n 0, 1) := by decide +kernel
theorem dX0_goDown_1 : decode cX0_goDown 1 = .ok (.getfield 17, 3) := by decide +kernel
theorem dX0_goDown_4 : decode cX0_goDown 4 = .ok (.iload_n 1, 1) := by decide +kernel
theorem dX0_goDown_5 : decode cX0_goDown 5 = .ok (.iconst 1, 1) := by decide +kernel
theorem dX0_goDown_6 : decode cX0_goDown 6 = .ok (.iadd, 1) := by decide +kernel
theorem dX0_goDown_7 : decode cX0_goDown 7 = .ok (.aaload, 1) := by decide +kernel
theorem dX0_goDown_8 : decode cX0_goDown 8 = .ok (.aload_n 0, 1) := by decide +kernel
theorem dX0_goDown_9 : decode cX0_goDown 9 = .ok (.getfield 17, 3) := by decide +kernel
theorem dX0_goDown_12 : decode cX0_goDown 12 = .ok (.iload_n 1, 1) := by decide +kernel
theorem dX0_goDown_13 : decode cX0_goDown 13 = .ok (.aaload, 1) := by decide +kernel
theorem dX0_goDown_14 : decode cX0_goDown 14 = .ok (.invokevirtual 44, 3) := by decide +kernel
theorem dX0_goDown_17 : decode cX0_goDown 17 = .ok (.aload_n 0, 1) := by decide +kernel
theorem dX0_goDown_18 : decode cX0_goDown 18 = .ok (.getfield 40, 3) := by decide +kernel
theorem dX0_goDown_21 : decode cX0_goDown 21 = .ok (.aload_n 0, 1) := by decide +kernel
theorem dX0_goDown_22 : decode cX0_goDown 22 = .ok (.getfield 17, 3) := by decide +kernel
theorem dX0_goDown_25 : decode cX0_goDown 25 = .ok (.iload_n 1, 1) := by decide +kernel
theorem dX0_goDown_26 : decode cX0_goDown 26 = .ok (.iconst 1, 1) := by decide +kernel
theorem dX0_goDown_27 : decode cX0_goDown 27 = .ok (.iadd, 1) := by decide +kernel
theorem dX0_goDown_28 : decode cX0_goDown 28 = .ok (.aaload, 1) := by decide +kernel
theorem dX0_goDown_29 : decode cX0_goDown 29 = .ok (.iload_n 2, 1) := by decide +kernel
theorem dX0_goDown_30 : decode cX0_goDown 30 = .ok (.invokevirtual 48, 3) := by decide +kernel
theorem dX0_goDown_33 : decode cX0_goDown 33 = .ok (.pop, 1) := by decide +kernel
theorem dX0_goDown_34 : decode cX0_goDown 34 = .ok (.return_, 1) := by decide +kernel
theorem dX1_linkWay_0 : decode cX1_linkWay 0 = .ok (.iload_n 1, 1) := by decide +kernel
theorem dX1_linkWay_1 : decode cX1_linkWay 1 = .ok (.bipush 14, 2) := by decide +kernel
theorem dX1_linkWay_3 : decode cX1_linkWay 3 = .ok (.imul, 1) := by decide +kernel
theorem dX1_linkWay_4 : decode cX1_linkWay 4 = .ok (.istore_n 2, 1) := by decide +kernel
theorem dX1_linkWay_5 : decode cX1_linkWay 5 = .ok (.iconst (-1), 1) := by decide +kernel
theorem dX1_linkWay_6 : decode cX1_linkWay 6 = .ok (.istore_n 3, 1) := by decide +kernel
theorem dX1_linkWay_7 : decode cX1_linkWay 7 = .ok (.iconst (-1), 1) := by decide +kernel
theorem dX1_linkWay_8 : decode cX1_linkWay 8 = .ok (.istore 4, 2) := by decide +kernel
theorem dX1_linkWay_10 : decode cX1_linkWay 10 = .ok (.iconst 0, 1) := by decide +kernel
theorem dX1_linkWay_11 : decode cX1_linkWay 11 = .ok (.istore 5, 2) := by decide +kernel
theorem dX1_linkWay_13 : decode cX1_linkWay 13 = .ok (.iload 5, 2) := by decide +kernel
theorem dX1_linkWay_15 : decode cX1_linkWay 15 = .ok (.iconst 2, 1) := by decide +kernel
theorem dX1_linkWay_16 : decode cX1_linkWay 16 = .ok (.aload_n 0, 1) := by decide +kernel
theorem dX1_linkWay_17 : decode cX1_linkWay 17 = .ok (.getfield 21, 3) := by decide +kernel
theorem dX1_linkWay_20 : decode cX1_linkWay 20 = .ok (.getfield 66, 3) := by decide +kernel
theorem dX1_linkWay_23 : decode cX1_linkWay 23 = .ok (.imul, 1) := by decide +kernel
theorem dX1_linkWay_24 : decode cX1_linkWay 24 = .ok (.if_icmp .gt 53, 3) := by decide +kernel
theorem dX1_linkWay_27 : decode cX1_linkWay 27 = .ok (.aload_n 0, 1) := by decide +kernel
theorem dX1_linkWay_28 : decode cX1_linkWay 28 = .ok (.iload_n 1, 1) := by decide +kernel
theorem dX1_linkWay_29 : decode cX1_linkWay 29 = .ok (.iload 5, 2) := by decide +kernel
theorem dX1_linkWay_31 : decode cX1_linkWay 31 = .ok (.invokevirtual 69, 3) := by decide +kernel
theorem dX1_linkWay_34 : decode cX1_linkWay 34 = .ok (.istore 6, 2) := by decide +kernel
theorem dX1_linkWay_36 : decode cX1_linkWay 36 = .ok (.iload 6, 2) := by decide +kernel
theorem dX1_linkWay_38 : decode cX1_linkWay 38 = .ok (.iconst (-1), 1) := by decide +kernel
theorem dX1_linkWay_39 : decode cX1_linkWay 39 = .ok (.if_icmp .ne 6, 3) := by decide +kernel
theorem dX1_linkWay_42 : decode cX1_linkWay 42 = .ok (.goto 29, 3) := by decide +kernel
theorem dX1_linkWay_45 : decode cX1_linkWay 45 = .ok (.iload_n 3, 1) := by decide +kernel
theorem dX1_linkWay_46 : decode cX1_linkWay 46 = .ok (.iconst (-1), 1) := by decide +kernel
theorem dX1_linkWay_47 : decode cX1_linkWay 47 = .ok (.if_icmp .ne 9, 3) := by decide +kernel
theorem dX1_linkWay_50 : decode cX1_linkWay 50 = .ok (.iload 6, 2) := by decide +kernel
theorem dX1_linkWay_52 : decode cX1_linkWay 52 = .ok (.istore_n 3, 1) := by decide +kernel
theorem dX1_linkWay_53 : decode cX1_linkWay 53 = .ok (.goto 14, 3) := by decide +kernel
theorem dX1_linkWay_56 : decode cX1_linkWay 56 = .ok (.aload_n 0, 1) := by decide +kernel
theorem dX1_linkWay_57 : decode cX1_linkWay 57 = .ok (.getfield 9, 3) := by decide +kernel
theorem dX1_linkWay_60 : decode cX1_linkWay 60 = .ok (.iload_n 2, 1) := by decide +kernel
theorem dX1_linkWay_61 : decode cX1_linkWay 61 = .ok (.iload 4, 2) := by decide +kernel
theorem dX1_linkWay_63 : decode cX1_linkWay 63 = .ok (.iadd, 1) := by decide +kernel
theorem dX1_linkWay_64 : decode cX1_linkWay 64 = .ok (.iload 6, 2) := by decide +kernel
theorem dX1_linkWay_66 : decode cX1_linkWay 66 = .ok (.iastore, 1) := by decide +kernel
theorem dX1_linkWay_67 : decode cX1_linkWay 67 = .ok (.iload 6, 2) := by decide +kernel
theorem dX1_linkWay_69 : decode cX1_linkWay 69 = .ok (.istore 4, 2) := by decide +kernel
theorem dX1_linkWay_71 : decode cX1_linkWay 71 = .ok (.iinc 5 1, 3) := by decide +kernel
theorem dX1_linkWay_74 : decode cX1_linkWay 74 = .ok (.goto (-61), 3) := by decide +kernel
theorem dX1_linkWay_77 : decode cX1_linkWay 77 = .ok (.iload 4, 2) := by decide +kernel
theorem dX1_linkWay_79 : decode cX1_linkWay 79 = .ok (.iconst (-1), 1) := by decide +kernel
theorem dX1_linkWay_80 : decode cX1_linkWay 80 = .ok (.if_icmp .eq 13, 3) := by decide +kernel
theorem dX1_linkWay_83 : decode cX1_linkWay 83 = .ok (.aload_n 0, 1) := by decide +kernel
theorem dX1_linkWay_84 : decode cX1_linkWay 84 = .ok (.getfield 9, 3) := by decide +kernel
theorem dX1_linkWay_87 : decode cX1_linkWay 87 = .ok (.iload_n 2, 1) := by decide +kernel
theorem dX1_linkWay_88 : decode cX1_linkWay 88 = .ok (.iload 4, 2) := by decide +kernel
theorem dX1_linkWay_90 : decode cX1_linkWay 90 = .ok (.iadd, 1) := by decide +kernel
theorem dX1_linkWay_91 : decode cX1_linkWay 91 = .ok (.iload_n 3, 1) := by decide +kernel
theorem dX1_linkWay_92 : decode cX1_linkWay 92 = .ok (.iastore, 1) := by decide +kernel
theorem dX1_linkWay_93 : decode cX1_linkWay 93 = .ok (.return_, 1) := by decide +kernel
theorem dX4_step_0 : decode cX4_step 0 = .ok (.aload_n 0, 1) := by decide +kernel
theorem dX4_step_1 : decode cX4_step 1 = .ok (.aload_n 0, 1) := by decide +kernel
theorem dX4_step_2 : decode cX4_step 2 = .ok (.getfield 46, 3) := by decide +kernel
theorem dX4_step_5 : decode cX4_step 5 = .ok (.putfield 73, 3) := by decide +kernel
theorem dX4_step_8 : decode cX4_step 8 = .ok (.aload_n 0, 1) := by decide +kernel
theorem dX4_step_9 : decode cX4_step 9 = .ok (.getfield 73, 3) := by decide +kernel
theorem dX4_step_12 : decode cX4_step 12 = .ok (.aload_n 0, 1) := by decide +kernel
theorem dX4_step_13 : decode cX4_step 13 = .ok (.getfield 43, 3) := by decide +kernel
theorem dX4_step_16 : decode cX4_step 16 = .ok (.if_icmp .ge 44, 3) := by decide +kernel
theorem dX4_step_19 : decode cX4_step 19 = .ok (.aload_n 0, 1) := by decide +kernel
theorem dX4_step_20 : decode cX4_step 20 = .ok (.getfield 29, 3) := by decide +kernel
theorem dX4_step_23 : decode cX4_step 23 = .ok (.aload_n 0, 1) := by decide +kernel
theorem dX4_step_24 : decode cX4_step 24 = .ok (.getfield 73, 3) := by decide +kernel
theorem dX4_step_27 : decode cX4_step 27 = .ok (.iaload, 1) := by decide +kernel
theorem dX4_step_28 : decode cX4_step 28 = .ok (.bipush 10, 2) := by decide +kernel
theorem dX4_step_30 : decode cX4_step 30 = .ok (.if_icmp .eq 17, 3) := by decide +kernel
theorem dX4_step_33 : decode cX4_step 33 = .ok (.aload_n 0, 1) := by decide +kernel
theorem dX4_step_34 : decode cX4_step 34 = .ok (.getfield 29, 3) := by decide +kernel
theorem dX4_step_37 : decode cX4_step 37 = .ok (.aload_n 0, 1) := by decide +kernel
theorem dX4_step_38 : decode cX4_step 38 = .ok (.getfield 73, 3) := by decide +kernel
theorem dX4_step_41 : decode cX4_step 41 = .ok (.iaload, 1) := by decide +kernel
theorem dX4_step_42 : decode cX4_step 42 = .ok (.bipush 32, 2) := by decide +kernel
theorem dX4_step_44 : decode cX4_step 44 = .ok (.if_icmp .ne 16, 3) := by decide +kernel
theorem dX4_step_47 : decode cX4_step 47 = .ok (.aload_n 0, 1) := by decide +kernel
theorem dX4_step_48 : decode cX4_step 48 = .ok (.dup, 1) := by decide +kernel
theorem dX4_step_49 : decode cX4_step 49 = .ok (.getfield 73, 3) := by decide +kernel
theorem dX4_step_52 : decode cX4_step 52 = .ok (.iconst 1, 1) := by decide +kernel
theorem dX4_step_53 : decode cX4_step 53 = .ok (.iadd, 1) := by decide +kernel
theorem dX4_step_54 : decode cX4_step 54 = .ok (.putfield 73, 3) := by decide +kernel
theorem dX4_step_57 : decode cX4_step 57 = .ok (.goto (-49), 3) := by decide +kernel
theorem dX4_step_60 : decode cX4_step 60 = .ok (.aload_n 0, 1) := by decide +kernel
theorem dX4_step_61 : decode cX4_step 61 = .ok (.aload_n 0, 1) := by decide +kernel
theorem dX4_step_62 : decode cX4_step 62 = .ok (.getfield 73, 3) := by decide +kernel
theorem dX4_step_65 : decode cX4_step 65 = .ok (.putfield 46, 3) := by decide +kernel
theorem dX4_step_68 : decode cX4_step 68 = .ok (.aload_n 0, 1) := by decide +kernel
theorem dX4_step_69 : decode cX4_step 69 = .ok (.getfield 73, 3) := by decide +kernel
theorem dX4_step_72 : decode cX4_step 72 = .ok (.aload_n 0, 1) := by decide +kernel
theorem dX4_step_73 : decode cX4_step 73 = .ok (.getfield 43, 3) := by decide +kernel
theorem dX4_step_76 : decode cX4_step 76 = .ok (.if_icmp .lt 11, 3) := by decide +kernel
theorem dX4_step_79 : decode cX4_step 79 = .ok (.aload_n 0, 1) := by decide +kernel
theorem dX4_step_80 : decode cX4_step 80 = .ok (.iconst 0, 1) := by decide +kernel
theorem dX4_step_81 : decode cX4_step 81 = .ok (.putfield 52, 3) := by decide +kernel
theorem dX4_step_84 : decode cX4_step 84 = .ok (.goto 81, 3) := by decide +kernel
theorem dX4_step_87 : decode cX4_step 87 = .ok (.aload_n 0, 1) := by decide +kernel
theorem dX4_step_88 : decode cX4_step 88 = .ok (.aload_n 0, 1) := by decide +kernel
theorem dX4_step_89 : decode cX4_step 89 = .ok (.getfield 73, 3) := by decide +kernel
theorem dX4_step_92 : decode cX4_step 92 = .ok (.invokevirtual 169, 3) := by decide +kernel
theorem dX4_step_95 : decode cX4_step 95 = .ok (.ifCond .eq 10, 3) := by decide +kernel
theorem dX4_step_98 : decode cX4_step 98 = .ok (.aload_n 0, 1) := by decide +kernel
theorem dX4_step_99 : decode cX4_step 99 = .ok (.invokevirtual 172, 3) := by decide +kernel
theorem dX4_step_102 : decode cX4_step 102 = .ok (.goto 63, 3) := by decide +kernel
theorem dX4_step_105 : decode cX4_step 105 = .ok (.aload_n 0, 1) := by decide +kernel
theorem dX4_step_106 : decode cX4_step 106 = .ok (.aload_n 0, 1) := by decide +kernel
theorem dX4_step_107 : decode cX4_step 107 = .ok (.getfield 73, 3) := by decide +kernel
theorem dX4_step_110 : decode cX4_step 110 = .ok (.invokevirtual 175, 3) := by decide +kernel
theorem dX4_step_113 : decode cX4_step 113 = .ok (.ifCond .eq 10, 3) := by decide +kernel
theorem dX4_step_116 : decode cX4_step 116 = .ok (.aload_n 0, 1) := by decide +kernel
theorem dX4_step_117 : decode cX4_step 117 = .ok (.invokevirtual 178, 3) := by decide +kernel
theorem dX4_step_120 : decode cX4_step 120 = .ok (.goto 45, 3) := by decide +kernel
theorem dX4_step_123 : decode cX4_step 123 = .ok (.aload_n 0, 1) := by decide +kernel
theorem dX4_step_124 : decode cX4_step 124 = .ok (.getfield 29, 3) := by decide +kernel
theorem dX4_step_127 : decode cX4_step 127 = .ok (.aload_n 0, 1) := by decide +kernel
theorem dX4_step_128 : decode cX4_step 128 = .ok (.getfield 73, 3) := by decide +kernel
theorem dX4_step_131 : decode cX4_step 131 = .ok (.iaload, 1) := by decide +kernel
theorem dX4_step_132 : decode cX4_step 132 = .ok (.bipush 59, 2) := by decide +kernel
theorem dX4_step_134 : decode cX4_step 134 = .ok (.if_icmp .ne 21, 3) := by decide +kernel
theorem dX4_step_137 : decode cX4_step 137 = .ok (.aload_n 0, 1) := by decide +kernel
theorem dX4_step_138 : decode cX4_step 138 = .ok (.iconst 3, 1) := by decide +kernel
theorem dX4_step_139 : decode cX4_step 139 = .ok (.putfield 52, 3) := by decide +kernel
theorem dX4_step_142 : decode cX4_step 142 = .ok (.aload_n 0, 1) := by decide +kernel
theorem dX4_step_143 : decode cX4_step 143 = .ok (.dup, 1) := by decide +kernel
theorem dX4_step_144 : decode cX4_step 144 = .ok (.getfield 46, 3) := by decide +kernel
theorem dX4_step_147 : decode cX4_step 147 = .ok (.iconst 1, 1) := by decide +kernel
theorem dX4_step_148 : decode cX4_step 148 = .ok (.iadd, 1) := by decide +kernel
theorem dX4_step_149 : decode cX4_step 149 = .ok (.putfield 46, 3) := by decide +kernel
theorem dX4_step_152 : decode cX4_step 152 = .ok (.goto 13, 3) := by decide +kernel
theorem dX4_step_155 : decode cX4_step 155 = .ok (.aload_n 0, 1) := by decide +kernel
theorem dX4_step_156 : decode cX4_step 156 = .ok (.iconst 4, 1) := by decide +kernel
theorem dX4_step_157 : decode cX4_step 157 = .ok (.putfield 52, 3) := by decide +kernel
theorem dX4_step_160 : decode cX4_step 160 = .ok (.aload_n 0, 1) := by decide +kernel
theorem dX4_step_161 : decode cX4_step 161 = .ok (.iconst 1, 1) := by decide +kernel
theorem dX4_step_162 : decode cX4_step 162 = .ok (.invokevirtual 120, 3) := by decide +kernel
theorem dX4_step_165 : decode cX4_step 165 = .ok (.return_, 1) := by decide +kernel
theorem dX7_readPosition_0 : decode cX7_readPosition 0 = .ok (.iload_n 1, 1) := by decide +kernel
theorem dX7_readPosition_1 : decode cX7_readPosition 1 = .ok (.sipush 3003, 3) := by decide +kernel
theorem dX7_readPosition_4 : decode cX7_readPosition 4 = .ok (.imul, 1) := by decide +kernel
theorem dX7_readPosition_5 : decode cX7_readPosition 5 = .ok (.iload_n 3, 1) := by decide +kernel
theorem dX7_readPosition_6 : decode cX7_readPosition 6 = .ok (.iadd, 1) := by decide +kernel
theorem dX7_readPosition_7 : decode cX7_readPosition 7 = .ok (.istore 4, 2) := by decide +kernel
theorem dX7_readPosition_9 : decode cX7_readPosition 9 = .ok (.aload_n 0, 1) := by decide +kernel
theorem dX7_readPosition_10 : decode cX7_readPosition 10 = .ok (.iload_n 1, 1) := by decide +kernel
theorem dX7_readPosition_11 : decode cX7_readPosition 11 = .ok (.iload_n 2, 1) := by decide +kernel
theorem dX7_readPosition_12 : decode cX7_readPosition 12 = .ok (.iload_n 3, 1) := by decide +kernel
theorem dX7_readPosition_13 : decode cX7_readPosition 13 = .ok (.invokevirtual 94, 3) := by decide +kernel
theorem dX7_readPosition_16 : decode cX7_readPosition 16 = .ok (.istore 5, 2) := by decide +kernel
theorem dX7_readPosition_18 : decode cX7_readPosition 18 = .ok (.aload_n 0, 1) := by decide +kernel
theorem dX7_readPosition_19 : decode cX7_readPosition 19 = .ok (.getfield 46, 3) := by decide +kernel
theorem dX7_readPosition_22 : decode cX7_readPosition 22 = .ok (.aload_n 0, 1) := by decide +kernel
theorem dX7_readPosition_23 : decode cX7_readPosition 23 = .ok (.getfield 21, 3) := by decide +kernel
theorem dX7_readPosition_26 : decode cX7_readPosition 26 = .ok (.iload_n 1, 1) := by decide +kernel
theorem dX7_readPosition_27 : decode cX7_readPosition 27 = .ok (.iload_n 2, 1) := by decide +kernel
theorem dX7_readPosition_28 : decode cX7_readPosition 28 = .ok (.iload_n 3, 1) := by decide +kernel
theorem dX7_readPosition_29 : decode cX7_readPosition 29 = .ok (.invokevirtual 106, 3) := by decide +kernel
theorem dX7_readPosition_32 : decode cX7_readPosition 32 = .ok (.aload_n 0, 1) := by decide +kernel
theorem dX7_readPosition_33 : decode cX7_readPosition 33 = .ok (.getfield 29, 3) := by decide +kernel
theorem dX7_readPosition_36 : decode cX7_readPosition 36 = .ok (.iload 4, 2) := by decide +kernel
theorem dX7_readPosition_38 : decode cX7_readPosition 38 = .ok (.sipush (-1000), 3) := by decide +kernel
theorem dX7_readPosition_41 : decode cX7_readPosition 41 = .ok (.iastore, 1) := by decide +kernel
theorem dX7_readPosition_42 : decode cX7_readPosition 42 = .ok (.aload_n 0, 1) := by decide +kernel
theorem dX7_readPosition_43 : decode cX7_readPosition 43 = .ok (.getfield 35, 3) := by decide +kernel
theorem dX7_readPosition_46 : decode cX7_readPosition 46 = .ok (.iload 4, 2) := by decide +kernel
theorem dX7_readPosition_48 : decode cX7_readPosition 48 = .ok (.iconst 0, 1) := by decide +kernel
theorem dX7_readPosition_49 : decode cX7_readPosition 49 = .ok (.iastore, 1) := by decide +kernel
theorem dX7_readPosition_50 : decode cX7_readPosition 50 = .ok (.aload_n 0, 1) := by decide +kernel
theorem dX7_readPosition_51 : decode cX7_readPosition 51 = .ok (.getfield 9, 3) := by decide +kernel
theorem dX7_readPosition_54 : decode cX7_readPosition 54 = .ok (.iload 5, 2) := by decide +kernel
theorem dX7_readPosition_56 : decode cX7_readPosition 56 = .ok (.iconst 0, 1) := by decide +kernel
theorem dX7_readPosition_57 : decode cX7_readPosition 57 = .ok (.iastore, 1) := by decide +kernel
theorem dX7_readPosition_58 : decode cX7_readPosition 58 = .ok (.aload_n 0, 1) := by decide +kernel
theorem dX7_readPosition_59 : decode cX7_readPosition 59 = .ok (.getfield 15, 3) := by decide +kernel
theorem dX7_readPosition_62 : decode cX7_readPosition 62 = .ok (.iload 5, 2) := by decide +kernel
theorem dX7_readPosition_64 : decode cX7_readPosition 64 = .ok (.iconst 0, 1) := by decide +kernel
theorem dX7_readPosition_65 : decode cX7_readPosition 65 = .ok (.iastore, 1) := by decide +kernel
theorem dX7_readPosition_66 : decode cX7_readPosition 66 = .ok (.aload_n 0, 1) := by decide +kernel
theorem dX7_readPosition_67 : decode cX7_readPosition 67 = .ok (.getfield 50, 3) := by decide +kernel
theorem dX7_readPosition_70 : decode cX7_readPosition 70 = .ok (.aload_n 0, 1) := by decide +kernel
theorem dX7_readPosition_71 : decode cX7_readPosition 71 = .ok (.getfield 21, 3) := by decide +kernel
theorem dX7_readPosition_74 : decode cX7_readPosition 74 = .ok (.invokevirtual 110, 3) := by decide +kernel
theorem dX7_readPosition_77 : decode cX7_readPosition 77 = .ok (.iload_n 1, 1) := by decide +kernel
theorem dX7_readPosition_78 : decode cX7_readPosition 78 = .ok (.aload_n 0, 1) := by decide +kernel
theorem dX7_readPosition_79 : decode cX7_readPosition 79 = .ok (.getfield 42, 3) := by decide +kernel
theorem dX7_readPosition_82 : decode cX7_readPosition 82 = .ok (.getfield 116, 3) := by decide +kernel
theorem dX7_readPosition_85 : decode cX7_readPosition 85 = .ok (.imul, 1) := by decide +kernel
theorem dX7_readPosition_86 : decode cX7_readPosition 86 = .ok (.iushr, 1) := by decide +kernel
theorem dX7_readPosition_87 : decode cX7_readPosition 87 = .ok (.istore 6, 2) := by decide +kernel
theorem dX7_readPosition_89 : decode cX7_readPosition 89 = .ok (.iload 6, 2) := by decide +kernel
theorem dX7_readPosition_91 : decode cX7_readPosition 91 = .ok (.ifCond .ne 51, 3) := by decide +kernel
theorem dX7_readPosition_94 : decode cX7_readPosition 94 = .ok (.aload_n 0, 1) := by decide +kernel
theorem dX7_readPosition_95 : decode cX7_readPosition 95 = .ok (.getfield 9, 3) := by decide +kernel
theorem dX7_readPosition_98 : decode cX7_readPosition 98 = .ok (.iload 5, 2) := by decide +kernel
theorem dX7_readPosition_100 : decode cX7_readPosition 100 = .ok (.aload_n 0, 1) := by decide +kernel
theorem dX7_readPosition_101 : decode cX7_readPosition 101 = .ok (.getfield 21, 3) := by decide +kernel
theorem dX7_readPosition_104 : decode cX7_readPosition 104 = .ok (.iload_n 1, 1) := by decide +kernel
theorem dX7_readPosition_105 : decode cX7_readPosition 105 = .ok (.aload_n 0, 1) := by decide +kernel
theorem dX7_readPosition_106 : decode cX7_readPosition 106 = .ok (.getfield 42, 3) := by decide +kernel
theorem dX7_readPosition_109 : decode cX7_readPosition 109 = .ok (.getfield 116, 3) := by decide +kernel
theorem dX7_readPosition_112 : decode cX7_readPosition 112 = .ok (.invokevirtual 119, 3) := by decide +kernel
theorem dX7_readPosition_115 : decode cX7_readPosition 115 = .ok (.aload_n 0, 1) := by decide +kernel
theorem dX7_readPosition_116 : decode cX7_readPosition 116 = .ok (.getfield 21, 3) := by decide +kernel
theorem dX7_readPosition_119 : decode cX7_readPosition 119 = .ok (.iconst 1, 1) := by decide +kernel
theorem dX7_readPosition_120 : decode cX7_readPosition 120 = .ok (.iload_n 1, 1) := by decide +kernel
theorem dX7_readPosition_121 : decode cX7_readPosition 121 = .ok (.isub, 1) := by decide +kernel
theorem dX7_readPosition_122 : decode cX7_readPosition 122 = .ok (.aload_n 0, 1) := by decide +kernel
theorem dX7_readPosition_123 : decode cX7_readPosition 123 = .ok (.getfield 42, 3) := by decide +kernel
theorem dX7_readPosition_126 : decode cX7_readPosition 126 = .ok (.getfield 116, 3) := by decide +kernel
theorem dX7_readPosition_129 : decode cX7_readPosition 129 = .ok (.invokevirtual 119, 3) := by decide +kernel
theorem dX7_readPosition_132 : decode cX7_readPosition 132 = .ok (.isub, 1) := by decide +kernel
theorem dX7_readPosition_133 : decode cX7_readPosition 133 = .ok (.iastore, 1) := by decide +kernel
theorem dX7_readPosition_134 : decode cX7_readPosition 134 = .ok (.aload_n 0, 1) := by decide +kernel
theorem dX7_readPosition_135 : decode cX7_readPosition 135 = .ok (.getfield 15, 3) := by decide +kernel
theorem dX7_readPosition_138 : decode cX7_readPosition 138 = .ok (.iload 5, 2) := by decide +kernel
theorem dX7_readPosition_140 : decode cX7_readPosition 140 = .ok (.iconst (-1), 1) := by decide +kernel
theorem dX7_readPosition_141 : decode cX7_readPosition 141 = .ok (.iastore, 1) := by decide +kernel
theorem dX7_readPosition_142 : decode cX7_readPosition 142 = .ok (.iconst 0, 1) := by decide +kernel
theorem dX7_readPosition_143 : decode cX7_readPosition 143 = .ok (.istore 7, 2) := by decide +kernel
theorem dX7_readPosition_145 : decode cX7_readPosition 145 = .ok (.iload 7, 2) := by decide +kernel
theorem dX7_readPosition_147 : decode cX7_readPosition 147 = .ok (.aload_n 0, 1) := by decide +kernel
theorem dX7_readPosition_148 : decode cX7_readPosition 148 = .ok (.getfield 42, 3) := by decide +kernel
theorem dX7_readPosition_151 : decode cX7_readPosition 151 = .ok (.getfield 116, 3) := by decide +kernel
theorem dX7_readPosition_154 : decode cX7_readPosition 154 = .ok (.if_icmp .ge 28, 3) := by decide +kernel
theorem dX7_readPosition_157 : decode cX7_readPosition 157 = .ok (.iload 6, 2) := by decide +kernel
theorem dX7_readPosition_159 : decode cX7_readPosition 159 = .ok (.iload 7, 2) := by decide +kernel
theorem dX7_readPosition_161 : decode cX7_readPosition 161 = .ok (.invokestatic 123, 3) := by decide +kernel
theorem dX7_readPosition_164 : decode cX7_readPosition 164 = .ok (.ifCond .eq 12, 3) := by decide +kernel
theorem dX7_readPosition_167 : decode cX7_readPosition 167 = .ok (.aload_n 0, 1) := by decide +kernel
theorem dX7_readPosition_168 : decode cX7_readPosition 168 = .ok (.iload 4, 2) := by decide +kernel
theorem dX7_readPosition_170 : decode cX7_readPosition 170 = .ok (.iload_n 2, 1) := by decide +kernel
theorem dX7_readPosition_171 : decode cX7_readPosition 171 = .ok (.iload 7, 2) := by decide +kernel
theorem dX7_readPosition_173 : decode cX7_readPosition 173 = .ok (.invokevirtual 127, 3) := by decide +kernel
theorem dX7_readPosition_176 : decode cX7_readPosition 176 = .ok (.iinc 7 1, 3) := by decide +kernel
theorem dX7_readPosition_179 : decode cX7_readPosition 179 = .ok (.goto (-34), 3) := by decide +kernel
theorem dX7_readPosition_182 : decode cX7_readPosition 182 = .ok (.return_, 1) := by decide +kernel
theorem dX7_rankAt_0 : decode cX7_rankAt 0 = .ok (.aload_n 0, 1) := by decide +kernel
theorem dX7_rankAt_1 : decode cX7_rankAt 1 = .ok (.aload_n 0, 1) := by decide +kernel
theorem dX7_rankAt_2 : decode cX7_rankAt 2 = .ok (.aload_n 1, 1) := by decide +kernel
theorem dX7_rankAt_3 : decode cX7_rankAt 3 = .ok (.aload_n 1, 1) := by decide +kernel
theorem dX7_rankAt_4 : decode cX7_rankAt 4 = .ok (.invokevirtual 145, 3) := by decide +kernel
theorem dX7_rankAt_7 : decode cX7_rankAt 7 = .ok (.invokevirtual 137, 3) := by decide +kernel
theorem dX7_rankAt_10 : decode cX7_rankAt 10 = .ok (.invokevirtual 148, 3) := by decide +kernel
theorem dX7_rankAt_13 : decode cX7_rankAt 13 = .ok (.ireturn, 1) := by decide +kernel
theorem dX7_worthBy_0 : decode cX7_worthBy 0 = .ok (.aload_n 0, 1) := by decide +kernel
theorem dX7_worthBy_1 : decode cX7_worthBy 1 = .ok (.getfield 50, 3) := by decide +kernel
theorem dX7_worthBy_4 : decode cX7_worthBy 4 = .ok (.aload_n 1, 1) := by decide +kernel
theorem dX7_worthBy_5 : decode cX7_worthBy 5 = .ok (.invokevirtual 110, 3) := by decide +kernel
theorem dX7_worthBy_8 : decode cX7_worthBy 8 = .ok (.iload_n 2, 1) := by decide +kernel
theorem dX7_worthBy_9 : decode cX7_worthBy 9 = .ok (.invokestatic 123, 3) := by decide +kernel
theorem dX7_worthBy_12 : decode cX7_worthBy 12 = .ok (.ifCond .eq 25, 3) := by decide +kernel
theorem dX7_worthBy_15 : decode cX7_worthBy 15 = .ok (.aload_n 0, 1) := by decide +kernel
theorem dX7_worthBy_16 : decode cX7_worthBy 16 = .ok (.aload_n 1, 1) := by decide +kernel
theorem dX7_worthBy_17 : decode cX7_worthBy 17 = .ok (.iload_n 2, 1) := by decide +kernel
theorem dX7_worthBy_18 : decode cX7_worthBy 18 = .ok (.aload_n 1, 1) := by decide +kernel
theorem dX7_worthBy_19 : decode cX7_worthBy 19 = .ok (.getfield 87, 3) := by decide +kernel
theorem dX7_worthBy_22 : decode cX7_worthBy 22 = .ok (.aload_n 0, 1) := by decide +kernel
theorem dX7_worthBy_23 : decode cX7_worthBy 23 = .ok (.getfield 42, 3) := by decide +kernel
theorem dX7_worthBy_26 : decode cX7_worthBy 26 = .ok (.getfield 116, 3) := by decide +kernel
theorem dX7_worthBy_29 : decode cX7_worthBy 29 = .ok (.imul, 1) := by decide +kernel
theorem dX7_worthBy_30 : decode cX7_worthBy 30 = .ok (.isub, 1) := by decide +kernel
theorem dX7_worthBy_31 : decode cX7_worthBy 31 = .ok (.invokevirtual 154, 3) := by decide +kernel
theorem dX7_worthBy_34 : decode cX7_worthBy 34 = .ok (.goto 6, 3) := by decide +kernel
theorem dX7_worthBy_37 : decode cX7_worthBy 37 = .ok (.sipush (-1000), 3) := by decide +kernel
theorem dX7_worthBy_40 : decode cX7_worthBy 40 = .ok (.ireturn, 1) := by decide +kernel
theorem dX7_bestAt_0 : decode cX7_bestAt 0 = .ok (.aload_n 0, 1) := by decide +kernel
theorem dX7_bestAt_1 : decode cX7_bestAt 1 = .ok (.aload_n 1, 1) := by decide +kernel
theorem dX7_bestAt_2 : decode cX7_bestAt 2 = .ok (.invokevirtual 157, 3) := by decide +kernel
theorem dX7_bestAt_5 : decode cX7_bestAt 5 = .ok (.istore_n 2, 1) := by decide +kernel
theorem dX7_bestAt_6 : decode cX7_bestAt 6 = .ok (.aload_n 1, 1) := by decide +kernel
theorem dX7_bestAt_7 : decode cX7_bestAt 7 = .ok (.getfield 87, 3) := by decide +kernel
theorem dX7_bestAt_10 : decode cX7_bestAt 10 = .ok (.aload_n 0, 1) := by decide +kernel
theorem dX7_bestAt_11 : decode cX7_bestAt 11 = .ok (.getfield 42, 3) := by decide +kernel
theorem dX7_bestAt_14 : decode cX7_bestAt 14 = .ok (.getfield 116, 3) := by decide +kernel
theorem dX7_bestAt_17 : decode cX7_bestAt 17 = .ok (.imul, 1) := by decide +kernel
theorem dX7_bestAt_18 : decode cX7_bestAt 18 = .ok (.istore_n 3, 1) := by decide +kernel
theorem dX7_bestAt_19 : decode cX7_bestAt 19 = .ok (.aload_n 0, 1) := by decide +kernel
theorem dX7_bestAt_20 : decode cX7_bestAt 20 = .ok (.getfield 50, 3) := by decide +kernel
theorem dX7_bestAt_23 : decode cX7_bestAt 23 = .ok (.aload_n 1, 1) := by decide +kernel
theorem dX7_bestAt_24 : decode cX7_bestAt 24 = .ok (.invokevirtual 110, 3) := by decide +kernel
theorem dX7_bestAt_27 : decode cX7_bestAt 27 = .ok (.iload_n 3, 1) := by decide +kernel
theorem dX7_bestAt_28 : decode cX7_bestAt 28 = .ok (.iushr, 1) := by decide +kernel
theorem dX7_bestAt_29 : decode cX7_bestAt 29 = .ok (.istore 4, 2) := by decide +kernel
theorem dX7_bestAt_31 : decode cX7_bestAt 31 = .ok (.iconst (-1), 1) := by decide +kernel
theorem dX7_bestAt_32 : decode cX7_bestAt 32 = .ok (.istore 5, 2) := by decide +kernel
theorem dX7_bestAt_34 : decode cX7_bestAt 34 = .ok (.iconst 0, 1) := by decide +kernel
theorem dX7_bestAt_35 : decode cX7_bestAt 35 = .ok (.istore 6, 2) := by decide +kernel
theorem dX7_bestAt_37 : decode cX7_bestAt 37 = .ok (.iconst 0, 1) := by decide +kernel
theorem dX7_bestAt_38 : decode cX7_bestAt 38 = .ok (.istore 7, 2) := by decide +kernel
theorem dX7_bestAt_40 : decode cX7_bestAt 40 = .ok (.iload 7, 2) := by decide +kernel
theorem dX7_bestAt_42 : decode cX7_bestAt 42 = .ok (.aload_n 0, 1) := by decide +kernel
theorem dX7_bestAt_43 : decode cX7_bestAt 43 = .ok (.getfield 42, 3) := by decide +kernel
theorem dX7_bestAt_46 : decode cX7_bestAt 46 = .ok (.getfield 116, 3) := by decide +kernel
theorem dX7_bestAt_49 : decode cX7_bestAt 49 = .ok (.if_icmp .ge 57, 3) := by decide +kernel
theorem dX7_bestAt_52 : decode cX7_bestAt 52 = .ok (.iload 4, 2) := by decide +kernel
theorem dX7_bestAt_54 : decode cX7_bestAt 54 = .ok (.iload 7, 2) := by decide +kernel
theorem dX7_bestAt_56 : decode cX7_bestAt 56 = .ok (.invokestatic 123, 3) := by decide +kernel
theorem dX7_bestAt_59 : decode cX7_bestAt 59 = .ok (.ifCond .eq 41, 3) := by decide +kernel
theorem dX7_bestAt_62 : decode cX7_bestAt 62 = .ok (.aload_n 0, 1) := by decide +kernel
theorem dX7_bestAt_63 : decode cX7_bestAt 63 = .ok (.aload_n 1, 1) := by decide +kernel
theorem dX7_bestAt_64 : decode cX7_bestAt 64 = .ok (.iload 7, 2) := by decide +kernel
theorem dX7_bestAt_66 : decode cX7_bestAt 66 = .ok (.invokevirtual 154, 3) := by decide +kernel
theorem dX7_bestAt_69 : decode cX7_bestAt 69 = .ok (.iload_n 2, 1) := by decide +kernel
theorem dX7_bestAt_70 : decode cX7_bestAt 70 = .ok (.if_icmp .ne 30, 3) := by decide +kernel
theorem dX7_bestAt_73 : decode cX7_bestAt 73 = .ok (.iload 5, 2) := by decide +kernel
theorem dX7_bestAt_75 : decode cX7_bestAt 75 = .ok (.iconst (-1), 1) := by decide +kernel
theorem dX7_bestAt_76 : decode cX7_bestAt 76 = .ok (.if_icmp .eq 12, 3) := by decide +kernel
theorem dX7_bestAt_79 : decode cX7_bestAt 79 = .ok (.aload_n 0, 1) := by decide +kernel
theorem dX7_bestAt_80 : decode cX7_bestAt 80 = .ok (.getfield 151, 3) := by decide +kernel
theorem dX7_bestAt_83 : decode cX7_bestAt 83 = .ok (.iload 6, 2) := by decide +kernel
theorem dX7_bestAt_85 : decode cX7_bestAt 85 = .ok (.if_icmp .ge 15, 3) := by decide +kernel
theorem dX7_bestAt_88 : decode cX7_bestAt 88 = .ok (.iload_n 3, 1) := by decide +kernel
theorem dX7_bestAt_89 : decode cX7_bestAt 89 = .ok (.iload 7, 2) := by decide +kernel
theorem dX7_bestAt_91 : decode cX7_bestAt 91 = .ok (.iadd, 1) := by decide +kernel
theorem dX7_bestAt_92 : decode cX7_bestAt 92 = .ok (.istore 5, 2) := by decide +kernel
theorem dX7_bestAt_94 : decode cX7_bestAt 94 = .ok (.aload_n 0, 1) := by decide +kernel
theorem dX7_bestAt_95 : decode cX7_bestAt 95 = .ok (.getfield 151, 3) := by decide +kernel
theorem dX7_bestAt_98 : decode cX7_bestAt 98 = .ok (.istore 6, 2) := by decide +kernel
theorem dX7_bestAt_100 : decode cX7_bestAt 100 = .ok (.iinc 7 1, 3) := by decide +kernel
theorem dX7_bestAt_103 : decode cX7_bestAt 103 = .ok (.goto (-63), 3) := by decide +kernel
theorem dX7_bestAt_106 : decode cX7_bestAt 106 = .ok (.iload 5, 2) := by decide +kernel
theorem dX7_bestAt_108 : decode cX7_bestAt 108 = .ok (.ireturn, 1) := by decide +kernel
theorem dX7_manyBest_0 : decode cX7_manyBest 0 = .ok (.aload_n 0, 1) := by decide +kernel
theorem dX7_manyBest_1 : decode cX7_manyBest 1 = .ok (.aload_n 1, 1) := by decide +kernel
theorem dX7_manyBest_2 : decode cX7_manyBest 2 = .ok (.invokevirtual 157, 3) := by decide +kernel
theorem dX7_manyBest_5 : decode cX7_manyBest 5 = .ok (.istore_n 2, 1) := by decide +kernel
theorem dX7_manyBest_6 : decode cX7_manyBest 6 = .ok (.aload_n 0, 1) := by decide +kernel
theorem dX7_manyBest_7 : decode cX7_manyBest 7 = .ok (.getfield 50, 3) := by decide +kernel
theorem dX7_manyBest_10 : decode cX7_manyBest 10 = .ok (.aload_n 1, 1) := by decide +kernel
theorem dX7_manyBest_11 : decode cX7_manyBest 11 = .ok (.invokevirtual 110, 3) := by decide +kernel
theorem dX7_manyBest_14 : decode cX7_manyBest 14 = .ok (.aload_n 1, 1) := by decide +kernel
theorem dX7_manyBest_15 : decode cX7_manyBest 15 = .ok (.getfield 87, 3) := by decide +kernel
theorem dX7_manyBest_18 : decode cX7_manyBest 18 = .ok (.aload_n 0, 1) := by decide +kernel
theorem dX7_manyBest_19 : decode cX7_manyBest 19 = .ok (.getfield 42, 3) := by decide +kernel
theorem dX7_manyBest_22 : decode cX7_manyBest 22 = .ok (.getfield 116, 3) := by decide +kernel
theorem dX7_manyBest_25 : decode cX7_manyBest 25 = .ok (.imul, 1) := by decide +kernel
theorem dX7_manyBest_26 : decode cX7_manyBest 26 = .ok (.iushr, 1) := by decide +kernel
theorem dX7_manyBest_27 : decode cX7_manyBest 27 = .ok (.istore_n 3, 1) := by decide +kernel
theorem dX7_manyBest_28 : decode cX7_manyBest 28 = .ok (.iconst 0, 1) := by decide +kernel
theorem dX7_manyBest_29 : decode cX7_manyBest 29 = .ok (.istore 4, 2) := by decide +kernel
theorem dX7_manyBest_31 : decode cX7_manyBest 31 = .ok (.iconst 0, 1) := by decide +kernel
theorem dX7_manyBest_32 : decode cX7_manyBest 32 = .ok (.istore 5, 2) := by decide +kernel
theorem dX7_manyBest_34 : decode cX7_manyBest 34 = .ok (.iload 5, 2) := by decide +kernel
theorem dX7_manyBest_36 : decode cX7_manyBest 36 = .ok (.aload_n 0, 1) := by decide +kernel
theorem dX7_manyBest_37 : decode cX7_manyBest 37 = .ok (.getfield 42, 3) := by decide +kernel
theorem dX7_manyBest_40 : decode cX7_manyBest 40 = .ok (.getfield 116, 3) := by decide +kernel
theorem dX7_manyBest_43 : decode cX7_manyBest 43 = .ok (.if_icmp .ge 32, 3) := by decide +kernel
theorem dX7_manyBest_46 : decode cX7_manyBest 46 = .ok (.iload_n 3, 1) := by decide +kernel
theorem dX7_manyBest_47 : decode cX7_manyBest 47 = .ok (.iload 5, 2) := by decide +kernel
theorem dX7_manyBest_49 : decode cX7_manyBest 49 = .ok (.invokestatic 123, 3) := by decide +kernel
theorem dX7_manyBest_52 : decode cX7_manyBest 52 = .ok (.ifCond .eq 17, 3) := by decide +kernel
theorem dX7_manyBest_55 : decode cX7_manyBest 55 = .ok (.aload_n 0, 1) := by decide +kernel
theorem dX7_manyBest_56 : decode cX7_manyBest 56 = .ok (.aload_n 1, 1) := by decide +kernel
theorem dX7_manyBest_57 : decode cX7_manyBest 57 = .ok (.iload 5, 2) := by decide +kernel
theorem dX7_manyBest_59 : decode cX7_manyBest 59 = .ok (.invokevirtual 154, 3) := by decide +kernel
theorem dX7_manyBest_62 : decode cX7_manyBest 62 = .ok (.iload_n 2, 1) := by decide +kernel
theorem dX7_manyBest_63 : decode cX7_manyBest 63 = .ok (.if_icmp .ne 6, 3) := by decide +kernel
theorem dX7_manyBest_66 : decode cX7_manyBest 66 = .ok (.iinc 4 1, 3) := by decide +kernel
theorem dX7_manyBest_69 : decode cX7_manyBest 69 = .ok (.iinc 5 1, 3) := by decide +kernel
theorem dX7_manyBest_72 : decode cX7_manyBest 72 = .ok (.goto (-38), 3) := by decide +kernel
theorem dX7_manyBest_75 : decode cX7_manyBest 75 = .ok (.iload 4, 2) := by decide +kernel
theorem dX7_manyBest_77 : decode cX7_manyBest 77 = .ok (.ireturn, 1) := by decide +kernel
theorem dX8_choices_0 : decode cX8_choices 0 = .ok (.aload_n 0, 1) := by decide +kernel
theorem dX8_choices_1 : decode cX8_choices 1 = .ok (.getfield 21, 3) := by decide +kernel
theorem dX8_choices_4 : decode cX8_choices 4 = .ok (.getfield 95, 3) := by decide +kernel
theorem dX8_choices_7 : decode cX8_choices 7 = .ok (.ifCond .ne 13, 3) := by decide +kernel
theorem dX8_choices_10 : decode cX8_choices 10 = .ok (.aload_n 0, 1) := by decide +kernel
theorem dX8_choices_11 : decode cX8_choices 11 = .ok (.getfield 25, 3) := by decide +kernel
theorem dX8_choices_14 : decode cX8_choices 14 = .ok (.getfield 98, 3) := by decide +kernel
theorem dX8_choices_17 : decode cX8_choices 17 = .ok (.ifCond .eq 11, 3) := by decide +kernel
theorem dX8_choices_20 : decode cX8_choices 20 = .ok (.aload_n 0, 1) := by decide +kernel
theorem dX8_choices_21 : decode cX8_choices 21 = .ok (.aload_n 1, 1) := by decide +kernel
theorem dX8_choices_22 : decode cX8_choices 22 = .ok (.invokevirtual 101, 3) := by decide +kernel
theorem dX8_choices_25 : decode cX8_choices 25 = .ok (.goto 14, 3) := by decide +kernel
theorem dX8_choices_28 : decode cX8_choices 28 = .ok (.aload_n 1, 1) := by decide +kernel
theorem dX8_choices_29 : decode cX8_choices 29 = .ok (.aload_n 0, 1) := by decide +kernel
theorem dX8_choices_30 : decode cX8_choices 30 = .ok (.getfield 21, 3) := by decide +kernel
theorem dX8_choices_33 : decode cX8_choices 33 = .ok (.getfield 34, 3) := by decide +kernel
theorem dX8_choices_36 : decode cX8_choices 36 = .ok (.invokevirtual 104, 3) := by decide +kernel
theorem dX8_choices_39 : decode cX8_choices 39 = .ok (.ireturn, 1) := by decide +kernel
theorem dX8_reason_0 : decode cX8_reason 0 = .ok (.aload_n 0, 1) := by decide +kernel
theorem dX8_reason_1 : decode cX8_reason 1 = .ok (.aload_n 1, 1) := by decide +kernel
theorem dX8_reason_2 : decode cX8_reason 2 = .ok (.invokevirtual 119, 3) := by decide +kernel
theorem dX8_reason_5 : decode cX8_reason 5 = .ok (.istore 4, 2) := by decide +kernel
theorem dX8_reason_7 : decode cX8_reason 7 = .ok (.iload 4, 2) := by decide +kernel
theorem dX8_reason_9 : decode cX8_reason 9 = .ok (.ifCond .ne 5, 3) := by decide +kernel
theorem dX8_reason_12 : decode cX8_reason 12 = .ok (.iconst 5, 1) := by decide +kernel
theorem dX8_reason_13 : decode cX8_reason 13 = .ok (.ireturn, 1) := by decide +kernel
theorem dX8_reason_14 : decode cX8_reason 14 = .ok (.aload_n 0, 1) := by decide +kernel
theorem dX8_reason_15 : decode cX8_reason 15 = .ok (.aload_n 1, 1) := by decide +kernel
theorem dX8_reason_16 : decode cX8_reason 16 = .ok (.lload_n 2, 1) := by decide +kernel
theorem dX8_reason_17 : decode cX8_reason 17 = .ok (.invokevirtual 68, 3) := by decide +kernel
theorem dX8_reason_20 : decode cX8_reason 20 = .ok (.ifCond .ne 5, 3) := by decide +kernel
theorem dX8_reason_23 : decode cX8_reason 23 = .ok (.iconst 1, 1) := by decide +kernel
theorem dX8_reason_24 : decode cX8_reason 24 = .ok (.ireturn, 1) := by decide +kernel
theorem dX8_reason_25 : decode cX8_reason 25 = .ok (.lload_n 2, 1) := by decide +kernel
theorem dX8_reason_26 : decode cX8_reason 26 = .ok (.l2i, 1) := by decide +kernel
theorem dX8_reason_27 : decode cX8_reason 27 = .ok (.istore 5, 2) := by decide +kernel
theorem dX8_reason_29 : decode cX8_reason 29 = .ok (.aload_n 1, 1) := by decide +kernel
theorem dX8_reason_30 : decode cX8_reason 30 = .ok (.getfield 43, 3) := by decide +kernel
theorem dX8_reason_33 : decode cX8_reason 33 = .ok (.iload 5, 2) := by decide +kernel
theorem dX8_reason_35 : decode cX8_reason 35 = .ok (.iaload, 1) := by decide +kernel
theorem dX8_reason_36 : decode cX8_reason 36 = .ok (.ifCond .ne 5, 3) := by decide +kernel
theorem dX8_reason_39 : decode cX8_reason 39 = .ok (.iconst 2, 1) := by decide +kernel
theorem dX8_reason_40 : decode cX8_reason 40 = .ok (.ireturn, 1) := by decide +kernel
theorem dX8_reason_41 : decode cX8_reason 41 = .ok (.iload 4, 2) := by decide +kernel
theorem dX8_reason_43 : decode cX8_reason 43 = .ok (.iload 5, 2) := by decide +kernel
theorem dX8_reason_45 : decode cX8_reason 45 = .ok (.invokestatic 122, 3) := by decide +kernel
theorem dX8_reason_48 : decode cX8_reason 48 = .ok (.ifCond .eq 5, 3) := by decide +kernel
theorem dX8_reason_51 : decode cX8_reason 51 = .ok (.iconst 0, 1) := by decide +kernel
theorem dX8_reason_52 : decode cX8_reason 52 = .ok (.ireturn, 1) := by decide +kernel
theorem dX8_reason_53 : decode cX8_reason 53 = .ok (.aload_n 0, 1) := by decide +kernel
theorem dX8_reason_54 : decode cX8_reason 54 = .ok (.aload_n 1, 1) := by decide +kernel
theorem dX8_reason_55 : decode cX8_reason 55 = .ok (.iload 5, 2) := by decide +kernel
theorem dX8_reason_57 : decode cX8_reason 57 = .ok (.aload_n 1, 1) := by decide +kernel
theorem dX8_reason_58 : decode cX8_reason 58 = .ok (.getfield 30, 3) := by decide +kernel
theorem dX8_reason_61 : decode cX8_reason 61 = .ok (.aload_n 0, 1) := by decide +kernel
theorem dX8_reason_62 : decode cX8_reason 62 = .ok (.getfield 21, 3) := by decide +kernel
theorem dX8_reason_65 : decode cX8_reason 65 = .ok (.getfield 34, 3) := by decide +kernel
theorem dX8_reason_68 : decode cX8_reason 68 = .ok (.imul, 1) := by decide +kernel
theorem dX8_reason_69 : decode cX8_reason 69 = .ok (.isub, 1) := by decide +kernel
theorem dX8_reason_70 : decode cX8_reason 70 = .ok (.invokevirtual 116, 3) := by decide +kernel
theorem dX8_reason_73 : decode cX8_reason 73 = .ok (.ifCond .eq 7, 3) := by decide +kernel
theorem dX8_reason_76 : decode cX8_reason 76 = .ok (.iconst 3, 1) := by decide +kernel
theorem dX8_reason_77 : decode cX8_reason 77 = .ok (.goto 4, 3) := by decide +kernel
theorem dX8_reason_80 : decode cX8_reason 80 = .ok (.iconst 4, 1) := by decide +kernel
theorem dX8_reason_81 : decode cX8_reason 81 = .ok (.ireturn, 1) := by decide +kernel
theorem dX10_goByBest_0 : decode cX10_goByBest 0 = .ok (.aload_n 0, 1) := by decide +kernel
theorem dX10_goByBest_1 : decode cX10_goByBest 1 = .ok (.aload_n 1, 1) := by decide +kernel
theorem dX10_goByBest_2 : decode cX10_goByBest 2 = .ok (.invokevirtual 51, 3) := by decide +kernel
theorem dX10_goByBest_5 : decode cX10_goByBest 5 = .ok (.aload_n 0, 1) := by decide +kernel
theorem dX10_goByBest_6 : decode cX10_goByBest 6 = .ok (.getfield 22, 3) := by decide +kernel
theorem dX10_goByBest_9 : decode cX10_goByBest 9 = .ok (.iconst 0, 1) := by decide +kernel
theorem dX10_goByBest_10 : decode cX10_goByBest 10 = .ok (.aload_n 0, 1) := by decide +kernel
theorem dX10_goByBest_11 : decode cX10_goByBest 11 = .ok (.getfield 29, 3) := by decide +kernel
theorem dX10_goByBest_14 : decode cX10_goByBest 14 = .ok (.aload_n 0, 1) := by decide +kernel
theorem dX10_goByBest_15 : decode cX10_goByBest 15 = .ok (.getfield 12, 3) := by decide +kernel
theorem dX10_goByBest_18 : decode cX10_goByBest 18 = .ok (.invokevirtual 54, 3) := by decide +kernel
theorem dX10_goByBest_21 : decode cX10_goByBest 21 = .ok (.iastore, 1) := by decide +kernel
theorem dX10_goByBest_22 : decode cX10_goByBest 22 = .ok (.iconst 0, 1) := by decide +kernel
theorem dX10_goByBest_23 : decode cX10_goByBest 23 = .ok (.istore_n 2, 1) := by decide +kernel
theorem dX10_goByBest_24 : decode cX10_goByBest 24 = .ok (.iload_n 2, 1) := by decide +kernel
theorem dX10_goByBest_25 : decode cX10_goByBest 25 = .ok (.bipush 60, 2) := by decide +kernel
theorem dX10_goByBest_27 : decode cX10_goByBest 27 = .ok (.if_icmp .ge 67, 3) := by decide +kernel
theorem dX10_goByBest_30 : decode cX10_goByBest 30 = .ok (.aload_n 0, 1) := by decide +kernel
theorem dX10_goByBest_31 : decode cX10_goByBest 31 = .ok (.getfield 41, 3) := by decide +kernel
theorem dX10_goByBest_34 : decode cX10_goByBest 34 = .ok (.ifCond .ne 60, 3) := by decide +kernel
theorem dX10_goByBest_37 : decode cX10_goByBest 37 = .ok (.aload_n 0, 1) := by decide +kernel
theorem dX10_goByBest_38 : decode cX10_goByBest 38 = .ok (.getfield 29, 3) := by decide +kernel
theorem dX10_goByBest_41 : decode cX10_goByBest 41 = .ok (.aload_n 0, 1) := by decide +kernel
theorem dX10_goByBest_42 : decode cX10_goByBest 42 = .ok (.getfield 12, 3) := by decide +kernel
theorem dX10_goByBest_45 : decode cX10_goByBest 45 = .ok (.invokevirtual 60, 3) := by decide +kernel
theorem dX10_goByBest_48 : decode cX10_goByBest 48 = .ok (.istore_n 3, 1) := by decide +kernel
theorem dX10_goByBest_49 : decode cX10_goByBest 49 = .ok (.iload_n 3, 1) := by decide +kernel
theorem dX10_goByBest_50 : decode cX10_goByBest 50 = .ok (.iconst (-1), 1) := by decide +kernel
theorem dX10_goByBest_51 : decode cX10_goByBest 51 = .ok (.if_icmp .ne 4, 3) := by decide +kernel
theorem dX10_goByBest_54 : decode cX10_goByBest 54 = .ok (.return_, 1) := by decide +kernel
theorem dX10_goByBest_55 : decode cX10_goByBest 55 = .ok (.aload_n 0, 1) := by decide +kernel
theorem dX10_goByBest_56 : decode cX10_goByBest 56 = .ok (.iload_n 3, 1) := by decide +kernel
theorem dX10_goByBest_57 : decode cX10_goByBest 57 = .ok (.invokevirtual 63, 3) := by decide +kernel
theorem dX10_goByBest_60 : decode cX10_goByBest 60 = .ok (.aload_n 0, 1) := by decide +kernel
theorem dX10_goByBest_61 : decode cX10_goByBest 61 = .ok (.getfield 22, 3) := by decide +kernel
theorem dX10_goByBest_64 : decode cX10_goByBest 64 = .ok (.aload_n 0, 1) := by decide +kernel
theorem dX10_goByBest_65 : decode cX10_goByBest 65 = .ok (.getfield 37, 3) := by decide +kernel
theorem dX10_goByBest_68 : decode cX10_goByBest 68 = .ok (.aload_n 0, 1) := by decide +kernel
theorem dX10_goByBest_69 : decode cX10_goByBest 69 = .ok (.getfield 29, 3) := by decide +kernel
theorem dX10_goByBest_72 : decode cX10_goByBest 72 = .ok (.aload_n 0, 1) := by decide +kernel
theorem dX10_goByBest_73 : decode cX10_goByBest 73 = .ok (.getfield 12, 3) := by decide +kernel
theorem dX10_goByBest_76 : decode cX10_goByBest 76 = .ok (.invokevirtual 54, 3) := by decide +kernel
theorem dX10_goByBest_79 : decode cX10_goByBest 79 = .ok (.iastore, 1) := by decide +kernel
theorem dX10_goByBest_80 : decode cX10_goByBest 80 = .ok (.aload_n 0, 1) := by decide +kernel
theorem dX10_goByBest_81 : decode cX10_goByBest 81 = .ok (.aload_n 0, 1) := by decide +kernel
theorem dX10_goByBest_82 : decode cX10_goByBest 82 = .ok (.invokevirtual 67, 3) := by decide +kernel
theorem dX10_goByBest_85 : decode cX10_goByBest 85 = .ok (.putfield 41, 3) := by decide +kernel
theorem dX10_goByBest_88 : decode cX10_goByBest 88 = .ok (.iinc 2 1, 3) := by decide +kernel
theorem dX10_goByBest_91 : decode cX10_goByBest 91 = .ok (.goto (-67), 3) := by decide +kernel
theorem dX10_goByBest_94 : decode cX10_goByBest 94 = .ok (.return_, 1) := by decide +kernel
theorem dX10_goWhileForced_0 : decode cX10_goWhileForced 0 = .ok (.aload_n 0, 1) := by decide +kernel
theorem dX10_goWhileForced_1 : decode cX10_goWhileForced 1 = .ok (.aload_n 1, 1) := by decide +kernel
theorem dX10_goWhileForced_2 : decode cX10_goWhileForced 2 = .ok (.invokevirtual 51, 3) := by decide +kernel
theorem dX10_goWhileForced_5 : decode cX10_goWhileForced 5 = .ok (.iconst 0, 1) := by decide +kernel
theorem dX10_goWhileForced_6 : decode cX10_goWhileForced 6 = .ok (.istore_n 2, 1) := by decide +kernel
theorem dX10_goWhileForced_7 : decode cX10_goWhileForced 7 = .ok (.iload_n 2, 1) := by decide +kernel
theorem dX10_goWhileForced_8 : decode cX10_goWhileForced 8 = .ok (.bipush 60, 2) := by decide +kernel
theorem dX10_goWhileForced_10 : decode cX10_goWhileForced 10 = .ok (.if_icmp .ge 39, 3) := by decide +kernel
theorem dX10_goWhileForced_13 : decode cX10_goWhileForced 13 = .ok (.aload_n 0, 1) := by decide +kernel
theorem dX10_goWhileForced_14 : decode cX10_goWhileForced 14 = .ok (.getfield 25, 3) := by decide +kernel
theorem dX10_goWhileForced_17 : decode cX10_goWhileForced 17 = .ok (.aload_n 0, 1) := by decide +kernel
theorem dX10_goWhileForced_18 : decode cX10_goWhileForced 18 = .ok (.getfield 12, 3) := by decide +kernel
theorem dX10_goWhileForced_21 : decode cX10_goWhileForced 21 = .ok (.invokevirtual 71, 3) := by decide +kernel
theorem dX10_goWhileForced_24 : decode cX10_goWhileForced 24 = .ok (.istore_n 3, 1) := by decide +kernel
theorem dX10_goWhileForced_25 : decode cX10_goWhileForced 25 = .ok (.iload_n 3, 1) := by decide +kernel
theorem dX10_goWhileForced_26 : decode cX10_goWhileForced 26 = .ok (.invokestatic 74, 3) := by decide +kernel
theorem dX10_goWhileForced_29 : decode cX10_goWhileForced 29 = .ok (.iconst 1, 1) := by decide +kernel
theorem dX10_goWhileForced_30 : decode cX10_goWhileForced 30 = .ok (.if_icmp .eq 4, 3) := by decide +kernel
theorem dX10_goWhileForced_33 : decode cX10_goWhileForced 33 = .ok (.return_, 1) := by decide +kernel
theorem dX10_goWhileForced_34 : decode cX10_goWhileForced 34 = .ok (.aload_n 0, 1) := by decide +kernel
theorem dX10_goWhileForced_35 : decode cX10_goWhileForced 35 = .ok (.iload_n 3, 1) := by decide +kernel
theorem dX10_goWhileForced_36 : decode cX10_goWhileForced 36 = .ok (.iconst 0, 1) := by decide +kernel
theorem dX10_goWhileForced_37 : decode cX10_goWhileForced 37 = .ok (.invokestatic 80, 3) := by decide +kernel
theorem dX10_goWhileForced_40 : decode cX10_goWhileForced 40 = .ok (.invokevirtual 63, 3) := by decide +kernel
theorem dX10_goWhileForced_43 : decode cX10_goWhileForced 43 = .ok (.iinc 2 1, 3) := by decide +kernel
theorem dX10_goWhileForced_46 : decode cX10_goWhileForced 46 = .ok (.goto (-39), 3) := by decide +kernel
theorem dX10_goWhileForced_49 : decode cX10_goWhileForced 49 = .ok (.return_, 1) := by decide +kernel
theorem dX10_goByDraws_0 : decode cX10_goByDraws 0 = .ok (.aload_n 0, 1) := by decide +kernel
theorem dX10_goByDraws_1 : decode cX10_goByDraws 1 = .ok (.aload_n 1, 1) := by decide +kernel
theorem dX10_goByDraws_2 : decode cX10_goByDraws 2 = .ok (.invokevirtual 51, 3) := by decide +kernel
theorem dX10_goByDraws_5 : decode cX10_goByDraws 5 = .ok (.iload_n 2, 1) := by decide +kernel
theorem dX10_goByDraws_6 : decode cX10_goByDraws 6 = .ok (.istore 4, 2) := by decide +kernel
theorem dX10_goByDraws_8 : decode cX10_goByDraws 8 = .ok (.iconst 0, 1) := by decide +kernel
theorem dX10_goByDraws_9 : decode cX10_goByDraws 9 = .ok (.istore 5, 2) := by decide +kernel
theorem dX10_goByDraws_11 : decode cX10_goByDraws 11 = .ok (.iload 5, 2) := by decide +kernel
theorem dX10_goByDraws_13 : decode cX10_goByDraws 13 = .ok (.bipush 100, 2) := by decide +kernel
theorem dX10_goByDraws_15 : decode cX10_goByDraws 15 = .ok (.if_icmp .ge 85, 3) := by decide +kernel
theorem dX10_goByDraws_18 : decode cX10_goByDraws 18 = .ok (.iload_n 3, 1) := by decide +kernel
theorem dX10_goByDraws_19 : decode cX10_goByDraws 19 = .ok (.ifCond .eq 30, 3) := by decide +kernel
theorem dX10_goByDraws_22 : decode cX10_goByDraws 22 = .ok (.aload_n 0, 1) := by decide +kernel
theorem dX10_goByDraws_23 : decode cX10_goByDraws 23 = .ok (.getfield 12, 3) := by decide +kernel
theorem dX10_goByDraws_26 : decode cX10_goByDraws 26 = .ok (.getfield 84, 3) := by decide +kernel
theorem dX10_goByDraws_29 : decode cX10_goByDraws 29 = .ok (.iconst 1, 1) := by decide +kernel
theorem dX10_goByDraws_30 : decode cX10_goByDraws 30 = .ok (.if_icmp .ne 19, 3) := by decide +kernel
theorem dX10_goByDraws_33 : decode cX10_goByDraws 33 = .ok (.aload_n 0, 1) := by decide +kernel
theorem dX10_goByDraws_34 : decode cX10_goByDraws 34 = .ok (.getfield 29, 3) := by decide +kernel
theorem dX10_goByDraws_37 : decode cX10_goByDraws 37 = .ok (.aload_n 0, 1) := by decide +kernel
theorem dX10_goByDraws_38 : decode cX10_goByDraws 38 = .ok (.getfield 12, 3) := by decide +kernel
theorem dX10_goByDraws_41 : decode cX10_goByDraws 41 = .ok (.invokevirtual 60, 3) := by decide +kernel
theorem dX10_goByDraws_44 : decode cX10_goByDraws 44 = .ok (.istore 6, 2) := by decide +kernel
theorem dX10_goByDraws_46 : decode cX10_goByDraws 46 = .ok (.goto 35, 3) := by decide +kernel
theorem dX10_goByDraws_49 : decode cX10_goByDraws 49 = .ok (.ldc 87, 2) := by decide +kernel
theorem dX10_goByDraws_51 : decode cX10_goByDraws 51 = .ok (.iload 4, 2) := by decide +kernel
theorem dX10_goByDraws_53 : decode cX10_goByDraws 53 = .ok (.imul, 1) := by decide +kernel
theorem dX10_goByDraws_54 : decode cX10_goByDraws 54 = .ok (.sipush 12345, 3) := by decide +kernel
theorem dX10_goByDraws_57 : decode cX10_goByDraws 57 = .ok (.iadd, 1) := by decide +kernel
theorem dX10_goByDraws_58 : decode cX10_goByDraws 58 = .ok (.istore 4, 2) := by decide +kernel
theorem dX10_goByDraws_60 : decode cX10_goByDraws 60 = .ok (.aload_n 0, 1) := by decide +kernel
theorem dX10_goByDraws_61 : decode cX10_goByDraws 61 = .ok (.getfield 25, 3) := by decide +kernel
theorem dX10_goByDraws_64 : decode cX10_goByDraws 64 = .ok (.aload_n 0, 1) := by decide +kernel
theorem dX10_goByDraws_65 : decode cX10_goByDraws 65 = .ok (.getfield 12, 3) := by decide +kernel
theorem dX10_goByDraws_68 : decode cX10_goByDraws 68 = .ok (.invokevirtual 71, 3) := by decide +kernel
theorem dX10_goByDraws_71 : decode cX10_goByDraws 71 = .ok (.iload 4, 2) := by decide +kernel
theorem dX10_goByDraws_73 : decode cX10_goByDraws 73 = .ok (.bipush 16, 2) := by decide +kernel
theorem dX10_goByDraws_75 : decode cX10_goByDraws 75 = .ok (.iushr, 1) := by decide +kernel
theorem dX10_goByDraws_76 : decode cX10_goByDraws 76 = .ok (.invokestatic 80, 3) := by decide +kernel
theorem dX10_goByDraws_79 : decode cX10_goByDraws 79 = .ok (.istore 6, 2) := by decide +kernel
theorem dX10_goByDraws_81 : decode cX10_goByDraws 81 = .ok (.iload 6, 2) := by decide +kernel
theorem dX10_goByDraws_83 : decode cX10_goByDraws 83 = .ok (.iconst (-1), 1) := by decide +kernel
theorem dX10_goByDraws_84 : decode cX10_goByDraws 84 = .ok (.if_icmp .ne 4, 3) := by decide +kernel
theorem dX10_goByDraws_87 : decode cX10_goByDraws 87 = .ok (.return_, 1) := by decide +kernel
theorem dX10_goByDraws_88 : decode cX10_goByDraws 88 = .ok (.aload_n 0, 1) := by decide +kernel
theorem dX10_goByDraws_89 : decode cX10_goByDraws 89 = .ok (.iload 6, 2) := by decide +kernel
theorem dX10_goByDraws_91 : decode cX10_goByDraws 91 = .ok (.invokevirtual 63, 3) := by decide +kernel
theorem dX10_goByDraws_94 : decode cX10_goByDraws 94 = .ok (.iinc 5 1, 3) := by decide +kernel
theorem dX10_goByDraws_97 : decode cX10_goByDraws 97 = .ok (.goto (-86), 3) := by decide +kernel
theorem dX10_goByDraws_100 : decode cX10_goByDraws 100 = .ok (.return_, 1) := by decide +kernel
theorem dX11_may_0 : decode cX11_may 0 = .ok (.aload_n 0, 1) := by decide +kernel
theorem dX11_may_1 : decode cX11_may 1 = .ok (.getfield 30, 3) := by decide +kernel
theorem dX11_may_4 : decode cX11_may 4 = .ok (.aload_n 0, 1) := by decide +kernel
theorem dX11_may_5 : decode cX11_may 5 = .ok (.getfield 37, 3) := by decide +kernel
theorem dX11_may_8 : decode cX11_may 8 = .ok (.iload_n 1, 1) := by decide +kernel
theorem dX11_may_9 : decode cX11_may 9 = .ok (.i2l, 1) := by decide +kernel
theorem dX11_may_10 : decode cX11_may 10 = .ok (.invokevirtual 156, 3) := by decide +kernel
theorem dX11_may_13 : decode cX11_may 13 = .ok (.ireturn, 1) := by decide +kernel
theorem dX11_move_0 : decode cX11_move 0 = .ok (.aload_n 0, 1) := by decide +kernel
theorem dX11_move_1 : decode cX11_move 1 = .ok (.getfield 30, 3) := by decide +kernel
theorem dX11_move_4 : decode cX11_move 4 = .ok (.aload_n 0, 1) := by decide +kernel
theorem dX11_move_5 : decode cX11_move 5 = .ok (.getfield 37, 3) := by decide +kernel
theorem dX11_move_8 : decode cX11_move 8 = .ok (.iload_n 1, 1) := by decide +kernel
theorem dX11_move_9 : decode cX11_move 9 = .ok (.i2l, 1) := by decide +kernel
theorem dX11_move_10 : decode cX11_move 10 = .ok (.invokevirtual 156, 3) := by decide +kernel
theorem dX11_move_13 : decode cX11_move 13 = .ok (.istore_n 2, 1) := by decide +kernel
theorem dX11_move_14 : decode cX11_move 14 = .ok (.iload_n 2, 1) := by decide +kernel
theorem dX11_move_15 : decode cX11_move 15 = .ok (.ifCond .eq 6, 3) := by decide +kernel
theorem dX11_move_18 : decode cX11_move 18 = .ok (.iload_n 2, 1) := by decide +kernel
theorem dX11_move_19 : decode cX11_move 19 = .ok (.ineg, 1) := by decide +kernel
theorem dX11_move_20 : decode cX11_move 20 = .ok (.ireturn, 1) := by decide +kernel
theorem dX11_move_21 : decode cX11_move 21 = .ok (.aload_n 0, 1) := by decide +kernel
theorem dX11_move_22 : decode cX11_move 22 = .ok (.getfield 47, 3) := by decide +kernel
theorem dX11_move_25 : decode cX11_move 25 = .ok (.aload_n 0, 1) := by decide +kernel
theorem dX11_move_26 : decode cX11_move 26 = .ok (.getfield 37, 3) := by decide +kernel
theorem dX11_move_29 : decode cX11_move 29 = .ok (.iload_n 1, 1) := by decide +kernel
theorem dX11_move_30 : decode cX11_move 30 = .ok (.invokevirtual 160, 3) := by decide +kernel
theorem dX11_move_33 : decode cX11_move 33 = .ok (.aload_n 0, 1) := by decide +kernel
theorem dX11_move_34 : decode cX11_move 34 = .ok (.getfield 30, 3) := by decide +kernel
theorem dX11_move_37 : decode cX11_move 37 = .ok (.aload_n 0, 1) := by decide +kernel
theorem dX11_move_38 : decode cX11_move 38 = .ok (.getfield 37, 3) := by decide +kernel
theorem dX11_move_41 : decode cX11_move 41 = .ok (.iload_n 1, 1) := by decide +kernel
theorem dX11_move_42 : decode cX11_move 42 = .ok (.invokevirtual 164, 3) := by decide +kernel
theorem dX11_move_45 : decode cX11_move 45 = .ok (.pop, 1) := by decide +kernel
theorem dX11_move_46 : decode cX11_move 46 = .ok (.aload_n 0, 1) := by decide +kernel
theorem dX11_move_47 : decode cX11_move 47 = .ok (.getfield 30, 3) := by decide +kernel
theorem dX11_move_50 : decode cX11_move 50 = .ok (.getfield 168, 3) := by decide +kernel
theorem dX11_move_53 : decode cX11_move 53 = .ok (.ireturn, 1) := by decide +kernel
theorem dX11_forced_0 : decode cX11_forced 0 = .ok (.aload_n 0, 1) := by decide +kernel
theorem dX11_forced_1 : decode cX11_forced 1 = .ok (.getfield 72, 3) := by decide +kernel
theorem dX11_forced_4 : decode cX11_forced 4 = .ok (.aload_n 0, 1) := by decide +kernel
theorem dX11_forced_5 : decode cX11_forced 5 = .ok (.getfield 37, 3) := by decide +kernel
theorem dX11_forced_8 : decode cX11_forced 8 = .ok (.invokevirtual 343, 3) := by decide +kernel
theorem dX11_forced_11 : decode cX11_forced 11 = .ok (.aload_n 0, 1) := by decide +kernel
theorem dX11_forced_12 : decode cX11_forced 12 = .ok (.getfield 72, 3) := by decide +kernel
theorem dX11_forced_15 : decode cX11_forced 15 = .ok (.getfield 319, 3) := by decide +kernel
theorem dX11_forced_18 : decode cX11_forced 18 = .ok (.ireturn, 1) := by decide +kernel
theorem dX12_sows_0 : decode cX12_sows 0 = .ok (.aload_n 0, 1) := by decide +kernel
theorem dX12_sows_1 : decode cX12_sows 1 = .ok (.iconst 0, 1) := by decide +kernel
theorem dX12_sows_2 : decode cX12_sows 2 = .ok (.putfield 260, 3) := by decide +kernel
theorem dX12_sows_5 : decode cX12_sows 5 = .ok (.aload_n 0, 1) := by decide +kernel
theorem dX12_sows_6 : decode cX12_sows 6 = .ok (.iconst 0, 1) := by decide +kernel
theorem dX12_sows_7 : decode cX12_sows 7 = .ok (.putfield 263, 3) := by decide +kernel
theorem dX12_sows_10 : decode cX12_sows 10 = .ok (.aload_n 0, 1) := by decide +kernel
theorem dX12_sows_11 : decode cX12_sows 11 = .ok (.iconst 0, 1) := by decide +kernel
theorem dX12_sows_12 : decode cX12_sows 12 = .ok (.putfield 266, 3) := by decide +kernel
theorem dX12_sows_15 : decode cX12_sows 15 = .ok (.aload_n 0, 1) := by decide +kernel
theorem dX12_sows_16 : decode cX12_sows 16 = .ok (.iconst 0, 1) := by decide +kernel
theorem dX12_sows_17 : decode cX12_sows 17 = .ok (.putfield 269, 3) := by decide +kernel
theorem dX12_sows_20 : decode cX12_sows 20 = .ok (.iload_n 2, 1) := by decide +kernel
theorem dX12_sows_21 : decode cX12_sows 21 = .ok (.istore_n 3, 1) := by decide +kernel
theorem dX12_sows_22 : decode cX12_sows 22 = .ok (.iconst 1, 1) := by decide +kernel
theorem dX12_sows_23 : decode cX12_sows 23 = .ok (.istore 4, 2) := by decide +kernel
theorem dX12_sows_25 : decode cX12_sows 25 = .ok (.iload 4, 2) := by decide +kernel
theorem dX12_sows_27 : decode cX12_sows 27 = .ok (.ifCond .eq 209, 3) := by decide +kernel
theorem dX12_sows_30 : decode cX12_sows 30 = .ok (.aload_n 0, 1) := by decide +kernel
theorem dX12_sows_31 : decode cX12_sows 31 = .ok (.getfield 33, 3) := by decide +kernel
theorem dX12_sows_34 : decode cX12_sows 34 = .ok (.iload_n 3, 1) := by decide +kernel
theorem dX12_sows_35 : decode cX12_sows 35 = .ok (.iaload, 1) := by decide +kernel
theorem dX12_sows_36 : decode cX12_sows 36 = .ok (.istore 5, 2) := by decide +kernel
theorem dX12_sows_38 : decode cX12_sows 38 = .ok (.aload_n 0, 1) := by decide +kernel
theorem dX12_sows_39 : decode cX12_sows 39 = .ok (.getfield 33, 3) := by decide +kernel
theorem dX12_sows_42 : decode cX12_sows 42 = .ok (.iload_n 3, 1) := by decide +kernel
theorem dX12_sows_43 : decode cX12_sows 43 = .ok (.iconst 0, 1) := by decide +kernel
theorem dX12_sows_44 : decode cX12_sows 44 = .ok (.iastore, 1) := by decide +kernel
theorem dX12_sows_45 : decode cX12_sows 45 = .ok (.iload_n 3, 1) := by decide +kernel
theorem dX12_sows_46 : decode cX12_sows 46 = .ok (.istore 6, 2) := by decide +kernel
theorem dX12_sows_48 : decode cX12_sows 48 = .ok (.iconst 0, 1) := by decide +kernel
theorem dX12_sows_49 : decode cX12_sows 49 = .ok (.istore 7, 2) := by decide +kernel
theorem dX12_sows_51 : decode cX12_sows 51 = .ok (.iload 5, 2) := by decide +kernel
theorem dX12_sows_53 : decode cX12_sows 53 = .ok (.ifCond .le 85, 3) := by decide +kernel
theorem dX12_sows_56 : decode cX12_sows 56 = .ok (.aload_n 0, 1) := by decide +kernel
theorem dX12_sows_57 : decode cX12_sows 57 = .ok (.iload_n 1, 1) := by decide +kernel
theorem dX12_sows_58 : decode cX12_sows 58 = .ok (.iload 6, 2) := by decide +kernel
theorem dX12_sows_60 : decode cX12_sows 60 = .ok (.aload_n 0, 1) := by decide +kernel
theorem dX12_sows_61 : decode cX12_sows 61 = .ok (.getfield 9, 3) := by decide +kernel
theorem dX12_sows_64 : decode cX12_sows 64 = .ok (.iconst 5, 1) := by decide +kernel
theorem dX12_sows_65 : decode cX12_sows 65 = .ok (.iaload, 1) := by decide +kernel
theorem dX12_sows_66 : decode cX12_sows 66 = .ok (.iconst 1, 1) := by decide +kernel
theorem dX12_sows_67 : decode cX12_sows 67 = .ok (.if_icmp .ne 7, 3) := by decide +kernel
theorem dX12_sows_70 : decode cX12_sows 70 = .ok (.iload_n 3, 1) := by decide +kernel
theorem dX12_sows_71 : decode cX12_sows 71 = .ok (.goto 4, 3) := by decide +kernel
theorem dX12_sows_74 : decode cX12_sows 74 = .ok (.iconst (-1), 1) := by decide +kernel
theorem dX12_sows_75 : decode cX12_sows 75 = .ok (.invokevirtual 273, 3) := by decide +kernel
theorem dX12_sows_78 : decode cX12_sows 78 = .ok (.istore 6, 2) := by decide +kernel
theorem dX12_sows_80 : decode cX12_sows 80 = .ok (.iload 6, 2) := by decide +kernel
theorem dX12_sows_82 : decode cX12_sows 82 = .ok (.iconst (-1), 1) := by decide +kernel
theorem dX12_sows_83 : decode cX12_sows 83 = .ok (.if_icmp .ne 9, 3) := by decide +kernel
theorem dX12_sows_86 : decode cX12_sows 86 = .ok (.aload_n 0, 1) := by decide +kernel
theorem dX12_sows_87 : decode cX12_sows 87 = .ok (.iconst 1, 1) := by decide +kernel
theorem dX12_sows_88 : decode cX12_sows 88 = .ok (.putfield 269, 3) := by decide +kernel
theorem dX12_sows_91 : decode cX12_sows 91 = .ok (.return_, 1) := by decide +kernel
theorem dX12_sows_92 : decode cX12_sows 92 = .ok (.iload 6, 2) := by decide +kernel
theorem dX12_sows_94 : decode cX12_sows 94 = .ok (.bipush 100, 2) := by decide +kernel
theorem dX12_sows_96 : decode cX12_sows 96 = .ok (.if_icmp .ne 16, 3) := by decide +kernel
theorem dX12_sows_99 : decode cX12_sows 99 = .ok (.aload_n 0, 1) := by decide +kernel
theorem dX12_sows_100 : decode cX12_sows 100 = .ok (.dup, 1) := by decide +kernel
theorem dX12_sows_101 : decode cX12_sows 101 = .ok (.getfield 263, 3) := by decide +kernel
theorem dX12_sows_104 : decode cX12_sows 104 = .ok (.iconst 1, 1) := by decide +kernel
theorem dX12_sows_105 : decode cX12_sows 105 = .ok (.iadd, 1) := by decide +kernel
theorem dX12_sows_106 : decode cX12_sows 106 = .ok (.putfield 263, 3) := by decide +kernel
theorem dX12_sows_109 : decode cX12_sows 109 = .ok (.goto 23, 3) := by decide +kernel
theorem dX12_sows_112 : decode cX12_sows 112 = .ok (.aload_n 0, 1) := by decide +kernel
theorem dX12_sows_113 : decode cX12_sows 113 = .ok (.getfield 33, 3) := by decide +kernel
theorem dX12_sows_116 : decode cX12_sows 116 = .ok (.iload 6, 2) := by decide +kernel
theorem dX12_sows_118 : decode cX12_sows 118 = .ok (.iaload, 1) := by decide +kernel
theorem dX12_sows_119 : decode cX12_sows 119 = .ok (.istore 7, 2) := by decide +kernel
theorem dX12_sows_121 : decode cX12_sows 121 = .ok (.aload_n 0, 1) := by decide +kernel
theorem dX12_sows_122 : decode cX12_sows 122 = .ok (.getfield 33, 3) := by decide +kernel
theorem dX12_sows_125 : decode cX12_sows 125 = .ok (.iload 6, 2) := by decide +kernel
theorem dX12_sows_127 : decode cX12_sows 127 = .ok (.dup2, 1) := by decide +kernel
theorem dX12_sows_128 : decode cX12_sows 128 = .ok (.iaload, 1) := by decide +kernel
theorem dX12_sows_129 : decode cX12_sows 129 = .ok (.iconst 1, 1) := by decide +kernel
theorem dX12_sows_130 : decode cX12_sows 130 = .ok (.iadd, 1) := by decide +kernel
theorem dX12_sows_131 : decode cX12_sows 131 = .ok (.iastore, 1) := by decide +kernel
theorem dX12_sows_132 : decode cX12_sows 132 = .ok (.iinc 5 (-1), 3) := by decide +kernel
theorem dX12_sows_135 : decode cX12_sows 135 = .ok (.goto (-84), 3) := by decide +kernel
theorem dX12_sows_138 : decode cX12_sows 138 = .ok (.aload_n 0, 1) := by decide +kernel
theorem dX12_sows_139 : decode cX12_sows 139 = .ok (.iload 6, 2) := by decide +kernel
theorem dX12_sows_141 : decode cX12_sows 141 = .ok (.putfield 277, 3) := by decide +kernel
theorem dX12_sows_144 : decode cX12_sows 144 = .ok (.aload_n 0, 1) := by decide +kernel
theorem dX12_sows_145 : decode cX12_sows 145 = .ok (.getfield 9, 3) := by decide +kernel
theorem dX12_sows_148 : decode cX12_sows 148 = .ok (.bipush 6, 2) := by decide +kernel
theorem dX12_sows_150 : decode cX12_sows 150 = .ok (.iaload, 1) := by decide +kernel
theorem dX12_sows_151 : decode cX12_sows 151 = .ok (.ifCond .le 19, 3) := by decide +kernel
theorem dX12_sows_154 : decode cX12_sows 154 = .ok (.iload 6, 2) := by decide +kernel
theorem dX12_sows_156 : decode cX12_sows 156 = .ok (.bipush 100, 2) := by decide +kernel
theorem dX12_sows_158 : decode cX12_sows 158 = .ok (.if_icmp .eq 12, 3) := by decide +kernel
theorem dX12_sows_161 : decode cX12_sows 161 = .ok (.iload 7, 2) := by decide +kernel
theorem dX12_sows_163 : decode cX12_sows 163 = .ok (.ifCond .le 7, 3) := by decide +kernel
theorem dX12_sows_166 : decode cX12_sows 166 = .ok (.iconst 1, 1) := by decide +kernel
theorem dX12_sows_167 : decode cX12_sows 167 = .ok (.goto 4, 3) := by decide +kernel
theorem dX12_sows_170 : decode cX12_sows 170 = .ok (.iconst 0, 1) := by decide +kernel
theorem dX12_sows_171 : decode cX12_sows 171 = .ok (.istore 4, 2) := by decide +kernel
theorem dX12_sows_173 : decode cX12_sows 173 = .ok (.iload 4, 2) := by decide +kernel
theorem dX12_sows_175 : decode cX12_sows 175 = .ok (.ifCond .eq 23, 3) := by decide +kernel
theorem dX12_sows_178 : decode cX12_sows 178 = .ok (.aload_n 0, 1) := by decide +kernel
theorem dX12_sows_179 : decode cX12_sows 179 = .ok (.getfield 260, 3) := by decide +kernel
theorem dX12_sows_182 : decode cX12_sows 182 = .ok (.aload_n 0, 1) := by decide +kernel
theorem dX12_sows_183 : decode cX12_sows 183 = .ok (.getfield 9, 3) := by decide +kernel
theorem dX12_sows_186 : decode cX12_sows 186 = .ok (.bipush 6, 2) := by decide +kernel
theorem dX12_sows_188 : decode cX12_sows 188 = .ok (.iaload, 1) := by decide +kernel
theorem dX12_sows_189 : decode cX12_sows 189 = .ok (.if_icmp .ne 9, 3) := by decide +kernel
theorem dX12_sows_192 : decode cX12_sows 192 = .ok (.aload_n 0, 1) := by decide +kernel
theorem dX12_sows_193 : decode cX12_sows 193 = .ok (.iconst 1, 1) := by decide +kernel
theorem dX12_sows_194 : decode cX12_sows 194 = .ok (.putfield 269, 3) := by decide +kernel
theorem dX12_sows_197 : decode cX12_sows 197 = .ok (.return_, 1) := by decide +kernel
theorem dX12_sows_198 : decode cX12_sows 198 = .ok (.iload 4, 2) := by decide +kernel
theorem dX12_sows_200 : decode cX12_sows 200 = .ok (.ifCond .eq 19, 3) := by decide +kernel
theorem dX12_sows_203 : decode cX12_sows 203 = .ok (.aload_n 0, 1) := by decide +kernel
theorem dX12_sows_204 : decode cX12_sows 204 = .ok (.dup, 1) := by decide +kernel
theorem dX12_sows_205 : decode cX12_sows 205 = .ok (.getfield 260, 3) := by decide +kernel
theorem dX12_sows_208 : decode cX12_sows 208 = .ok (.iconst 1, 1) := by decide +kernel
theorem dX12_sows_209 : decode cX12_sows 209 = .ok (.iadd, 1) := by decide +kernel
theorem dX12_sows_210 : decode cX12_sows 210 = .ok (.putfield 260, 3) := by decide +kernel
theorem dX12_sows_213 : decode cX12_sows 213 = .ok (.iload 6, 2) := by decide +kernel
theorem dX12_sows_215 : decode cX12_sows 215 = .ok (.istore_n 3, 1) := by decide +kernel
theorem dX12_sows_216 : decode cX12_sows 216 = .ok (.goto 17, 3) := by decide +kernel
theorem dX12_sows_219 : decode cX12_sows 219 = .ok (.iload 6, 2) := by decide +kernel
theorem dX12_sows_221 : decode cX12_sows 221 = .ok (.bipush 100, 2) := by decide +kernel
theorem dX12_sows_223 : decode cX12_sows 223 = .ok (.if_icmp .eq 10, 3) := by decide +kernel
theorem dX12_sows_226 : decode cX12_sows 226 = .ok (.aload_n 0, 1) := by decide +kernel
theorem dX12_sows_227 : decode cX12_sows 227 = .ok (.iload_n 1, 1) := by decide +kernel
theorem dX12_sows_228 : decode cX12_sows 228 = .ok (.iload 7, 2) := by decide +kernel
theorem dX12_sows_230 : decode cX12_sows 230 = .ok (.invokevirtual 280, 3) := by decide +kernel
theorem dX12_sows_233 : decode cX12_sows 233 = .ok (.goto (-208), 3) := by decide +kernel
theorem dX12_sows_236 : decode cX12_sows 236 = .ok (.aload_n 0, 1) := by decide +kernel
theorem dX12_sows_237 : decode cX12_sows 237 = .ok (.dup, 1) := by decide +kernel
theorem dX12_sows_238 : decode cX12_sows 238 = .ok (.getfield 263, 3) := by decide +kernel
theorem dX12_sows_241 : decode cX12_sows 241 = .ok (.aload_n 0, 1) := by decide +kernel
theorem dX12_sows_242 : decode cX12_sows 242 = .ok (.getfield 266, 3) := by decide +kernel
theorem dX12_sows_245 : decode cX12_sows 245 = .ok (.iadd, 1) := by decide +kernel
theorem dX12_sows_246 : decode cX12_sows 246 = .ok (.putfield 263, 3) := by decide +kernel
theorem dX12_sows_249 : decode cX12_sows 249 = .ok (.aload_n 0, 1) := by decide +kernel
theorem dX12_sows_250 : decode cX12_sows 250 = .ok (.aload_n 0, 1) := by decide +kernel
theorem dX12_sows_251 : decode cX12_sows 251 = .ok (.getfield 9, 3) := by decide +kernel
theorem dX12_sows_254 : decode cX12_sows 254 = .ok (.bipush 9, 2) := by decide +kernel
theorem dX12_sows_256 : decode cX12_sows 256 = .ok (.iaload, 1) := by decide +kernel
theorem dX12_sows_257 : decode cX12_sows 257 = .ok (.iconst 1, 1) := by decide +kernel
theorem dX12_sows_258 : decode cX12_sows 258 = .ok (.if_icmp .ne 16, 3) := by decide +kernel
theorem dX12_sows_261 : decode cX12_sows 261 = .ok (.aload_n 0, 1) := by decide +kernel
theorem dX12_sows_262 : decode cX12_sows 262 = .ok (.getfield 277, 3) := by decide +kernel
theorem dX12_sows_265 : decode cX12_sows 265 = .ok (.bipush 100, 2) := by decide +kernel
theorem dX12_sows_267 : decode cX12_sows 267 = .ok (.if_icmp .ne 7, 3) := by decide +kernel
theorem dX12_sows_270 : decode cX12_sows 270 = .ok (.iload_n 1, 1) := by decide +kernel
theorem dX12_sows_271 : decode cX12_sows 271 = .ok (.goto 6, 3) := by decide +kernel
theorem dX12_sows_274 : decode cX12_sows 274 = .ok (.iconst 1, 1) := by decide +kernel
theorem dX12_sows_275 : decode cX12_sows 275 = .ok (.iload_n 1, 1) := by decide +kernel
theorem dX12_sows_276 : decode cX12_sows 276 = .ok (.isub, 1) := by decide +kernel
theorem dX12_sows_277 : decode cX12_sows 277 = .ok (.putfield 284, 3) := by decide +kernel
theorem dX12_sows_280 : decode cX12_sows 280 = .ok (.return_, 1) := by decide +kernel
theorem dX12_triesFrom_0 : decode cX12_triesFrom 0 = .ok (.aload_n 0, 1) := by decide +kernel
theorem dX12_triesFrom_1 : decode cX12_triesFrom 1 = .ok (.invokevirtual 293, 3) := by decide +kernel
theorem dX12_triesFrom_4 : decode cX12_triesFrom 4 = .ok (.aload_n 0, 1) := by decide +kernel
theorem dX12_triesFrom_5 : decode cX12_triesFrom 5 = .ok (.aload_n 0, 1) := by decide +kernel
theorem dX12_triesFrom_6 : decode cX12_triesFrom 6 = .ok (.getfield 9, 3) := by decide +kernel
theorem dX12_triesFrom_9 : decode cX12_triesFrom 9 = .ok (.iconst 2, 1) := by decide +kernel
theorem dX12_triesFrom_10 : decode cX12_triesFrom 10 = .ok (.iaload, 1) := by decide +kernel
theorem dX12_triesFrom_11 : decode cX12_triesFrom 11 = .ok (.iload_n 1, 1) := by decide +kernel
theorem dX12_triesFrom_12 : decode cX12_triesFrom 12 = .ok (.invokevirtual 296, 3) := by decide +kernel
theorem dX12_triesFrom_15 : decode cX12_triesFrom 15 = .ok (.return_, 1) := by decide +kernel
theorem dX12_isOver_0 : decode cX12_isOver 0 = .ok (.iconst 0, 1) := by decide +kernel
theorem dX12_isOver_1 : decode cX12_isOver 1 = .ok (.istore_n 1, 1) := by decide +kernel
theorem dX12_isOver_2 : decode cX12_isOver 2 = .ok (.iload_n 1, 1) := by decide +kernel
theorem dX12_isOver_3 : decode cX12_isOver 3 = .ok (.aload_n 0, 1) := by decide +kernel
theorem dX12_isOver_4 : decode cX12_isOver 4 = .ok (.invokevirtual 245, 3) := by decide +kernel
theorem dX12_isOver_7 : decode cX12_isOver 7 = .ok (.if_icmp .ge 34, 3) := by decide +kernel
theorem dX12_isOver_10 : decode cX12_isOver 10 = .ok (.aload_n 0, 1) := by decide +kernel
theorem dX12_isOver_11 : decode cX12_isOver 11 = .ok (.iload_n 1, 1) := by decide +kernel
theorem dX12_isOver_12 : decode cX12_isOver 12 = .ok (.invokevirtual 299, 3) := by decide +kernel
theorem dX12_isOver_15 : decode cX12_isOver 15 = .ok (.ifCond .ne 6, 3) := by decide +kernel
theorem dX12_isOver_18 : decode cX12_isOver 18 = .ok (.goto 17, 3) := by decide +kernel
theorem dX12_isOver_21 : decode cX12_isOver 21 = .ok (.aload_n 0, 1) := by decide +kernel
theorem dX12_isOver_22 : decode cX12_isOver 22 = .ok (.iload_n 1, 1) := by decide +kernel
theorem dX12_isOver_23 : decode cX12_isOver 23 = .ok (.invokevirtual 302, 3) := by decide +kernel
theorem dX12_isOver_26 : decode cX12_isOver 26 = .ok (.aload_n 0, 1) := by decide +kernel
theorem dX12_isOver_27 : decode cX12_isOver 27 = .ok (.getfield 269, 3) := by decide +kernel
theorem dX12_isOver_30 : decode cX12_isOver 30 = .ok (.ifCond .ne 5, 3) := by decide +kernel
theorem dX12_isOver_33 : decode cX12_isOver 33 = .ok (.iconst 0, 1) := by decide +kernel
theorem dX12_isOver_34 : decode cX12_isOver 34 = .ok (.ireturn, 1) := by decide +kernel
theorem dX12_isOver_35 : decode cX12_isOver 35 = .ok (.iinc 1 1, 3) := by decide +kernel
theorem dX12_isOver_38 : decode cX12_isOver 38 = .ok (.goto (-36), 3) := by decide +kernel
theorem dX12_isOver_41 : decode cX12_isOver 41 = .ok (.iconst 1, 1) := by decide +kernel
theorem dX12_isOver_42 : decode cX12_isOver 42 = .ok (.ireturn, 1) := by decide +kernel
theorem dX12_canFeed_0 : decode cX12_canFeed 0 = .ok (.iconst 0, 1) := by decide +kernel
theorem dX12_canFeed_1 : decode cX12_canFeed 1 = .ok (.istore_n 1, 1) := by decide +kernel
theorem dX12_canFeed_2 : decode cX12_canFeed 2 = .ok (.iload_n 1, 1) := by decide +kernel
theorem dX12_canFeed_3 : decode cX12_canFeed 3 = .ok (.aload_n 0, 1) := by decide +kernel
theorem dX12_canFeed_4 : decode cX12_canFeed 4 = .ok (.invokevirtual 245, 3) := by decide +kernel
theorem dX12_canFeed_7 : decode cX12_canFeed 7 = .ok (.if_icmp .ge 49, 3) := by decide +kernel
theorem dX12_canFeed_10 : decode cX12_canFeed 10 = .ok (.aload_n 0, 1) := by decide +kernel
theorem dX12_canFeed_11 : decode cX12_canFeed 11 = .ok (.iload_n 1, 1) := by decide +kernel
theorem dX12_canFeed_12 : decode cX12_canFeed 12 = .ok (.invokevirtual 299, 3) := by decide +kernel
theorem dX12_canFeed_15 : decode cX12_canFeed 15 = .ok (.ifCond .ne 6, 3) := by decide +kernel
theorem dX12_canFeed_18 : decode cX12_canFeed 18 = .ok (.goto 32, 3) := by decide +kernel
theorem dX12_canFeed_21 : decode cX12_canFeed 21 = .ok (.aload_n 0, 1) := by decide +kernel
theorem dX12_canFeed_22 : decode cX12_canFeed 22 = .ok (.iload_n 1, 1) := by decide +kernel
theorem dX12_canFeed_23 : decode cX12_canFeed 23 = .ok (.invokevirtual 302, 3) := by decide +kernel
theorem dX12_canFeed_26 : decode cX12_canFeed 26 = .ok (.aload_n 0, 1) := by decide +kernel
theorem dX12_canFeed_27 : decode cX12_canFeed 27 = .ok (.getfield 269, 3) := by decide +kernel
theorem dX12_canFeed_30 : decode cX12_canFeed 30 = .ok (.ifCond .ne 20, 3) := by decide +kernel
theorem dX12_canFeed_33 : decode cX12_canFeed 33 = .ok (.aload_n 0, 1) := by decide +kernel
theorem dX12_canFeed_34 : decode cX12_canFeed 34 = .ok (.iconst 1, 1) := by decide +kernel
theorem dX12_canFeed_35 : decode cX12_canFeed 35 = .ok (.aload_n 0, 1) := by decide +kernel
theorem dX12_canFeed_36 : decode cX12_canFeed 36 = .ok (.getfield 9, 3) := by decide +kernel
theorem dX12_canFeed_39 : decode cX12_canFeed 39 = .ok (.iconst 2, 1) := by decide +kernel
theorem dX12_canFeed_40 : decode cX12_canFeed 40 = .ok (.iaload, 1) := by decide +kernel
theorem dX12_canFeed_41 : decode cX12_canFeed 41 = .ok (.isub, 1) := by decide +kernel
theorem dX12_canFeed_42 : decode cX12_canFeed 42 = .ok (.invokevirtual 290, 3) := by decide +kernel
theorem dX12_canFeed_45 : decode cX12_canFeed 45 = .ok (.ifCond .le 5, 3) := by decide +kernel
theorem dX12_canFeed_48 : decode cX12_canFeed 48 = .ok (.iconst 1, 1) := by decide +kernel
theorem dX12_canFeed_49 : decode cX12_canFeed 49 = .ok (.ireturn, 1) := by decide +kernel
theorem dX12_canFeed_50 : decode cX12_canFeed 50 = .ok (.iinc 1 1, 3) := by decide +kernel
theorem dX12_canFeed_53 : decode cX12_canFeed 53 = .ok (.goto (-51), 3) := by decide +kernel
theorem dX12_canFeed_56 : decode cX12_canFeed 56 = .ok (.iconst 0, 1) := by decide +kernel
theorem dX12_canFeed_57 : decode cX12_canFeed 57 = .ok (.ireturn, 1) := by decide +kernel
theorem dX12_whyNot_0 : decode cX12_whyNot 0 = .ok (.aload_n 0, 1) := by decide +kernel
theorem dX12_whyNot_1 : decode cX12_whyNot 1 = .ok (.invokevirtual 305, 3) := by decide +kernel
theorem dX12_whyNot_4 : decode cX12_whyNot 4 = .ok (.ifCond .eq 5, 3) := by decide +kernel
theorem dX12_whyNot_7 : decode cX12_whyNot 7 = .ok (.iconst 5, 1) := by decide +kernel
theorem dX12_whyNot_8 : decode cX12_whyNot 8 = .ok (.ireturn, 1) := by decide +kernel
theorem dX12_whyNot_9 : decode cX12_whyNot 9 = .ok (.aload_n 0, 1) := by decide +kernel
theorem dX12_whyNot_10 : decode cX12_whyNot 10 = .ok (.iload_n 1, 1) := by decide +kernel
theorem dX12_whyNot_11 : decode cX12_whyNot 11 = .ok (.invokevirtual 248, 3) := by decide +kernel
theorem dX12_whyNot_14 : decode cX12_whyNot 14 = .ok (.ifCond .eq 25, 3) := by decide +kernel
theorem dX12_whyNot_17 : decode cX12_whyNot 17 = .ok (.aload_n 0, 1) := by decide +kernel
theorem dX12_whyNot_18 : decode cX12_whyNot 18 = .ok (.iload_n 1, 1) := by decide +kernel
theorem dX12_whyNot_19 : decode cX12_whyNot 19 = .ok (.invokevirtual 257, 3) := by decide +kernel
theorem dX12_whyNot_22 : decode cX12_whyNot 22 = .ok (.aload_n 0, 1) := by decide +kernel
theorem dX12_whyNot_23 : decode cX12_whyNot 23 = .ok (.getfield 9, 3) := by decide +kernel
theorem dX12_whyNot_26 : decode cX12_whyNot 26 = .ok (.iconst 2, 1) := by decide +kernel
theorem dX12_whyNot_27 : decode cX12_whyNot 27 = .ok (.iaload, 1) := by decide +kernel
theorem dX12_whyNot_28 : decode cX12_whyNot 28 = .ok (.if_icmp .ne 11, 3) := by decide +kernel
theorem dX12_whyNot_31 : decode cX12_whyNot 31 = .ok (.aload_n 0, 1) := by decide +kernel
theorem dX12_whyNot_32 : decode cX12_whyNot 32 = .ok (.iload_n 1, 1) := by decide +kernel
theorem dX12_whyNot_33 : decode cX12_whyNot 33 = .ok (.invokevirtual 251, 3) := by decide +kernel
theorem dX12_whyNot_36 : decode cX12_whyNot 36 = .ok (.ifCond .eq 5, 3) := by decide +kernel
theorem dX12_whyNot_39 : decode cX12_whyNot 39 = .ok (.iconst 1, 1) := by decide +kernel
theorem dX12_whyNot_40 : decode cX12_whyNot 40 = .ok (.ireturn, 1) := by decide +kernel
theorem dX12_whyNot_41 : decode cX12_whyNot 41 = .ok (.aload_n 0, 1) := by decide +kernel
theorem dX12_whyNot_42 : decode cX12_whyNot 42 = .ok (.getfield 9, 3) := by decide +kernel
theorem dX12_whyNot_45 : decode cX12_whyNot 45 = .ok (.bipush 13, 2) := by decide +kernel
theorem dX12_whyNot_47 : decode cX12_whyNot 47 = .ok (.iload_n 1, 1) := by decide +kernel
theorem dX12_whyNot_48 : decode cX12_whyNot 48 = .ok (.iadd, 1) := by decide +kernel
theorem dX12_whyNot_49 : decode cX12_whyNot 49 = .ok (.iaload, 1) := by decide +kernel
theorem dX12_whyNot_50 : decode cX12_whyNot 50 = .ok (.ifCond .ne 5, 3) := by decide +kernel
theorem dX12_whyNot_53 : decode cX12_whyNot 53 = .ok (.iconst 2, 1) := by decide +kernel
theorem dX12_whyNot_54 : decode cX12_whyNot 54 = .ok (.ireturn, 1) := by decide +kernel
theorem dX12_whyNot_55 : decode cX12_whyNot 55 = .ok (.aload_n 0, 1) := by decide +kernel
theorem dX12_whyNot_56 : decode cX12_whyNot 56 = .ok (.iload_n 1, 1) := by decide +kernel
theorem dX12_whyNot_57 : decode cX12_whyNot 57 = .ok (.invokevirtual 302, 3) := by decide +kernel
theorem dX12_whyNot_60 : decode cX12_whyNot 60 = .ok (.aload_n 0, 1) := by decide +kernel
theorem dX12_whyNot_61 : decode cX12_whyNot 61 = .ok (.getfield 269, 3) := by decide +kernel
theorem dX12_whyNot_64 : decode cX12_whyNot 64 = .ok (.ifCond .eq 5, 3) := by decide +kernel
theorem dX12_whyNot_67 : decode cX12_whyNot 67 = .ok (.iconst 3, 1) := by decide +kernel
theorem dX12_whyNot_68 : decode cX12_whyNot 68 = .ok (.ireturn, 1) := by decide +kernel
theorem dX12_whyNot_69 : decode cX12_whyNot 69 = .ok (.aload_n 0, 1) := by decide +kernel
theorem dX12_whyNot_70 : decode cX12_whyNot 70 = .ok (.getfield 9, 3) := by decide +kernel
theorem dX12_whyNot_73 : decode cX12_whyNot 73 = .ok (.bipush 10, 2) := by decide +kernel
theorem dX12_whyNot_75 : decode cX12_whyNot 75 = .ok (.iaload, 1) := by decide +kernel
theorem dX12_whyNot_76 : decode cX12_whyNot 76 = .ok (.iconst 1, 1) := by decide +kernel
theorem dX12_whyNot_77 : decode cX12_whyNot 77 = .ok (.if_icmp .ne 29, 3) := by decide +kernel
theorem dX12_whyNot_80 : decode cX12_whyNot 80 = .ok (.aload_n 0, 1) := by decide +kernel
theorem dX12_whyNot_81 : decode cX12_whyNot 81 = .ok (.iconst 1, 1) := by decide +kernel
theorem dX12_whyNot_82 : decode cX12_whyNot 82 = .ok (.aload_n 0, 1) := by decide +kernel
theorem dX12_whyNot_83 : decode cX12_whyNot 83 = .ok (.getfield 9, 3) := by decide +kernel
theorem dX12_whyNot_86 : decode cX12_whyNot 86 = .ok (.iconst 2, 1) := by decide +kernel
theorem dX12_whyNot_87 : decode cX12_whyNot 87 = .ok (.iaload, 1) := by decide +kernel
theorem dX12_whyNot_88 : decode cX12_whyNot 88 = .ok (.isub, 1) := by decide +kernel
theorem dX12_whyNot_89 : decode cX12_whyNot 89 = .ok (.invokevirtual 290, 3) := by decide +kernel
theorem dX12_whyNot_92 : decode cX12_whyNot 92 = .ok (.ifCond .ne 14, 3) := by decide +kernel
theorem dX12_whyNot_95 : decode cX12_whyNot 95 = .ok (.aload_n 0, 1) := by decide +kernel
theorem dX12_whyNot_96 : decode cX12_whyNot 96 = .ok (.invokevirtual 308, 3) := by decide +kernel
theorem dX12_whyNot_99 : decode cX12_whyNot 99 = .ok (.ifCond .eq 7, 3) := by decide +kernel
theorem dX12_whyNot_102 : decode cX12_whyNot 102 = .ok (.iconst 4, 1) := by decide +kernel
theorem dX12_whyNot_103 : decode cX12_whyNot 103 = .ok (.goto 4, 3) := by decide +kernel
theorem dX12_whyNot_106 : decode cX12_whyNot 106 = .ok (.iconst 0, 1) := by decide +kernel
theorem dX12_whyNot_107 : decode cX12_whyNot 107 = .ok (.ireturn, 1) := by decide +kernel
theorem dX12_moves_0 : decode cX12_moves 0 = .ok (.aload_n 0, 1) := by decide +kernel
theorem dX12_moves_1 : decode cX12_moves 1 = .ok (.iload_n 1, 1) := by decide +kernel
theorem dX12_moves_2 : decode cX12_moves 2 = .ok (.invokevirtual 302, 3) := by decide +kernel
theorem dX12_moves_5 : decode cX12_moves 5 = .ok (.iconst 0, 1) := by decide +kernel
theorem dX12_moves_6 : decode cX12_moves 6 = .ok (.istore_n 2, 1) := by decide +kernel
theorem dX12_moves_7 : decode cX12_moves 7 = .ok (.iload_n 2, 1) := by decide +kernel
theorem dX12_moves_8 : decode cX12_moves 8 = .ok (.aload_n 0, 1) := by decide +kernel
theorem dX12_moves_9 : decode cX12_moves 9 = .ok (.invokevirtual 245, 3) := by decide +kernel
theorem dX12_moves_12 : decode cX12_moves 12 = .ok (.if_icmp .ge 24, 3) := by decide +kernel
theorem dX12_moves_15 : decode cX12_moves 15 = .ok (.aload_n 0, 1) := by decide +kernel
theorem dX12_moves_16 : decode cX12_moves 16 = .ok (.getfield 9, 3) := by decide +kernel
theorem dX12_moves_19 : decode cX12_moves 19 = .ok (.bipush 13, 2) := by decide +kernel
theorem dX12_moves_21 : decode cX12_moves 21 = .ok (.iload_n 2, 1) := by decide +kernel
theorem dX12_moves_22 : decode cX12_moves 22 = .ok (.iadd, 1) := by decide +kernel
theorem dX12_moves_23 : decode cX12_moves 23 = .ok (.aload_n 0, 1) := by decide +kernel
theorem dX12_moves_24 : decode cX12_moves 24 = .ok (.getfield 33, 3) := by decide +kernel
theorem dX12_moves_27 : decode cX12_moves 27 = .ok (.iload_n 2, 1) := by decide +kernel
theorem dX12_moves_28 : decode cX12_moves 28 = .ok (.iaload, 1) := by decide +kernel
theorem dX12_moves_29 : decode cX12_moves 29 = .ok (.iastore, 1) := by decide +kernel
theorem dX12_moves_30 : decode cX12_moves 30 = .ok (.iinc 2 1, 3) := by decide +kernel
theorem dX12_moves_33 : decode cX12_moves 33 = .ok (.goto (-26), 3) := by decide +kernel
theorem dX12_moves_36 : decode cX12_moves 36 = .ok (.aload_n 0, 1) := by decide +kernel
theorem dX12_moves_37 : decode cX12_moves 37 = .ok (.getfield 9, 3) := by decide +kernel
theorem dX12_moves_40 : decode cX12_moves 40 = .ok (.bipush 11, 2) := by decide +kernel
theorem dX12_moves_42 : decode cX12_moves 42 = .ok (.aload_n 0, 1) := by decide +kernel
theorem dX12_moves_43 : decode cX12_moves 43 = .ok (.getfield 9, 3) := by decide +kernel
theorem dX12_moves_46 : decode cX12_moves 46 = .ok (.iconst 2, 1) := by decide +kernel
theorem dX12_moves_47 : decode cX12_moves 47 = .ok (.iaload, 1) := by decide +kernel
theorem dX12_moves_48 : decode cX12_moves 48 = .ok (.iadd, 1) := by decide +kernel
theorem dX12_moves_49 : decode cX12_moves 49 = .ok (.dup2, 1) := by decide +kernel
theorem dX12_moves_50 : decode cX12_moves 50 = .ok (.iaload, 1) := by decide +kernel
theorem dX12_moves_51 : decode cX12_moves 51 = .ok (.aload_n 0, 1) := by decide +kernel
theorem dX12_moves_52 : decode cX12_moves 52 = .ok (.getfield 263, 3) := by decide +kernel
theorem dX12_moves_55 : decode cX12_moves 55 = .ok (.iadd, 1) := by decide +kernel
theorem dX12_moves_56 : decode cX12_moves 56 = .ok (.iastore, 1) := by decide +kernel
theorem dX12_moves_57 : decode cX12_moves 57 = .ok (.aload_n 0, 1) := by decide +kernel
theorem dX12_moves_58 : decode cX12_moves 58 = .ok (.getfield 9, 3) := by decide +kernel
theorem dX12_moves_61 : decode cX12_moves 61 = .ok (.iconst 2, 1) := by decide +kernel
theorem dX12_moves_62 : decode cX12_moves 62 = .ok (.aload_n 0, 1) := by decide +kernel
theorem dX12_moves_63 : decode cX12_moves 63 = .ok (.getfield 284, 3) := by decide +kernel
theorem dX12_moves_66 : decode cX12_moves 66 = .ok (.iastore, 1) := by decide +kernel
theorem dX12_moves_67 : decode cX12_moves 67 = .ok (.aload_n 0, 1) := by decide +kernel
theorem dX12_moves_68 : decode cX12_moves 68 = .ok (.getfield 263, 3) := by decide +kernel
theorem dX12_moves_71 : decode cX12_moves 71 = .ok (.ireturn, 1) := by decide +kernel
theorem dX12_may_0 : decode cX12_may 0 = .ok (.aload_n 0, 1) := by decide +kernel
theorem dX12_may_1 : decode cX12_may 1 = .ok (.iconst 0, 1) := by decide +kernel
theorem dX12_may_2 : decode cX12_may 2 = .ok (.putfield 107, 3) := by decide +kernel
theorem dX12_may_5 : decode cX12_may 5 = .ok (.aload_n 0, 1) := by decide +kernel
theorem dX12_may_6 : decode cX12_may 6 = .ok (.iload_n 1, 1) := by decide +kernel
theorem dX12_may_7 : decode cX12_may 7 = .ok (.invokevirtual 311, 3) := by decide +kernel
theorem dX12_may_10 : decode cX12_may 10 = .ok (.ireturn, 1) := by decide +kernel
theorem dX12_sown_0 : decode cX12_sown 0 = .ok (.aload_n 0, 1) := by decide +kernel
theorem dX12_sown_1 : decode cX12_sown 1 = .ok (.iconst 0, 1) := by decide +kernel
theorem dX12_sown_2 : decode cX12_sown 2 = .ok (.putfield 107, 3) := by decide +kernel
theorem dX12_sown_5 : decode cX12_sown 5 = .ok (.aload_n 0, 1) := by decide +kernel
theorem dX12_sown_6 : decode cX12_sown 6 = .ok (.iload_n 1, 1) := by decide +kernel
theorem dX12_sown_7 : decode cX12_sown 7 = .ok (.invokevirtual 299, 3) := by decide +kernel
theorem dX12_sown_10 : decode cX12_sown 10 = .ok (.ifCond .ne 9, 3) := by decide +kernel
theorem dX12_sown_13 : decode cX12_sown 13 = .ok (.aload_n 0, 1) := by decide +kernel
theorem dX12_sown_14 : decode cX12_sown 14 = .ok (.iconst 1, 1) := by decide +kernel
theorem dX12_sown_15 : decode cX12_sown 15 = .ok (.invokevirtual 221, 3) := by decide +kernel
theorem dX12_sown_18 : decode cX12_sown 18 = .ok (.ireturn, 1) := by decide +kernel
theorem dX12_sown_19 : decode cX12_sown 19 = .ok (.aload_n 0, 1) := by decide +kernel
theorem dX12_sown_20 : decode cX12_sown 20 = .ok (.iload_n 1, 1) := by decide +kernel
theorem dX12_sown_21 : decode cX12_sown 21 = .ok (.invokevirtual 302, 3) := by decide +kernel
theorem dX12_sown_24 : decode cX12_sown 24 = .ok (.aload_n 0, 1) := by decide +kernel
theorem dX12_sown_25 : decode cX12_sown 25 = .ok (.getfield 269, 3) := by decide +kernel
theorem dX12_sown_28 : decode cX12_sown 28 = .ok (.ifCond .eq 9, 3) := by decide +kernel
theorem dX12_sown_31 : decode cX12_sown 31 = .ok (.aload_n 0, 1) := by decide +kernel
theorem dX12_sown_32 : decode cX12_sown 32 = .ok (.iconst 2, 1) := by decide +kernel
theorem dX12_sown_33 : decode cX12_sown 33 = .ok (.invokevirtual 221, 3) := by decide +kernel
theorem dX12_sown_36 : decode cX12_sown 36 = .ok (.ireturn, 1) := by decide +kernel
theorem dX12_sown_37 : decode cX12_sown 37 = .ok (.iload_n 2, 1) := by decide +kernel
theorem dX12_sown_38 : decode cX12_sown 38 = .ok (.i2l, 1) := by decide +kernel
theorem dX12_sown_39 : decode cX12_sown 39 = .ok (.lconst 0, 1) := by decide +kernel
theorem dX12_sown_40 : decode cX12_sown 40 = .ok (.ldc2_w 314, 3) := by decide +kernel
theorem dX12_sown_43 : decode cX12_sown 43 = .ok (.invokestatic 166, 3) := by decide +kernel
theorem dX12_sown_46 : decode cX12_sown 46 = .ok (.ifCond .ne 9, 3) := by decide +kernel
theorem dX12_sown_49 : decode cX12_sown 49 = .ok (.aload_n 0, 1) := by decide +kernel
theorem dX12_sown_50 : decode cX12_sown 50 = .ok (.iconst 3, 1) := by decide +kernel
theorem dX12_sown_51 : decode cX12_sown 51 = .ok (.invokevirtual 221, 3) := by decide +kernel
theorem dX12_sown_54 : decode cX12_sown 54 = .ok (.ireturn, 1) := by decide +kernel
theorem dX12_sown_55 : decode cX12_sown 55 = .ok (.iload_n 2, 1) := by decide +kernel
theorem dX12_sown_56 : decode cX12_sown 56 = .ok (.ifCond .ne 23, 3) := by decide +kernel
theorem dX12_sown_59 : decode cX12_sown 59 = .ok (.aload_n 0, 1) := by decide +kernel
theorem dX12_sown_60 : decode cX12_sown 60 = .ok (.getfield 277, 3) := by decide +kernel
theorem dX12_sown_63 : decode cX12_sown 63 = .ok (.bipush 100, 2) := by decide +kernel
theorem dX12_sown_65 : decode cX12_sown 65 = .ok (.if_icmp .ne 7, 3) := by decide +kernel
theorem dX12_sown_68 : decode cX12_sown 68 = .ok (.iconst (-1), 1) := by decide +kernel
theorem dX12_sown_69 : decode cX12_sown 69 = .ok (.goto 38, 3) := by decide +kernel
theorem dX12_sown_72 : decode cX12_sown 72 = .ok (.aload_n 0, 1) := by decide +kernel
theorem dX12_sown_73 : decode cX12_sown 73 = .ok (.getfield 277, 3) := by decide +kernel
theorem dX12_sown_76 : decode cX12_sown 76 = .ok (.goto 31, 3) := by decide +kernel
theorem dX12_sown_79 : decode cX12_sown 79 = .ok (.iload_n 2, 1) := by decide +kernel
theorem dX12_sown_80 : decode cX12_sown 80 = .ok (.iconst 1, 1) := by decide +kernel
theorem dX12_sown_81 : decode cX12_sown 81 = .ok (.if_icmp .ne 10, 3) := by decide +kernel
theorem dX12_sown_84 : decode cX12_sown 84 = .ok (.aload_n 0, 1) := by decide +kernel
theorem dX12_sown_85 : decode cX12_sown 85 = .ok (.getfield 260, 3) := by decide +kernel
theorem dX12_sown_88 : decode cX12_sown 88 = .ok (.goto 19, 3) := by decide +kernel
theorem dX12_sown_91 : decode cX12_sown 91 = .ok (.iload_n 2, 1) := by decide +kernel
theorem dX12_sown_92 : decode cX12_sown 92 = .ok (.iconst 2, 1) := by decide +kernel
theorem dX12_sown_93 : decode cX12_sown 93 = .ok (.if_icmp .ne 10, 3) := by decide +kernel
theorem dX12_sown_96 : decode cX12_sown 96 = .ok (.aload_n 0, 1) := by decide +kernel
theorem dX12_sown_97 : decode cX12_sown 97 = .ok (.getfield 266, 3) := by decide +kernel
theorem dX12_sown_100 : decode cX12_sown 100 = .ok (.goto 7, 3) := by decide +kernel
theorem dX12_sown_103 : decode cX12_sown 103 = .ok (.aload_n 0, 1) := by decide +kernel
theorem dX12_sown_104 : decode cX12_sown 104 = .ok (.getfield 284, 3) := by decide +kernel
theorem dX12_sown_107 : decode cX12_sown 107 = .ok (.ireturn, 1) := by decide +kernel
theorem dX12_over_0 : decode cX12_over 0 = .ok (.aload_n 0, 1) := by decide +kernel
theorem dX12_over_1 : decode cX12_over 1 = .ok (.iconst 0, 1) := by decide +kernel
theorem dX12_over_2 : decode cX12_over 2 = .ok (.putfield 107, 3) := by decide +kernel
theorem dX12_over_5 : decode cX12_over 5 = .ok (.aload_n 0, 1) := by decide +kernel
theorem dX12_over_6 : decode cX12_over 6 = .ok (.invokevirtual 305, 3) := by decide +kernel
theorem dX12_over_9 : decode cX12_over 9 = .ok (.ireturn, 1) := by decide +kernel
theorem dX12_scoreNow_0 : decode cX12_scoreNow 0 = .ok (.aload_n 0, 1) := by decide +kernel
theorem dX12_scoreNow_1 : decode cX12_scoreNow 1 = .ok (.getfield 9, 3) := by decide +kernel
theorem dX12_scoreNow_4 : decode cX12_scoreNow 4 = .ok (.bipush 11, 2) := by decide +kernel
theorem dX12_scoreNow_6 : decode cX12_scoreNow 6 = .ok (.iaload, 1) := by decide +kernel
theorem dX12_scoreNow_7 : decode cX12_scoreNow 7 = .ok (.aload_n 0, 1) := by decide +kernel
theorem dX12_scoreNow_8 : decode cX12_scoreNow 8 = .ok (.getfield 9, 3) := by decide +kernel
theorem dX12_scoreNow_11 : decode cX12_scoreNow 11 = .ok (.bipush 12, 2) := by decide +kernel
theorem dX12_scoreNow_13 : decode cX12_scoreNow 13 = .ok (.iaload, 1) := by decide +kernel
theorem dX12_scoreNow_14 : decode cX12_scoreNow 14 = .ok (.isub, 1) := by decide +kernel
theorem dX12_scoreNow_15 : decode cX12_scoreNow 15 = .ok (.istore_n 1, 1) := by decide +kernel
theorem dX12_scoreNow_16 : decode cX12_scoreNow 16 = .ok (.aload_n 0, 1) := by decide +kernel
theorem dX12_scoreNow_17 : decode cX12_scoreNow 17 = .ok (.invokevirtual 305, 3) := by decide +kernel
theorem dX12_scoreNow_20 : decode cX12_scoreNow 20 = .ok (.ifCond .ne 5, 3) := by decide +kernel
theorem dX12_scoreNow_23 : decode cX12_scoreNow 23 = .ok (.iload_n 1, 1) := by decide +kernel
theorem dX12_scoreNow_24 : decode cX12_scoreNow 24 = .ok (.ireturn, 1) := by decide +kernel
theorem dX12_scoreNow_25 : decode cX12_scoreNow 25 = .ok (.iconst 0, 1) := by decide +kernel
theorem dX12_scoreNow_26 : decode cX12_scoreNow 26 = .ok (.istore_n 2, 1) := by decide +kernel
theorem dX12_scoreNow_27 : decode cX12_scoreNow 27 = .ok (.iload_n 2, 1) := by decide +kernel
theorem dX12_scoreNow_28 : decode cX12_scoreNow 28 = .ok (.aload_n 0, 1) := by decide +kernel
theorem dX12_scoreNow_29 : decode cX12_scoreNow 29 = .ok (.invokevirtual 245, 3) := by decide +kernel
theorem dX12_scoreNow_32 : decode cX12_scoreNow 32 = .ok (.if_icmp .ge 42, 3) := by decide +kernel
theorem dX12_scoreNow_35 : decode cX12_scoreNow 35 = .ok (.iload_n 1, 1) := by decide +kernel
theorem dX12_scoreNow_36 : decode cX12_scoreNow 36 = .ok (.aload_n 0, 1) := by decide +kernel
theorem dX12_scoreNow_37 : decode cX12_scoreNow 37 = .ok (.iload_n 2, 1) := by decide +kernel
theorem dX12_scoreNow_38 : decode cX12_scoreNow 38 = .ok (.invokevirtual 257, 3) := by decide +kernel
theorem dX12_scoreNow_41 : decode cX12_scoreNow 41 = .ok (.ifCond .ne 15, 3) := by decide +kernel
theorem dX12_scoreNow_44 : decode cX12_scoreNow 44 = .ok (.aload_n 0, 1) := by decide +kernel
theorem dX12_scoreNow_45 : decode cX12_scoreNow 45 = .ok (.getfield 9, 3) := by decide +kernel
theorem dX12_scoreNow_48 : decode cX12_scoreNow 48 = .ok (.bipush 13, 2) := by decide +kernel
theorem dX12_scoreNow_50 : decode cX12_scoreNow 50 = .ok (.iload_n 2, 1) := by decide +kernel
theorem dX12_scoreNow_51 : decode cX12_scoreNow 51 = .ok (.iadd, 1) := by decide +kernel
theorem dX12_scoreNow_52 : decode cX12_scoreNow 52 = .ok (.iaload, 1) := by decide +kernel
theorem dX12_scoreNow_53 : decode cX12_scoreNow 53 = .ok (.goto 13, 3) := by decide +kernel
theorem dX12_scoreNow_56 : decode cX12_scoreNow 56 = .ok (.aload_n 0, 1) := by decide +kernel
theorem dX12_scoreNow_57 : decode cX12_scoreNow 57 = .ok (.getfield 9, 3) := by decide +kernel
theorem dX12_scoreNow_60 : decode cX12_scoreNow 60 = .ok (.bipush 13, 2) := by decide +kernel
theorem dX12_scoreNow_62 : decode cX12_scoreNow 62 = .ok (.iload_n 2, 1) := by decide +kernel
theorem dX12_scoreNow_63 : decode cX12_scoreNow 63 = .ok (.iadd, 1) := by decide +kernel
theorem dX12_scoreNow_64 : decode cX12_scoreNow 64 = .ok (.iaload, 1) := by decide +kernel
theorem dX12_scoreNow_65 : decode cX12_scoreNow 65 = .ok (.ineg, 1) := by decide +kernel
theorem dX12_scoreNow_66 : decode cX12_scoreNow 66 = .ok (.iadd, 1) := by decide +kernel
theorem dX12_scoreNow_67 : decode cX12_scoreNow 67 = .ok (.istore_n 1, 1) := by decide +kernel
theorem dX12_scoreNow_68 : decode cX12_scoreNow 68 = .ok (.iinc 2 1, 3) := by decide +kernel
theorem dX12_scoreNow_71 : decode cX12_scoreNow 71 = .ok (.goto (-44), 3) := by decide +kernel
theorem dX12_scoreNow_74 : decode cX12_scoreNow 74 = .ok (.iload_n 1, 1) := by decide +kernel
theorem dX12_scoreNow_75 : decode cX12_scoreNow 75 = .ok (.ireturn, 1) := by decide +kernel
theorem dX12_score_0 : decode cX12_score 0 = .ok (.aload_n 0, 1) := by decide +kernel
theorem dX12_score_1 : decode cX12_score 1 = .ok (.iconst 0, 1) := by decide +kernel
theorem dX12_score_2 : decode cX12_score 2 = .ok (.putfield 107, 3) := by decide +kernel
theorem dX12_score_5 : decode cX12_score 5 = .ok (.aload_n 0, 1) := by decide +kernel
theorem dX12_score_6 : decode cX12_score 6 = .ok (.invokevirtual 316, 3) := by decide +kernel
theorem dX12_score_9 : decode cX12_score 9 = .ok (.ireturn, 1) := by decide +kernel
theorem dX12_does_0 : decode cX12_does 0 = .ok (.aload_n 0, 1) := by decide +kernel
theorem dX12_does_1 : decode cX12_does 1 = .ok (.iload_n 1, 1) := by decide +kernel
theorem dX12_does_2 : decode cX12_does 2 = .ok (.invokevirtual 323, 3) := by decide +kernel
theorem dX12_does_5 : decode cX12_does 5 = .ok (.aload_n 0, 1) := by decide +kernel
theorem dX12_does_6 : decode cX12_does 6 = .ok (.iconst 0, 1) := by decide +kernel
theorem dX12_does_7 : decode cX12_does 7 = .ok (.putfield 242, 3) := by decide +kernel
theorem dX12_does_10 : decode cX12_does 10 = .ok (.aload_n 0, 1) := by decide +kernel
theorem dX12_does_11 : decode cX12_does 11 = .ok (.iload_n 1, 1) := by decide +kernel
theorem dX12_does_12 : decode cX12_does 12 = .ok (.invokevirtual 326, 3) := by decide +kernel
theorem dX12_does_15 : decode cX12_does 15 = .ok (.ireturn, 1) := by decide +kernel
theorem dX12_move_0 : decode cX12_move 0 = .ok (.aload_n 0, 1) := by decide +kernel
theorem dX12_move_1 : decode cX12_move 1 = .ok (.iconst 0, 1) := by decide +kernel
theorem dX12_move_2 : decode cX12_move 2 = .ok (.putfield 107, 3) := by decide +kernel
theorem dX12_move_5 : decode cX12_move 5 = .ok (.aload_n 0, 1) := by decide +kernel
theorem dX12_move_6 : decode cX12_move 6 = .ok (.iload_n 1, 1) := by decide +kernel
theorem dX12_move_7 : decode cX12_move 7 = .ok (.invokevirtual 311, 3) := by decide +kernel
theorem dX12_move_10 : decode cX12_move 10 = .ok (.istore_n 2, 1) := by decide +kernel
theorem dX12_move_11 : decode cX12_move 11 = .ok (.iload_n 2, 1) := by decide +kernel
theorem dX12_move_12 : decode cX12_move 12 = .ok (.ifCond .ne 11, 3) := by decide +kernel
theorem dX12_move_15 : decode cX12_move 15 = .ok (.aload_n 0, 1) := by decide +kernel
theorem dX12_move_16 : decode cX12_move 16 = .ok (.iload_n 1, 1) := by decide +kernel
theorem dX12_move_17 : decode cX12_move 17 = .ok (.invokevirtual 329, 3) := by decide +kernel
theorem dX12_move_20 : decode cX12_move 20 = .ok (.goto 5, 3) := by decide +kernel
theorem dX12_move_23 : decode cX12_move 23 = .ok (.iload_n 2, 1) := by decide +kernel
theorem dX12_move_24 : decode cX12_move 24 = .ok (.ineg, 1) := by decide +kernel
theorem dX12_move_25 : decode cX12_move 25 = .ok (.ireturn, 1) := by decide +kernel
theorem dX12_whyTold_0 : decode cX12_whyTold 0 = .ok (.aload_n 0, 1) := by decide +kernel
theorem dX12_whyTold_1 : decode cX12_whyTold 1 = .ok (.lload_n 1, 1) := by decide +kernel
theorem dX12_whyTold_2 : decode cX12_whyTold 2 = .ok (.lconst 0, 1) := by decide +kernel
theorem dX12_whyTold_3 : decode cX12_whyTold 3 = .ok (.ldc2_w 338, 3) := by decide +kernel
theorem dX12_whyTold_6 : decode cX12_whyTold 6 = .ok (.invokestatic 166, 3) := by decide +kernel
theorem dX12_whyTold_9 : decode cX12_whyTold 9 = .ok (.ifCond .eq 8, 3) := by decide +kernel
theorem dX12_whyTold_12 : decode cX12_whyTold 12 = .ok (.lload_n 1, 1) := by decide +kernel
theorem dX12_whyTold_13 : decode cX12_whyTold 13 = .ok (.l2i, 1) := by decide +kernel
theorem dX12_whyTold_14 : decode cX12_whyTold 14 = .ok (.goto 4, 3) := by decide +kernel
theorem dX12_whyTold_17 : decode cX12_whyTold 17 = .ok (.iconst (-1), 1) := by decide +kernel
theorem dX12_whyTold_18 : decode cX12_whyTold 18 = .ok (.invokevirtual 311, 3) := by decide +kernel
theorem dX12_whyTold_21 : decode cX12_whyTold 21 = .ok (.ireturn, 1) := by decide +kernel
theorem dX12_judge_0 : decode cX12_judge 0 = .ok (.aload_n 0, 1) := by decide +kernel
theorem dX12_judge_1 : decode cX12_judge 1 = .ok (.aload_n 0, 1) := by decide +kernel
theorem dX12_judge_2 : decode cX12_judge 2 = .ok (.iload_n 1, 1) := by decide +kernel
theorem dX12_judge_3 : decode cX12_judge 3 = .ok (.invokevirtual 340, 3) := by decide +kernel
theorem dX12_judge_6 : decode cX12_judge 6 = .ok (.putfield 107, 3) := by decide +kernel
theorem dX12_judge_9 : decode cX12_judge 9 = .ok (.aload_n 0, 1) := by decide +kernel
theorem dX12_judge_10 : decode cX12_judge 10 = .ok (.getfield 107, 3) := by decide +kernel
theorem dX12_judge_13 : decode cX12_judge 13 = .ok (.ifCond .ne 20, 3) := by decide +kernel
theorem dX12_judge_16 : decode cX12_judge 16 = .ok (.iload_n 2, 1) := by decide +kernel
theorem dX12_judge_17 : decode cX12_judge 17 = .ok (.i2l, 1) := by decide +kernel
theorem dX12_judge_18 : decode cX12_judge 18 = .ok (.lconst 0, 1) := by decide +kernel
theorem dX12_judge_19 : decode cX12_judge 19 = .ok (.ldc2_w 314, 3) := by decide +kernel
theorem dX12_judge_22 : decode cX12_judge 22 = .ok (.invokestatic 166, 3) := by decide +kernel
theorem dX12_judge_25 : decode cX12_judge 25 = .ok (.ifCond .ne 8, 3) := by decide +kernel
theorem dX12_judge_28 : decode cX12_judge 28 = .ok (.aload_n 0, 1) := by decide +kernel
theorem dX12_judge_29 : decode cX12_judge 29 = .ok (.iconst 3, 1) := by decide +kernel
theorem dX12_judge_30 : decode cX12_judge 30 = .ok (.putfield 107, 3) := by decide +kernel
theorem dX12_judge_33 : decode cX12_judge 33 = .ok (.aload_n 0, 1) := by decide +kernel
theorem dX12_judge_34 : decode cX12_judge 34 = .ok (.getfield 107, 3) := by decide +kernel
theorem dX12_judge_37 : decode cX12_judge 37 = .ok (.ifCond .le 5, 3) := by decide +kernel
theorem dX12_judge_40 : decode cX12_judge 40 = .ok (.iconst 0, 1) := by decide +kernel
theorem dX12_judge_41 : decode cX12_judge 41 = .ok (.ireturn, 1) := by decide +kernel
theorem dX12_judge_42 : decode cX12_judge 42 = .ok (.aload_n 0, 1) := by decide +kernel
theorem dX12_judge_43 : decode cX12_judge 43 = .ok (.getfield 9, 3) := by decide +kernel
theorem dX12_judge_46 : decode cX12_judge 46 = .ok (.aload_n 0, 1) := by decide +kernel
theorem dX12_judge_47 : decode cX12_judge 47 = .ok (.getfield 19, 3) := by decide +kernel
theorem dX12_judge_50 : decode cX12_judge 50 = .ok (.invokestatic 235, 3) := by decide +kernel
theorem dX12_judge_53 : decode cX12_judge 53 = .ok (.iconst 0, 1) := by decide +kernel
theorem dX12_judge_54 : decode cX12_judge 54 = .ok (.istore_n 3, 1) := by decide +kernel
theorem dX12_judge_55 : decode cX12_judge 55 = .ok (.iconst 0, 1) := by decide +kernel
theorem dX12_judge_56 : decode cX12_judge 56 = .ok (.istore 4, 2) := by decide +kernel
theorem dX12_judge_58 : decode cX12_judge 58 = .ok (.iload_n 3, 1) := by decide +kernel
theorem dX12_judge_59 : decode cX12_judge 59 = .ok (.aload_n 0, 1) := by decide +kernel
theorem dX12_judge_60 : decode cX12_judge 60 = .ok (.getfield 100, 3) := by decide +kernel
theorem dX12_judge_63 : decode cX12_judge 63 = .ok (.iload_n 1, 1) := by decide +kernel
theorem dX12_judge_64 : decode cX12_judge 64 = .ok (.iaload, 1) := by decide +kernel
theorem dX12_judge_65 : decode cX12_judge 65 = .ok (.if_icmp .ge 53, 3) := by decide +kernel
theorem dX12_judge_68 : decode cX12_judge 68 = .ok (.iload 4, 2) := by decide +kernel
theorem dX12_judge_70 : decode cX12_judge 70 = .ok (.ifCond .ne 48, 3) := by decide +kernel
theorem dX12_judge_73 : decode cX12_judge 73 = .ok (.aload_n 0, 1) := by decide +kernel
theorem dX12_judge_74 : decode cX12_judge 74 = .ok (.aload_n 0, 1) := by decide +kernel
theorem dX12_judge_75 : decode cX12_judge 75 = .ok (.getfield 103, 3) := by decide +kernel
theorem dX12_judge_78 : decode cX12_judge 78 = .ok (.bipush 40, 2) := by decide +kernel
theorem dX12_judge_80 : decode cX12_judge 80 = .ok (.iload_n 1, 1) := by decide +kernel
theorem dX12_judge_81 : decode cX12_judge 81 = .ok (.imul, 1) := by decide +kernel
theorem dX12_judge_82 : decode cX12_judge 82 = .ok (.iload_n 3, 1) := by decide +kernel
theorem dX12_judge_83 : decode cX12_judge 83 = .ok (.iadd, 1) := by decide +kernel
theorem dX12_judge_84 : decode cX12_judge 84 = .ok (.laload, 1) := by decide +kernel
theorem dX12_judge_85 : decode cX12_judge 85 = .ok (.invokevirtual 343, 3) := by decide +kernel
theorem dX12_judge_88 : decode cX12_judge 88 = .ok (.istore 4, 2) := by decide +kernel
theorem dX12_judge_90 : decode cX12_judge 90 = .ok (.iload 4, 2) := by decide +kernel
theorem dX12_judge_92 : decode cX12_judge 92 = .ok (.ifCond .ne (-34), 3) := by decide +kernel
theorem dX12_judge_95 : decode cX12_judge 95 = .ok (.aload_n 0, 1) := by decide +kernel
theorem dX12_judge_96 : decode cX12_judge 96 = .ok (.aload_n 0, 1) := by decide +kernel
theorem dX12_judge_97 : decode cX12_judge 97 = .ok (.getfield 103, 3) := by decide +kernel
theorem dX12_judge_100 : decode cX12_judge 100 = .ok (.bipush 40, 2) := by decide +kernel
theorem dX12_judge_102 : decode cX12_judge 102 = .ok (.iload_n 1, 1) := by decide +kernel
theorem dX12_judge_103 : decode cX12_judge 103 = .ok (.imul, 1) := by decide +kernel
theorem dX12_judge_104 : decode cX12_judge 104 = .ok (.iload_n 3, 1) := by decide +kernel
theorem dX12_judge_105 : decode cX12_judge 105 = .ok (.iadd, 1) := by decide +kernel
theorem dX12_judge_106 : decode cX12_judge 106 = .ok (.laload, 1) := by decide +kernel
theorem dX12_judge_107 : decode cX12_judge 107 = .ok (.l2i, 1) := by decide +kernel
theorem dX12_judge_108 : decode cX12_judge 108 = .ok (.invokevirtual 326, 3) := by decide +kernel
theorem dX12_judge_111 : decode cX12_judge 111 = .ok (.pop, 1) := by decide +kernel
theorem dX12_judge_112 : decode cX12_judge 112 = .ok (.iinc 3 1, 3) := by decide +kernel
theorem dX12_judge_115 : decode cX12_judge 115 = .ok (.goto (-57), 3) := by decide +kernel
theorem dX12_judge_118 : decode cX12_judge 118 = .ok (.aload_n 0, 1) := by decide +kernel
theorem dX12_judge_119 : decode cX12_judge 119 = .ok (.invokevirtual 316, 3) := by decide +kernel
theorem dX12_judge_122 : decode cX12_judge 122 = .ok (.istore 5, 2) := by decide +kernel
theorem dX12_judge_124 : decode cX12_judge 124 = .ok (.aload_n 0, 1) := by decide +kernel
theorem dX12_judge_125 : decode cX12_judge 125 = .ok (.getfield 9, 3) := by decide +kernel
theorem dX12_judge_128 : decode cX12_judge 128 = .ok (.iconst 2, 1) := by decide +kernel
theorem dX12_judge_129 : decode cX12_judge 129 = .ok (.iaload, 1) := by decide +kernel
theorem dX12_judge_130 : decode cX12_judge 130 = .ok (.istore 6, 2) := by decide +kernel
theorem dX12_judge_132 : decode cX12_judge 132 = .ok (.aload_n 0, 1) := by decide +kernel
theorem dX12_judge_133 : decode cX12_judge 133 = .ok (.getfield 19, 3) := by decide +kernel
theorem dX12_judge_136 : decode cX12_judge 136 = .ok (.aload_n 0, 1) := by decide +kernel
theorem dX12_judge_137 : decode cX12_judge 137 = .ok (.getfield 9, 3) := by decide +kernel
theorem dX12_judge_140 : decode cX12_judge 140 = .ok (.invokestatic 235, 3) := by decide +kernel
theorem dX12_judge_143 : decode cX12_judge 143 = .ok (.iload_n 2, 1) := by decide +kernel
theorem dX12_judge_144 : decode cX12_judge 144 = .ok (.ifCond .ne 16, 3) := by decide +kernel
theorem dX12_judge_147 : decode cX12_judge 147 = .ok (.iload 4, 2) := by decide +kernel
theorem dX12_judge_149 : decode cX12_judge 149 = .ok (.ifCond .ne 7, 3) := by decide +kernel
theorem dX12_judge_152 : decode cX12_judge 152 = .ok (.iconst (-1), 1) := by decide +kernel
theorem dX12_judge_153 : decode cX12_judge 153 = .ok (.goto 29, 3) := by decide +kernel
theorem dX12_judge_156 : decode cX12_judge 156 = .ok (.iload_n 3, 1) := by decide +kernel
theorem dX12_judge_157 : decode cX12_judge 157 = .ok (.goto 25, 3) := by decide +kernel
theorem dX12_judge_160 : decode cX12_judge 160 = .ok (.iload_n 2, 1) := by decide +kernel
theorem dX12_judge_161 : decode cX12_judge 161 = .ok (.iconst 1, 1) := by decide +kernel
theorem dX12_judge_162 : decode cX12_judge 162 = .ok (.if_icmp .ne 8, 3) := by decide +kernel
theorem dX12_judge_165 : decode cX12_judge 165 = .ok (.iload 4, 2) := by decide +kernel
theorem dX12_judge_167 : decode cX12_judge 167 = .ok (.goto 15, 3) := by decide +kernel
theorem dX12_judge_170 : decode cX12_judge 170 = .ok (.iload_n 2, 1) := by decide +kernel
theorem dX12_judge_171 : decode cX12_judge 171 = .ok (.iconst 2, 1) := by decide +kernel
theorem dX12_judge_172 : decode cX12_judge 172 = .ok (.if_icmp .ne 8, 3) := by decide +kernel
theorem dX12_judge_175 : decode cX12_judge 175 = .ok (.iload 5, 2) := by decide +kernel
theorem dX12_judge_177 : decode cX12_judge 177 = .ok (.goto 5, 3) := by decide +kernel
theorem dX12_judge_180 : decode cX12_judge 180 = .ok (.iload 6, 2) := by decide +kernel
theorem dX12_judge_182 : decode cX12_judge 182 = .ok (.ireturn, 1) := by decide +kernel
theorem dX12_perform_0 : decode cX12_perform 0 = .ok (.aload_n 0, 1) := by decide +kernel
theorem dX12_perform_1 : decode cX12_perform 1 = .ok (.aload_n 0, 1) := by decide +kernel
theorem dX12_perform_2 : decode cX12_perform 2 = .ok (.iload_n 1, 1) := by decide +kernel
theorem dX12_perform_3 : decode cX12_perform 3 = .ok (.invokevirtual 340, 3) := by decide +kernel
theorem dX12_perform_6 : decode cX12_perform 6 = .ok (.putfield 107, 3) := by decide +kernel
theorem dX12_perform_9 : decode cX12_perform 9 = .ok (.aload_n 0, 1) := by decide +kernel
theorem dX12_perform_10 : decode cX12_perform 10 = .ok (.getfield 107, 3) := by decide +kernel
theorem dX12_perform_13 : decode cX12_perform 13 = .ok (.ifCond .le 5, 3) := by decide +kernel
theorem dX12_perform_16 : decode cX12_perform 16 = .ok (.iconst 0, 1) := by decide +kernel
theorem dX12_perform_17 : decode cX12_perform 17 = .ok (.ireturn, 1) := by decide +kernel
theorem dX12_perform_18 : decode cX12_perform 18 = .ok (.iconst 0, 1) := by decide +kernel
theorem dX12_perform_19 : decode cX12_perform 19 = .ok (.istore_n 2, 1) := by decide +kernel
theorem dX12_perform_20 : decode cX12_perform 20 = .ok (.iload_n 2, 1) := by decide +kernel
theorem dX12_perform_21 : decode cX12_perform 21 = .ok (.aload_n 0, 1) := by decide +kernel
theorem dX12_perform_22 : decode cX12_perform 22 = .ok (.getfield 100, 3) := by decide +kernel
theorem dX12_perform_25 : decode cX12_perform 25 = .ok (.iload_n 1, 1) := by decide +kernel
theorem dX12_perform_26 : decode cX12_perform 26 = .ok (.iaload, 1) := by decide +kernel
theorem dX12_perform_27 : decode cX12_perform 27 = .ok (.if_icmp .ge 44, 3) := by decide +kernel
theorem dX12_perform_30 : decode cX12_perform 30 = .ok (.aload_n 0, 1) := by decide +kernel
theorem dX12_perform_31 : decode cX12_perform 31 = .ok (.aload_n 0, 1) := by decide +kernel
theorem dX12_perform_32 : decode cX12_perform 32 = .ok (.getfield 103, 3) := by decide +kernel
theorem dX12_perform_35 : decode cX12_perform 35 = .ok (.bipush 40, 2) := by decide +kernel
theorem dX12_perform_37 : decode cX12_perform 37 = .ok (.iload_n 1, 1) := by decide +kernel
theorem dX12_perform_38 : decode cX12_perform 38 = .ok (.imul, 1) := by decide +kernel
theorem dX12_perform_39 : decode cX12_perform 39 = .ok (.iload_n 2, 1) := by decide +kernel
theorem dX12_perform_40 : decode cX12_perform 40 = .ok (.iadd, 1) := by decide +kernel
theorem dX12_perform_41 : decode cX12_perform 41 = .ok (.laload, 1) := by decide +kernel
theorem dX12_perform_42 : decode cX12_perform 42 = .ok (.invokevirtual 343, 3) := by decide +kernel
theorem dX12_perform_45 : decode cX12_perform 45 = .ok (.ifCond .ne 26, 3) := by decide +kernel
theorem dX12_perform_48 : decode cX12_perform 48 = .ok (.aload_n 0, 1) := by decide +kernel
theorem dX12_perform_49 : decode cX12_perform 49 = .ok (.aload_n 0, 1) := by decide +kernel
theorem dX12_perform_50 : decode cX12_perform 50 = .ok (.getfield 103, 3) := by decide +kernel
theorem dX12_perform_53 : decode cX12_perform 53 = .ok (.bipush 40, 2) := by decide +kernel
theorem dX12_perform_55 : decode cX12_perform 55 = .ok (.iload_n 1, 1) := by decide +kernel
theorem dX12_perform_56 : decode cX12_perform 56 = .ok (.imul, 1) := by decide +kernel
theorem dX12_perform_57 : decode cX12_perform 57 = .ok (.iload_n 2, 1) := by decide +kernel
theorem dX12_perform_58 : decode cX12_perform 58 = .ok (.iadd, 1) := by decide +kernel
theorem dX12_perform_59 : decode cX12_perform 59 = .ok (.laload, 1) := by decide +kernel
theorem dX12_perform_60 : decode cX12_perform 60 = .ok (.l2i, 1) := by decide +kernel
theorem dX12_perform_61 : decode cX12_perform 61 = .ok (.invokevirtual 329, 3) := by decide +kernel
theorem dX12_perform_64 : decode cX12_perform 64 = .ok (.pop, 1) := by decide +kernel
theorem dX12_perform_65 : decode cX12_perform 65 = .ok (.iinc 2 1, 3) := by decide +kernel
theorem dX12_perform_68 : decode cX12_perform 68 = .ok (.goto (-48), 3) := by decide +kernel
theorem dX12_perform_71 : decode cX12_perform 71 = .ok (.iload_n 2, 1) := by decide +kernel
theorem dX12_perform_72 : decode cX12_perform 72 = .ok (.ireturn, 1) := by decide +kernel
theorem dX12_laysMove_0 : decode cX12_laysMove 0 = .ok (.iload 4, 2) := by decide +kernel
theorem dX12_laysMove_2 : decode cX12_laysMove 2 = .ok (.iload_n 2, 1) := by decide +kernel
theorem dX12_laysMove_3 : decode cX12_laysMove 3 = .ok (.ifCond .ne 7, 3) := by decide +kernel
theorem dX12_laysMove_6 : decode cX12_laysMove 6 = .ok (.iconst 0, 1) := by decide +kernel
theorem dX12_laysMove_7 : decode cX12_laysMove 7 = .ok (.goto 9, 3) := by decide +kernel
theorem dX12_laysMove_10 : decode cX12_laysMove 10 = .ok (.aload_n 0, 1) := by decide +kernel
theorem dX12_laysMove_11 : decode cX12_laysMove 11 = .ok (.getfield 9, 3) := by decide +kernel
theorem dX12_laysMove_14 : decode cX12_laysMove 14 = .ok (.iconst 1, 1) := by decide +kernel
theorem dX12_laysMove_15 : decode cX12_laysMove 15 = .ok (.iaload, 1) := by decide +kernel
theorem dX12_laysMove_16 : decode cX12_laysMove 16 = .ok (.iadd, 1) := by decide +kernel
theorem dX12_laysMove_17 : decode cX12_laysMove 17 = .ok (.istore 5, 2) := by decide +kernel
theorem dX12_laysMove_19 : decode cX12_laysMove 19 = .ok (.aload_n 0, 1) := by decide +kernel
theorem dX12_laysMove_20 : decode cX12_laysMove 20 = .ok (.getfield 61, 3) := by decide +kernel
theorem dX12_laysMove_23 : decode cX12_laysMove 23 = .ok (.bipush 6, 2) := by decide +kernel
theorem dX12_laysMove_25 : decode cX12_laysMove 25 = .ok (.iload_n 1, 1) := by decide +kernel
theorem dX12_laysMove_26 : decode cX12_laysMove 26 = .ok (.imul, 1) := by decide +kernel
theorem dX12_laysMove_27 : decode cX12_laysMove 27 = .ok (.iload 4, 2) := by decide +kernel
theorem dX12_laysMove_29 : decode cX12_laysMove 29 = .ok (.iadd, 1) := by decide +kernel
theorem dX12_laysMove_30 : decode cX12_laysMove 30 = .ok (.iconst (-1), 1) := by decide +kernel
theorem dX12_laysMove_31 : decode cX12_laysMove 31 = .ok (.iastore, 1) := by decide +kernel
theorem dX12_laysMove_32 : decode cX12_laysMove 32 = .ok (.aload_n 0, 1) := by decide +kernel
theorem dX12_laysMove_33 : decode cX12_laysMove 33 = .ok (.iload 5, 2) := by decide +kernel
theorem dX12_laysMove_35 : decode cX12_laysMove 35 = .ok (.invokevirtual 311, 3) := by decide +kernel
theorem dX12_laysMove_38 : decode cX12_laysMove 38 = .ok (.ifCond .eq 4, 3) := by decide +kernel
theorem dX12_laysMove_41 : decode cX12_laysMove 41 = .ok (.return_, 1) := by decide +kernel
theorem dX12_laysMove_42 : decode cX12_laysMove 42 = .ok (.aload_n 0, 1) := by decide +kernel
theorem dX12_laysMove_43 : decode cX12_laysMove 43 = .ok (.iload 5, 2) := by decide +kernel
theorem dX12_laysMove_45 : decode cX12_laysMove 45 = .ok (.invokevirtual 302, 3) := by decide +kernel
theorem dX12_laysMove_48 : decode cX12_laysMove 48 = .ok (.aload_n 0, 1) := by decide +kernel
theorem dX12_laysMove_49 : decode cX12_laysMove 49 = .ok (.aload_n 0, 1) := by decide +kernel
theorem dX12_laysMove_50 : decode cX12_laysMove 50 = .ok (.getfield 284, 3) := by decide +kernel
theorem dX12_laysMove_53 : decode cX12_laysMove 53 = .ok (.iload_n 3, 1) := by decide +kernel
theorem dX12_laysMove_54 : decode cX12_laysMove 54 = .ok (.aload_n 0, 1) := by decide +kernel
theorem dX12_laysMove_55 : decode cX12_laysMove 55 = .ok (.getfield 263, 3) := by decide +kernel
theorem dX12_laysMove_58 : decode cX12_laysMove 58 = .ok (.isub, 1) := by decide +kernel
theorem dX12_laysMove_59 : decode cX12_laysMove 59 = .ok (.aload_n 0, 1) := by decide +kernel
theorem dX12_laysMove_60 : decode cX12_laysMove 60 = .ok (.aload_n 0, 1) := by decide +kernel
theorem dX12_laysMove_61 : decode cX12_laysMove 61 = .ok (.getfield 284, 3) := by decide +kernel
theorem dX12_laysMove_64 : decode cX12_laysMove 64 = .ok (.invokevirtual 368, 3) := by decide +kernel
theorem dX12_laysMove_67 : decode cX12_laysMove 67 = .ok (.invokevirtual 384, 3) := by decide +kernel
theorem dX12_laysMove_70 : decode cX12_laysMove 70 = .ok (.istore 6, 2) := by decide +kernel
theorem dX12_laysMove_72 : decode cX12_laysMove 72 = .ok (.aload_n 0, 1) := by decide +kernel
theorem dX12_laysMove_73 : decode cX12_laysMove 73 = .ok (.getfield 61, 3) := by decide +kernel
theorem dX12_laysMove_76 : decode cX12_laysMove 76 = .ok (.bipush 6, 2) := by decide +kernel
theorem dX12_laysMove_78 : decode cX12_laysMove 78 = .ok (.iload_n 1, 1) := by decide +kernel
theorem dX12_laysMove_79 : decode cX12_laysMove 79 = .ok (.imul, 1) := by decide +kernel
theorem dX12_laysMove_80 : decode cX12_laysMove 80 = .ok (.iload 4, 2) := by decide +kernel
theorem dX12_laysMove_82 : decode cX12_laysMove 82 = .ok (.iadd, 1) := by decide +kernel
theorem dX12_laysMove_83 : decode cX12_laysMove 83 = .ok (.iload 6, 2) := by decide +kernel
theorem dX12_laysMove_85 : decode cX12_laysMove 85 = .ok (.iastore, 1) := by decide +kernel
theorem dX12_laysMove_86 : decode cX12_laysMove 86 = .ok (.aload_n 0, 1) := by decide +kernel
theorem dX12_laysMove_87 : decode cX12_laysMove 87 = .ok (.getfield 64, 3) := by decide +kernel
theorem dX12_laysMove_90 : decode cX12_laysMove 90 = .ok (.bipush 6, 2) := by decide +kernel
theorem dX12_laysMove_92 : decode cX12_laysMove 92 = .ok (.iload_n 1, 1) := by decide +kernel
theorem dX12_laysMove_93 : decode cX12_laysMove 93 = .ok (.imul, 1) := by decide +kernel
theorem dX12_laysMove_94 : decode cX12_laysMove 94 = .ok (.iload 4, 2) := by decide +kernel
theorem dX12_laysMove_96 : decode cX12_laysMove 96 = .ok (.iadd, 1) := by decide +kernel
theorem dX12_laysMove_97 : decode cX12_laysMove 97 = .ok (.aload_n 0, 1) := by decide +kernel
theorem dX12_laysMove_98 : decode cX12_laysMove 98 = .ok (.getfield 263, 3) := by decide +kernel
theorem dX12_laysMove_101 : decode cX12_laysMove 101 = .ok (.iastore, 1) := by decide +kernel
theorem dX12_laysMove_102 : decode cX12_laysMove 102 = .ok (.return_, 1) := by decide +kernel
theorem dX12_settles_0 : decode cX12_settles 0 = .ok (.aload_n 0, 1) := by decide +kernel
theorem dX12_settles_1 : decode cX12_settles 1 = .ok (.getfield 67, 3) := by decide +kernel
theorem dX12_settles_4 : decode cX12_settles 4 = .ok (.iload_n 1, 1) := by decide +kernel
theorem dX12_settles_5 : decode cX12_settles 5 = .ok (.iconst 1, 1) := by decide +kernel
theorem dX12_settles_6 : decode cX12_settles 6 = .ok (.iadd, 1) := by decide +kernel
theorem dX12_settles_7 : decode cX12_settles 7 = .ok (.iaload, 1) := by decide +kernel
theorem dX12_settles_8 : decode cX12_settles 8 = .ok (.aload_n 0, 1) := by decide +kernel
theorem dX12_settles_9 : decode cX12_settles 9 = .ok (.getfield 67, 3) := by decide +kernel
theorem dX12_settles_12 : decode cX12_settles 12 = .ok (.iload_n 1, 1) := by decide +kernel
theorem dX12_settles_13 : decode cX12_settles 13 = .ok (.iaload, 1) := by decide +kernel
theorem dX12_settles_14 : decode cX12_settles 14 = .ok (.isub, 1) := by decide +kernel
theorem dX12_settles_15 : decode cX12_settles 15 = .ok (.istore_n 2, 1) := by decide +kernel
theorem dX12_settles_16 : decode cX12_settles 16 = .ok (.iconst 0, 1) := by decide +kernel
theorem dX12_settles_17 : decode cX12_settles 17 = .ok (.istore_n 3, 1) := by decide +kernel
theorem dX12_settles_18 : decode cX12_settles 18 = .ok (.iload_n 3, 1) := by decide +kernel
theorem dX12_settles_19 : decode cX12_settles 19 = .ok (.iconst 2, 1) := by decide +kernel
theorem dX12_settles_20 : decode cX12_settles 20 = .ok (.if_icmp .ge 71, 3) := by decide +kernel
theorem dX12_settles_23 : decode cX12_settles 23 = .ok (.iconst 0, 1) := by decide +kernel
theorem dX12_settles_24 : decode cX12_settles 24 = .ok (.istore 4, 2) := by decide +kernel
theorem dX12_settles_26 : decode cX12_settles 26 = .ok (.iload 4, 2) := by decide +kernel
theorem dX12_settles_28 : decode cX12_settles 28 = .ok (.iload_n 2, 1) := by decide +kernel
theorem dX12_settles_29 : decode cX12_settles 29 = .ok (.if_icmp .ge 56, 3) := by decide +kernel
theorem dX12_settles_32 : decode cX12_settles 32 = .ok (.aload_n 0, 1) := by decide +kernel
theorem dX12_settles_33 : decode cX12_settles 33 = .ok (.iload_n 3, 1) := by decide +kernel
theorem dX12_settles_34 : decode cX12_settles 34 = .ok (.iload_n 1, 1) := by decide +kernel
theorem dX12_settles_35 : decode cX12_settles 35 = .ok (.iload 4, 2) := by decide +kernel
theorem dX12_settles_37 : decode cX12_settles 37 = .ok (.invokevirtual 384, 3) := by decide +kernel
theorem dX12_settles_40 : decode cX12_settles 40 = .ok (.istore 5, 2) := by decide +kernel
theorem dX12_settles_42 : decode cX12_settles 42 = .ok (.aload_n 0, 1) := by decide +kernel
theorem dX12_settles_43 : decode cX12_settles 43 = .ok (.getfield 51, 3) := by decide +kernel
theorem dX12_settles_46 : decode cX12_settles 46 = .ok (.iload 5, 2) := by decide +kernel
theorem dX12_settles_48 : decode cX12_settles 48 = .ok (.aload_n 0, 1) := by decide +kernel
theorem dX12_settles_49 : decode cX12_settles 49 = .ok (.getfield 70, 3) := by decide +kernel
theorem dX12_settles_52 : decode cX12_settles 52 = .ok (.iload 5, 2) := by decide +kernel
theorem dX12_settles_54 : decode cX12_settles 54 = .ok (.baload, 1) := by decide +kernel
theorem dX12_settles_55 : decode cX12_settles 55 = .ok (.ifCond .eq 14, 3) := by decide +kernel
theorem dX12_settles_58 : decode cX12_settles 58 = .ok (.aload_n 0, 1) := by decide +kernel
theorem dX12_settles_59 : decode cX12_settles 59 = .ok (.iload_n 3, 1) := by decide +kernel
theorem dX12_settles_60 : decode cX12_settles 60 = .ok (.iload_n 1, 1) := by decide +kernel
theorem dX12_settles_61 : decode cX12_settles 61 = .ok (.iload 4, 2) := by decide +kernel
theorem dX12_settles_63 : decode cX12_settles 63 = .ok (.invokevirtual 391, 3) := by decide +kernel
theorem dX12_settles_66 : decode cX12_settles 66 = .ok (.goto 4, 3) := by decide +kernel
theorem dX12_settles_69 : decode cX12_settles 69 = .ok (.iconst 0, 1) := by decide +kernel
theorem dX12_settles_70 : decode cX12_settles 70 = .ok (.iastore, 1) := by decide +kernel
theorem dX12_settles_71 : decode cX12_settles 71 = .ok (.aload_n 0, 1) := by decide +kernel
theorem dX12_settles_72 : decode cX12_settles 72 = .ok (.getfield 54, 3) := by decide +kernel
theorem dX12_settles_75 : decode cX12_settles 75 = .ok (.iload 5, 2) := by decide +kernel
theorem dX12_settles_77 : decode cX12_settles 77 = .ok (.iconst 0, 1) := by decide +kernel
theorem dX12_settles_78 : decode cX12_settles 78 = .ok (.iastore, 1) := by decide +kernel
theorem dX12_settles_79 : decode cX12_settles 79 = .ok (.iinc 4 1, 3) := by decide +kernel
theorem dX12_settles_82 : decode cX12_settles 82 = .ok (.goto (-56), 3) := by decide +kernel
theorem dX12_settles_85 : decode cX12_settles 85 = .ok (.iinc 3 1, 3) := by decide +kernel
theorem dX12_settles_88 : decode cX12_settles 88 = .ok (.goto (-70), 3) := by decide +kernel
theorem dX12_settles_91 : decode cX12_settles 91 = .ok (.iconst 1, 1) := by decide +kernel
theorem dX12_settles_92 : decode cX12_settles 92 = .ok (.istore_n 3, 1) := by decide +kernel
theorem dX12_settles_93 : decode cX12_settles 93 = .ok (.iconst 1, 1) := by decide +kernel
theorem dX12_settles_94 : decode cX12_settles 94 = .ok (.istore 4, 2) := by decide +kernel
theorem dX12_settles_96 : decode cX12_settles 96 = .ok (.iload_n 3, 1) := by decide +kernel
theorem dX12_settles_97 : decode cX12_settles 97 = .ok (.ifCond .eq 118, 3) := by decide +kernel
theorem dX12_settles_100 : decode cX12_settles 100 = .ok (.iconst 0, 1) := by decide +kernel
theorem dX12_settles_101 : decode cX12_settles 101 = .ok (.istore_n 3, 1) := by decide +kernel
theorem dX12_settles_102 : decode cX12_settles 102 = .ok (.iconst 0, 1) := by decide +kernel
theorem dX12_settles_103 : decode cX12_settles 103 = .ok (.istore 5, 2) := by decide +kernel
theorem dX12_settles_105 : decode cX12_settles 105 = .ok (.iload 5, 2) := by decide +kernel
theorem dX12_settles_107 : decode cX12_settles 107 = .ok (.iconst 2, 1) := by decide +kernel
theorem dX12_settles_108 : decode cX12_settles 108 = .ok (.if_icmp .ge 52, 3) := by decide +kernel
theorem dX12_settles_111 : decode cX12_settles 111 = .ok (.iconst 0, 1) := by decide +kernel
theorem dX12_settles_112 : decode cX12_settles 112 = .ok (.istore 6, 2) := by decide +kernel
theorem dX12_settles_114 : decode cX12_settles 114 = .ok (.iload 6, 2) := by decide +kernel
theorem dX12_settles_116 : decode cX12_settles 116 = .ok (.iload_n 2, 1) := by decide +kernel
theorem dX12_settles_117 : decode cX12_settles 117 = .ok (.if_icmp .ge 37, 3) := by decide +kernel
theorem dX12_settles_120 : decode cX12_settles 120 = .ok (.aload_n 0, 1) := by decide +kernel
theorem dX12_settles_121 : decode cX12_settles 121 = .ok (.getfield 57, 3) := by decide +kernel
theorem dX12_settles_124 : decode cX12_settles 124 = .ok (.aload_n 0, 1) := by decide +kernel
theorem dX12_settles_125 : decode cX12_settles 125 = .ok (.iload 5, 2) := by decide +kernel
theorem dX12_settles_127 : decode cX12_settles 127 = .ok (.iload_n 1, 1) := by decide +kernel
theorem dX12_settles_128 : decode cX12_settles 128 = .ok (.iload 6, 2) := by decide +kernel
theorem dX12_settles_130 : decode cX12_settles 130 = .ok (.invokevirtual 384, 3) := by decide +kernel
theorem dX12_settles_133 : decode cX12_settles 133 = .ok (.aload_n 0, 1) := by decide +kernel
theorem dX12_settles_134 : decode cX12_settles 134 = .ok (.getfield 51, 3) := by decide +kernel
theorem dX12_settles_137 : decode cX12_settles 137 = .ok (.aload_n 0, 1) := by decide +kernel
theorem dX12_settles_138 : decode cX12_settles 138 = .ok (.iload 5, 2) := by decide +kernel
theorem dX12_settles_140 : decode cX12_settles 140 = .ok (.iload_n 1, 1) := by decide +kernel
theorem dX12_settles_141 : decode cX12_settles 141 = .ok (.iload 6, 2) := by decide +kernel
theorem dX12_settles_143 : decode cX12_settles 143 = .ok (.invokevirtual 384, 3) := by decide +kernel
theorem dX12_settles_146 : decode cX12_settles 146 = .ok (.iaload, 1) := by decide +kernel
theorem dX12_settles_147 : decode cX12_settles 147 = .ok (.iastore, 1) := by decide +kernel
theorem dX12_settles_148 : decode cX12_settles 148 = .ok (.iinc 6 1, 3) := by decide +kernel
theorem dX12_settles_151 : decode cX12_settles 151 = .ok (.goto (-37), 3) := by decide +kernel
theorem dX12_settles_154 : decode cX12_settles 154 = .ok (.iinc 5 1, 3) := by decide +kernel
theorem dX12_settles_157 : decode cX12_settles 157 = .ok (.goto (-52), 3) := by decide +kernel
theorem dX12_settles_160 : decode cX12_settles 160 = .ok (.iconst 0, 1) := by decide +kernel
theorem dX12_settles_161 : decode cX12_settles 161 = .ok (.istore 5, 2) := by decide +kernel
theorem dX12_settles_163 : decode cX12_settles 163 = .ok (.iload 5, 2) := by decide +kernel
theorem dX12_settles_165 : decode cX12_settles 165 = .ok (.iconst 2, 1) := by decide +kernel
theorem dX12_settles_166 : decode cX12_settles 166 = .ok (.if_icmp .ge 43, 3) := by decide +kernel
theorem dX12_settles_169 : decode cX12_settles 169 = .ok (.iconst 0, 1) := by decide +kernel
theorem dX12_settles_170 : decode cX12_settles 170 = .ok (.istore 6, 2) := by decide +kernel
theorem dX12_settles_172 : decode cX12_settles 172 = .ok (.iload 6, 2) := by decide +kernel
theorem dX12_settles_174 : decode cX12_settles 174 = .ok (.iload_n 2, 1) := by decide +kernel
theorem dX12_settles_175 : decode cX12_settles 175 = .ok (.if_icmp .ge 28, 3) := by decide +kernel
theorem dX12_settles_178 : decode cX12_settles 178 = .ok (.iload_n 3, 1) := by decide +kernel
theorem dX12_settles_179 : decode cX12_settles 179 = .ok (.aload_n 0, 1) := by decide +kernel
theorem dX12_settles_180 : decode cX12_settles 180 = .ok (.aload_n 0, 1) := by decide +kernel
theorem dX12_settles_181 : decode cX12_settles 181 = .ok (.iload 5, 2) := by decide +kernel
theorem dX12_settles_183 : decode cX12_settles 183 = .ok (.iload_n 1, 1) := by decide +kernel
theorem dX12_settles_184 : decode cX12_settles 184 = .ok (.iload 6, 2) := by decide +kernel
theorem dX12_settles_186 : decode cX12_settles 186 = .ok (.invokevirtual 384, 3) := by decide +kernel
theorem dX12_settles_189 : decode cX12_settles 189 = .ok (.iload_n 1, 1) := by decide +kernel
theorem dX12_settles_190 : decode cX12_settles 190 = .ok (.iload 4, 2) := by decide +kernel
theorem dX12_settles_192 : decode cX12_settles 192 = .ok (.invokevirtual 394, 3) := by decide +kernel
theorem dX12_settles_195 : decode cX12_settles 195 = .ok (.ior, 1) := by decide +kernel
theorem dX12_settles_196 : decode cX12_settles 196 = .ok (.istore_n 3, 1) := by decide +kernel
theorem dX12_settles_197 : decode cX12_settles 197 = .ok (.iinc 6 1, 3) := by decide +kernel
theorem dX12_settles_200 : decode cX12_settles 200 = .ok (.goto (-28), 3) := by decide +kernel
theorem dX12_settles_203 : decode cX12_settles 203 = .ok (.iinc 5 1, 3) := by decide +kernel
theorem dX12_settles_206 : decode cX12_settles 206 = .ok (.goto (-43), 3) := by decide +kernel
theorem dX12_settles_209 : decode cX12_settles 209 = .ok (.iinc 4 1, 3) := by decide +kernel
theorem dX12_settles_212 : decode cX12_settles 212 = .ok (.goto (-116), 3) := by decide +kernel
theorem dX12_settles_215 : decode cX12_settles 215 = .ok (.return_, 1) := by decide +kernel
