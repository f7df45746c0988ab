theorem dX12_sees_0 : decode cX12_sees 0 = .ok (.aload_n 0, 1) := by decide +kernel
theorem dX12_sees_1 : decode cX12_sees 1 = .ok (.iconst 0, 1) := by decide +kernel
theorem dX12_sees_2 : decode cX12_sees 2 = .ok (.putfield 347, 3) := by decide +kernel
theorem dX12_sees_5 : decode cX12_sees 5 = .ok (.iconst 0, 1) := by decide +kernel
theorem dX12_sees_6 : decode cX12_sees 6 = .ok (.istore_n 2, 1) := by decide +kernel
theorem dX12_sees_7 : decode cX12_sees 7 = .ok (.iload_n 2, 1) := by decide +kernel
theorem dX12_sees_8 : decode cX12_sees 8 = .ok (.aload_n 0, 1) := by decide +kernel
theorem dX12_sees_9 : decode cX12_sees 9 = .ok (.invokevirtual 245, 3) := by decide +kernel
theorem dX12_sees_12 : decode cX12_sees 12 = .ok (.if_icmp .ge 62, 3) := by decide +kernel
theorem dX12_sees_15 : decode cX12_sees 15 = .ok (.iload_n 2, 1) := by decide +kernel
theorem dX12_sees_16 : decode cX12_sees 16 = .ok (.iload_n 1, 1) := by decide +kernel
theorem dX12_sees_17 : decode cX12_sees 17 = .ok (.ifCond .ne 7, 3) := by decide +kernel
theorem dX12_sees_20 : decode cX12_sees 20 = .ok (.iconst 0, 1) := by decide +kernel
theorem dX12_sees_21 : decode cX12_sees 21 = .ok (.goto 9, 3) := by decide +kernel
theorem dX12_sees_24 : decode cX12_sees 24 = .ok (.aload_n 0, 1) := by decide +kernel
theorem dX12_sees_25 : decode cX12_sees 25 = .ok (.getfield 9, 3) := by decide +kernel
theorem dX12_sees_28 : decode cX12_sees 28 = .ok (.iconst 1, 1) := by decide +kernel
theorem dX12_sees_29 : decode cX12_sees 29 = .ok (.iaload, 1) := by decide +kernel
theorem dX12_sees_30 : decode cX12_sees 30 = .ok (.iadd, 1) := by decide +kernel
theorem dX12_sees_31 : decode cX12_sees 31 = .ok (.aload_n 0, 1) := by decide +kernel
theorem dX12_sees_32 : decode cX12_sees 32 = .ok (.invokevirtual 245, 3) := by decide +kernel
theorem dX12_sees_35 : decode cX12_sees 35 = .ok (.irem, 1) := by decide +kernel
theorem dX12_sees_36 : decode cX12_sees 36 = .ok (.istore_n 3, 1) := by decide +kernel
theorem dX12_sees_37 : decode cX12_sees 37 = .ok (.aload_n 0, 1) := by decide +kernel
theorem dX12_sees_38 : decode cX12_sees 38 = .ok (.iload_n 3, 1) := by decide +kernel
theorem dX12_sees_39 : decode cX12_sees 39 = .ok (.invokevirtual 251, 3) := by decide +kernel
theorem dX12_sees_42 : decode cX12_sees 42 = .ok (.ifCond .eq 6, 3) := by decide +kernel
theorem dX12_sees_45 : decode cX12_sees 45 = .ok (.goto 23, 3) := by decide +kernel
theorem dX12_sees_48 : decode cX12_sees 48 = .ok (.aload_n 0, 1) := by decide +kernel
theorem dX12_sees_49 : decode cX12_sees 49 = .ok (.getfield 48, 3) := by decide +kernel
theorem dX12_sees_52 : decode cX12_sees 52 = .ok (.aload_n 0, 1) := by decide +kernel
theorem dX12_sees_53 : decode cX12_sees 53 = .ok (.getfield 347, 3) := by decide +kernel
theorem dX12_sees_56 : decode cX12_sees 56 = .ok (.iload_n 3, 1) := by decide +kernel
theorem dX12_sees_57 : decode cX12_sees 57 = .ok (.iastore, 1) := by decide +kernel
theorem dX12_sees_58 : decode cX12_sees 58 = .ok (.aload_n 0, 1) := by decide +kernel
theorem dX12_sees_59 : decode cX12_sees 59 = .ok (.dup, 1) := by decide +kernel
theorem dX12_sees_60 : decode cX12_sees 60 = .ok (.getfield 347, 3) := by decide +kernel
theorem dX12_sees_63 : decode cX12_sees 63 = .ok (.iconst 1, 1) := by decide +kernel
theorem dX12_sees_64 : decode cX12_sees 64 = .ok (.iadd, 1) := by decide +kernel
theorem dX12_sees_65 : decode cX12_sees 65 = .ok (.putfield 347, 3) := by decide +kernel
theorem dX12_sees_68 : decode cX12_sees 68 = .ok (.iinc 2 1, 3) := by decide +kernel
theorem dX12_sees_71 : decode cX12_sees 71 = .ok (.goto (-64), 3) := by decide +kernel
theorem dX12_sees_74 : decode cX12_sees 74 = .ok (.return_, 1) := by decide +kernel
theorem dX12_ways_0 : decode cX12_ways 0 = .ok (.iload_n 1, 1) := by decide +kernel
theorem dX12_ways_1 : decode cX12_ways 1 = .ok (.ifCond .ne 13, 3) := by decide +kernel
theorem dX12_ways_4 : decode cX12_ways 4 = .ok (.iload_n 0, 1) := by decide +kernel
theorem dX12_ways_5 : decode cX12_ways 5 = .ok (.ifCond .ne 7, 3) := by decide +kernel
theorem dX12_ways_8 : decode cX12_ways 8 = .ok (.lconst 1, 1) := by decide +kernel
theorem dX12_ways_9 : decode cX12_ways 9 = .ok (.goto 4, 3) := by decide +kernel
theorem dX12_ways_12 : decode cX12_ways 12 = .ok (.lconst 0, 1) := by decide +kernel
theorem dX12_ways_13 : decode cX12_ways 13 = .ok (.lreturn, 1) := by decide +kernel
theorem dX12_ways_14 : decode cX12_ways 14 = .ok (.lconst 1, 1) := by decide +kernel
theorem dX12_ways_15 : decode cX12_ways 15 = .ok (.lstore_n 2, 1) := by decide +kernel
theorem dX12_ways_16 : decode cX12_ways 16 = .ok (.iconst 1, 1) := by decide +kernel
theorem dX12_ways_17 : decode cX12_ways 17 = .ok (.istore 4, 2) := by decide +kernel
theorem dX12_ways_19 : decode cX12_ways 19 = .ok (.iload 4, 2) := by decide +kernel
theorem dX12_ways_21 : decode cX12_ways 21 = .ok (.iload_n 1, 1) := by decide +kernel
theorem dX12_ways_22 : decode cX12_ways 22 = .ok (.if_icmp .ge 21, 3) := by decide +kernel
theorem dX12_ways_25 : decode cX12_ways 25 = .ok (.lload_n 2, 1) := by decide +kernel
theorem dX12_ways_26 : decode cX12_ways 26 = .ok (.iload_n 0, 1) := by decide +kernel
theorem dX12_ways_27 : decode cX12_ways 27 = .ok (.iload 4, 2) := by decide +kernel
theorem dX12_ways_29 : decode cX12_ways 29 = .ok (.iadd, 1) := by decide +kernel
theorem dX12_ways_30 : decode cX12_ways 30 = .ok (.i2l, 1) := by decide +kernel
theorem dX12_ways_31 : decode cX12_ways 31 = .ok (.lmul, 1) := by decide +kernel
theorem dX12_ways_32 : decode cX12_ways 32 = .ok (.iload 4, 2) := by decide +kernel
theorem dX12_ways_34 : decode cX12_ways 34 = .ok (.i2l, 1) := by decide +kernel
theorem dX12_ways_35 : decode cX12_ways 35 = .ok (.ldiv, 1) := by decide +kernel
theorem dX12_ways_36 : decode cX12_ways 36 = .ok (.lstore_n 2, 1) := by decide +kernel
theorem dX12_ways_37 : decode cX12_ways 37 = .ok (.iinc 4 1, 3) := by decide +kernel
theorem dX12_ways_40 : decode cX12_ways 40 = .ok (.goto (-21), 3) := by decide +kernel
theorem dX12_ways_43 : decode cX12_ways 43 = .ok (.lload_n 2, 1) := by decide +kernel
theorem dX12_ways_44 : decode cX12_ways 44 = .ok (.lreturn, 1) := by decide +kernel
theorem dX12_positionsOf_0 : decode cX12_positionsOf 0 = .ok (.aload_n 0, 1) := by decide +kernel
theorem dX12_positionsOf_1 : decode cX12_positionsOf 1 = .ok (.iconst 0, 1) := by decide +kernel
theorem dX12_positionsOf_2 : decode cX12_positionsOf 2 = .ok (.invokevirtual 350, 3) := by decide +kernel
theorem dX12_positionsOf_5 : decode cX12_positionsOf 5 = .ok (.iload_n 1, 1) := by decide +kernel
theorem dX12_positionsOf_6 : decode cX12_positionsOf 6 = .ok (.aload_n 0, 1) := by decide +kernel
theorem dX12_positionsOf_7 : decode cX12_positionsOf 7 = .ok (.getfield 347, 3) := by decide +kernel
theorem dX12_positionsOf_10 : decode cX12_positionsOf 10 = .ok (.invokestatic 353, 3) := by decide +kernel
theorem dX12_positionsOf_13 : decode cX12_positionsOf 13 = .ok (.lreturn, 1) := by decide +kernel
theorem dX12_numberOf_0 : decode cX12_numberOf 0 = .ok (.aload_n 0, 1) := by decide +kernel
theorem dX12_numberOf_1 : decode cX12_numberOf 1 = .ok (.iload_n 1, 1) := by decide +kernel
theorem dX12_numberOf_2 : decode cX12_numberOf 2 = .ok (.invokevirtual 350, 3) := by decide +kernel
theorem dX12_numberOf_5 : decode cX12_numberOf 5 = .ok (.iconst 0, 1) := by decide +kernel
theorem dX12_numberOf_6 : decode cX12_numberOf 6 = .ok (.istore_n 2, 1) := by decide +kernel
theorem dX12_numberOf_7 : decode cX12_numberOf 7 = .ok (.iconst 0, 1) := by decide +kernel
theorem dX12_numberOf_8 : decode cX12_numberOf 8 = .ok (.istore_n 3, 1) := by decide +kernel
theorem dX12_numberOf_9 : decode cX12_numberOf 9 = .ok (.iload_n 3, 1) := by decide +kernel
theorem dX12_numberOf_10 : decode cX12_numberOf 10 = .ok (.aload_n 0, 1) := by decide +kernel
theorem dX12_numberOf_11 : decode cX12_numberOf 11 = .ok (.getfield 347, 3) := by decide +kernel
theorem dX12_numberOf_14 : decode cX12_numberOf 14 = .ok (.if_icmp .ge 23, 3) := by decide +kernel
theorem dX12_numberOf_17 : decode cX12_numberOf 17 = .ok (.iload_n 2, 1) := by decide +kernel
theorem dX12_numberOf_18 : decode cX12_numberOf 18 = .ok (.aload_n 0, 1) := by decide +kernel
theorem dX12_numberOf_19 : decode cX12_numberOf 19 = .ok (.getfield 33, 3) := by decide +kernel
theorem dX12_numberOf_22 : decode cX12_numberOf 22 = .ok (.aload_n 0, 1) := by decide +kernel
theorem dX12_numberOf_23 : decode cX12_numberOf 23 = .ok (.getfield 48, 3) := by decide +kernel
theorem dX12_numberOf_26 : decode cX12_numberOf 26 = .ok (.iload_n 3, 1) := by decide +kernel
theorem dX12_numberOf_27 : decode cX12_numberOf 27 = .ok (.iaload, 1) := by decide +kernel
theorem dX12_numberOf_28 : decode cX12_numberOf 28 = .ok (.iaload, 1) := by decide +kernel
theorem dX12_numberOf_29 : decode cX12_numberOf 29 = .ok (.iadd, 1) := by decide +kernel
theorem dX12_numberOf_30 : decode cX12_numberOf 30 = .ok (.istore_n 2, 1) := by decide +kernel
theorem dX12_numberOf_31 : decode cX12_numberOf 31 = .ok (.iinc 3 1, 3) := by decide +kernel
theorem dX12_numberOf_34 : decode cX12_numberOf 34 = .ok (.goto (-25), 3) := by decide +kernel
theorem dX12_numberOf_37 : decode cX12_numberOf 37 = .ok (.lconst 0, 1) := by decide +kernel
theorem dX12_numberOf_38 : decode cX12_numberOf 38 = .ok (.lstore_n 3, 1) := by decide +kernel
theorem dX12_numberOf_39 : decode cX12_numberOf 39 = .ok (.iconst 0, 1) := by decide +kernel
theorem dX12_numberOf_40 : decode cX12_numberOf 40 = .ok (.istore 5, 2) := by decide +kernel
theorem dX12_numberOf_42 : decode cX12_numberOf 42 = .ok (.iload 5, 2) := by decide +kernel
theorem dX12_numberOf_44 : decode cX12_numberOf 44 = .ok (.aload_n 0, 1) := by decide +kernel
theorem dX12_numberOf_45 : decode cX12_numberOf 45 = .ok (.getfield 347, 3) := by decide +kernel
theorem dX12_numberOf_48 : decode cX12_numberOf 48 = .ok (.if_icmp .ge 69, 3) := by decide +kernel
theorem dX12_numberOf_51 : decode cX12_numberOf 51 = .ok (.iload_n 2, 1) := by decide +kernel
theorem dX12_numberOf_52 : decode cX12_numberOf 52 = .ok (.istore 6, 2) := by decide +kernel
theorem dX12_numberOf_54 : decode cX12_numberOf 54 = .ok (.iload 6, 2) := by decide +kernel
theorem dX12_numberOf_56 : decode cX12_numberOf 56 = .ok (.aload_n 0, 1) := by decide +kernel
theorem dX12_numberOf_57 : decode cX12_numberOf 57 = .ok (.getfield 33, 3) := by decide +kernel
theorem dX12_numberOf_60 : decode cX12_numberOf 60 = .ok (.aload_n 0, 1) := by decide +kernel
theorem dX12_numberOf_61 : decode cX12_numberOf 61 = .ok (.getfield 48, 3) := by decide +kernel
theorem dX12_numberOf_64 : decode cX12_numberOf 64 = .ok (.iload 5, 2) := by decide +kernel
theorem dX12_numberOf_66 : decode cX12_numberOf 66 = .ok (.iaload, 1) := by decide +kernel
theorem dX12_numberOf_67 : decode cX12_numberOf 67 = .ok (.iaload, 1) := by decide +kernel
theorem dX12_numberOf_68 : decode cX12_numberOf 68 = .ok (.if_icmp .le 28, 3) := by decide +kernel
theorem dX12_numberOf_71 : decode cX12_numberOf 71 = .ok (.lload_n 3, 1) := by decide +kernel
theorem dX12_numberOf_72 : decode cX12_numberOf 72 = .ok (.iload_n 2, 1) := by decide +kernel
theorem dX12_numberOf_73 : decode cX12_numberOf 73 = .ok (.iload 6, 2) := by decide +kernel
theorem dX12_numberOf_75 : decode cX12_numberOf 75 = .ok (.isub, 1) := by decide +kernel
theorem dX12_numberOf_76 : decode cX12_numberOf 76 = .ok (.aload_n 0, 1) := by decide +kernel
theorem dX12_numberOf_77 : decode cX12_numberOf 77 = .ok (.getfield 347, 3) := by decide +kernel
theorem dX12_numberOf_80 : decode cX12_numberOf 80 = .ok (.iload 5, 2) := by decide +kernel
theorem dX12_numberOf_82 : decode cX12_numberOf 82 = .ok (.isub, 1) := by decide +kernel
theorem dX12_numberOf_83 : decode cX12_numberOf 83 = .ok (.iconst 1, 1) := by decide +kernel
theorem dX12_numberOf_84 : decode cX12_numberOf 84 = .ok (.isub, 1) := by decide +kernel
theorem dX12_numberOf_85 : decode cX12_numberOf 85 = .ok (.invokestatic 353, 3) := by decide +kernel
theorem dX12_numberOf_88 : decode cX12_numberOf 88 = .ok (.ladd, 1) := by decide +kernel
theorem dX12_numberOf_89 : decode cX12_numberOf 89 = .ok (.lstore_n 3, 1) := by decide +kernel
theorem dX12_numberOf_90 : decode cX12_numberOf 90 = .ok (.iinc 6 (-1), 3) := by decide +kernel
theorem dX12_numberOf_93 : decode cX12_numberOf 93 = .ok (.goto (-39), 3) := by decide +kernel
theorem dX12_numberOf_96 : decode cX12_numberOf 96 = .ok (.iload_n 2, 1) := by decide +kernel
theorem dX12_numberOf_97 : decode cX12_numberOf 97 = .ok (.aload_n 0, 1) := by decide +kernel
theorem dX12_numberOf_98 : decode cX12_numberOf 98 = .ok (.getfield 33, 3) := by decide +kernel
theorem dX12_numberOf_101 : decode cX12_numberOf 101 = .ok (.aload_n 0, 1) := by decide +kernel
theorem dX12_numberOf_102 : decode cX12_numberOf 102 = .ok (.getfield 48, 3) := by decide +kernel
theorem dX12_numberOf_105 : decode cX12_numberOf 105 = .ok (.iload 5, 2) := by decide +kernel
theorem dX12_numberOf_107 : decode cX12_numberOf 107 = .ok (.iaload, 1) := by decide +kernel
theorem dX12_numberOf_108 : decode cX12_numberOf 108 = .ok (.iaload, 1) := by decide +kernel
theorem dX12_numberOf_109 : decode cX12_numberOf 109 = .ok (.isub, 1) := by decide +kernel
theorem dX12_numberOf_110 : decode cX12_numberOf 110 = .ok (.istore_n 2, 1) := by decide +kernel
theorem dX12_numberOf_111 : decode cX12_numberOf 111 = .ok (.iinc 5 1, 3) := by decide +kernel
theorem dX12_numberOf_114 : decode cX12_numberOf 114 = .ok (.goto (-72), 3) := by decide +kernel
theorem dX12_numberOf_117 : decode cX12_numberOf 117 = .ok (.lload_n 3, 1) := by decide +kernel
theorem dX12_numberOf_118 : decode cX12_numberOf 118 = .ok (.l2i, 1) := by decide +kernel
theorem dX12_numberOf_119 : decode cX12_numberOf 119 = .ok (.ireturn, 1) := by decide +kernel
theorem dX12_lays_0 : decode cX12_lays 0 = .ok (.aload_n 0, 1) := by decide +kernel
theorem dX12_lays_1 : decode cX12_lays 1 = .ok (.iload_n 1, 1) := by decide +kernel
theorem dX12_lays_2 : decode cX12_lays 2 = .ok (.invokevirtual 350, 3) := by decide +kernel
theorem dX12_lays_5 : decode cX12_lays 5 = .ok (.iconst 0, 1) := by decide +kernel
theorem dX12_lays_6 : decode cX12_lays 6 = .ok (.istore 4, 2) := by decide +kernel
theorem dX12_lays_8 : decode cX12_lays 8 = .ok (.iload 4, 2) := by decide +kernel
theorem dX12_lays_10 : decode cX12_lays 10 = .ok (.bipush 12, 2) := by decide +kernel
theorem dX12_lays_12 : decode cX12_lays 12 = .ok (.if_icmp .ge 17, 3) := by decide +kernel
theorem dX12_lays_15 : decode cX12_lays 15 = .ok (.aload_n 0, 1) := by decide +kernel
theorem dX12_lays_16 : decode cX12_lays 16 = .ok (.getfield 33, 3) := by decide +kernel
theorem dX12_lays_19 : decode cX12_lays 19 = .ok (.iload 4, 2) := by decide +kernel
theorem dX12_lays_21 : decode cX12_lays 21 = .ok (.iconst 0, 1) := by decide +kernel
theorem dX12_lays_22 : decode cX12_lays 22 = .ok (.iastore, 1) := by decide +kernel
theorem dX12_lays_23 : decode cX12_lays 23 = .ok (.iinc 4 1, 3) := by decide +kernel
theorem dX12_lays_26 : decode cX12_lays 26 = .ok (.goto (-18), 3) := by decide +kernel
theorem dX12_lays_29 : decode cX12_lays 29 = .ok (.iload_n 2, 1) := by decide +kernel
theorem dX12_lays_30 : decode cX12_lays 30 = .ok (.istore 4, 2) := by decide +kernel
theorem dX12_lays_32 : decode cX12_lays 32 = .ok (.iload_n 3, 1) := by decide +kernel
theorem dX12_lays_33 : decode cX12_lays 33 = .ok (.i2l, 1) := by decide +kernel
theorem dX12_lays_34 : decode cX12_lays 34 = .ok (.lstore 5, 2) := by decide +kernel
theorem dX12_lays_36 : decode cX12_lays 36 = .ok (.iconst 0, 1) := by decide +kernel
theorem dX12_lays_37 : decode cX12_lays 37 = .ok (.istore 7, 2) := by decide +kernel
theorem dX12_lays_39 : decode cX12_lays 39 = .ok (.iload 7, 2) := by decide +kernel
theorem dX12_lays_41 : decode cX12_lays 41 = .ok (.aload_n 0, 1) := by decide +kernel
theorem dX12_lays_42 : decode cX12_lays 42 = .ok (.getfield 347, 3) := by decide +kernel
theorem dX12_lays_45 : decode cX12_lays 45 = .ok (.if_icmp .ge 85, 3) := by decide +kernel
theorem dX12_lays_48 : decode cX12_lays 48 = .ok (.iload 4, 2) := by decide +kernel
theorem dX12_lays_50 : decode cX12_lays 50 = .ok (.istore 8, 2) := by decide +kernel
theorem dX12_lays_52 : decode cX12_lays 52 = .ok (.lload 5, 2) := by decide +kernel
theorem dX12_lays_54 : decode cX12_lays 54 = .ok (.iload 4, 2) := by decide +kernel
theorem dX12_lays_56 : decode cX12_lays 56 = .ok (.iload 8, 2) := by decide +kernel
theorem dX12_lays_58 : decode cX12_lays 58 = .ok (.isub, 1) := by decide +kernel
theorem dX12_lays_59 : decode cX12_lays 59 = .ok (.aload_n 0, 1) := by decide +kernel
theorem dX12_lays_60 : decode cX12_lays 60 = .ok (.getfield 347, 3) := by decide +kernel
theorem dX12_lays_63 : decode cX12_lays 63 = .ok (.iload 7, 2) := by decide +kernel
theorem dX12_lays_65 : decode cX12_lays 65 = .ok (.isub, 1) := by decide +kernel
theorem dX12_lays_66 : decode cX12_lays 66 = .ok (.iconst 1, 1) := by decide +kernel
theorem dX12_lays_67 : decode cX12_lays 67 = .ok (.isub, 1) := by decide +kernel
theorem dX12_lays_68 : decode cX12_lays 68 = .ok (.invokestatic 353, 3) := by decide +kernel
theorem dX12_lays_71 : decode cX12_lays 71 = .ok (.lcmp, 1) := by decide +kernel
theorem dX12_lays_72 : decode cX12_lays 72 = .ok (.ifCond .lt 31, 3) := by decide +kernel
theorem dX12_lays_75 : decode cX12_lays 75 = .ok (.lload 5, 2) := by decide +kernel
theorem dX12_lays_77 : decode cX12_lays 77 = .ok (.iload 4, 2) := by decide +kernel
theorem dX12_lays_79 : decode cX12_lays 79 = .ok (.iload 8, 2) := by decide +kernel
theorem dX12_lays_81 : decode cX12_lays 81 = .ok (.isub, 1) := by decide +kernel
theorem dX12_lays_82 : decode cX12_lays 82 = .ok (.aload_n 0, 1) := by decide +kernel
theorem dX12_lays_83 : decode cX12_lays 83 = .ok (.getfield 347, 3) := by decide +kernel
theorem dX12_lays_86 : decode cX12_lays 86 = .ok (.iload 7, 2) := by decide +kernel
theorem dX12_lays_88 : decode cX12_lays 88 = .ok (.isub, 1) := by decide +kernel
theorem dX12_lays_89 : decode cX12_lays 89 = .ok (.iconst 1, 1) := by decide +kernel
theorem dX12_lays_90 : decode cX12_lays 90 = .ok (.isub, 1) := by decide +kernel
theorem dX12_lays_91 : decode cX12_lays 91 = .ok (.invokestatic 353, 3) := by decide +kernel
theorem dX12_lays_94 : decode cX12_lays 94 = .ok (.lsub, 1) := by decide +kernel
theorem dX12_lays_95 : decode cX12_lays 95 = .ok (.lstore 5, 2) := by decide +kernel
theorem dX12_lays_97 : decode cX12_lays 97 = .ok (.iinc 8 (-1), 3) := by decide +kernel
theorem dX12_lays_100 : decode cX12_lays 100 = .ok (.goto (-48), 3) := by decide +kernel
theorem dX12_lays_103 : decode cX12_lays 103 = .ok (.aload_n 0, 1) := by decide +kernel
theorem dX12_lays_104 : decode cX12_lays 104 = .ok (.getfield 33, 3) := by decide +kernel
theorem dX12_lays_107 : decode cX12_lays 107 = .ok (.aload_n 0, 1) := by decide +kernel
theorem dX12_lays_108 : decode cX12_lays 108 = .ok (.getfield 48, 3) := by decide +kernel
theorem dX12_lays_111 : decode cX12_lays 111 = .ok (.iload 7, 2) := by decide +kernel
theorem dX12_lays_113 : decode cX12_lays 113 = .ok (.iaload, 1) := by decide +kernel
theorem dX12_lays_114 : decode cX12_lays 114 = .ok (.iload 8, 2) := by decide +kernel
theorem dX12_lays_116 : decode cX12_lays 116 = .ok (.iastore, 1) := by decide +kernel
theorem dX12_lays_117 : decode cX12_lays 117 = .ok (.iload 4, 2) := by decide +kernel
theorem dX12_lays_119 : decode cX12_lays 119 = .ok (.iload 8, 2) := by decide +kernel
theorem dX12_lays_121 : decode cX12_lays 121 = .ok (.isub, 1) := by decide +kernel
theorem dX12_lays_122 : decode cX12_lays 122 = .ok (.istore 4, 2) := by decide +kernel
theorem dX12_lays_124 : decode cX12_lays 124 = .ok (.iinc 7 1, 3) := by decide +kernel
theorem dX12_lays_127 : decode cX12_lays 127 = .ok (.goto (-88), 3) := by decide +kernel
theorem dX12_lays_130 : decode cX12_lays 130 = .ok (.return_, 1) := by decide +kernel
theorem dX12_seedsNow_0 : decode cX12_seedsNow 0 = .ok (.iconst 0, 1) := by decide +kernel
theorem dX12_seedsNow_1 : decode cX12_seedsNow 1 = .ok (.istore_n 1, 1) := by decide +kernel
theorem dX12_seedsNow_2 : decode cX12_seedsNow 2 = .ok (.iconst 0, 1) := by decide +kernel
theorem dX12_seedsNow_3 : decode cX12_seedsNow 3 = .ok (.istore_n 2, 1) := by decide +kernel
theorem dX12_seedsNow_4 : decode cX12_seedsNow 4 = .ok (.iload_n 2, 1) := by decide +kernel
theorem dX12_seedsNow_5 : decode cX12_seedsNow 5 = .ok (.aload_n 0, 1) := by decide +kernel
theorem dX12_seedsNow_6 : decode cX12_seedsNow 6 = .ok (.invokevirtual 245, 3) := by decide +kernel
theorem dX12_seedsNow_9 : decode cX12_seedsNow 9 = .ok (.if_icmp .ge 21, 3) := by decide +kernel
theorem dX12_seedsNow_12 : decode cX12_seedsNow 12 = .ok (.iload_n 1, 1) := by decide +kernel
theorem dX12_seedsNow_13 : decode cX12_seedsNow 13 = .ok (.aload_n 0, 1) := by decide +kernel
theorem dX12_seedsNow_14 : decode cX12_seedsNow 14 = .ok (.getfield 9, 3) := by decide +kernel
theorem dX12_seedsNow_17 : decode cX12_seedsNow 17 = .ok (.bipush 13, 2) := by decide +kernel
theorem dX12_seedsNow_19 : decode cX12_seedsNow 19 = .ok (.iload_n 2, 1) := by decide +kernel
theorem dX12_seedsNow_20 : decode cX12_seedsNow 20 = .ok (.iadd, 1) := by decide +kernel
theorem dX12_seedsNow_21 : decode cX12_seedsNow 21 = .ok (.iaload, 1) := by decide +kernel
theorem dX12_seedsNow_22 : decode cX12_seedsNow 22 = .ok (.iadd, 1) := by decide +kernel
theorem dX12_seedsNow_23 : decode cX12_seedsNow 23 = .ok (.istore_n 1, 1) := by decide +kernel
theorem dX12_seedsNow_24 : decode cX12_seedsNow 24 = .ok (.iinc 2 1, 3) := by decide +kernel
theorem dX12_seedsNow_27 : decode cX12_seedsNow 27 = .ok (.goto (-23), 3) := by decide +kernel
theorem dX12_seedsNow_30 : decode cX12_seedsNow 30 = .ok (.iload_n 1, 1) := by decide +kernel
theorem dX12_seedsNow_31 : decode cX12_seedsNow 31 = .ok (.ireturn, 1) := by decide +kernel
theorem dX12_positions_0 : decode cX12_positions 0 = .ok (.aload_n 0, 1) := by decide +kernel
theorem dX12_positions_1 : decode cX12_positions 1 = .ok (.iload_n 1, 1) := by decide +kernel
theorem dX12_positions_2 : decode cX12_positions 2 = .ok (.invokestatic 254, 3) := by decide +kernel
theorem dX12_positions_5 : decode cX12_positions 5 = .ok (.ifCond .ne 7, 3) := by decide +kernel
theorem dX12_positions_8 : decode cX12_positions 8 = .ok (.iconst 1, 1) := by decide +kernel
theorem dX12_positions_9 : decode cX12_positions 9 = .ok (.goto 20, 3) := by decide +kernel
theorem dX12_positions_12 : decode cX12_positions 12 = .ok (.iload_n 2, 1) := by decide +kernel
theorem dX12_positions_13 : decode cX12_positions 13 = .ok (.i2l, 1) := by decide +kernel
theorem dX12_positions_14 : decode cX12_positions 14 = .ok (.lconst 0, 1) := by decide +kernel
theorem dX12_positions_15 : decode cX12_positions 15 = .ok (.ldc2_w 357, 3) := by decide +kernel
theorem dX12_positions_18 : decode cX12_positions 18 = .ok (.invokestatic 166, 3) := by decide +kernel
theorem dX12_positions_21 : decode cX12_positions 21 = .ok (.ifCond .eq 7, 3) := by decide +kernel
theorem dX12_positions_24 : decode cX12_positions 24 = .ok (.iconst 0, 1) := by decide +kernel
theorem dX12_positions_25 : decode cX12_positions 25 = .ok (.goto 4, 3) := by decide +kernel
theorem dX12_positions_28 : decode cX12_positions 28 = .ok (.iconst 2, 1) := by decide +kernel
theorem dX12_positions_29 : decode cX12_positions 29 = .ok (.putfield 107, 3) := by decide +kernel
theorem dX12_positions_32 : decode cX12_positions 32 = .ok (.aload_n 0, 1) := by decide +kernel
theorem dX12_positions_33 : decode cX12_positions 33 = .ok (.getfield 107, 3) := by decide +kernel
theorem dX12_positions_36 : decode cX12_positions 36 = .ok (.ifCond .le 5, 3) := by decide +kernel
theorem dX12_positions_39 : decode cX12_positions 39 = .ok (.iconst 0, 1) := by decide +kernel
theorem dX12_positions_40 : decode cX12_positions 40 = .ok (.ireturn, 1) := by decide +kernel
theorem dX12_positions_41 : decode cX12_positions 41 = .ok (.aload_n 0, 1) := by decide +kernel
theorem dX12_positions_42 : decode cX12_positions 42 = .ok (.iload_n 2, 1) := by decide +kernel
theorem dX12_positions_43 : decode cX12_positions 43 = .ok (.invokevirtual 359, 3) := by decide +kernel
theorem dX12_positions_46 : decode cX12_positions 46 = .ok (.lstore_n 3, 1) := by decide +kernel
theorem dX12_positions_47 : decode cX12_positions 47 = .ok (.lload_n 3, 1) := by decide +kernel
theorem dX12_positions_48 : decode cX12_positions 48 = .ok (.ldc2_w 363, 3) := by decide +kernel
theorem dX12_positions_51 : decode cX12_positions 51 = .ok (.lcmp, 1) := by decide +kernel
theorem dX12_positions_52 : decode cX12_positions 52 = .ok (.ifCond .le 9, 3) := by decide +kernel
theorem dX12_positions_55 : decode cX12_positions 55 = .ok (.sipush (-1000), 3) := by decide +kernel
theorem dX12_positions_58 : decode cX12_positions 58 = .ok (.goto 5, 3) := by decide +kernel
theorem dX12_positions_61 : decode cX12_positions 61 = .ok (.lload_n 3, 1) := by decide +kernel
theorem dX12_positions_62 : decode cX12_positions 62 = .ok (.l2i, 1) := by decide +kernel
theorem dX12_positions_63 : decode cX12_positions 63 = .ok (.ireturn, 1) := by decide +kernel
theorem dX12_place_0 : decode cX12_place 0 = .ok (.aload_n 0, 1) := by decide +kernel
theorem dX12_place_1 : decode cX12_place 1 = .ok (.iconst 0, 1) := by decide +kernel
theorem dX12_place_2 : decode cX12_place 2 = .ok (.putfield 107, 3) := by decide +kernel
theorem dX12_place_5 : decode cX12_place 5 = .ok (.aload_n 0, 1) := by decide +kernel
theorem dX12_place_6 : decode cX12_place 6 = .ok (.aload_n 0, 1) := by decide +kernel
theorem dX12_place_7 : decode cX12_place 7 = .ok (.invokevirtual 365, 3) := by decide +kernel
theorem dX12_place_10 : decode cX12_place 10 = .ok (.invokevirtual 359, 3) := by decide +kernel
theorem dX12_place_13 : decode cX12_place 13 = .ok (.ldc2_w 363, 3) := by decide +kernel
theorem dX12_place_16 : decode cX12_place 16 = .ok (.lcmp, 1) := by decide +kernel
theorem dX12_place_17 : decode cX12_place 17 = .ok (.ifCond .le 7, 3) := by decide +kernel
theorem dX12_place_20 : decode cX12_place 20 = .ok (.sipush (-1000), 3) := by decide +kernel
theorem dX12_place_23 : decode cX12_place 23 = .ok (.ireturn, 1) := by decide +kernel
theorem dX12_place_24 : decode cX12_place 24 = .ok (.aload_n 0, 1) := by decide +kernel
theorem dX12_place_25 : decode cX12_place 25 = .ok (.invokevirtual 293, 3) := by decide +kernel
theorem dX12_place_28 : decode cX12_place 28 = .ok (.aload_n 0, 1) := by decide +kernel
theorem dX12_place_29 : decode cX12_place 29 = .ok (.aload_n 0, 1) := by decide +kernel
theorem dX12_place_30 : decode cX12_place 30 = .ok (.getfield 9, 3) := by decide +kernel
theorem dX12_place_33 : decode cX12_place 33 = .ok (.iconst 2, 1) := by decide +kernel
theorem dX12_place_34 : decode cX12_place 34 = .ok (.iaload, 1) := by decide +kernel
theorem dX12_place_35 : decode cX12_place 35 = .ok (.invokevirtual 368, 3) := by decide +kernel
theorem dX12_place_38 : decode cX12_place 38 = .ok (.ireturn, 1) := by decide +kernel
theorem dX12_ofPlace_0 : decode cX12_ofPlace 0 = .ok (.aload_n 0, 1) := by decide +kernel
theorem dX12_ofPlace_1 : decode cX12_ofPlace 1 = .ok (.iload_n 1, 1) := by decide +kernel
theorem dX12_ofPlace_2 : decode cX12_ofPlace 2 = .ok (.invokestatic 254, 3) := by decide +kernel
theorem dX12_ofPlace_5 : decode cX12_ofPlace 5 = .ok (.ifCond .ne 7, 3) := by decide +kernel
theorem dX12_ofPlace_8 : decode cX12_ofPlace 8 = .ok (.iconst 1, 1) := by decide +kernel
theorem dX12_ofPlace_9 : decode cX12_ofPlace 9 = .ok (.goto 56, 3) := by decide +kernel
theorem dX12_ofPlace_12 : decode cX12_ofPlace 12 = .ok (.iload_n 2, 1) := by decide +kernel
theorem dX12_ofPlace_13 : decode cX12_ofPlace 13 = .ok (.i2l, 1) := by decide +kernel
theorem dX12_ofPlace_14 : decode cX12_ofPlace 14 = .ok (.lconst 0, 1) := by decide +kernel
theorem dX12_ofPlace_15 : decode cX12_ofPlace 15 = .ok (.ldc2_w 357, 3) := by decide +kernel
theorem dX12_ofPlace_18 : decode cX12_ofPlace 18 = .ok (.invokestatic 166, 3) := by decide +kernel
theorem dX12_ofPlace_21 : decode cX12_ofPlace 21 = .ok (.ifCond .ne 7, 3) := by decide +kernel
theorem dX12_ofPlace_24 : decode cX12_ofPlace 24 = .ok (.iconst 2, 1) := by decide +kernel
theorem dX12_ofPlace_25 : decode cX12_ofPlace 25 = .ok (.goto 40, 3) := by decide +kernel
theorem dX12_ofPlace_28 : decode cX12_ofPlace 28 = .ok (.aload_n 0, 1) := by decide +kernel
theorem dX12_ofPlace_29 : decode cX12_ofPlace 29 = .ok (.iload_n 2, 1) := by decide +kernel
theorem dX12_ofPlace_30 : decode cX12_ofPlace 30 = .ok (.invokevirtual 359, 3) := by decide +kernel
theorem dX12_ofPlace_33 : decode cX12_ofPlace 33 = .ok (.ldc2_w 363, 3) := by decide +kernel
theorem dX12_ofPlace_36 : decode cX12_ofPlace 36 = .ok (.lcmp, 1) := by decide +kernel
theorem dX12_ofPlace_37 : decode cX12_ofPlace 37 = .ok (.ifCond .le 7, 3) := by decide +kernel
theorem dX12_ofPlace_40 : decode cX12_ofPlace 40 = .ok (.iconst 3, 1) := by decide +kernel
theorem dX12_ofPlace_41 : decode cX12_ofPlace 41 = .ok (.goto 24, 3) := by decide +kernel
theorem dX12_ofPlace_44 : decode cX12_ofPlace 44 = .ok (.iload_n 3, 1) := by decide +kernel
theorem dX12_ofPlace_45 : decode cX12_ofPlace 45 = .ok (.i2l, 1) := by decide +kernel
theorem dX12_ofPlace_46 : decode cX12_ofPlace 46 = .ok (.lconst 0, 1) := by decide +kernel
theorem dX12_ofPlace_47 : decode cX12_ofPlace 47 = .ok (.aload_n 0, 1) := by decide +kernel
theorem dX12_ofPlace_48 : decode cX12_ofPlace 48 = .ok (.iload_n 2, 1) := by decide +kernel
theorem dX12_ofPlace_49 : decode cX12_ofPlace 49 = .ok (.invokevirtual 359, 3) := by decide +kernel
theorem dX12_ofPlace_52 : decode cX12_ofPlace 52 = .ok (.lconst 1, 1) := by decide +kernel
theorem dX12_ofPlace_53 : decode cX12_ofPlace 53 = .ok (.lsub, 1) := by decide +kernel
theorem dX12_ofPlace_54 : decode cX12_ofPlace 54 = .ok (.invokestatic 166, 3) := by decide +kernel
theorem dX12_ofPlace_57 : decode cX12_ofPlace 57 = .ok (.ifCond .eq 7, 3) := by decide +kernel
theorem dX12_ofPlace_60 : decode cX12_ofPlace 60 = .ok (.iconst 0, 1) := by decide +kernel
theorem dX12_ofPlace_61 : decode cX12_ofPlace 61 = .ok (.goto 4, 3) := by decide +kernel
theorem dX12_ofPlace_64 : decode cX12_ofPlace 64 = .ok (.iconst 1, 1) := by decide +kernel
theorem dX12_ofPlace_65 : decode cX12_ofPlace 65 = .ok (.putfield 107, 3) := by decide +kernel
theorem dX12_ofPlace_68 : decode cX12_ofPlace 68 = .ok (.aload_n 0, 1) := by decide +kernel
theorem dX12_ofPlace_69 : decode cX12_ofPlace 69 = .ok (.getfield 107, 3) := by decide +kernel
theorem dX12_ofPlace_72 : decode cX12_ofPlace 72 = .ok (.ifCond .ne 25, 3) := by decide +kernel
theorem dX12_ofPlace_75 : decode cX12_ofPlace 75 = .ok (.iload 4, 2) := by decide +kernel
theorem dX12_ofPlace_77 : decode cX12_ofPlace 77 = .ok (.i2l, 1) := by decide +kernel
theorem dX12_ofPlace_78 : decode cX12_ofPlace 78 = .ok (.lconst 0, 1) := by decide +kernel
theorem dX12_ofPlace_79 : decode cX12_ofPlace 79 = .ok (.aload_n 0, 1) := by decide +kernel
theorem dX12_ofPlace_80 : decode cX12_ofPlace 80 = .ok (.invokevirtual 245, 3) := by decide +kernel
theorem dX12_ofPlace_83 : decode cX12_ofPlace 83 = .ok (.iconst 1, 1) := by decide +kernel
theorem dX12_ofPlace_84 : decode cX12_ofPlace 84 = .ok (.isub, 1) := by decide +kernel
theorem dX12_ofPlace_85 : decode cX12_ofPlace 85 = .ok (.i2l, 1) := by decide +kernel
theorem dX12_ofPlace_86 : decode cX12_ofPlace 86 = .ok (.invokestatic 166, 3) := by decide +kernel
theorem dX12_ofPlace_89 : decode cX12_ofPlace 89 = .ok (.ifCond .ne 8, 3) := by decide +kernel
theorem dX12_ofPlace_92 : decode cX12_ofPlace 92 = .ok (.aload_n 0, 1) := by decide +kernel
theorem dX12_ofPlace_93 : decode cX12_ofPlace 93 = .ok (.iconst 4, 1) := by decide +kernel
theorem dX12_ofPlace_94 : decode cX12_ofPlace 94 = .ok (.putfield 107, 3) := by decide +kernel
theorem dX12_ofPlace_97 : decode cX12_ofPlace 97 = .ok (.aload_n 0, 1) := by decide +kernel
theorem dX12_ofPlace_98 : decode cX12_ofPlace 98 = .ok (.getfield 107, 3) := by decide +kernel
theorem dX12_ofPlace_101 : decode cX12_ofPlace 101 = .ok (.ifCond .le 5, 3) := by decide +kernel
theorem dX12_ofPlace_104 : decode cX12_ofPlace 104 = .ok (.iconst 0, 1) := by decide +kernel
theorem dX12_ofPlace_105 : decode cX12_ofPlace 105 = .ok (.ireturn, 1) := by decide +kernel
theorem dX12_ofPlace_106 : decode cX12_ofPlace 106 = .ok (.aload_n 0, 1) := by decide +kernel
theorem dX12_ofPlace_107 : decode cX12_ofPlace 107 = .ok (.iload_n 1, 1) := by decide +kernel
theorem dX12_ofPlace_108 : decode cX12_ofPlace 108 = .ok (.iload_n 2, 1) := by decide +kernel
theorem dX12_ofPlace_109 : decode cX12_ofPlace 109 = .ok (.iload_n 3, 1) := by decide +kernel
theorem dX12_ofPlace_110 : decode cX12_ofPlace 110 = .ok (.invokevirtual 371, 3) := by decide +kernel
theorem dX12_ofPlace_113 : decode cX12_ofPlace 113 = .ok (.iload 4, 2) := by decide +kernel
theorem dX12_ofPlace_115 : decode cX12_ofPlace 115 = .ok (.iload_n 1, 1) := by decide +kernel
theorem dX12_ofPlace_116 : decode cX12_ofPlace 116 = .ok (.ifCond .ne 7, 3) := by decide +kernel
theorem dX12_ofPlace_119 : decode cX12_ofPlace 119 = .ok (.iconst 0, 1) := by decide +kernel
theorem dX12_ofPlace_120 : decode cX12_ofPlace 120 = .ok (.goto 9, 3) := by decide +kernel
theorem dX12_ofPlace_123 : decode cX12_ofPlace 123 = .ok (.aload_n 0, 1) := by decide +kernel
theorem dX12_ofPlace_124 : decode cX12_ofPlace 124 = .ok (.getfield 9, 3) := by decide +kernel
theorem dX12_ofPlace_127 : decode cX12_ofPlace 127 = .ok (.iconst 1, 1) := by decide +kernel
theorem dX12_ofPlace_128 : decode cX12_ofPlace 128 = .ok (.iaload, 1) := by decide +kernel
theorem dX12_ofPlace_129 : decode cX12_ofPlace 129 = .ok (.iadd, 1) := by decide +kernel
theorem dX12_ofPlace_130 : decode cX12_ofPlace 130 = .ok (.aload_n 0, 1) := by decide +kernel
theorem dX12_ofPlace_131 : decode cX12_ofPlace 131 = .ok (.invokevirtual 245, 3) := by decide +kernel
theorem dX12_ofPlace_134 : decode cX12_ofPlace 134 = .ok (.irem, 1) := by decide +kernel
theorem dX12_ofPlace_135 : decode cX12_ofPlace 135 = .ok (.istore 5, 2) := by decide +kernel
theorem dX12_ofPlace_137 : decode cX12_ofPlace 137 = .ok (.aload_n 0, 1) := by decide +kernel
theorem dX12_ofPlace_138 : decode cX12_ofPlace 138 = .ok (.iload 5, 2) := by decide +kernel
theorem dX12_ofPlace_140 : decode cX12_ofPlace 140 = .ok (.invokevirtual 251, 3) := by decide +kernel
theorem dX12_ofPlace_143 : decode cX12_ofPlace 143 = .ok (.ifCond .eq 7, 3) := by decide +kernel
theorem dX12_ofPlace_146 : decode cX12_ofPlace 146 = .ok (.iconst (-1), 1) := by decide +kernel
theorem dX12_ofPlace_147 : decode cX12_ofPlace 147 = .ok (.goto 10, 3) := by decide +kernel
theorem dX12_ofPlace_150 : decode cX12_ofPlace 150 = .ok (.aload_n 0, 1) := by decide +kernel
theorem dX12_ofPlace_151 : decode cX12_ofPlace 151 = .ok (.getfield 33, 3) := by decide +kernel
theorem dX12_ofPlace_154 : decode cX12_ofPlace 154 = .ok (.iload 5, 2) := by decide +kernel
theorem dX12_ofPlace_156 : decode cX12_ofPlace 156 = .ok (.iaload, 1) := by decide +kernel
theorem dX12_ofPlace_157 : decode cX12_ofPlace 157 = .ok (.ireturn, 1) := by decide +kernel
theorem dX12_areRules_0 : decode cX12_areRules 0 = .ok (.iconst 1, 1) := by decide +kernel
theorem dX12_areRules_1 : decode cX12_areRules 1 = .ok (.istore_n 1, 1) := by decide +kernel
theorem dX12_areRules_2 : decode cX12_areRules 2 = .ok (.iconst 1, 1) := by decide +kernel
theorem dX12_areRules_3 : decode cX12_areRules 3 = .ok (.istore_n 2, 1) := by decide +kernel
theorem dX12_areRules_4 : decode cX12_areRules 4 = .ok (.iload_n 2, 1) := by decide +kernel
theorem dX12_areRules_5 : decode cX12_areRules 5 = .ok (.bipush 10, 2) := by decide +kernel
theorem dX12_areRules_7 : decode cX12_areRules 7 = .ok (.if_icmp .gt 39, 3) := by decide +kernel
theorem dX12_areRules_10 : decode cX12_areRules 10 = .ok (.iload_n 1, 1) := by decide +kernel
theorem dX12_areRules_11 : decode cX12_areRules 11 = .ok (.ifCond .eq 27, 3) := by decide +kernel
theorem dX12_areRules_14 : decode cX12_areRules 14 = .ok (.iload_n 2, 1) := by decide +kernel
theorem dX12_areRules_15 : decode cX12_areRules 15 = .ok (.iconst 2, 1) := by decide +kernel
theorem dX12_areRules_16 : decode cX12_areRules 16 = .ok (.if_icmp .eq 18, 3) := by decide +kernel
theorem dX12_areRules_19 : decode cX12_areRules 19 = .ok (.aload_n 0, 1) := by decide +kernel
theorem dX12_areRules_20 : decode cX12_areRules 20 = .ok (.getfield 73, 3) := by decide +kernel
theorem dX12_areRules_23 : decode cX12_areRules 23 = .ok (.iload_n 2, 1) := by decide +kernel
theorem dX12_areRules_24 : decode cX12_areRules 24 = .ok (.iaload, 1) := by decide +kernel
theorem dX12_areRules_25 : decode cX12_areRules 25 = .ok (.aload_n 0, 1) := by decide +kernel
theorem dX12_areRules_26 : decode cX12_areRules 26 = .ok (.getfield 9, 3) := by decide +kernel
theorem dX12_areRules_29 : decode cX12_areRules 29 = .ok (.iload_n 2, 1) := by decide +kernel
theorem dX12_areRules_30 : decode cX12_areRules 30 = .ok (.iaload, 1) := by decide +kernel
theorem dX12_areRules_31 : decode cX12_areRules 31 = .ok (.if_icmp .ne 7, 3) := by decide +kernel
theorem dX12_areRules_34 : decode cX12_areRules 34 = .ok (.iconst 1, 1) := by decide +kernel
theorem dX12_areRules_35 : decode cX12_areRules 35 = .ok (.goto 4, 3) := by decide +kernel
theorem dX12_areRules_38 : decode cX12_areRules 38 = .ok (.iconst 0, 1) := by decide +kernel
theorem dX12_areRules_39 : decode cX12_areRules 39 = .ok (.istore_n 1, 1) := by decide +kernel
theorem dX12_areRules_40 : decode cX12_areRules 40 = .ok (.iinc 2 1, 3) := by decide +kernel
theorem dX12_areRules_43 : decode cX12_areRules 43 = .ok (.goto (-39), 3) := by decide +kernel
theorem dX12_areRules_46 : decode cX12_areRules 46 = .ok (.iload_n 1, 1) := by decide +kernel
theorem dX12_areRules_47 : decode cX12_areRules 47 = .ok (.ireturn, 1) := by decide +kernel
theorem dX12_solves_0 : decode cX12_solves 0 = .ok (.lconst 0, 1) := by decide +kernel
theorem dX12_solves_1 : decode cX12_solves 1 = .ok (.lstore_n 2, 1) := by decide +kernel
theorem dX12_solves_2 : decode cX12_solves 2 = .ok (.iconst 0, 1) := by decide +kernel
theorem dX12_solves_3 : decode cX12_solves 3 = .ok (.istore 4, 2) := by decide +kernel
theorem dX12_solves_5 : decode cX12_solves 5 = .ok (.iload 4, 2) := by decide +kernel
theorem dX12_solves_7 : decode cX12_solves 7 = .ok (.iload_n 1, 1) := by decide +kernel
theorem dX12_solves_8 : decode cX12_solves 8 = .ok (.if_icmp .gt 28, 3) := by decide +kernel
theorem dX12_solves_11 : decode cX12_solves 11 = .ok (.lload_n 2, 1) := by decide +kernel
theorem dX12_solves_12 : decode cX12_solves 12 = .ok (.aload_n 0, 1) := by decide +kernel
theorem dX12_solves_13 : decode cX12_solves 13 = .ok (.iload 4, 2) := by decide +kernel
theorem dX12_solves_15 : decode cX12_solves 15 = .ok (.invokevirtual 359, 3) := by decide +kernel
theorem dX12_solves_18 : decode cX12_solves 18 = .ok (.ladd, 1) := by decide +kernel
theorem dX12_solves_19 : decode cX12_solves 19 = .ok (.lstore_n 2, 1) := by decide +kernel
theorem dX12_solves_20 : decode cX12_solves 20 = .ok (.lload_n 2, 1) := by decide +kernel
theorem dX12_solves_21 : decode cX12_solves 21 = .ok (.ldc2_w 363, 3) := by decide +kernel
theorem dX12_solves_24 : decode cX12_solves 24 = .ok (.lcmp, 1) := by decide +kernel
theorem dX12_solves_25 : decode cX12_solves 25 = .ok (.ifCond .le 5, 3) := by decide +kernel
theorem dX12_solves_28 : decode cX12_solves 28 = .ok (.iconst 0, 1) := by decide +kernel
theorem dX12_solves_29 : decode cX12_solves 29 = .ok (.ireturn, 1) := by decide +kernel
theorem dX12_solves_30 : decode cX12_solves 30 = .ok (.iinc 4 1, 3) := by decide +kernel
theorem dX12_solves_33 : decode cX12_solves 33 = .ok (.goto (-28), 3) := by decide +kernel
theorem dX12_solves_36 : decode cX12_solves 36 = .ok (.aload_n 0, 1) := by decide +kernel
theorem dX12_solves_37 : decode cX12_solves 37 = .ok (.invokevirtual 375, 3) := by decide +kernel
theorem dX12_solves_40 : decode cX12_solves 40 = .ok (.ifCond .ne 45, 3) := by decide +kernel
theorem dX12_solves_43 : decode cX12_solves 43 = .ok (.iconst 1, 1) := by decide +kernel
theorem dX12_solves_44 : decode cX12_solves 44 = .ok (.istore 4, 2) := by decide +kernel
theorem dX12_solves_46 : decode cX12_solves 46 = .ok (.iload 4, 2) := by decide +kernel
theorem dX12_solves_48 : decode cX12_solves 48 = .ok (.bipush 10, 2) := by decide +kernel
theorem dX12_solves_50 : decode cX12_solves 50 = .ok (.if_icmp .gt 23, 3) := by decide +kernel
theorem dX12_solves_53 : decode cX12_solves 53 = .ok (.aload_n 0, 1) := by decide +kernel
theorem dX12_solves_54 : decode cX12_solves 54 = .ok (.getfield 73, 3) := by decide +kernel
theorem dX12_solves_57 : decode cX12_solves 57 = .ok (.iload 4, 2) := by decide +kernel
theorem dX12_solves_59 : decode cX12_solves 59 = .ok (.aload_n 0, 1) := by decide +kernel
theorem dX12_solves_60 : decode cX12_solves 60 = .ok (.getfield 9, 3) := by decide +kernel
theorem dX12_solves_63 : decode cX12_solves 63 = .ok (.iload 4, 2) := by decide +kernel
theorem dX12_solves_65 : decode cX12_solves 65 = .ok (.iaload, 1) := by decide +kernel
theorem dX12_solves_66 : decode cX12_solves 66 = .ok (.iastore, 1) := by decide +kernel
theorem dX12_solves_67 : decode cX12_solves 67 = .ok (.iinc 4 1, 3) := by decide +kernel
theorem dX12_solves_70 : decode cX12_solves 70 = .ok (.goto (-24), 3) := by decide +kernel
theorem dX12_solves_73 : decode cX12_solves 73 = .ok (.aload_n 0, 1) := by decide +kernel
theorem dX12_solves_74 : decode cX12_solves 74 = .ok (.iconst (-1), 1) := by decide +kernel
theorem dX12_solves_75 : decode cX12_solves 75 = .ok (.putfield 76, 3) := by decide +kernel
theorem dX12_solves_78 : decode cX12_solves 78 = .ok (.aload_n 0, 1) := by decide +kernel
theorem dX12_solves_79 : decode cX12_solves 79 = .ok (.getfield 67, 3) := by decide +kernel
theorem dX12_solves_82 : decode cX12_solves 82 = .ok (.iconst 0, 1) := by decide +kernel
theorem dX12_solves_83 : decode cX12_solves 83 = .ok (.iconst 0, 1) := by decide +kernel
theorem dX12_solves_84 : decode cX12_solves 84 = .ok (.iastore, 1) := by decide +kernel
theorem dX12_solves_85 : decode cX12_solves 85 = .ok (.aload_n 0, 1) := by decide +kernel
theorem dX12_solves_86 : decode cX12_solves 86 = .ok (.getfield 76, 3) := by decide +kernel
theorem dX12_solves_89 : decode cX12_solves 89 = .ok (.iload_n 1, 1) := by decide +kernel
theorem dX12_solves_90 : decode cX12_solves 90 = .ok (.if_icmp .lt 5, 3) := by decide +kernel
theorem dX12_solves_93 : decode cX12_solves 93 = .ok (.iconst 1, 1) := by decide +kernel
theorem dX12_solves_94 : decode cX12_solves 94 = .ok (.ireturn, 1) := by decide +kernel
theorem dX12_solves_95 : decode cX12_solves 95 = .ok (.aload_n 0, 1) := by decide +kernel
theorem dX12_solves_96 : decode cX12_solves 96 = .ok (.getfield 9, 3) := by decide +kernel
theorem dX12_solves_99 : decode cX12_solves 99 = .ok (.aload_n 0, 1) := by decide +kernel
theorem dX12_solves_100 : decode cX12_solves 100 = .ok (.getfield 79, 3) := by decide +kernel
theorem dX12_solves_103 : decode cX12_solves 103 = .ok (.invokestatic 235, 3) := by decide +kernel
theorem dX12_solves_106 : decode cX12_solves 106 = .ok (.aload_n 0, 1) := by decide +kernel
theorem dX12_solves_107 : decode cX12_solves 107 = .ok (.getfield 76, 3) := by decide +kernel
theorem dX12_solves_110 : decode cX12_solves 110 = .ok (.iload_n 1, 1) := by decide +kernel
theorem dX12_solves_111 : decode cX12_solves 111 = .ok (.if_icmp .ge 56, 3) := by decide +kernel
theorem dX12_solves_114 : decode cX12_solves 114 = .ok (.aload_n 0, 1) := by decide +kernel
theorem dX12_solves_115 : decode cX12_solves 115 = .ok (.getfield 76, 3) := by decide +kernel
theorem dX12_solves_118 : decode cX12_solves 118 = .ok (.iconst 1, 1) := by decide +kernel
theorem dX12_solves_119 : decode cX12_solves 119 = .ok (.iadd, 1) := by decide +kernel
theorem dX12_solves_120 : decode cX12_solves 120 = .ok (.istore 4, 2) := by decide +kernel
theorem dX12_solves_122 : decode cX12_solves 122 = .ok (.aload_n 0, 1) := by decide +kernel
theorem dX12_solves_123 : decode cX12_solves 123 = .ok (.getfield 67, 3) := by decide +kernel
theorem dX12_solves_126 : decode cX12_solves 126 = .ok (.iload 4, 2) := by decide +kernel
theorem dX12_solves_128 : decode cX12_solves 128 = .ok (.iconst 1, 1) := by decide +kernel
theorem dX12_solves_129 : decode cX12_solves 129 = .ok (.iadd, 1) := by decide +kernel
theorem dX12_solves_130 : decode cX12_solves 130 = .ok (.aload_n 0, 1) := by decide +kernel
theorem dX12_solves_131 : decode cX12_solves 131 = .ok (.getfield 67, 3) := by decide +kernel
theorem dX12_solves_134 : decode cX12_solves 134 = .ok (.iload 4, 2) := by decide +kernel
theorem dX12_solves_136 : decode cX12_solves 136 = .ok (.iaload, 1) := by decide +kernel
theorem dX12_solves_137 : decode cX12_solves 137 = .ok (.aload_n 0, 1) := by decide +kernel
theorem dX12_solves_138 : decode cX12_solves 138 = .ok (.iload 4, 2) := by decide +kernel
theorem dX12_solves_140 : decode cX12_solves 140 = .ok (.invokevirtual 359, 3) := by decide +kernel
theorem dX12_solves_143 : decode cX12_solves 143 = .ok (.l2i, 1) := by decide +kernel
theorem dX12_solves_144 : decode cX12_solves 144 = .ok (.iadd, 1) := by decide +kernel
theorem dX12_solves_145 : decode cX12_solves 145 = .ok (.iastore, 1) := by decide +kernel
theorem dX12_solves_146 : decode cX12_solves 146 = .ok (.aload_n 0, 1) := by decide +kernel
theorem dX12_solves_147 : decode cX12_solves 147 = .ok (.iload 4, 2) := by decide +kernel
theorem dX12_solves_149 : decode cX12_solves 149 = .ok (.invokevirtual 378, 3) := by decide +kernel
theorem dX12_solves_152 : decode cX12_solves 152 = .ok (.aload_n 0, 1) := by decide +kernel
theorem dX12_solves_153 : decode cX12_solves 153 = .ok (.iload 4, 2) := by decide +kernel
theorem dX12_solves_155 : decode cX12_solves 155 = .ok (.invokevirtual 381, 3) := by decide +kernel
theorem dX12_solves_158 : decode cX12_solves 158 = .ok (.aload_n 0, 1) := by decide +kernel
theorem dX12_solves_159 : decode cX12_solves 159 = .ok (.iload 4, 2) := by decide +kernel
theorem dX12_solves_161 : decode cX12_solves 161 = .ok (.putfield 76, 3) := by decide +kernel
theorem dX12_solves_164 : decode cX12_solves 164 = .ok (.goto (-58), 3) := by decide +kernel
theorem dX12_solves_167 : decode cX12_solves 167 = .ok (.aload_n 0, 1) := by decide +kernel
theorem dX12_solves_168 : decode cX12_solves 168 = .ok (.getfield 79, 3) := by decide +kernel
theorem dX12_solves_171 : decode cX12_solves 171 = .ok (.aload_n 0, 1) := by decide +kernel
theorem dX12_solves_172 : decode cX12_solves 172 = .ok (.getfield 9, 3) := by decide +kernel
theorem dX12_solves_175 : decode cX12_solves 175 = .ok (.invokestatic 235, 3) := by decide +kernel
theorem dX12_solves_178 : decode cX12_solves 178 = .ok (.iconst 1, 1) := by decide +kernel
theorem dX12_solves_179 : decode cX12_solves 179 = .ok (.ireturn, 1) := by decide +kernel
theorem dX12_seat_0 : decode cX12_seat 0 = .ok (.sipush 6000, 3) := by decide +kernel
theorem dX12_seat_3 : decode cX12_seat 3 = .ok (.iload_n 1, 1) := by decide +kernel
theorem dX12_seat_4 : decode cX12_seat 4 = .ok (.imul, 1) := by decide +kernel
theorem dX12_seat_5 : decode cX12_seat 5 = .ok (.aload_n 0, 1) := by decide +kernel
theorem dX12_seat_6 : decode cX12_seat 6 = .ok (.getfield 67, 3) := by decide +kernel
theorem dX12_seat_9 : decode cX12_seat 9 = .ok (.iload_n 2, 1) := by decide +kernel
theorem dX12_seat_10 : decode cX12_seat 10 = .ok (.iaload, 1) := by decide +kernel
theorem dX12_seat_11 : decode cX12_seat 11 = .ok (.iadd, 1) := by decide +kernel
theorem dX12_seat_12 : decode cX12_seat 12 = .ok (.iload_n 3, 1) := by decide +kernel
theorem dX12_seat_13 : decode cX12_seat 13 = .ok (.iadd, 1) := by decide +kernel
theorem dX12_seat_14 : decode cX12_seat 14 = .ok (.ireturn, 1) := by decide +kernel
theorem dX12_laysMoves_0 : decode cX12_laysMoves 0 = .ok (.iconst 0, 1) := by decide +kernel
theorem dX12_laysMoves_1 : decode cX12_laysMoves 1 = .ok (.istore_n 2, 1) := by decide +kernel
theorem dX12_laysMoves_2 : decode cX12_laysMoves 2 = .ok (.iload_n 2, 1) := by decide +kernel
theorem dX12_laysMoves_3 : decode cX12_laysMoves 3 = .ok (.iconst 2, 1) := by decide +kernel
theorem dX12_laysMoves_4 : decode cX12_laysMoves 4 = .ok (.if_icmp .ge 135, 3) := by decide +kernel
theorem dX12_laysMoves_7 : decode cX12_laysMoves 7 = .ok (.iconst 0, 1) := by decide +kernel
theorem dX12_laysMoves_8 : decode cX12_laysMoves 8 = .ok (.istore_n 3, 1) := by decide +kernel
theorem dX12_laysMoves_9 : decode cX12_laysMoves 9 = .ok (.iload_n 3, 1) := by decide +kernel
theorem dX12_laysMoves_10 : decode cX12_laysMoves 10 = .ok (.aload_n 0, 1) := by decide +kernel
theorem dX12_laysMoves_11 : decode cX12_laysMoves 11 = .ok (.getfield 67, 3) := by decide +kernel
theorem dX12_laysMoves_14 : decode cX12_laysMoves 14 = .ok (.iload_n 1, 1) := by decide +kernel
theorem dX12_laysMoves_15 : decode cX12_laysMoves 15 = .ok (.iconst 1, 1) := by decide +kernel
theorem dX12_laysMoves_16 : decode cX12_laysMoves 16 = .ok (.iadd, 1) := by decide +kernel
theorem dX12_laysMoves_17 : decode cX12_laysMoves 17 = .ok (.iaload, 1) := by decide +kernel
theorem dX12_laysMoves_18 : decode cX12_laysMoves 18 = .ok (.aload_n 0, 1) := by decide +kernel
theorem dX12_laysMoves_19 : decode cX12_laysMoves 19 = .ok (.getfield 67, 3) := by decide +kernel
theorem dX12_laysMoves_22 : decode cX12_laysMoves 22 = .ok (.iload_n 1, 1) := by decide +kernel
theorem dX12_laysMoves_23 : decode cX12_laysMoves 23 = .ok (.iaload, 1) := by decide +kernel
theorem dX12_laysMoves_24 : decode cX12_laysMoves 24 = .ok (.isub, 1) := by decide +kernel
theorem dX12_laysMoves_25 : decode cX12_laysMoves 25 = .ok (.if_icmp .ge 108, 3) := by decide +kernel
theorem dX12_laysMoves_28 : decode cX12_laysMoves 28 = .ok (.aload_n 0, 1) := by decide +kernel
theorem dX12_laysMoves_29 : decode cX12_laysMoves 29 = .ok (.iload_n 2, 1) := by decide +kernel
theorem dX12_laysMoves_30 : decode cX12_laysMoves 30 = .ok (.iload_n 1, 1) := by decide +kernel
theorem dX12_laysMoves_31 : decode cX12_laysMoves 31 = .ok (.iload_n 3, 1) := by decide +kernel
theorem dX12_laysMoves_32 : decode cX12_laysMoves 32 = .ok (.invokevirtual 384, 3) := by decide +kernel
theorem dX12_laysMoves_35 : decode cX12_laysMoves 35 = .ok (.istore 4, 2) := by decide +kernel
theorem dX12_laysMoves_37 : decode cX12_laysMoves 37 = .ok (.aload_n 0, 1) := by decide +kernel
theorem dX12_laysMoves_38 : decode cX12_laysMoves 38 = .ok (.iload_n 2, 1) := by decide +kernel
theorem dX12_laysMoves_39 : decode cX12_laysMoves 39 = .ok (.iload_n 1, 1) := by decide +kernel
theorem dX12_laysMoves_40 : decode cX12_laysMoves 40 = .ok (.iload_n 3, 1) := by decide +kernel
theorem dX12_laysMoves_41 : decode cX12_laysMoves 41 = .ok (.invokevirtual 371, 3) := by decide +kernel
theorem dX12_laysMoves_44 : decode cX12_laysMoves 44 = .ok (.iconst 0, 1) := by decide +kernel
theorem dX12_laysMoves_45 : decode cX12_laysMoves 45 = .ok (.istore 5, 2) := by decide +kernel
theorem dX12_laysMoves_47 : decode cX12_laysMoves 47 = .ok (.iload 5, 2) := by decide +kernel
theorem dX12_laysMoves_49 : decode cX12_laysMoves 49 = .ok (.aload_n 0, 1) := by decide +kernel
theorem dX12_laysMoves_50 : decode cX12_laysMoves 50 = .ok (.invokevirtual 245, 3) := by decide +kernel
theorem dX12_laysMoves_53 : decode cX12_laysMoves 53 = .ok (.if_icmp .ge 26, 3) := by decide +kernel
theorem dX12_laysMoves_56 : decode cX12_laysMoves 56 = .ok (.aload_n 0, 1) := by decide +kernel
theorem dX12_laysMoves_57 : decode cX12_laysMoves 57 = .ok (.getfield 9, 3) := by decide +kernel
theorem dX12_laysMoves_60 : decode cX12_laysMoves 60 = .ok (.bipush 13, 2) := by decide +kernel
theorem dX12_laysMoves_62 : decode cX12_laysMoves 62 = .ok (.iload 5, 2) := by decide +kernel
theorem dX12_laysMoves_64 : decode cX12_laysMoves 64 = .ok (.iadd, 1) := by decide +kernel
theorem dX12_laysMoves_65 : decode cX12_laysMoves 65 = .ok (.aload_n 0, 1) := by decide +kernel
theorem dX12_laysMoves_66 : decode cX12_laysMoves 66 = .ok (.getfield 33, 3) := by decide +kernel
theorem dX12_laysMoves_69 : decode cX12_laysMoves 69 = .ok (.iload 5, 2) := by decide +kernel
theorem dX12_laysMoves_71 : decode cX12_laysMoves 71 = .ok (.iaload, 1) := by decide +kernel
theorem dX12_laysMoves_72 : decode cX12_laysMoves 72 = .ok (.iastore, 1) := by decide +kernel
theorem dX12_laysMoves_73 : decode cX12_laysMoves 73 = .ok (.iinc 5 1, 3) := by decide +kernel
theorem dX12_laysMoves_76 : decode cX12_laysMoves 76 = .ok (.goto (-29), 3) := by decide +kernel
theorem dX12_laysMoves_79 : decode cX12_laysMoves 79 = .ok (.aload_n 0, 1) := by decide +kernel
theorem dX12_laysMoves_80 : decode cX12_laysMoves 80 = .ok (.getfield 9, 3) := by decide +kernel
theorem dX12_laysMoves_83 : decode cX12_laysMoves 83 = .ok (.iconst 2, 1) := by decide +kernel
theorem dX12_laysMoves_84 : decode cX12_laysMoves 84 = .ok (.iload_n 2, 1) := by decide +kernel
theorem dX12_laysMoves_85 : decode cX12_laysMoves 85 = .ok (.iastore, 1) := by decide +kernel
theorem dX12_laysMoves_86 : decode cX12_laysMoves 86 = .ok (.aload_n 0, 1) := by decide +kernel
theorem dX12_laysMoves_87 : decode cX12_laysMoves 87 = .ok (.getfield 70, 3) := by decide +kernel
theorem dX12_laysMoves_90 : decode cX12_laysMoves 90 = .ok (.iload 4, 2) := by decide +kernel
theorem dX12_laysMoves_92 : decode cX12_laysMoves 92 = .ok (.aload_n 0, 1) := by decide +kernel
theorem dX12_laysMoves_93 : decode cX12_laysMoves 93 = .ok (.invokevirtual 305, 3) := by decide +kernel
theorem dX12_laysMoves_96 : decode cX12_laysMoves 96 = .ok (.bastore, 1) := by decide +kernel
theorem dX12_laysMoves_97 : decode cX12_laysMoves 97 = .ok (.iconst 0, 1) := by decide +kernel
theorem dX12_laysMoves_98 : decode cX12_laysMoves 98 = .ok (.istore 5, 2) := by decide +kernel
theorem dX12_laysMoves_100 : decode cX12_laysMoves 100 = .ok (.iload 5, 2) := by decide +kernel
theorem dX12_laysMoves_102 : decode cX12_laysMoves 102 = .ok (.aload_n 0, 1) := by decide +kernel
theorem dX12_laysMoves_103 : decode cX12_laysMoves 103 = .ok (.getfield 9, 3) := by decide +kernel
theorem dX12_laysMoves_106 : decode cX12_laysMoves 106 = .ok (.iconst 1, 1) := by decide +kernel
theorem dX12_laysMoves_107 : decode cX12_laysMoves 107 = .ok (.iaload, 1) := by decide +kernel
theorem dX12_laysMoves_108 : decode cX12_laysMoves 108 = .ok (.if_icmp .ge 19, 3) := by decide +kernel
theorem dX12_laysMoves_111 : decode cX12_laysMoves 111 = .ok (.aload_n 0, 1) := by decide +kernel
theorem dX12_laysMoves_112 : decode cX12_laysMoves 112 = .ok (.iload 4, 2) := by decide +kernel
theorem dX12_laysMoves_114 : decode cX12_laysMoves 114 = .ok (.iload_n 2, 1) := by decide +kernel
theorem dX12_laysMoves_115 : decode cX12_laysMoves 115 = .ok (.iload_n 1, 1) := by decide +kernel
theorem dX12_laysMoves_116 : decode cX12_laysMoves 116 = .ok (.iload 5, 2) := by decide +kernel
theorem dX12_laysMoves_118 : decode cX12_laysMoves 118 = .ok (.invokevirtual 387, 3) := by decide +kernel
theorem dX12_laysMoves_121 : decode cX12_laysMoves 121 = .ok (.iinc 5 1, 3) := by decide +kernel
theorem dX12_laysMoves_124 : decode cX12_laysMoves 124 = .ok (.goto (-24), 3) := by decide +kernel
theorem dX12_laysMoves_127 : decode cX12_laysMoves 127 = .ok (.iinc 3 1, 3) := by decide +kernel
theorem dX12_laysMoves_130 : decode cX12_laysMoves 130 = .ok (.goto (-121), 3) := by decide +kernel
theorem dX12_laysMoves_133 : decode cX12_laysMoves 133 = .ok (.iinc 2 1, 3) := by decide +kernel
theorem dX12_laysMoves_136 : decode cX12_laysMoves 136 = .ok (.goto (-134), 3) := by decide +kernel
theorem dX12_laysMoves_139 : decode cX12_laysMoves 139 = .ok (.return_, 1) := by decide +kernel
theorem dX12_laysMove_0 : decode cX12_laysMove 0 = .ok (.iload 4, 2) := by decide +kernel
theorem dX12_laysMove_2 : decode cX12_laysMove 2 = .ok (.iload_n 2, 1) := by decide +kernel
theorem dX12_laysMove_3 : decode cX12_laysMove 3 = .ok (.ifCond .ne 7, 3) := by decide +kernel
theorem dX12_laysMove_6 : decode cX12_laysMove 6 = .ok (.iconst 0, 1) := by decide +kernel
theorem dX12_laysMove_7 : decode cX12_laysMove 7 = .ok (.goto 9, 3) := by decide +kernel
theorem dX12_laysMove_10 : decode cX12_laysMove 10 = .ok (.aload_n 0, 1) := by decide +kernel
theorem dX12_laysMove_11 : decode cX12_laysMove 11 = .ok (.getfield 9, 3) := by decide +kernel
theorem dX12_laysMove_14 : decode cX12_laysMove 14 = .ok (.iconst 1, 1) := by decide +kernel
theorem dX12_laysMove_15 : decode cX12_laysMove 15 = .ok (.iaload, 1) := by decide +kernel
theorem dX12_laysMove_16 : decode cX12_laysMove 16 = .ok (.iadd, 1) := by decide +kernel
theorem dX12_laysMove_17 : decode cX12_laysMove 17 = .ok (.istore 5, 2) := by decide +kernel
theorem dX12_laysMove_19 : decode cX12_laysMove 19 = .ok (.aload_n 0, 1) := by decide +kernel
theorem dX12_laysMove_20 : decode cX12_laysMove 20 = .ok (.getfield 61, 3) := by decide +kernel
theorem dX12_laysMove_23 : decode cX12_laysMove 23 = .ok (.bipush 6, 2) := by decide +kernel
theorem dX12_laysMove_25 : decode cX12_laysMove 25 = .ok (.iload_n 1, 1) := by decide +kernel
theorem dX12_laysMove_26 : decode cX12_laysMove 26 = .ok (.imul, 1) := by decide +kernel
theorem dX12_laysMove_27 : decode cX12_laysMove 27 = .ok (.iload 4, 2) := by decide +kernel
theorem dX12_laysMove_29 : decode cX12_laysMove 29 = .ok (.iadd, 1) := by decide +kernel
theorem dX12_laysMove_30 : decode cX12_laysMove 30 = .ok (.iconst (-1), 1) := by decide +kernel
theorem dX12_laysMove_31 : decode cX12_laysMove 31 = .ok (.iastore, 1) := by decide +kernel
theorem dX12_laysMove_32 : decode cX12_laysMove 32 = .ok (.aload_n 0, 1) := by decide +kernel
theorem dX12_laysMove_33 : decode cX12_laysMove 33 = .ok (.iload 5, 2) := by decide +kernel
theorem dX12_laysMove_35 : decode cX12_laysMove 35 = .ok (.invokevirtual 311, 3) := by decide +kernel
theorem dX12_laysMove_38 : decode cX12_laysMove 38 = .ok (.ifCond .eq 4, 3) := by decide +kernel
theorem dX12_laysMove_41 : decode cX12_laysMove 41 = .ok (.return_, 1) := by decide +kernel
theorem dX12_laysMove_42 : decode cX12_laysMove 42 = .ok (.aload_n 0, 1) := by decide +kernel
theorem dX12_laysMove_43 : decode cX12_laysMove 43 = .ok (.iload 5, 2) := by decide +kernel
theorem dX12_laysMove_45 : decode cX12_laysMove 45 = .ok (.invokevirtual 302, 3) := by decide +kernel
theorem dX12_laysMove_48 : decode cX12_laysMove 48 = .ok (.aload_n 0, 1) := by decide +kernel
theorem dX12_laysMove_49 : decode cX12_laysMove 49 = .ok (.aload_n 0, 1) := by decide +kernel
theorem dX12_laysMove_50 : decode cX12_laysMove 50 = .ok (.getfield 284, 3) := by decide +kernel
theorem dX12_laysMove_53 : decode cX12_laysMove 53 = .ok (.iload_n 3, 1) := by decide +kernel
theorem dX12_laysMove_54 : decode cX12_laysMove 54 = .ok (.aload_n 0, 1) := by decide +kernel
theorem dX12_laysMove_55 : decode cX12_laysMove 55 = .ok (.getfield 263, 3) := by decide +kernel
theorem dX12_laysMove_58 : decode cX12_laysMove 58 = .ok (.isub, 1) := by decide +kernel
theorem dX12_laysMove_59 : decode cX12_laysMove 59 = .ok (.aload_n 0, 1) := by decide +kernel
theorem dX12_laysMove_60 : decode cX12_laysMove 60 = .ok (.aload_n 0, 1) := by decide +kernel
theorem dX12_laysMove_61 : decode cX12_laysMove 61 = .ok (.getfield 284, 3) := by decide +kernel
theorem dX12_laysMove_64 : decode cX12_laysMove 64 = .ok (.invokevirtual 368, 3) := by decide +kernel
theorem dX12_laysMove_67 : decode cX12_laysMove 67 = .ok (.invokevirtual 384, 3) := by decide +kernel
theorem dX12_laysMove_70 : decode cX12_laysMove 70 = .ok (.istore 6, 2) := by decide +kernel
theorem dX12_laysMove_72 : decode cX12_laysMove 72 = .ok (.aload_n 0, 1) := by decide +kernel
theorem dX12_laysMove_73 : decode cX12_laysMove 73 = .ok (.getfield 61, 3) := by decide +kernel
theorem dX12_laysMove_76 : decode cX12_laysMove 76 = .ok (.bipush 6, 2) := by decide +kernel
theorem dX12_laysMove_78 : decode cX12_laysMove 78 = .ok (.iload_n 1, 1) := by decide +kernel
theorem dX12_laysMove_79 : decode cX12_laysMove 79 = .ok (.imul, 1) := by decide +kernel
theorem dX12_laysMove_80 : decode cX12_laysMove 80 = .ok (.iload 4, 2) := by decide +kernel
theorem dX12_laysMove_82 : decode cX12_laysMove 82 = .ok (.iadd, 1) := by decide +kernel
theorem dX12_laysMove_83 : decode cX12_laysMove 83 = .ok (.iload 6, 2) := by decide +kernel
theorem dX12_laysMove_85 : decode cX12_laysMove 85 = .ok (.iastore, 1) := by decide +kernel
theorem dX12_laysMove_86 : decode cX12_laysMove 86 = .ok (.aload_n 0, 1) := by decide +kernel
theorem dX12_laysMove_87 : decode cX12_laysMove 87 = .ok (.getfield 64, 3) := by decide +kernel
theorem dX12_laysMove_90 : decode cX12_laysMove 90 = .ok (.bipush 6, 2) := by decide +kernel
theorem dX12_laysMove_92 : decode cX12_laysMove 92 = .ok (.iload_n 1, 1) := by decide +kernel
theorem dX12_laysMove_93 : decode cX12_laysMove 93 = .ok (.imul, 1) := by decide +kernel
theorem dX12_laysMove_94 : decode cX12_laysMove 94 = .ok (.iload 4, 2) := by decide +kernel
theorem dX12_laysMove_96 : decode cX12_laysMove 96 = .ok (.iadd, 1) := by decide +kernel
theorem dX12_laysMove_97 : decode cX12_laysMove 97 = .ok (.aload_n 0, 1) := by decide +kernel
theorem dX12_laysMove_98 : decode cX12_laysMove 98 = .ok (.getfield 263, 3) := by decide +kernel
theorem dX12_laysMove_101 : decode cX12_laysMove 101 = .ok (.iastore, 1) := by decide +kernel
theorem dX12_laysMove_102 : decode cX12_laysMove 102 = .ok (.return_, 1) := by decide +kernel
theorem dX12_worthOf_0 : decode cX12_worthOf 0 = .ok (.aload_n 0, 1) := by decide +kernel
theorem dX12_worthOf_1 : decode cX12_worthOf 1 = .ok (.getfield 61, 3) := by decide +kernel
theorem dX12_worthOf_4 : decode cX12_worthOf 4 = .ok (.bipush 6, 2) := by decide +kernel
theorem dX12_worthOf_6 : decode cX12_worthOf 6 = .ok (.iload_n 1, 1) := by decide +kernel
theorem dX12_worthOf_7 : decode cX12_worthOf 7 = .ok (.imul, 1) := by decide +kernel
theorem dX12_worthOf_8 : decode cX12_worthOf 8 = .ok (.iload_n 2, 1) := by decide +kernel
theorem dX12_worthOf_9 : decode cX12_worthOf 9 = .ok (.iadd, 1) := by decide +kernel
theorem dX12_worthOf_10 : decode cX12_worthOf 10 = .ok (.iaload, 1) := by decide +kernel
theorem dX12_worthOf_11 : decode cX12_worthOf 11 = .ok (.istore 4, 2) := by decide +kernel
theorem dX12_worthOf_13 : decode cX12_worthOf 13 = .ok (.aload_n 0, 1) := by decide +kernel
theorem dX12_worthOf_14 : decode cX12_worthOf 14 = .ok (.getfield 64, 3) := by decide +kernel
theorem dX12_worthOf_17 : decode cX12_worthOf 17 = .ok (.bipush 6, 2) := by decide +kernel
theorem dX12_worthOf_19 : decode cX12_worthOf 19 = .ok (.iload_n 1, 1) := by decide +kernel
theorem dX12_worthOf_20 : decode cX12_worthOf 20 = .ok (.imul, 1) := by decide +kernel
theorem dX12_worthOf_21 : decode cX12_worthOf 21 = .ok (.iload_n 2, 1) := by decide +kernel
theorem dX12_worthOf_22 : decode cX12_worthOf 22 = .ok (.iadd, 1) := by decide +kernel
theorem dX12_worthOf_23 : decode cX12_worthOf 23 = .ok (.iaload, 1) := by decide +kernel
theorem dX12_worthOf_24 : decode cX12_worthOf 24 = .ok (.iload 4, 2) := by decide +kernel
theorem dX12_worthOf_26 : decode cX12_worthOf 26 = .ok (.sipush 6000, 3) := by decide +kernel
theorem dX12_worthOf_29 : decode cX12_worthOf 29 = .ok (.idiv, 1) := by decide +kernel
theorem dX12_worthOf_30 : decode cX12_worthOf 30 = .ok (.iload_n 1, 1) := by decide +kernel
theorem dX12_worthOf_31 : decode cX12_worthOf 31 = .ok (.sipush 6000, 3) := by decide +kernel
theorem dX12_worthOf_34 : decode cX12_worthOf 34 = .ok (.idiv, 1) := by decide +kernel
theorem dX12_worthOf_35 : decode cX12_worthOf 35 = .ok (.if_icmp .ne 10, 3) := by decide +kernel
theorem dX12_worthOf_38 : decode cX12_worthOf 38 = .ok (.aload_n 3, 1) := by decide +kernel
theorem dX12_worthOf_39 : decode cX12_worthOf 39 = .ok (.iload 4, 2) := by decide +kernel
theorem dX12_worthOf_41 : decode cX12_worthOf 41 = .ok (.iaload, 1) := by decide +kernel
theorem dX12_worthOf_42 : decode cX12_worthOf 42 = .ok (.goto 8, 3) := by decide +kernel
theorem dX12_worthOf_45 : decode cX12_worthOf 45 = .ok (.aload_n 3, 1) := by decide +kernel
theorem dX12_worthOf_46 : decode cX12_worthOf 46 = .ok (.iload 4, 2) := by decide +kernel
theorem dX12_worthOf_48 : decode cX12_worthOf 48 = .ok (.iaload, 1) := by decide +kernel
theorem dX12_worthOf_49 : decode cX12_worthOf 49 = .ok (.ineg, 1) := by decide +kernel
theorem dX12_worthOf_50 : decode cX12_worthOf 50 = .ok (.iadd, 1) := by decide +kernel
theorem dX12_worthOf_51 : decode cX12_worthOf 51 = .ok (.ireturn, 1) := by decide +kernel
theorem dX12_ownLess_0 : decode cX12_ownLess 0 = .ok (.aload_n 0, 1) := by decide +kernel
theorem dX12_ownLess_1 : decode cX12_ownLess 1 = .ok (.iload_n 1, 1) := by decide +kernel
theorem dX12_ownLess_2 : decode cX12_ownLess 2 = .ok (.iload_n 2, 1) := by decide +kernel
theorem dX12_ownLess_3 : decode cX12_ownLess 3 = .ok (.iload_n 3, 1) := by decide +kernel
theorem dX12_ownLess_4 : decode cX12_ownLess 4 = .ok (.invokevirtual 371, 3) := by decide +kernel
theorem dX12_ownLess_7 : decode cX12_ownLess 7 = .ok (.aload_n 0, 1) := by decide +kernel
theorem dX12_ownLess_8 : decode cX12_ownLess 8 = .ok (.iload_n 1, 1) := by decide +kernel
theorem dX12_ownLess_9 : decode cX12_ownLess 9 = .ok (.invokevirtual 290, 3) := by decide +kernel
theorem dX12_ownLess_12 : decode cX12_ownLess 12 = .ok (.aload_n 0, 1) := by decide +kernel
theorem dX12_ownLess_13 : decode cX12_ownLess 13 = .ok (.iconst 1, 1) := by decide +kernel
theorem dX12_ownLess_14 : decode cX12_ownLess 14 = .ok (.iload_n 1, 1) := by decide +kernel
theorem dX12_ownLess_15 : decode cX12_ownLess 15 = .ok (.isub, 1) := by decide +kernel
theorem dX12_ownLess_16 : decode cX12_ownLess 16 = .ok (.invokevirtual 290, 3) := by decide +kernel
theorem dX12_ownLess_19 : decode cX12_ownLess 19 = .ok (.isub, 1) := by decide +kernel
theorem dX12_ownLess_20 : decode cX12_ownLess 20 = .ok (.ireturn, 1) := by decide +kernel
theorem dX12_settles_0 : decode cX12_settles 0 = .ok (.aload_n 0, 1) := by decide +kernel
theorem dX12_settles_1 : decode cX12_settles 1 = .ok (.getfield 67, 3) := by decide +kernel
theorem dX12_settles_4 : decode cX12_settles 4 = .ok (.iload_n 1, 1) := by decide +kernel
theorem dX12_settles_5 : decode cX12_settles 5 = .ok (.iconst 1, 1) := by decide +kernel
theorem dX12_settles_6 : decode cX12_settles 6 = .ok (.iadd, 1) := by decide +kernel
theorem dX12_settles_7 : decode cX12_settles 7 = .ok (.iaload, 1) := by decide +kernel
theorem dX12_settles_8 : decode cX12_settles 8 = .ok (.aload_n 0, 1) := by decide +kernel
theorem dX12_settles_9 : decode cX12_settles 9 = .ok (.getfield 67, 3) := by decide +kernel
theorem dX12_settles_12 : decode cX12_settles 12 = .ok (.iload_n 1, 1) := by decide +kernel
theorem dX12_settles_13 : decode cX12_settles 13 = .ok (.iaload, 1) := by decide +kernel
theorem dX12_settles_14 : decode cX12_settles 14 = .ok (.isub, 1) := by decide +kernel
theorem dX12_settles_15 : decode cX12_settles 15 = .ok (.istore_n 2, 1) := by decide +kernel
theorem dX12_settles_16 : decode cX12_settles 16 = .ok (.iconst 0, 1) := by decide +kernel
theorem dX12_settles_17 : decode cX12_settles 17 = .ok (.istore_n 3, 1) := by decide +kernel
theorem dX12_settles_18 : decode cX12_settles 18 = .ok (.iload_n 3, 1) := by decide +kernel
theorem dX12_settles_19 : decode cX12_settles 19 = .ok (.iconst 2, 1) := by decide +kernel
theorem dX12_settles_20 : decode cX12_settles 20 = .ok (.if_icmp .ge 71, 3) := by decide +kernel
theorem dX12_settles_23 : decode cX12_settles 23 = .ok (.iconst 0, 1) := by decide +kernel
theorem dX12_settles_24 : decode cX12_settles 24 = .ok (.istore 4, 2) := by decide +kernel
theorem dX12_settles_26 : decode cX12_settles 26 = .ok (.iload 4, 2) := by decide +kernel
theorem dX12_settles_28 : decode cX12_settles 28 = .ok (.iload_n 2, 1) := by decide +kernel
theorem dX12_settles_29 : decode cX12_settles 29 = .ok (.if_icmp .ge 56, 3) := by decide +kernel
theorem dX12_settles_32 : decode cX12_settles 32 = .ok (.aload_n 0, 1) := by decide +kernel
theorem dX12_settles_33 : decode cX12_settles 33 = .ok (.iload_n 3, 1) := by decide +kernel
theorem dX12_settles_34 : decode cX12_settles 34 = .ok (.iload_n 1, 1) := by decide +kernel
theorem dX12_settles_35 : decode cX12_settles 35 = .ok (.iload 4, 2) := by decide +kernel
theorem dX12_settles_37 : decode cX12_settles 37 = .ok (.invokevirtual 384, 3) := by decide +kernel
theorem dX12_settles_40 : decode cX12_settles 40 = .ok (.istore 5, 2) := by decide +kernel
theorem dX12_settles_42 : decode cX12_settles 42 = .ok (.aload_n 0, 1) := by decide +kernel
theorem dX12_settles_43 : decode cX12_settles 43 = .ok (.getfield 51, 3) := by decide +kernel
theorem dX12_settles_46 : decode cX12_settles 46 = .ok (.iload 5, 2) := by decide +kernel
theorem dX12_settles_48 : decode cX12_settles 48 = .ok (.aload_n 0, 1) := by decide +kernel
theorem dX12_settles_49 : decode cX12_settles 49 = .ok (.getfield 70, 3) := by decide +kernel
theorem dX12_settles_52 : decode cX12_settles 52 = .ok (.iload 5, 2) := by decide +kernel
theorem dX12_settles_54 : decode cX12_settles 54 = .ok (.baload, 1) := by decide +kernel
theorem dX12_settles_55 : decode cX12_settles 55 = .ok (.ifCond .eq 14, 3) := by decide +kernel
theorem dX12_settles_58 : decode cX12_settles 58 = .ok (.aload_n 0, 1) := by decide +kernel
theorem dX12_settles_59 : decode cX12_settles 59 = .ok (.iload_n 3, 1) := by decide +kernel
theorem dX12_settles_60 : decode cX12_settles 60 = .ok (.iload_n 1, 1) := by decide +kernel
theorem dX12_settles_61 : decode cX12_settles 61 = .ok (.iload 4, 2) := by decide +kernel
theorem dX12_settles_63 : decode cX12_settles 63 = .ok (.invokevirtual 391, 3) := by decide +kernel
theorem dX12_settles_66 : decode cX12_settles 66 = .ok (.goto 4, 3) := by decide +kernel
theorem dX12_settles_69 : decode cX12_settles 69 = .ok (.iconst 0, 1) := by decide +kernel
theorem dX12_settles_70 : decode cX12_settles 70 = .ok (.iastore, 1) := by decide +kernel
theorem dX12_settles_71 : decode cX12_settles 71 = .ok (.aload_n 0, 1) := by decide +kernel
theorem dX12_settles_72 : decode cX12_settles 72 = .ok (.getfield 54, 3) := by decide +kernel
theorem dX12_settles_75 : decode cX12_settles 75 = .ok (.iload 5, 2) := by decide +kernel
theorem dX12_settles_77 : decode cX12_settles 77 = .ok (.iconst 0, 1) := by decide +kernel
theorem dX12_settles_78 : decode cX12_settles 78 = .ok (.iastore, 1) := by decide +kernel
theorem dX12_settles_79 : decode cX12_settles 79 = .ok (.iinc 4 1, 3) := by decide +kernel
theorem dX12_settles_82 : decode cX12_settles 82 = .ok (.goto (-56), 3) := by decide +kernel
theorem dX12_settles_85 : decode cX12_settles 85 = .ok (.iinc 3 1, 3) := by decide +kernel
theorem dX12_settles_88 : decode cX12_settles 88 = .ok (.goto (-70), 3) := by decide +kernel
theorem dX12_settles_91 : decode cX12_settles 91 = .ok (.iconst 1, 1) := by decide +kernel
theorem dX12_settles_92 : decode cX12_settles 92 = .ok (.istore_n 3, 1) := by decide +kernel
theorem dX12_settles_93 : decode cX12_settles 93 = .ok (.iconst 1, 1) := by decide +kernel
theorem dX12_settles_94 : decode cX12_settles 94 = .ok (.istore 4, 2) := by decide +kernel
theorem dX12_settles_96 : decode cX12_settles 96 = .ok (.iload_n 3, 1) := by decide +kernel
theorem dX12_settles_97 : decode cX12_settles 97 = .ok (.ifCond .eq 118, 3) := by decide +kernel
theorem dX12_settles_100 : decode cX12_settles 100 = .ok (.iconst 0, 1) := by decide +kernel
theorem dX12_settles_101 : decode cX12_settles 101 = .ok (.istore_n 3, 1) := by decide +kernel
theorem dX12_settles_102 : decode cX12_settles 102 = .ok (.iconst 0, 1) := by decide +kernel
theorem dX12_settles_103 : decode cX12_settles 103 = .ok (.istore 5, 2) := by decide +kernel
theorem dX12_settles_105 : decode cX12_settles 105 = .ok (.iload 5, 2) := by decide +kernel
theorem dX12_settles_107 : decode cX12_settles 107 = .ok (.iconst 2, 1) := by decide +kernel
theorem dX12_settles_108 : decode cX12_settles 108 = .ok (.if_icmp .ge 52, 3) := by decide +kernel
theorem dX12_settles_111 : decode cX12_settles 111 = .ok (.iconst 0, 1) := by decide +kernel
theorem dX12_settles_112 : decode cX12_settles 112 = .ok (.istore 6, 2) := by decide +kernel
theorem dX12_settles_114 : decode cX12_settles 114 = .ok (.iload 6, 2) := by decide +kernel
theorem dX12_settles_116 : decode cX12_settles 116 = .ok (.iload_n 2, 1) := by decide +kernel
theorem dX12_settles_117 : decode cX12_settles 117 = .ok (.if_icmp .ge 37, 3) := by decide +kernel
theorem dX12_settles_120 : decode cX12_settles 120 = .ok (.aload_n 0, 1) := by decide +kernel
theorem dX12_settles_121 : decode cX12_settles 121 = .ok (.getfield 57, 3) := by decide +kernel
theorem dX12_settles_124 : decode cX12_settles 124 = .ok (.aload_n 0, 1) := by decide +kernel
theorem dX12_settles_125 : decode cX12_settles 125 = .ok (.iload 5, 2) := by decide +kernel
theorem dX12_settles_127 : decode cX12_settles 127 = .ok (.iload_n 1, 1) := by decide +kernel
theorem dX12_settles_128 : decode cX12_settles 128 = .ok (.iload 6, 2) := by decide +kernel
theorem dX12_settles_130 : decode cX12_settles 130 = .ok (.invokevirtual 384, 3) := by decide +kernel
theorem dX12_settles_133 : decode cX12_settles 133 = .ok (.aload_n 0, 1) := by decide +kernel
theorem dX12_settles_134 : decode cX12_settles 134 = .ok (.getfield 51, 3) := by decide +kernel
theorem dX12_settles_137 : decode cX12_settles 137 = .ok (.aload_n 0, 1) := by decide +kernel
theorem dX12_settles_138 : decode cX12_settles 138 = .ok (.iload 5, 2) := by decide +kernel
theorem dX12_settles_140 : decode cX12_settles 140 = .ok (.iload_n 1, 1) := by decide +kernel
theorem dX12_settles_141 : decode cX12_settles 141 = .ok (.iload 6, 2) := by decide +kernel
theorem dX12_settles_143 : decode cX12_settles 143 = .ok (.invokevirtual 384, 3) := by decide +kernel
theorem dX12_settles_146 : decode cX12_settles 146 = .ok (.iaload, 1) := by decide +kernel
theorem dX12_settles_147 : decode cX12_settles 147 = .ok (.iastore, 1) := by decide +kernel
theorem dX12_settles_148 : decode cX12_settles 148 = .ok (.iinc 6 1, 3) := by decide +kernel
theorem dX12_settles_151 : decode cX12_settles 151 = .ok (.goto (-37), 3) := by decide +kernel
theorem dX12_settles_154 : decode cX12_settles 154 = .ok (.iinc 5 1, 3) := by decide +kernel
theorem dX12_settles_157 : decode cX12_settles 157 = .ok (.goto (-52), 3) := by decide +kernel
theorem dX12_settles_160 : decode cX12_settles 160 = .ok (.iconst 0, 1) := by decide +kernel
theorem dX12_settles_161 : decode cX12_settles 161 = .ok (.istore 5, 2) := by decide +kernel
theorem dX12_settles_163 : decode cX12_settles 163 = .ok (.iload 5, 2) := by decide +kernel
theorem dX12_settles_165 : decode cX12_settles 165 = .ok (.iconst 2, 1) := by decide +kernel
theorem dX12_settles_166 : decode cX12_settles 166 = .ok (.if_icmp .ge 43, 3) := by decide +kernel
theorem dX12_settles_169 : decode cX12_settles 169 = .ok (.iconst 0, 1) := by decide +kernel
theorem dX12_settles_170 : decode cX12_settles 170 = .ok (.istore 6, 2) := by decide +kernel
theorem dX12_settles_172 : decode cX12_settles 172 = .ok (.iload 6, 2) := by decide +kernel
theorem dX12_settles_174 : decode cX12_settles 174 = .ok (.iload_n 2, 1) := by decide +kernel
theorem dX12_settles_175 : decode cX12_settles 175 = .ok (.if_icmp .ge 28, 3) := by decide +kernel
theorem dX12_settles_178 : decode cX12_settles 178 = .ok (.iload_n 3, 1) := by decide +kernel
theorem dX12_settles_179 : decode cX12_settles 179 = .ok (.aload_n 0, 1) := by decide +kernel
theorem dX12_settles_180 : decode cX12_settles 180 = .ok (.aload_n 0, 1) := by decide +kernel
theorem dX12_settles_181 : decode cX12_settles 181 = .ok (.iload 5, 2) := by decide +kernel
theorem dX12_settles_183 : decode cX12_settles 183 = .ok (.iload_n 1, 1) := by decide +kernel
theorem dX12_settles_184 : decode cX12_settles 184 = .ok (.iload 6, 2) := by decide +kernel
theorem dX12_settles_186 : decode cX12_settles 186 = .ok (.invokevirtual 384, 3) := by decide +kernel
theorem dX12_settles_189 : decode cX12_settles 189 = .ok (.iload_n 1, 1) := by decide +kernel
theorem dX12_settles_190 : decode cX12_settles 190 = .ok (.iload 4, 2) := by decide +kernel
theorem dX12_settles_192 : decode cX12_settles 192 = .ok (.invokevirtual 394, 3) := by decide +kernel
theorem dX12_settles_195 : decode cX12_settles 195 = .ok (.ior, 1) := by decide +kernel
theorem dX12_settles_196 : decode cX12_settles 196 = .ok (.istore_n 3, 1) := by decide +kernel
theorem dX12_settles_197 : decode cX12_settles 197 = .ok (.iinc 6 1, 3) := by decide +kernel
theorem dX12_settles_200 : decode cX12_settles 200 = .ok (.goto (-28), 3) := by decide +kernel
theorem dX12_settles_203 : decode cX12_settles 203 = .ok (.iinc 5 1, 3) := by decide +kernel
theorem dX12_settles_206 : decode cX12_settles 206 = .ok (.goto (-43), 3) := by decide +kernel
theorem dX12_settles_209 : decode cX12_settles 209 = .ok (.iinc 4 1, 3) := by decide +kernel
theorem dX12_settles_212 : decode cX12_settles 212 = .ok (.goto (-116), 3) := by decide +kernel
theorem dX12_settles_215 : decode cX12_settles 215 = .ok (.return_, 1) := by decide +kernel
theorem dX12_betters_0 : decode cX12_betters 0 = .ok (.aload_n 0, 1) := by decide +kernel
theorem dX12_betters_1 : decode cX12_betters 1 = .ok (.getfield 70, 3) := by decide +kernel
theorem dX12_betters_4 : decode cX12_betters 4 = .ok (.iload_n 1, 1) := by decide +kernel
theorem dX12_betters_5 : decode cX12_betters 5 = .ok (.baload, 1) := by decide +kernel
theorem dX12_betters_6 : decode cX12_betters 6 = .ok (.ifCond .eq 5, 3) := by decide +kernel
theorem dX12_betters_9 : decode cX12_betters 9 = .ok (.iconst 0, 1) := by decide +kernel
theorem dX12_betters_10 : decode cX12_betters 10 = .ok (.ireturn, 1) := by decide +kernel
theorem dX12_betters_11 : decode cX12_betters 11 = .ok (.sipush (-1000), 3) := by decide +kernel
theorem dX12_betters_14 : decode cX12_betters 14 = .ok (.istore 4, 2) := by decide +kernel
theorem dX12_betters_16 : decode cX12_betters 16 = .ok (.iconst 0, 1) := by decide +kernel
theorem dX12_betters_17 : decode cX12_betters 17 = .ok (.istore 5, 2) := by decide +kernel
theorem dX12_betters_19 : decode cX12_betters 19 = .ok (.iload 5, 2) := by decide +kernel
theorem dX12_betters_21 : decode cX12_betters 21 = .ok (.aload_n 0, 1) := by decide +kernel
theorem dX12_betters_22 : decode cX12_betters 22 = .ok (.getfield 9, 3) := by decide +kernel
theorem dX12_betters_25 : decode cX12_betters 25 = .ok (.iconst 1, 1) := by decide +kernel
theorem dX12_betters_26 : decode cX12_betters 26 = .ok (.iaload, 1) := by decide +kernel
theorem dX12_betters_27 : decode cX12_betters 27 = .ok (.if_icmp .ge 72, 3) := by decide +kernel
theorem dX12_betters_30 : decode cX12_betters 30 = .ok (.aload_n 0, 1) := by decide +kernel
theorem dX12_betters_31 : decode cX12_betters 31 = .ok (.getfield 61, 3) := by decide +kernel
theorem dX12_betters_34 : decode cX12_betters 34 = .ok (.bipush 6, 2) := by decide +kernel
theorem dX12_betters_36 : decode cX12_betters 36 = .ok (.iload_n 1, 1) := by decide +kernel
theorem dX12_betters_37 : decode cX12_betters 37 = .ok (.imul, 1) := by decide +kernel
theorem dX12_betters_38 : decode cX12_betters 38 = .ok (.iload 5, 2) := by decide +kernel
theorem dX12_betters_40 : decode cX12_betters 40 = .ok (.iadd, 1) := by decide +kernel
theorem dX12_betters_41 : decode cX12_betters 41 = .ok (.iaload, 1) := by decide +kernel
theorem dX12_betters_42 : decode cX12_betters 42 = .ok (.istore 6, 2) := by decide +kernel
theorem dX12_betters_44 : decode cX12_betters 44 = .ok (.iload 6, 2) := by decide +kernel
theorem dX12_betters_46 : decode cX12_betters 46 = .ok (.iconst (-1), 1) := by decide +kernel
theorem dX12_betters_47 : decode cX12_betters 47 = .ok (.if_icmp .ne 6, 3) := by decide +kernel
theorem dX12_betters_50 : decode cX12_betters 50 = .ok (.goto 43, 3) := by decide +kernel
theorem dX12_betters_53 : decode cX12_betters 53 = .ok (.iload 4, 2) := by decide +kernel
theorem dX12_betters_55 : decode cX12_betters 55 = .ok (.aload_n 0, 1) := by decide +kernel
theorem dX12_betters_56 : decode cX12_betters 56 = .ok (.iload_n 1, 1) := by decide +kernel
theorem dX12_betters_57 : decode cX12_betters 57 = .ok (.iload 5, 2) := by decide +kernel
theorem dX12_betters_59 : decode cX12_betters 59 = .ok (.aload_n 0, 1) := by decide +kernel
theorem dX12_betters_60 : decode cX12_betters 60 = .ok (.getfield 64, 3) := by decide +kernel
theorem dX12_betters_63 : decode cX12_betters 63 = .ok (.bipush 6, 2) := by decide +kernel
theorem dX12_betters_65 : decode cX12_betters 65 = .ok (.iload_n 1, 1) := by decide +kernel
theorem dX12_betters_66 : decode cX12_betters 66 = .ok (.imul, 1) := by decide +kernel
theorem dX12_betters_67 : decode cX12_betters 67 = .ok (.iload 5, 2) := by decide +kernel
theorem dX12_betters_69 : decode cX12_betters 69 = .ok (.iadd, 1) := by decide +kernel
theorem dX12_betters_70 : decode cX12_betters 70 = .ok (.iaload, 1) := by decide +kernel
theorem dX12_betters_71 : decode cX12_betters 71 = .ok (.ifCond .le 10, 3) := by decide +kernel
theorem dX12_betters_74 : decode cX12_betters 74 = .ok (.aload_n 0, 1) := by decide +kernel
theorem dX12_betters_75 : decode cX12_betters 75 = .ok (.getfield 51, 3) := by decide +kernel
theorem dX12_betters_78 : decode cX12_betters 78 = .ok (.goto 7, 3) := by decide +kernel
theorem dX12_betters_81 : decode cX12_betters 81 = .ok (.aload_n 0, 1) := by decide +kernel
theorem dX12_betters_82 : decode cX12_betters 82 = .ok (.getfield 57, 3) := by decide +kernel
theorem dX12_betters_85 : decode cX12_betters 85 = .ok (.invokevirtual 398, 3) := by decide +kernel
theorem dX12_betters_88 : decode cX12_betters 88 = .ok (.invokestatic 402, 3) := by decide +kernel
theorem dX12_betters_91 : decode cX12_betters 91 = .ok (.istore 4, 2) := by decide +kernel
theorem dX12_betters_93 : decode cX12_betters 93 = .ok (.iinc 5 1, 3) := by decide +kernel
theorem dX12_betters_96 : decode cX12_betters 96 = .ok (.goto (-77), 3) := by decide +kernel
theorem dX12_betters_99 : decode cX12_betters 99 = .ok (.iload 4, 2) := by decide +kernel
theorem dX12_betters_101 : decode cX12_betters 101 = .ok (.aload_n 0, 1) := by decide +kernel
theorem dX12_betters_102 : decode cX12_betters 102 = .ok (.getfield 51, 3) := by decide +kernel
theorem dX12_betters_105 : decode cX12_betters 105 = .ok (.iload_n 1, 1) := by decide +kernel
theorem dX12_betters_106 : decode cX12_betters 106 = .ok (.iaload, 1) := by decide +kernel
theorem dX12_betters_107 : decode cX12_betters 107 = .ok (.if_icmp .ne 5, 3) := by decide +kernel
theorem dX12_betters_110 : decode cX12_betters 110 = .ok (.iconst 0, 1) := by decide +kernel
theorem dX12_betters_111 : decode cX12_betters 111 = .ok (.ireturn, 1) := by decide +kernel
theorem dX12_betters_112 : decode cX12_betters 112 = .ok (.aload_n 0, 1) := by decide +kernel
theorem dX12_betters_113 : decode cX12_betters 113 = .ok (.getfield 51, 3) := by decide +kernel
theorem dX12_betters_116 : decode cX12_betters 116 = .ok (.iload_n 1, 1) := by decide +kernel
theorem dX12_betters_117 : decode cX12_betters 117 = .ok (.iload 4, 2) := by decide +kernel
theorem dX12_betters_119 : decode cX12_betters 119 = .ok (.iastore, 1) := by decide +kernel
theorem dX12_betters_120 : decode cX12_betters 120 = .ok (.aload_n 0, 1) := by decide +kernel
theorem dX12_betters_121 : decode cX12_betters 121 = .ok (.getfield 54, 3) := by decide +kernel
theorem dX12_betters_124 : decode cX12_betters 124 = .ok (.iload_n 1, 1) := by decide +kernel
theorem dX12_betters_125 : decode cX12_betters 125 = .ok (.iload_n 3, 1) := by decide +kernel
theorem dX12_betters_126 : decode cX12_betters 126 = .ok (.iastore, 1) := by decide +kernel
theorem dX12_betters_127 : decode cX12_betters 127 = .ok (.iconst 1, 1) := by decide +kernel
theorem dX12_betters_128 : decode cX12_betters 128 = .ok (.ireturn, 1) := by decide +kernel
theorem dX12_seatNow_0 : decode cX12_seatNow 0 = .ok (.aload_n 0, 1) := by decide +kernel
theorem dX12_seatNow_1 : decode cX12_seatNow 1 = .ok (.invokevirtual 293, 3) := by decide +kernel
theorem dX12_seatNow_4 : decode cX12_seatNow 4 = .ok (.aload_n 0, 1) := by decide +kernel
theorem dX12_seatNow_5 : decode cX12_seatNow 5 = .ok (.aload_n 0, 1) := by decide +kernel
theorem dX12_seatNow_6 : decode cX12_seatNow 6 = .ok (.getfield 9, 3) := by decide +kernel
theorem dX12_seatNow_9 : decode cX12_seatNow 9 = .ok (.iconst 2, 1) := by decide +kernel
theorem dX12_seatNow_10 : decode cX12_seatNow 10 = .ok (.iaload, 1) := by decide +kernel
theorem dX12_seatNow_11 : decode cX12_seatNow 11 = .ok (.aload_n 0, 1) := by decide +kernel
theorem dX12_seatNow_12 : decode cX12_seatNow 12 = .ok (.invokevirtual 365, 3) := by decide +kernel
theorem dX12_seatNow_15 : decode cX12_seatNow 15 = .ok (.aload_n 0, 1) := by decide +kernel
theorem dX12_seatNow_16 : decode cX12_seatNow 16 = .ok (.aload_n 0, 1) := by decide +kernel
theorem dX12_seatNow_17 : decode cX12_seatNow 17 = .ok (.getfield 9, 3) := by decide +kernel
theorem dX12_seatNow_20 : decode cX12_seatNow 20 = .ok (.iconst 2, 1) := by decide +kernel
theorem dX12_seatNow_21 : decode cX12_seatNow 21 = .ok (.iaload, 1) := by decide +kernel
theorem dX12_seatNow_22 : decode cX12_seatNow 22 = .ok (.invokevirtual 368, 3) := by decide +kernel
theorem dX12_seatNow_25 : decode cX12_seatNow 25 = .ok (.invokevirtual 384, 3) := by decide +kernel
theorem dX12_seatNow_28 : decode cX12_seatNow 28 = .ok (.ireturn, 1) := by decide +kernel
theorem dX12_value_0 : decode cX12_value 0 = .ok (.aload_n 0, 1) := by decide +kernel
theorem dX12_value_1 : decode cX12_value 1 = .ok (.iconst 0, 1) := by decide +kernel
theorem dX12_value_2 : decode cX12_value 2 = .ok (.putfield 107, 3) := by decide +kernel
theorem dX12_value_5 : decode cX12_value 5 = .ok (.aload_n 0, 1) := by decide +kernel
theorem dX12_value_6 : decode cX12_value 6 = .ok (.aload_n 0, 1) := by decide +kernel
theorem dX12_value_7 : decode cX12_value 7 = .ok (.invokevirtual 365, 3) := by decide +kernel
theorem dX12_value_10 : decode cX12_value 10 = .ok (.invokevirtual 407, 3) := by decide +kernel
theorem dX12_value_13 : decode cX12_value 13 = .ok (.ifCond .eq 15, 3) := by decide +kernel
theorem dX12_value_16 : decode cX12_value 16 = .ok (.aload_n 0, 1) := by decide +kernel
theorem dX12_value_17 : decode cX12_value 17 = .ok (.getfield 51, 3) := by decide +kernel
theorem dX12_value_20 : decode cX12_value 20 = .ok (.aload_n 0, 1) := by decide +kernel
theorem dX12_value_21 : decode cX12_value 21 = .ok (.invokevirtual 410, 3) := by decide +kernel
theorem dX12_value_24 : decode cX12_value 24 = .ok (.iaload, 1) := by decide +kernel
theorem dX12_value_25 : decode cX12_value 25 = .ok (.goto 6, 3) := by decide +kernel
theorem dX12_value_28 : decode cX12_value 28 = .ok (.sipush (-1000), 3) := by decide +kernel
theorem dX12_value_31 : decode cX12_value 31 = .ok (.ireturn, 1) := by decide +kernel
theorem dX12_rank_0 : decode cX12_rank 0 = .ok (.aload_n 0, 1) := by decide +kernel
theorem dX12_rank_1 : decode cX12_rank 1 = .ok (.iconst 0, 1) := by decide +kernel
theorem dX12_rank_2 : decode cX12_rank 2 = .ok (.putfield 107, 3) := by decide +kernel
theorem dX12_rank_5 : decode cX12_rank 5 = .ok (.aload_n 0, 1) := by decide +kernel
theorem dX12_rank_6 : decode cX12_rank 6 = .ok (.aload_n 0, 1) := by decide +kernel
theorem dX12_rank_7 : decode cX12_rank 7 = .ok (.invokevirtual 365, 3) := by decide +kernel
theorem dX12_rank_10 : decode cX12_rank 10 = .ok (.invokevirtual 407, 3) := by decide +kernel
theorem dX12_rank_13 : decode cX12_rank 13 = .ok (.ifCond .eq 15, 3) := by decide +kernel
theorem dX12_rank_16 : decode cX12_rank 16 = .ok (.aload_n 0, 1) := by decide +kernel
theorem dX12_rank_17 : decode cX12_rank 17 = .ok (.getfield 54, 3) := by decide +kernel
theorem dX12_rank_20 : decode cX12_rank 20 = .ok (.aload_n 0, 1) := by decide +kernel
theorem dX12_rank_21 : decode cX12_rank 21 = .ok (.invokevirtual 410, 3) := by decide +kernel
theorem dX12_rank_24 : decode cX12_rank 24 = .ok (.iaload, 1) := by decide +kernel
theorem dX12_rank_25 : decode cX12_rank 25 = .ok (.goto 4, 3) := by decide +kernel
theorem dX12_rank_28 : decode cX12_rank 28 = .ok (.iconst (-1), 1) := by decide +kernel
theorem dX12_rank_29 : decode cX12_rank 29 = .ok (.ireturn, 1) := by decide +kernel
theorem dX12_bestAt_0 : decode cX12_bestAt 0 = .ok (.iconst (-1), 1) := by decide +kernel
theorem dX12_bestAt_1 : decode cX12_bestAt 1 = .ok (.istore_n 2, 1) := by decide +kernel
theorem dX12_bestAt_2 : decode cX12_bestAt 2 = .ok (.iconst 0, 1) := by decide +kernel
theorem dX12_bestAt_3 : decode cX12_bestAt 3 = .ok (.istore_n 3, 1) := by decide +kernel
theorem dX12_bestAt_4 : decode cX12_bestAt 4 = .ok (.iconst 0, 1) := by decide +kernel
theorem dX12_bestAt_5 : decode cX12_bestAt 5 = .ok (.istore 4, 2) := by decide +kernel
theorem dX12_bestAt_7 : decode cX12_bestAt 7 = .ok (.iload 4, 2) := by decide +kernel
theorem dX12_bestAt_9 : decode cX12_bestAt 9 = .ok (.aload_n 0, 1) := by decide +kernel
theorem dX12_bestAt_10 : decode cX12_bestAt 10 = .ok (.getfield 9, 3) := by decide +kernel
theorem dX12_bestAt_13 : decode cX12_bestAt 13 = .ok (.iconst 1, 1) := by decide +kernel
theorem dX12_bestAt_14 : decode cX12_bestAt 14 = .ok (.iaload, 1) := by decide +kernel
theorem dX12_bestAt_15 : decode cX12_bestAt 15 = .ok (.if_icmp .ge 109, 3) := by decide +kernel
theorem dX12_bestAt_18 : decode cX12_bestAt 18 = .ok (.aload_n 0, 1) := by decide +kernel
theorem dX12_bestAt_19 : decode cX12_bestAt 19 = .ok (.getfield 70, 3) := by decide +kernel
theorem dX12_bestAt_22 : decode cX12_bestAt 22 = .ok (.iload_n 1, 1) := by decide +kernel
theorem dX12_bestAt_23 : decode cX12_bestAt 23 = .ok (.baload, 1) := by decide +kernel
theorem dX12_bestAt_24 : decode cX12_bestAt 24 = .ok (.ifCond .ne 100, 3) := by decide +kernel
theorem dX12_bestAt_27 : decode cX12_bestAt 27 = .ok (.aload_n 0, 1) := by decide +kernel
theorem dX12_bestAt_28 : decode cX12_bestAt 28 = .ok (.getfield 61, 3) := by decide +kernel
theorem dX12_bestAt_31 : decode cX12_bestAt 31 = .ok (.bipush 6, 2) := by decide +kernel
theorem dX12_bestAt_33 : decode cX12_bestAt 33 = .ok (.iload_n 1, 1) := by decide +kernel
theorem dX12_bestAt_34 : decode cX12_bestAt 34 = .ok (.imul, 1) := by decide +kernel
theorem dX12_bestAt_35 : decode cX12_bestAt 35 = .ok (.iload 4, 2) := by decide +kernel
theorem dX12_bestAt_37 : decode cX12_bestAt 37 = .ok (.iadd, 1) := by decide +kernel
theorem dX12_bestAt_38 : decode cX12_bestAt 38 = .ok (.iaload, 1) := by decide +kernel
theorem dX12_bestAt_39 : decode cX12_bestAt 39 = .ok (.istore 5, 2) := by decide +kernel
theorem dX12_bestAt_41 : decode cX12_bestAt 41 = .ok (.iload 5, 2) := by decide +kernel
theorem dX12_bestAt_43 : decode cX12_bestAt 43 = .ok (.iconst (-1), 1) := by decide +kernel
theorem dX12_bestAt_44 : decode cX12_bestAt 44 = .ok (.if_icmp .eq 74, 3) := by decide +kernel
theorem dX12_bestAt_47 : decode cX12_bestAt 47 = .ok (.aload_n 0, 1) := by decide +kernel
theorem dX12_bestAt_48 : decode cX12_bestAt 48 = .ok (.iload_n 1, 1) := by decide +kernel
theorem dX12_bestAt_49 : decode cX12_bestAt 49 = .ok (.iload 4, 2) := by decide +kernel
theorem dX12_bestAt_51 : decode cX12_bestAt 51 = .ok (.aload_n 0, 1) := by decide +kernel
theorem dX12_bestAt_52 : decode cX12_bestAt 52 = .ok (.getfield 51, 3) := by decide +kernel
theorem dX12_bestAt_55 : decode cX12_bestAt 55 = .ok (.invokevirtual 398, 3) := by decide +kernel
theorem dX12_bestAt_58 : decode cX12_bestAt 58 = .ok (.aload_n 0, 1) := by decide +kernel
theorem dX12_bestAt_59 : decode cX12_bestAt 59 = .ok (.getfield 51, 3) := by decide +kernel
theorem dX12_bestAt_62 : decode cX12_bestAt 62 = .ok (.iload_n 1, 1) := by decide +kernel
theorem dX12_bestAt_63 : decode cX12_bestAt 63 = .ok (.iaload, 1) := by decide +kernel
theorem dX12_bestAt_64 : decode cX12_bestAt 64 = .ok (.if_icmp .eq 6, 3) := by decide +kernel
theorem dX12_bestAt_67 : decode cX12_bestAt 67 = .ok (.goto 51, 3) := by decide +kernel
theorem dX12_bestAt_70 : decode cX12_bestAt 70 = .ok (.aload_n 0, 1) := by decide +kernel
theorem dX12_bestAt_71 : decode cX12_bestAt 71 = .ok (.getfield 64, 3) := by decide +kernel
theorem dX12_bestAt_74 : decode cX12_bestAt 74 = .ok (.bipush 6, 2) := by decide +kernel
theorem dX12_bestAt_76 : decode cX12_bestAt 76 = .ok (.iload_n 1, 1) := by decide +kernel
theorem dX12_bestAt_77 : decode cX12_bestAt 77 = .ok (.imul, 1) := by decide +kernel
theorem dX12_bestAt_78 : decode cX12_bestAt 78 = .ok (.iload 4, 2) := by decide +kernel
theorem dX12_bestAt_80 : decode cX12_bestAt 80 = .ok (.iadd, 1) := by decide +kernel
theorem dX12_bestAt_81 : decode cX12_bestAt 81 = .ok (.iaload, 1) := by decide +kernel
theorem dX12_bestAt_82 : decode cX12_bestAt 82 = .ok (.ifCond .le 7, 3) := by decide +kernel
theorem dX12_bestAt_85 : decode cX12_bestAt 85 = .ok (.iconst 0, 1) := by decide +kernel
theorem dX12_bestAt_86 : decode cX12_bestAt 86 = .ok (.goto 10, 3) := by decide +kernel
theorem dX12_bestAt_89 : decode cX12_bestAt 89 = .ok (.aload_n 0, 1) := by decide +kernel
theorem dX12_bestAt_90 : decode cX12_bestAt 90 = .ok (.getfield 54, 3) := by decide +kernel
theorem dX12_bestAt_93 : decode cX12_bestAt 93 = .ok (.iload 5, 2) := by decide +kernel
theorem dX12_bestAt_95 : decode cX12_bestAt 95 = .ok (.iaload, 1) := by decide +kernel
theorem dX12_bestAt_96 : decode cX12_bestAt 96 = .ok (.istore 6, 2) := by decide +kernel
theorem dX12_bestAt_98 : decode cX12_bestAt 98 = .ok (.iload_n 2, 1) := by decide +kernel
theorem dX12_bestAt_99 : decode cX12_bestAt 99 = .ok (.iconst (-1), 1) := by decide +kernel
theorem dX12_bestAt_100 : decode cX12_bestAt 100 = .ok (.if_icmp .eq 12, 3) := by decide +kernel
theorem dX12_bestAt_103 : decode cX12_bestAt 103 = .ok (.iload 6, 2) := by decide +kernel
theorem dX12_bestAt_105 : decode cX12_bestAt 105 = .ok (.iload_n 3, 1) := by decide +kernel
theorem dX12_bestAt_106 : decode cX12_bestAt 106 = .ok (.if_icmp .lt 6, 3) := by decide +kernel
theorem dX12_bestAt_109 : decode cX12_bestAt 109 = .ok (.goto 9, 3) := by decide +kernel
theorem dX12_bestAt_112 : decode cX12_bestAt 112 = .ok (.iload 4, 2) := by decide +kernel
theorem dX12_bestAt_114 : decode cX12_bestAt 114 = .ok (.istore_n 2, 1) := by decide +kernel
theorem dX12_bestAt_115 : decode cX12_bestAt 115 = .ok (.iload 6, 2) := by decide +kernel
theorem dX12_bestAt_117 : decode cX12_bestAt 117 = .ok (.istore_n 3, 1) := by decide +kernel
theorem dX12_bestAt_118 : decode cX12_bestAt 118 = .ok (.iinc 4 1, 3) := by decide +kernel
theorem dX12_bestAt_121 : decode cX12_bestAt 121 = .ok (.goto (-114), 3) := by decide +kernel
theorem dX12_bestAt_124 : decode cX12_bestAt 124 = .ok (.iload_n 2, 1) := by decide +kernel
theorem dX12_bestAt_125 : decode cX12_bestAt 125 = .ok (.ireturn, 1) := by decide +kernel
theorem dX12_bestNow_0 : decode cX12_bestNow 0 = .ok (.aload_n 0, 1) := by decide +kernel
theorem dX12_bestNow_1 : decode cX12_bestNow 1 = .ok (.aload_n 0, 1) := by decide +kernel
theorem dX12_bestNow_2 : decode cX12_bestNow 2 = .ok (.invokevirtual 410, 3) := by decide +kernel
theorem dX12_bestNow_5 : decode cX12_bestNow 5 = .ok (.invokevirtual 413, 3) := by decide +kernel
theorem dX12_bestNow_8 : decode cX12_bestNow 8 = .ok (.istore_n 1, 1) := by decide +kernel
theorem dX12_bestNow_9 : decode cX12_bestNow 9 = .ok (.iload_n 1, 1) := by decide +kernel
theorem dX12_bestNow_10 : decode cX12_bestNow 10 = .ok (.iconst (-1), 1) := by decide +kernel
theorem dX12_bestNow_11 : decode cX12_bestNow 11 = .ok (.if_icmp .ne 7, 3) := by decide +kernel
theorem dX12_bestNow_14 : decode cX12_bestNow 14 = .ok (.iconst (-1), 1) := by decide +kernel
theorem dX12_bestNow_15 : decode cX12_bestNow 15 = .ok (.goto 24, 3) := by decide +kernel
theorem dX12_bestNow_18 : decode cX12_bestNow 18 = .ok (.iload_n 1, 1) := by decide +kernel
theorem dX12_bestNow_19 : decode cX12_bestNow 19 = .ok (.aload_n 0, 1) := by decide +kernel
theorem dX12_bestNow_20 : decode cX12_bestNow 20 = .ok (.getfield 9, 3) := by decide +kernel
theorem dX12_bestNow_23 : decode cX12_bestNow 23 = .ok (.iconst 2, 1) := by decide +kernel
theorem dX12_bestNow_24 : decode cX12_bestNow 24 = .ok (.iaload, 1) := by decide +kernel
theorem dX12_bestNow_25 : decode cX12_bestNow 25 = .ok (.ifCond .ne 7, 3) := by decide +kernel
theorem dX12_bestNow_28 : decode cX12_bestNow 28 = .ok (.iconst 0, 1) := by decide +kernel
theorem dX12_bestNow_29 : decode cX12_bestNow 29 = .ok (.goto 9, 3) := by decide +kernel
theorem dX12_bestNow_32 : decode cX12_bestNow 32 = .ok (.aload_n 0, 1) := by decide +kernel
theorem dX12_bestNow_33 : decode cX12_bestNow 33 = .ok (.getfield 9, 3) := by decide +kernel
theorem dX12_bestNow_36 : decode cX12_bestNow 36 = .ok (.iconst 1, 1) := by decide +kernel
theorem dX12_bestNow_37 : decode cX12_bestNow 37 = .ok (.iaload, 1) := by decide +kernel
theorem dX12_bestNow_38 : decode cX12_bestNow 38 = .ok (.iadd, 1) := by decide +kernel
theorem dX12_bestNow_39 : decode cX12_bestNow 39 = .ok (.ireturn, 1) := by decide +kernel
theorem dX12_best_0 : decode cX12_best 0 = .ok (.aload_n 0, 1) := by decide +kernel
theorem dX12_best_1 : decode cX12_best 1 = .ok (.iconst 0, 1) := by decide +kernel
theorem dX12_best_2 : decode cX12_best 2 = .ok (.putfield 107, 3) := by decide +kernel
theorem dX12_best_5 : decode cX12_best 5 = .ok (.aload_n 0, 1) := by decide +kernel
theorem dX12_best_6 : decode cX12_best 6 = .ok (.aload_n 0, 1) := by decide +kernel
theorem dX12_best_7 : decode cX12_best 7 = .ok (.invokevirtual 365, 3) := by decide +kernel
theorem dX12_best_10 : decode cX12_best 10 = .ok (.invokevirtual 407, 3) := by decide +kernel
theorem dX12_best_13 : decode cX12_best 13 = .ok (.ifCond .eq 10, 3) := by decide +kernel
theorem dX12_best_16 : decode cX12_best 16 = .ok (.aload_n 0, 1) := by decide +kernel
theorem dX12_best_17 : decode cX12_best 17 = .ok (.invokevirtual 416, 3) := by decide +kernel
theorem dX12_best_20 : decode cX12_best 20 = .ok (.goto 4, 3) := by decide +kernel
theorem dX12_best_23 : decode cX12_best 23 = .ok (.iconst (-1), 1) := by decide +kernel
theorem dX12_best_24 : decode cX12_best 24 = .ok (.ireturn, 1) := by decide +kernel
theorem dX12_worth_0 : decode cX12_worth 0 = .ok (.aload_n 0, 1) := by decide +kernel
theorem dX12_worth_1 : decode cX12_worth 1 = .ok (.iconst 0, 1) := by decide +kernel
theorem dX12_worth_2 : decode cX12_worth 2 = .ok (.putfield 107, 3) := by decide +kernel
theorem dX12_worth_5 : decode cX12_worth 5 = .ok (.aload_n 0, 1) := by decide +kernel
theorem dX12_worth_6 : decode cX12_worth 6 = .ok (.aload_n 0, 1) := by decide +kernel
theorem dX12_worth_7 : decode cX12_worth 7 = .ok (.invokevirtual 365, 3) := by decide +kernel
theorem dX12_worth_10 : decode cX12_worth 10 = .ok (.invokevirtual 407, 3) := by decide +kernel
theorem dX12_worth_13 : decode cX12_worth 13 = .ok (.ifCond .eq 11, 3) := by decide +kernel
theorem dX12_worth_16 : decode cX12_worth 16 = .ok (.aload_n 0, 1) := by decide +kernel
theorem dX12_worth_17 : decode cX12_worth 17 = .ok (.iload_n 1, 1) := by decide +kernel
theorem dX12_worth_18 : decode cX12_worth 18 = .ok (.invokevirtual 311, 3) := by decide +kernel
theorem dX12_worth_21 : decode cX12_worth 21 = .ok (.ifCond .eq 7, 3) := by decide +kernel
theorem dX12_worth_24 : decode cX12_worth 24 = .ok (.sipush (-1000), 3) := by decide +kernel
theorem dX12_worth_27 : decode cX12_worth 27 = .ok (.ireturn, 1) := by decide +kernel
theorem dX12_worth_28 : decode cX12_worth 28 = .ok (.aload_n 0, 1) := by decide +kernel
theorem dX12_worth_29 : decode cX12_worth 29 = .ok (.aload_n 0, 1) := by decide +kernel
theorem dX12_worth_30 : decode cX12_worth 30 = .ok (.invokevirtual 410, 3) := by decide +kernel
theorem dX12_worth_33 : decode cX12_worth 33 = .ok (.iload_n 1, 1) := by decide +kernel
theorem dX12_worth_34 : decode cX12_worth 34 = .ok (.aload_n 0, 1) := by decide +kernel
theorem dX12_worth_35 : decode cX12_worth 35 = .ok (.getfield 9, 3) := by decide +kernel
theorem dX12_worth_38 : decode cX12_worth 38 = .ok (.iconst 1, 1) := by decide +kernel
theorem dX12_worth_39 : decode cX12_worth 39 = .ok (.iaload, 1) := by decide +kernel
theorem dX12_worth_40 : decode cX12_worth 40 = .ok (.irem, 1) := by decide +kernel
theorem dX12_worth_41 : decode cX12_worth 41 = .ok (.aload_n 0, 1) := by decide +kernel
theorem dX12_worth_42 : decode cX12_worth 42 = .ok (.getfield 51, 3) := by decide +kernel
theorem dX12_worth_45 : decode cX12_worth 45 = .ok (.invokevirtual 398, 3) := by decide +kernel
theorem dX12_worth_48 : decode cX12_worth 48 = .ok (.ireturn, 1) := by decide +kernel
theorem dX12_valueOf_0 : decode cX12_valueOf 0 = .ok (.aload_n 0, 1) := by decide +kernel
theorem dX12_valueOf_1 : decode cX12_valueOf 1 = .ok (.iload_n 1, 1) := by decide +kernel
theorem dX12_valueOf_2 : decode cX12_valueOf 2 = .ok (.invokestatic 254, 3) := by decide +kernel
theorem dX12_valueOf_5 : decode cX12_valueOf 5 = .ok (.ifCond .ne 7, 3) := by decide +kernel
theorem dX12_valueOf_8 : decode cX12_valueOf 8 = .ok (.iconst 1, 1) := by decide +kernel
theorem dX12_valueOf_9 : decode cX12_valueOf 9 = .ok (.goto 20, 3) := by decide +kernel
theorem dX12_valueOf_12 : decode cX12_valueOf 12 = .ok (.iload_n 2, 1) := by decide +kernel
theorem dX12_valueOf_13 : decode cX12_valueOf 13 = .ok (.i2l, 1) := by decide +kernel
theorem dX12_valueOf_14 : decode cX12_valueOf 14 = .ok (.lconst 0, 1) := by decide +kernel
theorem dX12_valueOf_15 : decode cX12_valueOf 15 = .ok (.ldc2_w 357, 3) := by decide +kernel
theorem dX12_valueOf_18 : decode cX12_valueOf 18 = .ok (.invokestatic 166, 3) := by decide +kernel
theorem dX12_valueOf_21 : decode cX12_valueOf 21 = .ok (.ifCond .eq 7, 3) := by decide +kernel
theorem dX12_valueOf_24 : decode cX12_valueOf 24 = .ok (.iconst 0, 1) := by decide +kernel
theorem dX12_valueOf_25 : decode cX12_valueOf 25 = .ok (.goto 4, 3) := by decide +kernel
theorem dX12_valueOf_28 : decode cX12_valueOf 28 = .ok (.iconst 2, 1) := by decide +kernel
theorem dX12_valueOf_29 : decode cX12_valueOf 29 = .ok (.putfield 107, 3) := by decide +kernel
theorem dX12_valueOf_32 : decode cX12_valueOf 32 = .ok (.aload_n 0, 1) := by decide +kernel
theorem dX12_valueOf_33 : decode cX12_valueOf 33 = .ok (.getfield 107, 3) := by decide +kernel
theorem dX12_valueOf_36 : decode cX12_valueOf 36 = .ok (.ifCond .le 5, 3) := by decide +kernel
theorem dX12_valueOf_39 : decode cX12_valueOf 39 = .ok (.iconst 0, 1) := by decide +kernel
theorem dX12_valueOf_40 : decode cX12_valueOf 40 = .ok (.ireturn, 1) := by decide +kernel
theorem dX12_valueOf_41 : decode cX12_valueOf 41 = .ok (.aload_n 0, 1) := by decide +kernel
theorem dX12_valueOf_42 : decode cX12_valueOf 42 = .ok (.iload_n 2, 1) := by decide +kernel
theorem dX12_valueOf_43 : decode cX12_valueOf 43 = .ok (.invokevirtual 407, 3) := by decide +kernel
theorem dX12_valueOf_46 : decode cX12_valueOf 46 = .ok (.ifCond .ne 9, 3) := by decide +kernel
theorem dX12_valueOf_49 : decode cX12_valueOf 49 = .ok (.aload_n 0, 1) := by decide +kernel
theorem dX12_valueOf_50 : decode cX12_valueOf 50 = .ok (.iconst 3, 1) := by decide +kernel
theorem dX12_valueOf_51 : decode cX12_valueOf 51 = .ok (.invokevirtual 221, 3) := by decide +kernel
theorem dX12_valueOf_54 : decode cX12_valueOf 54 = .ok (.ireturn, 1) := by decide +kernel
theorem dX12_valueOf_55 : decode cX12_valueOf 55 = .ok (.iload_n 3, 1) := by decide +kernel
theorem dX12_valueOf_56 : decode cX12_valueOf 56 = .ok (.i2l, 1) := by decide +kernel
theorem dX12_valueOf_57 : decode cX12_valueOf 57 = .ok (.lconst 0, 1) := by decide +kernel
theorem dX12_valueOf_58 : decode cX12_valueOf 58 = .ok (.aload_n 0, 1) := by decide +kernel
theorem dX12_valueOf_59 : decode cX12_valueOf 59 = .ok (.getfield 67, 3) := by decide +kernel
theorem dX12_valueOf_62 : decode cX12_valueOf 62 = .ok (.iload_n 2, 1) := by decide +kernel
theorem dX12_valueOf_63 : decode cX12_valueOf 63 = .ok (.iconst 1, 1) := by decide +kernel
theorem dX12_valueOf_64 : decode cX12_valueOf 64 = .ok (.iadd, 1) := by decide +kernel
theorem dX12_valueOf_65 : decode cX12_valueOf 65 = .ok (.iaload, 1) := by decide +kernel
theorem dX12_valueOf_66 : decode cX12_valueOf 66 = .ok (.aload_n 0, 1) := by decide +kernel
theorem dX12_valueOf_67 : decode cX12_valueOf 67 = .ok (.getfield 67, 3) := by decide +kernel
theorem dX12_valueOf_70 : decode cX12_valueOf 70 = .ok (.iload_n 2, 1) := by decide +kernel
theorem dX12_valueOf_71 : decode cX12_valueOf 71 = .ok (.iaload, 1) := by decide +kernel
theorem dX12_valueOf_72 : decode cX12_valueOf 72 = .ok (.isub, 1) := by decide +kernel
theorem dX12_valueOf_73 : decode cX12_valueOf 73 = .ok (.iconst 1, 1) := by decide +kernel
theorem dX12_valueOf_74 : decode cX12_valueOf 74 = .ok (.isub, 1) := by decide +kernel
theorem dX12_valueOf_75 : decode cX12_valueOf 75 = .ok (.i2l, 1) := by decide +kernel
theorem dX12_valueOf_76 : decode cX12_valueOf 76 = .ok (.invokestatic 166, 3) := by decide +kernel
theorem dX12_valueOf_79 : decode cX12_valueOf 79 = .ok (.ifCond .eq 18, 3) := by decide +kernel
theorem dX12_valueOf_82 : decode cX12_valueOf 82 = .ok (.aload_n 0, 1) := by decide +kernel
theorem dX12_valueOf_83 : decode cX12_valueOf 83 = .ok (.getfield 51, 3) := by decide +kernel
theorem dX12_valueOf_86 : decode cX12_valueOf 86 = .ok (.aload_n 0, 1) := by decide +kernel
theorem dX12_valueOf_87 : decode cX12_valueOf 87 = .ok (.iload_n 1, 1) := by decide +kernel
theorem dX12_valueOf_88 : decode cX12_valueOf 88 = .ok (.iload_n 2, 1) := by decide +kernel
theorem dX12_valueOf_89 : decode cX12_valueOf 89 = .ok (.iload_n 3, 1) := by decide +kernel
theorem dX12_valueOf_90 : decode cX12_valueOf 90 = .ok (.invokevirtual 384, 3) := by decide +kernel
theorem dX12_valueOf_93 : decode cX12_valueOf 93 = .ok (.iaload, 1) := by decide +kernel
theorem dX12_valueOf_94 : decode cX12_valueOf 94 = .ok (.goto 8, 3) := by decide +kernel
theorem dX12_valueOf_97 : decode cX12_valueOf 97 = .ok (.aload_n 0, 1) := by decide +kernel
theorem dX12_valueOf_98 : decode cX12_valueOf 98 = .ok (.iconst 1, 1) := by decide +kernel
theorem dX12_valueOf_99 : decode cX12_valueOf 99 = .ok (.invokevirtual 221, 3) := by decide +kernel
theorem dX12_valueOf_102 : decode cX12_valueOf 102 = .ok (.ireturn, 1) := by decide +kernel
theorem dX12_tally_0 : decode cX12_tally 0 = .ok (.aload_n 0, 1) := by decide +kernel
theorem dX12_tally_1 : decode cX12_tally 1 = .ok (.iload_n 1, 1) := by decide +kernel
theorem dX12_tally_2 : decode cX12_tally 2 = .ok (.invokestatic 254, 3) := by decide +kernel
theorem dX12_tally_5 : decode cX12_tally 5 = .ok (.ifCond .ne 7, 3) := by decide +kernel
theorem dX12_tally_8 : decode cX12_tally 8 = .ok (.iconst 1, 1) := by decide +kernel
theorem dX12_tally_9 : decode cX12_tally 9 = .ok (.goto 32, 3) := by decide +kernel
theorem dX12_tally_12 : decode cX12_tally 12 = .ok (.iload_n 2, 1) := by decide +kernel
theorem dX12_tally_13 : decode cX12_tally 13 = .ok (.i2l, 1) := by decide +kernel
theorem dX12_tally_14 : decode cX12_tally 14 = .ok (.lconst 0, 1) := by decide +kernel
theorem dX12_tally_15 : decode cX12_tally 15 = .ok (.ldc2_w 357, 3) := by decide +kernel
theorem dX12_tally_18 : decode cX12_tally 18 = .ok (.invokestatic 166, 3) := by decide +kernel
theorem dX12_tally_21 : decode cX12_tally 21 = .ok (.ifCond .eq 19, 3) := by decide +kernel
theorem dX12_tally_24 : decode cX12_tally 24 = .ok (.iload_n 3, 1) := by decide +kernel
theorem dX12_tally_25 : decode cX12_tally 25 = .ok (.i2l, 1) := by decide +kernel
theorem dX12_tally_26 : decode cX12_tally 26 = .ok (.lconst 0, 1) := by decide +kernel
theorem dX12_tally_27 : decode cX12_tally 27 = .ok (.ldc2_w 314, 3) := by decide +kernel
theorem dX12_tally_30 : decode cX12_tally 30 = .ok (.invokestatic 166, 3) := by decide +kernel
theorem dX12_tally_33 : decode cX12_tally 33 = .ok (.ifCond .eq 7, 3) := by decide +kernel
theorem dX12_tally_36 : decode cX12_tally 36 = .ok (.iconst 0, 1) := by decide +kernel
theorem dX12_tally_37 : decode cX12_tally 37 = .ok (.goto 4, 3) := by decide +kernel
theorem dX12_tally_40 : decode cX12_tally 40 = .ok (.iconst 2, 1) := by decide +kernel
theorem dX12_tally_41 : decode cX12_tally 41 = .ok (.putfield 107, 3) := by decide +kernel
theorem dX12_tally_44 : decode cX12_tally 44 = .ok (.aload_n 0, 1) := by decide +kernel
theorem dX12_tally_45 : decode cX12_tally 45 = .ok (.getfield 107, 3) := by decide +kernel
theorem dX12_tally_48 : decode cX12_tally 48 = .ok (.ifCond .le 5, 3) := by decide +kernel
theorem dX12_tally_51 : decode cX12_tally 51 = .ok (.iconst 0, 1) := by decide +kernel
theorem dX12_tally_52 : decode cX12_tally 52 = .ok (.ireturn, 1) := by decide +kernel
theorem dX12_tally_53 : decode cX12_tally 53 = .ok (.aload_n 0, 1) := by decide +kernel
theorem dX12_tally_54 : decode cX12_tally 54 = .ok (.iload_n 2, 1) := by decide +kernel
theorem dX12_tally_55 : decode cX12_tally 55 = .ok (.invokevirtual 407, 3) := by decide +kernel
theorem dX12_tally_58 : decode cX12_tally 58 = .ok (.ifCond .ne 9, 3) := by decide +kernel
theorem dX12_tally_61 : decode cX12_tally 61 = .ok (.aload_n 0, 1) := by decide +kernel
theorem dX12_tally_62 : decode cX12_tally 62 = .ok (.iconst 3, 1) := by decide +kernel
theorem dX12_tally_63 : decode cX12_tally 63 = .ok (.invokevirtual 221, 3) := by decide +kernel
theorem dX12_tally_66 : decode cX12_tally 66 = .ok (.ireturn, 1) := by decide +kernel
theorem dX12_tally_67 : decode cX12_tally 67 = .ok (.iconst 0, 1) := by decide +kernel
theorem dX12_tally_68 : decode cX12_tally 68 = .ok (.istore 4, 2) := by decide +kernel
theorem dX12_tally_70 : decode cX12_tally 70 = .ok (.iconst 0, 1) := by decide +kernel
theorem dX12_tally_71 : decode cX12_tally 71 = .ok (.istore 5, 2) := by decide +kernel
theorem dX12_tally_73 : decode cX12_tally 73 = .ok (.iload 5, 2) := by decide +kernel
theorem dX12_tally_75 : decode cX12_tally 75 = .ok (.aload_n 0, 1) := by decide +kernel
theorem dX12_tally_76 : decode cX12_tally 76 = .ok (.getfield 67, 3) := by decide +kernel
theorem dX12_tally_79 : decode cX12_tally 79 = .ok (.iload_n 2, 1) := by decide +kernel
theorem dX12_tally_80 : decode cX12_tally 80 = .ok (.iconst 1, 1) := by decide +kernel
theorem dX12_tally_81 : decode cX12_tally 81 = .ok (.iadd, 1) := by decide +kernel
theorem dX12_tally_82 : decode cX12_tally 82 = .ok (.iaload, 1) := by decide +kernel
theorem dX12_tally_83 : decode cX12_tally 83 = .ok (.aload_n 0, 1) := by decide +kernel
theorem dX12_tally_84 : decode cX12_tally 84 = .ok (.getfield 67, 3) := by decide +kernel
theorem dX12_tally_87 : decode cX12_tally 87 = .ok (.iload_n 2, 1) := by decide +kernel
theorem dX12_tally_88 : decode cX12_tally 88 = .ok (.iaload, 1) := by decide +kernel
theorem dX12_tally_89 : decode cX12_tally 89 = .ok (.isub, 1) := by decide +kernel
theorem dX12_tally_90 : decode cX12_tally 90 = .ok (.if_icmp .ge 82, 3) := by decide +kernel
theorem dX12_tally_93 : decode cX12_tally 93 = .ok (.aload_n 0, 1) := by decide +kernel
theorem dX12_tally_94 : decode cX12_tally 94 = .ok (.iload_n 1, 1) := by decide +kernel
theorem dX12_tally_95 : decode cX12_tally 95 = .ok (.iload_n 2, 1) := by decide +kernel
theorem dX12_tally_96 : decode cX12_tally 96 = .ok (.iload 5, 2) := by decide +kernel
theorem dX12_tally_98 : decode cX12_tally 98 = .ok (.invokevirtual 384, 3) := by decide +kernel
theorem dX12_tally_101 : decode cX12_tally 101 = .ok (.istore 6, 2) := by decide +kernel
theorem dX12_tally_103 : decode cX12_tally 103 = .ok (.aload_n 0, 1) := by decide +kernel
theorem dX12_tally_104 : decode cX12_tally 104 = .ok (.getfield 51, 3) := by decide +kernel
theorem dX12_tally_107 : decode cX12_tally 107 = .ok (.iload 6, 2) := by decide +kernel
theorem dX12_tally_109 : decode cX12_tally 109 = .ok (.iaload, 1) := by decide +kernel
theorem dX12_tally_110 : decode cX12_tally 110 = .ok (.istore 7, 2) := by decide +kernel
theorem dX12_tally_112 : decode cX12_tally 112 = .ok (.iload 4, 2) := by decide +kernel
theorem dX12_tally_114 : decode cX12_tally 114 = .ok (.iload_n 3, 1) := by decide +kernel
theorem dX12_tally_115 : decode cX12_tally 115 = .ok (.ifCond .ne 8, 3) := by decide +kernel
theorem dX12_tally_118 : decode cX12_tally 118 = .ok (.iload 7, 2) := by decide +kernel
theorem dX12_tally_120 : decode cX12_tally 120 = .ok (.ifCond .gt 38, 3) := by decide +kernel
theorem dX12_tally_123 : decode cX12_tally 123 = .ok (.iload_n 3, 1) := by decide +kernel
theorem dX12_tally_124 : decode cX12_tally 124 = .ok (.iconst 1, 1) := by decide +kernel
theorem dX12_tally_125 : decode cX12_tally 125 = .ok (.if_icmp .ne 8, 3) := by decide +kernel
theorem dX12_tally_128 : decode cX12_tally 128 = .ok (.iload 7, 2) := by decide +kernel
theorem dX12_tally_130 : decode cX12_tally 130 = .ok (.ifCond .eq 28, 3) := by decide +kernel
theorem dX12_tally_133 : decode cX12_tally 133 = .ok (.iload_n 3, 1) := by decide +kernel
theorem dX12_tally_134 : decode cX12_tally 134 = .ok (.iconst 2, 1) := by decide +kernel
theorem dX12_tally_135 : decode cX12_tally 135 = .ok (.if_icmp .ne 8, 3) := by decide +kernel
theorem dX12_tally_138 : decode cX12_tally 138 = .ok (.iload 7, 2) := by decide +kernel
theorem dX12_tally_140 : decode cX12_tally 140 = .ok (.ifCond .lt 18, 3) := by decide +kernel
theorem dX12_tally_143 : decode cX12_tally 143 = .ok (.iload_n 3, 1) := by decide +kernel
theorem dX12_tally_144 : decode cX12_tally 144 = .ok (.iconst 3, 1) := by decide +kernel
theorem dX12_tally_145 : decode cX12_tally 145 = .ok (.if_icmp .ne 17, 3) := by decide +kernel
theorem dX12_tally_148 : decode cX12_tally 148 = .ok (.aload_n 0, 1) := by decide +kernel
theorem dX12_tally_149 : decode cX12_tally 149 = .ok (.getfield 70, 3) := by decide +kernel
theorem dX12_tally_152 : decode cX12_tally 152 = .ok (.iload 6, 2) := by decide +kernel
theorem dX12_tally_154 : decode cX12_tally 154 = .ok (.baload, 1) := by decide +kernel
theorem dX12_tally_155 : decode cX12_tally 155 = .ok (.ifCond .eq 7, 3) := by decide +kernel
theorem dX12_tally_158 : decode cX12_tally 158 = .ok (.iconst 1, 1) := by decide +kernel
theorem dX12_tally_159 : decode cX12_tally 159 = .ok (.goto 4, 3) := by decide +kernel
theorem dX12_tally_162 : decode cX12_tally 162 = .ok (.iconst 0, 1) := by decide +kernel
theorem dX12_tally_163 : decode cX12_tally 163 = .ok (.iadd, 1) := by decide +kernel
theorem dX12_tally_164 : decode cX12_tally 164 = .ok (.istore 4, 2) := by decide +kernel
theorem dX12_tally_166 : decode cX12_tally 166 = .ok (.iinc 5 1, 3) := by decide +kernel
theorem dX12_tally_169 : decode cX12_tally 169 = .ok (.goto (-96), 3) := by decide +kernel
theorem dX12_tally_172 : decode cX12_tally 172 = .ok (.iload 4, 2) := by decide +kernel
theorem dX12_tally_174 : decode cX12_tally 174 = .ok (.ireturn, 1) := by decide +kernel
theorem dX12_canAt_0 : decode cX12_canAt 0 = .ok (.iconst 0, 1) := by decide +kernel
theorem dX12_canAt_1 : decode cX12_canAt 1 = .ok (.istore_n 3, 1) := by decide +kernel
theorem dX12_canAt_2 : decode cX12_canAt 2 = .ok (.iconst 0, 1) := by decide +kernel
theorem dX12_canAt_3 : decode cX12_canAt 3 = .ok (.istore 4, 2) := by decide +kernel
theorem dX12_canAt_5 : decode cX12_canAt 5 = .ok (.iload 4, 2) := by decide +kernel
theorem dX12_canAt_7 : decode cX12_canAt 7 = .ok (.aload_n 0, 1) := by decide +kernel
theorem dX12_canAt_8 : decode cX12_canAt 8 = .ok (.getfield 9, 3) := by decide +kernel
theorem dX12_canAt_11 : decode cX12_canAt 11 = .ok (.iconst 1, 1) := by decide +kernel
theorem dX12_canAt_12 : decode cX12_canAt 12 = .ok (.iaload, 1) := by decide +kernel
theorem dX12_canAt_13 : decode cX12_canAt 13 = .ok (.if_icmp .ge 57, 3) := by decide +kernel
theorem dX12_canAt_16 : decode cX12_canAt 16 = .ok (.iload_n 3, 1) := by decide +kernel
theorem dX12_canAt_17 : decode cX12_canAt 17 = .ok (.aload_n 0, 1) := by decide +kernel
theorem dX12_canAt_18 : decode cX12_canAt 18 = .ok (.getfield 61, 3) := by decide +kernel
theorem dX12_canAt_21 : decode cX12_canAt 21 = .ok (.bipush 6, 2) := by decide +kernel
theorem dX12_canAt_23 : decode cX12_canAt 23 = .ok (.iload_n 1, 1) := by decide +kernel
theorem dX12_canAt_24 : decode cX12_canAt 24 = .ok (.imul, 1) := by decide +kernel
theorem dX12_canAt_25 : decode cX12_canAt 25 = .ok (.iload 4, 2) := by decide +kernel
theorem dX12_canAt_27 : decode cX12_canAt 27 = .ok (.iadd, 1) := by decide +kernel
theorem dX12_canAt_28 : decode cX12_canAt 28 = .ok (.iaload, 1) := by decide +kernel
theorem dX12_canAt_29 : decode cX12_canAt 29 = .ok (.iconst (-1), 1) := by decide +kernel
theorem dX12_canAt_30 : decode cX12_canAt 30 = .ok (.if_icmp .eq 31, 3) := by decide +kernel
theorem dX12_canAt_33 : decode cX12_canAt 33 = .ok (.iload_n 2, 1) := by decide +kernel
theorem dX12_canAt_34 : decode cX12_canAt 34 = .ok (.ifCond .eq 23, 3) := by decide +kernel
theorem dX12_canAt_37 : decode cX12_canAt 37 = .ok (.aload_n 0, 1) := by decide +kernel
theorem dX12_canAt_38 : decode cX12_canAt 38 = .ok (.iload_n 1, 1) := by decide +kernel
theorem dX12_canAt_39 : decode cX12_canAt 39 = .ok (.iload 4, 2) := by decide +kernel
theorem dX12_canAt_41 : decode cX12_canAt 41 = .ok (.aload_n 0, 1) := by decide +kernel
theorem dX12_canAt_42 : decode cX12_canAt 42 = .ok (.getfield 51, 3) := by decide +kernel
theorem dX12_canAt_45 : decode cX12_canAt 45 = .ok (.invokevirtual 398, 3) := by decide +kernel
theorem dX12_canAt_48 : decode cX12_canAt 48 = .ok (.aload_n 0, 1) := by decide +kernel
theorem dX12_canAt_49 : decode cX12_canAt 49 = .ok (.getfield 51, 3) := by decide +kernel
theorem dX12_canAt_52 : decode cX12_canAt 52 = .ok (.iload_n 1, 1) := by decide +kernel
theorem dX12_canAt_53 : decode cX12_canAt 53 = .ok (.iaload, 1) := by decide +kernel
theorem dX12_canAt_54 : decode cX12_canAt 54 = .ok (.if_icmp .ne 7, 3) := by decide +kernel
theorem dX12_canAt_57 : decode cX12_canAt 57 = .ok (.iconst 1, 1) := by decide +kernel
theorem dX12_canAt_58 : decode cX12_canAt 58 = .ok (.goto 4, 3) := by decide +kernel
theorem dX12_canAt_61 : decode cX12_canAt 61 = .ok (.iconst 0, 1) := by decide +kernel
theorem dX12_canAt_62 : decode cX12_canAt 62 = .ok (.iadd, 1) := by decide +kernel
theorem dX12_canAt_63 : decode cX12_canAt 63 = .ok (.istore_n 3, 1) := by decide +kernel
theorem dX12_canAt_64 : decode cX12_canAt 64 = .ok (.iinc 4 1, 3) := by decide +kernel
theorem dX12_canAt_67 : decode cX12_canAt 67 = .ok (.goto (-62), 3) := by decide +kernel
theorem dX12_canAt_70 : decode cX12_canAt 70 = .ok (.iload_n 3, 1) := by decide +kernel
theorem dX12_canAt_71 : decode cX12_canAt 71 = .ok (.ireturn, 1) := by decide +kernel
theorem dX12_row_0 : decode cX12_row 0 = .ok (.aload_n 0, 1) := by decide +kernel
theorem dX12_row_1 : decode cX12_row 1 = .ok (.iload_n 1, 1) := by decide +kernel
theorem dX12_row_2 : decode cX12_row 2 = .ok (.iload_n 2, 1) := by decide +kernel
theorem dX12_row_3 : decode cX12_row 3 = .ok (.iload_n 3, 1) := by decide +kernel
theorem dX12_row_4 : decode cX12_row 4 = .ok (.invokevirtual 419, 3) := by decide +kernel
theorem dX12_row_7 : decode cX12_row 7 = .ok (.pop, 1) := by decide +kernel
theorem dX12_row_8 : decode cX12_row 8 = .ok (.aload_n 0, 1) := by decide +kernel
theorem dX12_row_9 : decode cX12_row 9 = .ok (.getfield 107, 3) := by decide +kernel
theorem dX12_row_12 : decode cX12_row 12 = .ok (.ifCond .ne 43, 3) := by decide +kernel
theorem dX12_row_15 : decode cX12_row 15 = .ok (.iload 4, 2) := by decide +kernel
theorem dX12_row_17 : decode cX12_row 17 = .ok (.i2l, 1) := by decide +kernel
theorem dX12_row_18 : decode cX12_row 18 = .ok (.lconst 0, 1) := by decide +kernel
theorem dX12_row_19 : decode cX12_row 19 = .ok (.ldc2_w 314, 3) := by decide +kernel
theorem dX12_row_22 : decode cX12_row 22 = .ok (.invokestatic 166, 3) := by decide +kernel
theorem dX12_row_25 : decode cX12_row 25 = .ok (.ifCond .ne 30, 3) := by decide +kernel
theorem dX12_row_28 : decode cX12_row 28 = .ok (.iload 4, 2) := by decide +kernel
theorem dX12_row_30 : decode cX12_row 30 = .ok (.i2l, 1) := by decide +kernel
theorem dX12_row_31 : decode cX12_row 31 = .ok (.ldc2_w 422, 3) := by decide +kernel
theorem dX12_row_34 : decode cX12_row 34 = .ok (.bipush 9, 2) := by decide +kernel
theorem dX12_row_36 : decode cX12_row 36 = .ok (.aload_n 0, 1) := by decide +kernel
theorem dX12_row_37 : decode cX12_row 37 = .ok (.getfield 9, 3) := by decide +kernel
theorem dX12_row_40 : decode cX12_row 40 = .ok (.iconst 1, 1) := by decide +kernel
theorem dX12_row_41 : decode cX12_row 41 = .ok (.iaload, 1) := by decide +kernel
theorem dX12_row_42 : decode cX12_row 42 = .ok (.iadd, 1) := by decide +kernel
theorem dX12_row_43 : decode cX12_row 43 = .ok (.i2l, 1) := by decide +kernel
theorem dX12_row_44 : decode cX12_row 44 = .ok (.invokestatic 166, 3) := by decide +kernel
theorem dX12_row_47 : decode cX12_row 47 = .ok (.ifCond .ne 8, 3) := by decide +kernel
theorem dX12_row_50 : decode cX12_row 50 = .ok (.aload_n 0, 1) := by decide +kernel
theorem dX12_row_51 : decode cX12_row 51 = .ok (.iconst 2, 1) := by decide +kernel
theorem dX12_row_52 : decode cX12_row 52 = .ok (.putfield 107, 3) := by decide +kernel
theorem dX12_row_55 : decode cX12_row 55 = .ok (.aload_n 0, 1) := by decide +kernel
theorem dX12_row_56 : decode cX12_row 56 = .ok (.getfield 107, 3) := by decide +kernel
theorem dX12_row_59 : decode cX12_row 59 = .ok (.ifCond .le 5, 3) := by decide +kernel
theorem dX12_row_62 : decode cX12_row 62 = .ok (.iconst 0, 1) := by decide +kernel
theorem dX12_row_63 : decode cX12_row 63 = .ok (.ireturn, 1) := by decide +kernel
theorem dX12_row_64 : decode cX12_row 64 = .ok (.aload_n 0, 1) := by decide +kernel
theorem dX12_row_65 : decode cX12_row 65 = .ok (.iload_n 1, 1) := by decide +kernel
theorem dX12_row_66 : decode cX12_row 66 = .ok (.iload_n 2, 1) := by decide +kernel
theorem dX12_row_67 : decode cX12_row 67 = .ok (.iload_n 3, 1) := by decide +kernel
theorem dX12_row_68 : decode cX12_row 68 = .ok (.invokevirtual 384, 3) := by decide +kernel
theorem dX12_row_71 : decode cX12_row 71 = .ok (.istore 5, 2) := by decide +kernel
theorem dX12_row_73 : decode cX12_row 73 = .ok (.iload 4, 2) := by decide +kernel
theorem dX12_row_75 : decode cX12_row 75 = .ok (.bipush 10, 2) := by decide +kernel
theorem dX12_row_77 : decode cX12_row 77 = .ok (.if_icmp .lt 45, 3) := by decide +kernel
theorem dX12_row_80 : decode cX12_row 80 = .ok (.aload_n 0, 1) := by decide +kernel
theorem dX12_row_81 : decode cX12_row 81 = .ok (.getfield 61, 3) := by decide +kernel
theorem dX12_row_84 : decode cX12_row 84 = .ok (.bipush 6, 2) := by decide +kernel
theorem dX12_row_86 : decode cX12_row 86 = .ok (.iload 5, 2) := by decide +kernel
theorem dX12_row_88 : decode cX12_row 88 = .ok (.imul, 1) := by decide +kernel
theorem dX12_row_89 : decode cX12_row 89 = .ok (.iload 4, 2) := by decide +kernel
theorem dX12_row_91 : decode cX12_row 91 = .ok (.iadd, 1) := by decide +kernel
theorem dX12_row_92 : decode cX12_row 92 = .ok (.bipush 10, 2) := by decide +kernel
theorem dX12_row_94 : decode cX12_row 94 = .ok (.isub, 1) := by decide +kernel
theorem dX12_row_95 : decode cX12_row 95 = .ok (.iaload, 1) := by decide +kernel
theorem dX12_row_96 : decode cX12_row 96 = .ok (.iconst (-1), 1) := by decide +kernel
theorem dX12_row_97 : decode cX12_row 97 = .ok (.if_icmp .ne 9, 3) := by decide +kernel
theorem dX12_row_100 : decode cX12_row 100 = .ok (.sipush (-1000), 3) := by decide +kernel
theorem dX12_row_103 : decode cX12_row 103 = .ok (.goto 18, 3) := by decide +kernel
theorem dX12_row_106 : decode cX12_row 106 = .ok (.aload_n 0, 1) := by decide +kernel
theorem dX12_row_107 : decode cX12_row 107 = .ok (.iload 5, 2) := by decide +kernel
theorem dX12_row_109 : decode cX12_row 109 = .ok (.iload 4, 2) := by decide +kernel
theorem dX12_row_111 : decode cX12_row 111 = .ok (.bipush 10, 2) := by decide +kernel
theorem dX12_row_113 : decode cX12_row 113 = .ok (.isub, 1) := by decide +kernel
theorem dX12_row_114 : decode cX12_row 114 = .ok (.aload_n 0, 1) := by decide +kernel
theorem dX12_row_115 : decode cX12_row 115 = .ok (.getfield 51, 3) := by decide +kernel
theorem dX12_row_118 : decode cX12_row 118 = .ok (.invokevirtual 398, 3) := by decide +kernel
theorem dX12_row_121 : decode cX12_row 121 = .ok (.ireturn, 1) := by decide +kernel
theorem dX12_row_122 : decode cX12_row 122 = .ok (.iload 4, 2) := by decide +kernel
theorem dX12_row_124 : decode cX12_row 124 = .ok (.ifCond .ne 13, 3) := by decide +kernel
theorem dX12_row_127 : decode cX12_row 127 = .ok (.aload_n 0, 1) := by decide +kernel
theorem dX12_row_128 : decode cX12_row 128 = .ok (.getfield 54, 3) := by decide +kernel
theorem dX12_row_131 : decode cX12_row 131 = .ok (.iload 5, 2) := by decide +kernel
theorem dX12_row_133 : decode cX12_row 133 = .ok (.iaload, 1) := by decide +kernel
theorem dX12_row_134 : decode cX12_row 134 = .ok (.goto 35, 3) := by decide +kernel
theorem dX12_row_137 : decode cX12_row 137 = .ok (.iload 4, 2) := by decide +kernel
theorem dX12_row_139 : decode cX12_row 139 = .ok (.iconst 1, 1) := by decide +kernel
theorem dX12_row_140 : decode cX12_row 140 = .ok (.if_icmp .ne 12, 3) := by decide +kernel
theorem dX12_row_143 : decode cX12_row 143 = .ok (.aload_n 0, 1) := by decide +kernel
theorem dX12_row_144 : decode cX12_row 144 = .ok (.iload 5, 2) := by decide +kernel
theorem dX12_row_146 : decode cX12_row 146 = .ok (.invokevirtual 413, 3) := by decide +kernel
theorem dX12_row_149 : decode cX12_row 149 = .ok (.goto 20, 3) := by decide +kernel
theorem dX12_row_152 : decode cX12_row 152 = .ok (.aload_n 0, 1) := by decide +kernel
theorem dX12_row_153 : decode cX12_row 153 = .ok (.iload 5, 2) := by decide +kernel
theorem dX12_row_155 : decode cX12_row 155 = .ok (.iload 4, 2) := by decide +kernel
theorem dX12_row_157 : decode cX12_row 157 = .ok (.iconst 3, 1) := by decide +kernel
theorem dX12_row_158 : decode cX12_row 158 = .ok (.if_icmp .ne 7, 3) := by decide +kernel
theorem dX12_row_161 : decode cX12_row 161 = .ok (.iconst 1, 1) := by decide +kernel
theorem dX12_row_162 : decode cX12_row 162 = .ok (.goto 4, 3) := by decide +kernel
theorem dX12_row_165 : decode cX12_row 165 = .ok (.iconst 0, 1) := by decide +kernel
theorem dX12_row_166 : decode cX12_row 166 = .ok (.invokevirtual 424, 3) := by decide +kernel
theorem dX12_row_169 : decode cX12_row 169 = .ok (.ireturn, 1) := by decide +kernel
theorem dX12_find_0 : decode cX12_find 0 = .ok (.aload_n 0, 1) := by decide +kernel
theorem dX12_find_1 : decode cX12_find 1 = .ok (.iload_n 1, 1) := by decide +kernel
theorem dX12_find_2 : decode cX12_find 2 = .ok (.invokestatic 254, 3) := by decide +kernel
theorem dX12_find_5 : decode cX12_find 5 = .ok (.ifCond .ne 7, 3) := by decide +kernel
theorem dX12_find_8 : decode cX12_find 8 = .ok (.iconst 1, 1) := by decide +kernel
theorem dX12_find_9 : decode cX12_find 9 = .ok (.goto 32, 3) := by decide +kernel
theorem dX12_find_12 : decode cX12_find 12 = .ok (.iload_n 2, 1) := by decide +kernel
theorem dX12_find_13 : decode cX12_find 13 = .ok (.i2l, 1) := by decide +kernel
theorem dX12_find_14 : decode cX12_find 14 = .ok (.lconst 0, 1) := by decide +kernel
theorem dX12_find_15 : decode cX12_find 15 = .ok (.ldc2_w 357, 3) := by decide +kernel
theorem dX12_find_18 : decode cX12_find 18 = .ok (.invokestatic 166, 3) := by decide +kernel
theorem dX12_find_21 : decode cX12_find 21 = .ok (.ifCond .ne 7, 3) := by decide +kernel
theorem dX12_find_24 : decode cX12_find 24 = .ok (.iconst 2, 1) := by decide +kernel
theorem dX12_find_25 : decode cX12_find 25 = .ok (.goto 16, 3) := by decide +kernel
theorem dX12_find_28 : decode cX12_find 28 = .ok (.aload_n 0, 1) := by decide +kernel
theorem dX12_find_29 : decode cX12_find 29 = .ok (.iload_n 2, 1) := by decide +kernel
theorem dX12_find_30 : decode cX12_find 30 = .ok (.invokevirtual 407, 3) := by decide +kernel
theorem dX12_find_33 : decode cX12_find 33 = .ok (.ifCond .eq 7, 3) := by decide +kernel
theorem dX12_find_36 : decode cX12_find 36 = .ok (.iconst 0, 1) := by decide +kernel
theorem dX12_find_37 : decode cX12_find 37 = .ok (.goto 4, 3) := by decide +kernel
theorem dX12_find_40 : decode cX12_find 40 = .ok (.iconst 3, 1) := by decide +kernel
theorem dX12_find_41 : decode cX12_find 41 = .ok (.putfield 107, 3) := by decide +kernel
theorem dX12_find_44 : decode cX12_find 44 = .ok (.aload_n 0, 1) := by decide +kernel
theorem dX12_find_45 : decode cX12_find 45 = .ok (.getfield 107, 3) := by decide +kernel
theorem dX12_find_48 : decode cX12_find 48 = .ok (.ifCond .le 5, 3) := by decide +kernel
theorem dX12_find_51 : decode cX12_find 51 = .ok (.iconst 0, 1) := by decide +kernel
theorem dX12_find_52 : decode cX12_find 52 = .ok (.ireturn, 1) := by decide +kernel
theorem dX12_find_53 : decode cX12_find 53 = .ok (.iload 4, 2) := by decide +kernel
theorem dX12_find_55 : decode cX12_find 55 = .ok (.istore 5, 2) := by decide +kernel
theorem dX12_find_57 : decode cX12_find 57 = .ok (.iconst 0, 1) := by decide +kernel
theorem dX12_find_58 : decode cX12_find 58 = .ok (.istore 6, 2) := by decide +kernel
theorem dX12_find_60 : decode cX12_find 60 = .ok (.iload 6, 2) := by decide +kernel
theorem dX12_find_62 : decode cX12_find 62 = .ok (.aload_n 0, 1) := by decide +kernel
theorem dX12_find_63 : decode cX12_find 63 = .ok (.getfield 67, 3) := by decide +kernel
theorem dX12_find_66 : decode cX12_find 66 = .ok (.iload_n 2, 1) := by decide +kernel
theorem dX12_find_67 : decode cX12_find 67 = .ok (.iconst 1, 1) := by decide +kernel
theorem dX12_find_68 : decode cX12_find 68 = .ok (.iadd, 1) := by decide +kernel
theorem dX12_find_69 : decode cX12_find 69 = .ok (.iaload, 1) := by decide +kernel
theorem dX12_find_70 : decode cX12_find 70 = .ok (.aload_n 0, 1) := by decide +kernel
theorem dX12_find_71 : decode cX12_find 71 = .ok (.getfield 67, 3) := by decide +kernel
theorem dX12_find_74 : decode cX12_find 74 = .ok (.iload_n 2, 1) := by decide +kernel
theorem dX12_find_75 : decode cX12_find 75 = .ok (.iaload, 1) := by decide +kernel
theorem dX12_find_76 : decode cX12_find 76 = .ok (.isub, 1) := by decide +kernel
theorem dX12_find_77 : decode cX12_find 77 = .ok (.if_icmp .ge 40, 3) := by decide +kernel
theorem dX12_find_80 : decode cX12_find 80 = .ok (.aload_n 0, 1) := by decide +kernel
theorem dX12_find_81 : decode cX12_find 81 = .ok (.getfield 51, 3) := by decide +kernel
theorem dX12_find_84 : decode cX12_find 84 = .ok (.aload_n 0, 1) := by decide +kernel
theorem dX12_find_85 : decode cX12_find 85 = .ok (.iload_n 1, 1) := by decide +kernel
theorem dX12_find_86 : decode cX12_find 86 = .ok (.iload_n 2, 1) := by decide +kernel
theorem dX12_find_87 : decode cX12_find 87 = .ok (.iload 6, 2) := by decide +kernel
theorem dX12_find_89 : decode cX12_find 89 = .ok (.invokevirtual 384, 3) := by decide +kernel
theorem dX12_find_92 : decode cX12_find 92 = .ok (.iaload, 1) := by decide +kernel
theorem dX12_find_93 : decode cX12_find 93 = .ok (.iload_n 3, 1) := by decide +kernel
theorem dX12_find_94 : decode cX12_find 94 = .ok (.if_icmp .eq 6, 3) := by decide +kernel
theorem dX12_find_97 : decode cX12_find 97 = .ok (.goto 14, 3) := by decide +kernel
theorem dX12_find_100 : decode cX12_find 100 = .ok (.iload 5, 2) := by decide +kernel
theorem dX12_find_102 : decode cX12_find 102 = .ok (.ifCond .ne 6, 3) := by decide +kernel
theorem dX12_find_105 : decode cX12_find 105 = .ok (.iload 6, 2) := by decide +kernel
theorem dX12_find_107 : decode cX12_find 107 = .ok (.ireturn, 1) := by decide +kernel
theorem dX12_find_108 : decode cX12_find 108 = .ok (.iinc 5 (-1), 3) := by decide +kernel
theorem dX12_find_111 : decode cX12_find 111 = .ok (.iinc 6 1, 3) := by decide +kernel
theorem dX12_find_114 : decode cX12_find 114 = .ok (.goto (-54), 3) := by decide +kernel
theorem dX12_find_117 : decode cX12_find 117 = .ok (.iconst (-1), 1) := by decide +kernel
theorem dX12_find_118 : decode cX12_find 118 = .ok (.ireturn, 1) := by decide +kernel
