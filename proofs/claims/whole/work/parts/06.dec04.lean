theorem dX12_goesOn_0 : decode cX12_goesOn 0 = .ok (.aload_n 0, 1) := by decide +kernel
theorem dX12_goesOn_1 : decode cX12_goesOn 1 = .ok (.iconst 0, 1) := by decide +kernel
theorem dX12_goesOn_2 : decode cX12_goesOn 2 = .ok (.putfield 430, 3) := by decide +kernel
theorem dX12_goesOn_5 : decode cX12_goesOn 5 = .ok (.aload_n 0, 1) := by decide +kernel
theorem dX12_goesOn_6 : decode cX12_goesOn 6 = .ok (.getfield 85, 3) := by decide +kernel
theorem dX12_goesOn_9 : decode cX12_goesOn 9 = .ok (.iconst 0, 1) := by decide +kernel
theorem dX12_goesOn_10 : decode cX12_goesOn 10 = .ok (.aload_n 0, 1) := by decide +kernel
theorem dX12_goesOn_11 : decode cX12_goesOn 11 = .ok (.invokevirtual 410, 3) := by decide +kernel
theorem dX12_goesOn_14 : decode cX12_goesOn 14 = .ok (.iastore, 1) := by decide +kernel
theorem dX12_goesOn_15 : decode cX12_goesOn 15 = .ok (.aload_n 0, 1) := by decide +kernel
theorem dX12_goesOn_16 : decode cX12_goesOn 16 = .ok (.getfield 430, 3) := by decide +kernel
theorem dX12_goesOn_19 : decode cX12_goesOn 19 = .ok (.bipush 60, 2) := by decide +kernel
theorem dX12_goesOn_21 : decode cX12_goesOn 21 = .ok (.if_icmp .ge 99, 3) := by decide +kernel
theorem dX12_goesOn_24 : decode cX12_goesOn 24 = .ok (.aload_n 0, 1) := by decide +kernel
theorem dX12_goesOn_25 : decode cX12_goesOn 25 = .ok (.invokevirtual 305, 3) := by decide +kernel
theorem dX12_goesOn_28 : decode cX12_goesOn 28 = .ok (.ifCond .ne 92, 3) := by decide +kernel
theorem dX12_goesOn_31 : decode cX12_goesOn 31 = .ok (.aload_n 0, 1) := by decide +kernel
theorem dX12_goesOn_32 : decode cX12_goesOn 32 = .ok (.getfield 82, 3) := by decide +kernel
theorem dX12_goesOn_35 : decode cX12_goesOn 35 = .ok (.aload_n 0, 1) := by decide +kernel
theorem dX12_goesOn_36 : decode cX12_goesOn 36 = .ok (.getfield 430, 3) := by decide +kernel
theorem dX12_goesOn_39 : decode cX12_goesOn 39 = .ok (.aload_n 0, 1) := by decide +kernel
theorem dX12_goesOn_40 : decode cX12_goesOn 40 = .ok (.invokevirtual 416, 3) := by decide +kernel
theorem dX12_goesOn_43 : decode cX12_goesOn 43 = .ok (.iastore, 1) := by decide +kernel
theorem dX12_goesOn_44 : decode cX12_goesOn 44 = .ok (.aload_n 0, 1) := by decide +kernel
theorem dX12_goesOn_45 : decode cX12_goesOn 45 = .ok (.aload_n 0, 1) := by decide +kernel
theorem dX12_goesOn_46 : decode cX12_goesOn 46 = .ok (.getfield 82, 3) := by decide +kernel
theorem dX12_goesOn_49 : decode cX12_goesOn 49 = .ok (.aload_n 0, 1) := by decide +kernel
theorem dX12_goesOn_50 : decode cX12_goesOn 50 = .ok (.getfield 430, 3) := by decide +kernel
theorem dX12_goesOn_53 : decode cX12_goesOn 53 = .ok (.iaload, 1) := by decide +kernel
theorem dX12_goesOn_54 : decode cX12_goesOn 54 = .ok (.invokevirtual 326, 3) := by decide +kernel
theorem dX12_goesOn_57 : decode cX12_goesOn 57 = .ok (.pop, 1) := by decide +kernel
theorem dX12_goesOn_58 : decode cX12_goesOn 58 = .ok (.aload_n 0, 1) := by decide +kernel
theorem dX12_goesOn_59 : decode cX12_goesOn 59 = .ok (.dup, 1) := by decide +kernel
theorem dX12_goesOn_60 : decode cX12_goesOn 60 = .ok (.getfield 430, 3) := by decide +kernel
theorem dX12_goesOn_63 : decode cX12_goesOn 63 = .ok (.iconst 1, 1) := by decide +kernel
theorem dX12_goesOn_64 : decode cX12_goesOn 64 = .ok (.iadd, 1) := by decide +kernel
theorem dX12_goesOn_65 : decode cX12_goesOn 65 = .ok (.putfield 430, 3) := by decide +kernel
theorem dX12_goesOn_68 : decode cX12_goesOn 68 = .ok (.aload_n 0, 1) := by decide +kernel
theorem dX12_goesOn_69 : decode cX12_goesOn 69 = .ok (.getfield 85, 3) := by decide +kernel
theorem dX12_goesOn_72 : decode cX12_goesOn 72 = .ok (.aload_n 0, 1) := by decide +kernel
theorem dX12_goesOn_73 : decode cX12_goesOn 73 = .ok (.getfield 430, 3) := by decide +kernel
theorem dX12_goesOn_76 : decode cX12_goesOn 76 = .ok (.aload_n 0, 1) := by decide +kernel
theorem dX12_goesOn_77 : decode cX12_goesOn 77 = .ok (.invokevirtual 410, 3) := by decide +kernel
theorem dX12_goesOn_80 : decode cX12_goesOn 80 = .ok (.iastore, 1) := by decide +kernel
theorem dX12_goesOn_81 : decode cX12_goesOn 81 = .ok (.iconst 0, 1) := by decide +kernel
theorem dX12_goesOn_82 : decode cX12_goesOn 82 = .ok (.istore_n 1, 1) := by decide +kernel
theorem dX12_goesOn_83 : decode cX12_goesOn 83 = .ok (.iload_n 1, 1) := by decide +kernel
theorem dX12_goesOn_84 : decode cX12_goesOn 84 = .ok (.aload_n 0, 1) := by decide +kernel
theorem dX12_goesOn_85 : decode cX12_goesOn 85 = .ok (.getfield 430, 3) := by decide +kernel
theorem dX12_goesOn_88 : decode cX12_goesOn 88 = .ok (.if_icmp .ge 29, 3) := by decide +kernel
theorem dX12_goesOn_91 : decode cX12_goesOn 91 = .ok (.aload_n 0, 1) := by decide +kernel
theorem dX12_goesOn_92 : decode cX12_goesOn 92 = .ok (.getfield 85, 3) := by decide +kernel
theorem dX12_goesOn_95 : decode cX12_goesOn 95 = .ok (.iload_n 1, 1) := by decide +kernel
theorem dX12_goesOn_96 : decode cX12_goesOn 96 = .ok (.iaload, 1) := by decide +kernel
theorem dX12_goesOn_97 : decode cX12_goesOn 97 = .ok (.aload_n 0, 1) := by decide +kernel
theorem dX12_goesOn_98 : decode cX12_goesOn 98 = .ok (.getfield 85, 3) := by decide +kernel
theorem dX12_goesOn_101 : decode cX12_goesOn 101 = .ok (.aload_n 0, 1) := by decide +kernel
theorem dX12_goesOn_102 : decode cX12_goesOn 102 = .ok (.getfield 430, 3) := by decide +kernel
theorem dX12_goesOn_105 : decode cX12_goesOn 105 = .ok (.iaload, 1) := by decide +kernel
theorem dX12_goesOn_106 : decode cX12_goesOn 106 = .ok (.if_icmp .ne 5, 3) := by decide +kernel
theorem dX12_goesOn_109 : decode cX12_goesOn 109 = .ok (.iconst 1, 1) := by decide +kernel
theorem dX12_goesOn_110 : decode cX12_goesOn 110 = .ok (.ireturn, 1) := by decide +kernel
theorem dX12_goesOn_111 : decode cX12_goesOn 111 = .ok (.iinc 1 1, 3) := by decide +kernel
theorem dX12_goesOn_114 : decode cX12_goesOn 114 = .ok (.goto (-31), 3) := by decide +kernel
theorem dX12_goesOn_117 : decode cX12_goesOn 117 = .ok (.goto (-102), 3) := by decide +kernel
theorem dX12_goesOn_120 : decode cX12_goesOn 120 = .ok (.iconst 0, 1) := by decide +kernel
theorem dX12_goesOn_121 : decode cX12_goesOn 121 = .ok (.ireturn, 1) := by decide +kernel
theorem dX12_pits_0 : decode cX12_pits 0 = .ok (.aload_n 0, 1) := by decide +kernel
theorem dX12_pits_1 : decode cX12_pits 1 = .ok (.iload_n 1, 1) := by decide +kernel
theorem dX12_pits_2 : decode cX12_pits 2 = .ok (.i2l, 1) := by decide +kernel
theorem dX12_pits_3 : decode cX12_pits 3 = .ok (.lconst 0, 1) := by decide +kernel
theorem dX12_pits_4 : decode cX12_pits 4 = .ok (.ldc2_w 453, 3) := by decide +kernel
theorem dX12_pits_7 : decode cX12_pits 7 = .ok (.invokestatic 166, 3) := by decide +kernel
theorem dX12_pits_10 : decode cX12_pits 10 = .ok (.ifCond .eq 7, 3) := by decide +kernel
theorem dX12_pits_13 : decode cX12_pits 13 = .ok (.iconst 0, 1) := by decide +kernel
theorem dX12_pits_14 : decode cX12_pits 14 = .ok (.goto 4, 3) := by decide +kernel
theorem dX12_pits_17 : decode cX12_pits 17 = .ok (.iconst 1, 1) := by decide +kernel
theorem dX12_pits_18 : decode cX12_pits 18 = .ok (.putfield 107, 3) := by decide +kernel
theorem dX12_pits_21 : decode cX12_pits 21 = .ok (.iconst 0, 1) := by decide +kernel
theorem dX12_pits_22 : decode cX12_pits 22 = .ok (.istore_n 2, 1) := by decide +kernel
theorem dX12_pits_23 : decode cX12_pits 23 = .ok (.iconst 0, 1) := by decide +kernel
theorem dX12_pits_24 : decode cX12_pits 24 = .ok (.istore_n 3, 1) := by decide +kernel
theorem dX12_pits_25 : decode cX12_pits 25 = .ok (.iload_n 3, 1) := by decide +kernel
theorem dX12_pits_26 : decode cX12_pits 26 = .ok (.aload_n 0, 1) := by decide +kernel
theorem dX12_pits_27 : decode cX12_pits 27 = .ok (.invokevirtual 245, 3) := by decide +kernel
theorem dX12_pits_30 : decode cX12_pits 30 = .ok (.if_icmp .ge 88, 3) := by decide +kernel
theorem dX12_pits_33 : decode cX12_pits 33 = .ok (.aload_n 0, 1) := by decide +kernel
theorem dX12_pits_34 : decode cX12_pits 34 = .ok (.getfield 107, 3) := by decide +kernel
theorem dX12_pits_37 : decode cX12_pits 37 = .ok (.ifCond .ne 81, 3) := by decide +kernel
theorem dX12_pits_40 : decode cX12_pits 40 = .ok (.aload_n 0, 1) := by decide +kernel
theorem dX12_pits_41 : decode cX12_pits 41 = .ok (.iload_n 3, 1) := by decide +kernel
theorem dX12_pits_42 : decode cX12_pits 42 = .ok (.invokevirtual 311, 3) := by decide +kernel
theorem dX12_pits_45 : decode cX12_pits 45 = .ok (.ifCond .eq 6, 3) := by decide +kernel
theorem dX12_pits_48 : decode cX12_pits 48 = .ok (.goto 64, 3) := by decide +kernel
theorem dX12_pits_51 : decode cX12_pits 51 = .ok (.aload_n 0, 1) := by decide +kernel
theorem dX12_pits_52 : decode cX12_pits 52 = .ok (.iload_n 3, 1) := by decide +kernel
theorem dX12_pits_53 : decode cX12_pits 53 = .ok (.invokevirtual 302, 3) := by decide +kernel
theorem dX12_pits_56 : decode cX12_pits 56 = .ok (.iload_n 2, 1) := by decide +kernel
theorem dX12_pits_57 : decode cX12_pits 57 = .ok (.iload_n 1, 1) := by decide +kernel
theorem dX12_pits_58 : decode cX12_pits 58 = .ok (.ifCond .ne 15, 3) := by decide +kernel
theorem dX12_pits_61 : decode cX12_pits 61 = .ok (.aload_n 0, 1) := by decide +kernel
theorem dX12_pits_62 : decode cX12_pits 62 = .ok (.getfield 277, 3) := by decide +kernel
theorem dX12_pits_65 : decode cX12_pits 65 = .ok (.bipush 100, 2) := by decide +kernel
theorem dX12_pits_67 : decode cX12_pits 67 = .ok (.if_icmp .ne 42, 3) := by decide +kernel
theorem dX12_pits_70 : decode cX12_pits 70 = .ok (.goto 33, 3) := by decide +kernel
theorem dX12_pits_73 : decode cX12_pits 73 = .ok (.iload_n 1, 1) := by decide +kernel
theorem dX12_pits_74 : decode cX12_pits 74 = .ok (.iconst 1, 1) := by decide +kernel
theorem dX12_pits_75 : decode cX12_pits 75 = .ok (.if_icmp .ne 13, 3) := by decide +kernel
theorem dX12_pits_78 : decode cX12_pits 78 = .ok (.aload_n 0, 1) := by decide +kernel
theorem dX12_pits_79 : decode cX12_pits 79 = .ok (.getfield 266, 3) := by decide +kernel
theorem dX12_pits_82 : decode cX12_pits 82 = .ok (.ifCond .le 27, 3) := by decide +kernel
theorem dX12_pits_85 : decode cX12_pits 85 = .ok (.goto 18, 3) := by decide +kernel
theorem dX12_pits_88 : decode cX12_pits 88 = .ok (.aload_n 0, 1) := by decide +kernel
theorem dX12_pits_89 : decode cX12_pits 89 = .ok (.iconst 1, 1) := by decide +kernel
theorem dX12_pits_90 : decode cX12_pits 90 = .ok (.aload_n 0, 1) := by decide +kernel
theorem dX12_pits_91 : decode cX12_pits 91 = .ok (.getfield 9, 3) := by decide +kernel
theorem dX12_pits_94 : decode cX12_pits 94 = .ok (.iconst 2, 1) := by decide +kernel
theorem dX12_pits_95 : decode cX12_pits 95 = .ok (.iaload, 1) := by decide +kernel
theorem dX12_pits_96 : decode cX12_pits 96 = .ok (.isub, 1) := by decide +kernel
theorem dX12_pits_97 : decode cX12_pits 97 = .ok (.invokevirtual 290, 3) := by decide +kernel
theorem dX12_pits_100 : decode cX12_pits 100 = .ok (.ifCond .ne 9, 3) := by decide +kernel
theorem dX12_pits_103 : decode cX12_pits 103 = .ok (.iconst 1, 1) := by decide +kernel
theorem dX12_pits_104 : decode cX12_pits 104 = .ok (.iload_n 3, 1) := by decide +kernel
theorem dX12_pits_105 : decode cX12_pits 105 = .ok (.ishl, 1) := by decide +kernel
theorem dX12_pits_106 : decode cX12_pits 106 = .ok (.goto 4, 3) := by decide +kernel
theorem dX12_pits_109 : decode cX12_pits 109 = .ok (.iconst 0, 1) := by decide +kernel
theorem dX12_pits_110 : decode cX12_pits 110 = .ok (.ior, 1) := by decide +kernel
theorem dX12_pits_111 : decode cX12_pits 111 = .ok (.istore_n 2, 1) := by decide +kernel
theorem dX12_pits_112 : decode cX12_pits 112 = .ok (.iinc 3 1, 3) := by decide +kernel
theorem dX12_pits_115 : decode cX12_pits 115 = .ok (.goto (-90), 3) := by decide +kernel
theorem dX12_pits_118 : decode cX12_pits 118 = .ok (.iload_n 2, 1) := by decide +kernel
theorem dX12_pits_119 : decode cX12_pits 119 = .ok (.ireturn, 1) := by decide +kernel
theorem dX12_only_0 : decode cX12_only 0 = .ok (.iconst (-1), 1) := by decide +kernel
theorem dX12_only_1 : decode cX12_only 1 = .ok (.istore_n 1, 1) := by decide +kernel
theorem dX12_only_2 : decode cX12_only 2 = .ok (.iconst 0, 1) := by decide +kernel
theorem dX12_only_3 : decode cX12_only 3 = .ok (.istore_n 2, 1) := by decide +kernel
theorem dX12_only_4 : decode cX12_only 4 = .ok (.iload_n 2, 1) := by decide +kernel
theorem dX12_only_5 : decode cX12_only 5 = .ok (.aload_n 0, 1) := by decide +kernel
theorem dX12_only_6 : decode cX12_only 6 = .ok (.invokevirtual 245, 3) := by decide +kernel
theorem dX12_only_9 : decode cX12_only 9 = .ok (.if_icmp .ge 29, 3) := by decide +kernel
theorem dX12_only_12 : decode cX12_only 12 = .ok (.aload_n 0, 1) := by decide +kernel
theorem dX12_only_13 : decode cX12_only 13 = .ok (.iload_n 2, 1) := by decide +kernel
theorem dX12_only_14 : decode cX12_only 14 = .ok (.invokevirtual 311, 3) := by decide +kernel
theorem dX12_only_17 : decode cX12_only 17 = .ok (.ifCond .eq 6, 3) := by decide +kernel
theorem dX12_only_20 : decode cX12_only 20 = .ok (.goto 12, 3) := by decide +kernel
theorem dX12_only_23 : decode cX12_only 23 = .ok (.iload_n 1, 1) := by decide +kernel
theorem dX12_only_24 : decode cX12_only 24 = .ok (.iconst (-1), 1) := by decide +kernel
theorem dX12_only_25 : decode cX12_only 25 = .ok (.if_icmp .eq 5, 3) := by decide +kernel
theorem dX12_only_28 : decode cX12_only 28 = .ok (.iconst (-1), 1) := by decide +kernel
theorem dX12_only_29 : decode cX12_only 29 = .ok (.ireturn, 1) := by decide +kernel
theorem dX12_only_30 : decode cX12_only 30 = .ok (.iload_n 2, 1) := by decide +kernel
theorem dX12_only_31 : decode cX12_only 31 = .ok (.istore_n 1, 1) := by decide +kernel
theorem dX12_only_32 : decode cX12_only 32 = .ok (.iinc 2 1, 3) := by decide +kernel
theorem dX12_only_35 : decode cX12_only 35 = .ok (.goto (-31), 3) := by decide +kernel
theorem dX12_only_38 : decode cX12_only 38 = .ok (.iload_n 1, 1) := by decide +kernel
theorem dX12_only_39 : decode cX12_only 39 = .ok (.ireturn, 1) := by decide +kernel
theorem dX12_drawn_0 : decode cX12_drawn 0 = .ok (.iconst 0, 1) := by decide +kernel
theorem dX12_drawn_1 : decode cX12_drawn 1 = .ok (.istore_n 1, 1) := by decide +kernel
theorem dX12_drawn_2 : decode cX12_drawn 2 = .ok (.iconst 0, 1) := by decide +kernel
theorem dX12_drawn_3 : decode cX12_drawn 3 = .ok (.istore_n 2, 1) := by decide +kernel
theorem dX12_drawn_4 : decode cX12_drawn 4 = .ok (.iload_n 2, 1) := by decide +kernel
theorem dX12_drawn_5 : decode cX12_drawn 5 = .ok (.aload_n 0, 1) := by decide +kernel
theorem dX12_drawn_6 : decode cX12_drawn 6 = .ok (.invokevirtual 245, 3) := by decide +kernel
theorem dX12_drawn_9 : decode cX12_drawn 9 = .ok (.if_icmp .ge 25, 3) := by decide +kernel
theorem dX12_drawn_12 : decode cX12_drawn 12 = .ok (.iload_n 1, 1) := by decide +kernel
theorem dX12_drawn_13 : decode cX12_drawn 13 = .ok (.aload_n 0, 1) := by decide +kernel
theorem dX12_drawn_14 : decode cX12_drawn 14 = .ok (.iload_n 2, 1) := by decide +kernel
theorem dX12_drawn_15 : decode cX12_drawn 15 = .ok (.invokevirtual 311, 3) := by decide +kernel
theorem dX12_drawn_18 : decode cX12_drawn 18 = .ok (.ifCond .ne 7, 3) := by decide +kernel
theorem dX12_drawn_21 : decode cX12_drawn 21 = .ok (.iconst 1, 1) := by decide +kernel
theorem dX12_drawn_22 : decode cX12_drawn 22 = .ok (.goto 4, 3) := by decide +kernel
theorem dX12_drawn_25 : decode cX12_drawn 25 = .ok (.iconst 0, 1) := by decide +kernel
theorem dX12_drawn_26 : decode cX12_drawn 26 = .ok (.iadd, 1) := by decide +kernel
theorem dX12_drawn_27 : decode cX12_drawn 27 = .ok (.istore_n 1, 1) := by decide +kernel
theorem dX12_drawn_28 : decode cX12_drawn 28 = .ok (.iinc 2 1, 3) := by decide +kernel
theorem dX12_drawn_31 : decode cX12_drawn 31 = .ok (.goto (-27), 3) := by decide +kernel
theorem dX12_drawn_34 : decode cX12_drawn 34 = .ok (.aload_n 0, 1) := by decide +kernel
theorem dX12_drawn_35 : decode cX12_drawn 35 = .ok (.iload_n 1, 1) := by decide +kernel
theorem dX12_drawn_36 : decode cX12_drawn 36 = .ok (.invokevirtual 462, 3) := by decide +kernel
theorem dX12_drawn_39 : decode cX12_drawn 39 = .ok (.istore_n 2, 1) := by decide +kernel
theorem dX12_drawn_40 : decode cX12_drawn 40 = .ok (.iconst 0, 1) := by decide +kernel
theorem dX12_drawn_41 : decode cX12_drawn 41 = .ok (.istore_n 3, 1) := by decide +kernel
theorem dX12_drawn_42 : decode cX12_drawn 42 = .ok (.aload_n 0, 1) := by decide +kernel
theorem dX12_drawn_43 : decode cX12_drawn 43 = .ok (.iload_n 3, 1) := by decide +kernel
theorem dX12_drawn_44 : decode cX12_drawn 44 = .ok (.invokevirtual 311, 3) := by decide +kernel
theorem dX12_drawn_47 : decode cX12_drawn 47 = .ok (.ifCond .ne 7, 3) := by decide +kernel
theorem dX12_drawn_50 : decode cX12_drawn 50 = .ok (.iload_n 2, 1) := by decide +kernel
theorem dX12_drawn_51 : decode cX12_drawn 51 = .ok (.ifCond .le 25, 3) := by decide +kernel
theorem dX12_drawn_54 : decode cX12_drawn 54 = .ok (.iload_n 2, 1) := by decide +kernel
theorem dX12_drawn_55 : decode cX12_drawn 55 = .ok (.aload_n 0, 1) := by decide +kernel
theorem dX12_drawn_56 : decode cX12_drawn 56 = .ok (.iload_n 3, 1) := by decide +kernel
theorem dX12_drawn_57 : decode cX12_drawn 57 = .ok (.invokevirtual 311, 3) := by decide +kernel
theorem dX12_drawn_60 : decode cX12_drawn 60 = .ok (.ifCond .ne 7, 3) := by decide +kernel
theorem dX12_drawn_63 : decode cX12_drawn 63 = .ok (.iconst 1, 1) := by decide +kernel
theorem dX12_drawn_64 : decode cX12_drawn 64 = .ok (.goto 4, 3) := by decide +kernel
theorem dX12_drawn_67 : decode cX12_drawn 67 = .ok (.iconst 0, 1) := by decide +kernel
theorem dX12_drawn_68 : decode cX12_drawn 68 = .ok (.isub, 1) := by decide +kernel
theorem dX12_drawn_69 : decode cX12_drawn 69 = .ok (.istore_n 2, 1) := by decide +kernel
theorem dX12_drawn_70 : decode cX12_drawn 70 = .ok (.iinc 3 1, 3) := by decide +kernel
theorem dX12_drawn_73 : decode cX12_drawn 73 = .ok (.goto (-31), 3) := by decide +kernel
theorem dX12_drawn_76 : decode cX12_drawn 76 = .ok (.iload_n 3, 1) := by decide +kernel
theorem dX12_drawn_77 : decode cX12_drawn 77 = .ok (.ireturn, 1) := by decide +kernel
theorem dX12_playOf_0 : decode cX12_playOf 0 = .ok (.aload_n 0, 1) := by decide +kernel
theorem dX12_playOf_1 : decode cX12_playOf 1 = .ok (.getfield 9, 3) := by decide +kernel
theorem dX12_playOf_4 : decode cX12_playOf 4 = .ok (.aload_n 0, 1) := by decide +kernel
theorem dX12_playOf_5 : decode cX12_playOf 5 = .ok (.getfield 19, 3) := by decide +kernel
theorem dX12_playOf_8 : decode cX12_playOf 8 = .ok (.invokestatic 235, 3) := by decide +kernel
theorem dX12_playOf_11 : decode cX12_playOf 11 = .ok (.aload_n 0, 1) := by decide +kernel
theorem dX12_playOf_12 : decode cX12_playOf 12 = .ok (.iload_n 1, 1) := by decide +kernel
theorem dX12_playOf_13 : decode cX12_playOf 13 = .ok (.putfield 459, 3) := by decide +kernel
theorem dX12_playOf_16 : decode cX12_playOf 16 = .ok (.aload_n 0, 1) := by decide +kernel
theorem dX12_playOf_17 : decode cX12_playOf 17 = .ok (.iconst 0, 1) := by decide +kernel
theorem dX12_playOf_18 : decode cX12_playOf 18 = .ok (.putfield 465, 3) := by decide +kernel
theorem dX12_playOf_21 : decode cX12_playOf 21 = .ok (.aload_n 0, 1) := by decide +kernel
theorem dX12_playOf_22 : decode cX12_playOf 22 = .ok (.getfield 465, 3) := by decide +kernel
theorem dX12_playOf_25 : decode cX12_playOf 25 = .ok (.bipush 100, 2) := by decide +kernel
theorem dX12_playOf_27 : decode cX12_playOf 27 = .ok (.if_icmp .ge 53, 3) := by decide +kernel
theorem dX12_playOf_30 : decode cX12_playOf 30 = .ok (.aload_n 0, 1) := by decide +kernel
theorem dX12_playOf_31 : decode cX12_playOf 31 = .ok (.invokevirtual 305, 3) := by decide +kernel
theorem dX12_playOf_34 : decode cX12_playOf 34 = .ok (.ifCond .ne 46, 3) := by decide +kernel
theorem dX12_playOf_37 : decode cX12_playOf 37 = .ok (.aload_n 0, 1) := by decide +kernel
theorem dX12_playOf_38 : decode cX12_playOf 38 = .ok (.iload_n 2, 1) := by decide +kernel
theorem dX12_playOf_39 : decode cX12_playOf 39 = .ok (.ifCond .eq 20, 3) := by decide +kernel
theorem dX12_playOf_42 : decode cX12_playOf 42 = .ok (.aload_n 0, 1) := by decide +kernel
theorem dX12_playOf_43 : decode cX12_playOf 43 = .ok (.getfield 9, 3) := by decide +kernel
theorem dX12_playOf_46 : decode cX12_playOf 46 = .ok (.iconst 2, 1) := by decide +kernel
theorem dX12_playOf_47 : decode cX12_playOf 47 = .ok (.iaload, 1) := by decide +kernel
theorem dX12_playOf_48 : decode cX12_playOf 48 = .ok (.iconst 1, 1) := by decide +kernel
theorem dX12_playOf_49 : decode cX12_playOf 49 = .ok (.if_icmp .ne 10, 3) := by decide +kernel
theorem dX12_playOf_52 : decode cX12_playOf 52 = .ok (.aload_n 0, 1) := by decide +kernel
theorem dX12_playOf_53 : decode cX12_playOf 53 = .ok (.invokevirtual 416, 3) := by decide +kernel
theorem dX12_playOf_56 : decode cX12_playOf 56 = .ok (.goto 7, 3) := by decide +kernel
theorem dX12_playOf_59 : decode cX12_playOf 59 = .ok (.aload_n 0, 1) := by decide +kernel
theorem dX12_playOf_60 : decode cX12_playOf 60 = .ok (.invokevirtual 468, 3) := by decide +kernel
theorem dX12_playOf_63 : decode cX12_playOf 63 = .ok (.invokevirtual 326, 3) := by decide +kernel
theorem dX12_playOf_66 : decode cX12_playOf 66 = .ok (.pop, 1) := by decide +kernel
theorem dX12_playOf_67 : decode cX12_playOf 67 = .ok (.aload_n 0, 1) := by decide +kernel
theorem dX12_playOf_68 : decode cX12_playOf 68 = .ok (.dup, 1) := by decide +kernel
theorem dX12_playOf_69 : decode cX12_playOf 69 = .ok (.getfield 465, 3) := by decide +kernel
theorem dX12_playOf_72 : decode cX12_playOf 72 = .ok (.iconst 1, 1) := by decide +kernel
theorem dX12_playOf_73 : decode cX12_playOf 73 = .ok (.iadd, 1) := by decide +kernel
theorem dX12_playOf_74 : decode cX12_playOf 74 = .ok (.putfield 465, 3) := by decide +kernel
theorem dX12_playOf_77 : decode cX12_playOf 77 = .ok (.goto (-56), 3) := by decide +kernel
theorem dX12_playOf_80 : decode cX12_playOf 80 = .ok (.aload_n 0, 1) := by decide +kernel
theorem dX12_playOf_81 : decode cX12_playOf 81 = .ok (.invokevirtual 316, 3) := by decide +kernel
theorem dX12_playOf_84 : decode cX12_playOf 84 = .ok (.istore 4, 2) := by decide +kernel
theorem dX12_playOf_86 : decode cX12_playOf 86 = .ok (.aload_n 0, 1) := by decide +kernel
theorem dX12_playOf_87 : decode cX12_playOf 87 = .ok (.invokevirtual 305, 3) := by decide +kernel
theorem dX12_playOf_90 : decode cX12_playOf 90 = .ok (.ifCond .eq 7, 3) := by decide +kernel
theorem dX12_playOf_93 : decode cX12_playOf 93 = .ok (.iconst 1, 1) := by decide +kernel
theorem dX12_playOf_94 : decode cX12_playOf 94 = .ok (.goto 4, 3) := by decide +kernel
theorem dX12_playOf_97 : decode cX12_playOf 97 = .ok (.iconst 0, 1) := by decide +kernel
theorem dX12_playOf_98 : decode cX12_playOf 98 = .ok (.istore 5, 2) := by decide +kernel
theorem dX12_playOf_100 : decode cX12_playOf 100 = .ok (.aload_n 0, 1) := by decide +kernel
theorem dX12_playOf_101 : decode cX12_playOf 101 = .ok (.getfield 19, 3) := by decide +kernel
theorem dX12_playOf_104 : decode cX12_playOf 104 = .ok (.aload_n 0, 1) := by decide +kernel
theorem dX12_playOf_105 : decode cX12_playOf 105 = .ok (.getfield 9, 3) := by decide +kernel
theorem dX12_playOf_108 : decode cX12_playOf 108 = .ok (.invokestatic 235, 3) := by decide +kernel
theorem dX12_playOf_111 : decode cX12_playOf 111 = .ok (.iload_n 3, 1) := by decide +kernel
theorem dX12_playOf_112 : decode cX12_playOf 112 = .ok (.ifCond .ne 8, 3) := by decide +kernel
theorem dX12_playOf_115 : decode cX12_playOf 115 = .ok (.iload 4, 2) := by decide +kernel
theorem dX12_playOf_117 : decode cX12_playOf 117 = .ok (.goto 17, 3) := by decide +kernel
theorem dX12_playOf_120 : decode cX12_playOf 120 = .ok (.iload_n 3, 1) := by decide +kernel
theorem dX12_playOf_121 : decode cX12_playOf 121 = .ok (.iconst 1, 1) := by decide +kernel
theorem dX12_playOf_122 : decode cX12_playOf 122 = .ok (.if_icmp .ne 10, 3) := by decide +kernel
theorem dX12_playOf_125 : decode cX12_playOf 125 = .ok (.aload_n 0, 1) := by decide +kernel
theorem dX12_playOf_126 : decode cX12_playOf 126 = .ok (.getfield 465, 3) := by decide +kernel
theorem dX12_playOf_129 : decode cX12_playOf 129 = .ok (.goto 5, 3) := by decide +kernel
theorem dX12_playOf_132 : decode cX12_playOf 132 = .ok (.iload 5, 2) := by decide +kernel
theorem dX12_playOf_134 : decode cX12_playOf 134 = .ok (.ireturn, 1) := by decide +kernel
theorem dX12_play_0 : decode cX12_play 0 = .ok (.aload_n 0, 1) := by decide +kernel
theorem dX12_play_1 : decode cX12_play 1 = .ok (.iload_n 2, 1) := by decide +kernel
theorem dX12_play_2 : decode cX12_play 2 = .ok (.i2l, 1) := by decide +kernel
theorem dX12_play_3 : decode cX12_play 3 = .ok (.lconst 0, 1) := by decide +kernel
theorem dX12_play_4 : decode cX12_play 4 = .ok (.ldc2_w 453, 3) := by decide +kernel
theorem dX12_play_7 : decode cX12_play 7 = .ok (.invokestatic 166, 3) := by decide +kernel
theorem dX12_play_10 : decode cX12_play 10 = .ok (.ifCond .eq 7, 3) := by decide +kernel
theorem dX12_play_13 : decode cX12_play 13 = .ok (.iconst 0, 1) := by decide +kernel
theorem dX12_play_14 : decode cX12_play 14 = .ok (.goto 4, 3) := by decide +kernel
theorem dX12_play_17 : decode cX12_play 17 = .ok (.iconst 1, 1) := by decide +kernel
theorem dX12_play_18 : decode cX12_play 18 = .ok (.putfield 107, 3) := by decide +kernel
theorem dX12_play_21 : decode cX12_play 21 = .ok (.aload_n 0, 1) := by decide +kernel
theorem dX12_play_22 : decode cX12_play 22 = .ok (.getfield 107, 3) := by decide +kernel
theorem dX12_play_25 : decode cX12_play 25 = .ok (.ifCond .le 7, 3) := by decide +kernel
theorem dX12_play_28 : decode cX12_play 28 = .ok (.iconst 0, 1) := by decide +kernel
theorem dX12_play_29 : decode cX12_play 29 = .ok (.goto 10, 3) := by decide +kernel
theorem dX12_play_32 : decode cX12_play 32 = .ok (.aload_n 0, 1) := by decide +kernel
theorem dX12_play_33 : decode cX12_play 33 = .ok (.iload_n 1, 1) := by decide +kernel
theorem dX12_play_34 : decode cX12_play 34 = .ok (.iconst 0, 1) := by decide +kernel
theorem dX12_play_35 : decode cX12_play 35 = .ok (.iload_n 2, 1) := by decide +kernel
theorem dX12_play_36 : decode cX12_play 36 = .ok (.invokevirtual 471, 3) := by decide +kernel
theorem dX12_play_39 : decode cX12_play 39 = .ok (.ireturn, 1) := by decide +kernel
theorem dX1_build_0 : decode cX1_build 0 = .ok (.aload_n 0, 1) := by decide +kernel
theorem dX1_build_1 : decode cX1_build 1 = .ok (.iconst 1, 1) := by decide +kernel
theorem dX1_build_2 : decode cX1_build 2 = .ok (.putfield 37, 3) := by decide +kernel
theorem dX1_build_5 : decode cX1_build 5 = .ok (.iconst 0, 1) := by decide +kernel
theorem dX1_build_6 : decode cX1_build 6 = .ok (.istore_n 1, 1) := by decide +kernel
theorem dX1_build_7 : decode cX1_build 7 = .ok (.iload_n 1, 1) := by decide +kernel
theorem dX1_build_8 : decode cX1_build 8 = .ok (.iconst 2, 1) := by decide +kernel
theorem dX1_build_9 : decode cX1_build 9 = .ok (.if_icmp .ge 19, 3) := by decide +kernel
theorem dX1_build_12 : decode cX1_build 12 = .ok (.aload_n 0, 1) := by decide +kernel
theorem dX1_build_13 : decode cX1_build 13 = .ok (.iload_n 1, 1) := by decide +kernel
theorem dX1_build_14 : decode cX1_build 14 = .ok (.invokevirtual 41, 3) := by decide +kernel
theorem dX1_build_17 : decode cX1_build 17 = .ok (.aload_n 0, 1) := by decide +kernel
theorem dX1_build_18 : decode cX1_build 18 = .ok (.iload_n 1, 1) := by decide +kernel
theorem dX1_build_19 : decode cX1_build 19 = .ok (.invokevirtual 45, 3) := by decide +kernel
theorem dX1_build_22 : decode cX1_build 22 = .ok (.iinc 1 1, 3) := by decide +kernel
theorem dX1_build_25 : decode cX1_build 25 = .ok (.goto (-18), 3) := by decide +kernel
theorem dX1_build_28 : decode cX1_build 28 = .ok (.aload_n 0, 1) := by decide +kernel
theorem dX1_build_29 : decode cX1_build 29 = .ok (.aload_n 0, 1) := by decide +kernel
theorem dX1_build_30 : decode cX1_build 30 = .ok (.getfield 21, 3) := by decide +kernel
theorem dX1_build_33 : decode cX1_build 33 = .ok (.getfield 48, 3) := by decide +kernel
theorem dX1_build_36 : decode cX1_build 36 = .ok (.ifCond .gt 31, 3) := by decide +kernel
theorem dX1_build_39 : decode cX1_build 39 = .ok (.aload_n 0, 1) := by decide +kernel
theorem dX1_build_40 : decode cX1_build 40 = .ok (.getfield 21, 3) := by decide +kernel
theorem dX1_build_43 : decode cX1_build 43 = .ok (.getfield 54, 3) := by decide +kernel
theorem dX1_build_46 : decode cX1_build 46 = .ok (.ifCond .eq 25, 3) := by decide +kernel
theorem dX1_build_49 : decode cX1_build 49 = .ok (.aload_n 0, 1) := by decide +kernel
theorem dX1_build_50 : decode cX1_build 50 = .ok (.getfield 21, 3) := by decide +kernel
theorem dX1_build_53 : decode cX1_build 53 = .ok (.getfield 57, 3) := by decide +kernel
theorem dX1_build_56 : decode cX1_build 56 = .ok (.ifCond .ne 15, 3) := by decide +kernel
theorem dX1_build_59 : decode cX1_build 59 = .ok (.aload_n 0, 1) := by decide +kernel
theorem dX1_build_60 : decode cX1_build 60 = .ok (.getfield 60, 3) := by decide +kernel
theorem dX1_build_63 : decode cX1_build 63 = .ok (.iconst 1, 1) := by decide +kernel
theorem dX1_build_64 : decode cX1_build 64 = .ok (.if_icmp .ne 7, 3) := by decide +kernel
theorem dX1_build_67 : decode cX1_build 67 = .ok (.iconst 1, 1) := by decide +kernel
theorem dX1_build_68 : decode cX1_build 68 = .ok (.goto 4, 3) := by decide +kernel
theorem dX1_build_71 : decode cX1_build 71 = .ok (.iconst 0, 1) := by decide +kernel
theorem dX1_build_72 : decode cX1_build 72 = .ok (.putfield 63, 3) := by decide +kernel
theorem dX1_build_75 : decode cX1_build 75 = .ok (.return_, 1) := by decide +kernel
theorem dX4_readSeeds_0 : decode cX4_readSeeds 0 = .ok (.aload_n 0, 1) := by decide +kernel
theorem dX4_readSeeds_1 : decode cX4_readSeeds 1 = .ok (.invokevirtual 49, 3) := by decide +kernel
theorem dX4_readSeeds_4 : decode cX4_readSeeds 4 = .ok (.iconst 0, 1) := by decide +kernel
theorem dX4_readSeeds_5 : decode cX4_readSeeds 5 = .ok (.istore_n 1, 1) := by decide +kernel
theorem dX4_readSeeds_6 : decode cX4_readSeeds 6 = .ok (.aload_n 0, 1) := by decide +kernel
theorem dX4_readSeeds_7 : decode cX4_readSeeds 7 = .ok (.iconst 0, 1) := by decide +kernel
theorem dX4_readSeeds_8 : decode cX4_readSeeds 8 = .ok (.bipush 20, 2) := by decide +kernel
theorem dX4_readSeeds_10 : decode cX4_readSeeds 10 = .ok (.invokevirtual 127, 3) := by decide +kernel
theorem dX4_readSeeds_13 : decode cX4_readSeeds 13 = .ok (.istore_n 2, 1) := by decide +kernel
theorem dX4_readSeeds_14 : decode cX4_readSeeds 14 = .ok (.aload_n 0, 1) := by decide +kernel
theorem dX4_readSeeds_15 : decode cX4_readSeeds 15 = .ok (.getfield 40, 3) := by decide +kernel
theorem dX4_readSeeds_18 : decode cX4_readSeeds 18 = .ok (.ifCond .ne 21, 3) := by decide +kernel
theorem dX4_readSeeds_21 : decode cX4_readSeeds 21 = .ok (.iload_n 1, 1) := by decide +kernel
theorem dX4_readSeeds_22 : decode cX4_readSeeds 22 = .ok (.iconst 2, 1) := by decide +kernel
theorem dX4_readSeeds_23 : decode cX4_readSeeds 23 = .ok (.aload_n 0, 1) := by decide +kernel
theorem dX4_readSeeds_24 : decode cX4_readSeeds 24 = .ok (.getfield 12, 3) := by decide +kernel
theorem dX4_readSeeds_27 : decode cX4_readSeeds 27 = .ok (.getfield 105, 3) := by decide +kernel
theorem dX4_readSeeds_30 : decode cX4_readSeeds 30 = .ok (.imul, 1) := by decide +kernel
theorem dX4_readSeeds_31 : decode cX4_readSeeds 31 = .ok (.if_icmp .lt 8, 3) := by decide +kernel
theorem dX4_readSeeds_34 : decode cX4_readSeeds 34 = .ok (.aload_n 0, 1) := by decide +kernel
theorem dX4_readSeeds_35 : decode cX4_readSeeds 35 = .ok (.iconst 4, 1) := by decide +kernel
theorem dX4_readSeeds_36 : decode cX4_readSeeds 36 = .ok (.invokevirtual 120, 3) := by decide +kernel
theorem dX4_readSeeds_39 : decode cX4_readSeeds 39 = .ok (.aload_n 0, 1) := by decide +kernel
theorem dX4_readSeeds_40 : decode cX4_readSeeds 40 = .ok (.getfield 40, 3) := by decide +kernel
theorem dX4_readSeeds_43 : decode cX4_readSeeds 43 = .ok (.ifCond .eq 4, 3) := by decide +kernel
theorem dX4_readSeeds_46 : decode cX4_readSeeds 46 = .ok (.return_, 1) := by decide +kernel
theorem dX4_readSeeds_47 : decode cX4_readSeeds 47 = .ok (.aload_n 0, 1) := by decide +kernel
theorem dX4_readSeeds_48 : decode cX4_readSeeds 48 = .ok (.getfield 21, 3) := by decide +kernel
theorem dX4_readSeeds_51 : decode cX4_readSeeds 51 = .ok (.getfield 66, 3) := by decide +kernel
theorem dX4_readSeeds_54 : decode cX4_readSeeds 54 = .ok (.iload_n 1, 1) := by decide +kernel
theorem dX4_readSeeds_55 : decode cX4_readSeeds 55 = .ok (.iload_n 2, 1) := by decide +kernel
theorem dX4_readSeeds_56 : decode cX4_readSeeds 56 = .ok (.iastore, 1) := by decide +kernel
theorem dX4_readSeeds_57 : decode cX4_readSeeds 57 = .ok (.iinc 1 1, 3) := by decide +kernel
theorem dX4_readSeeds_60 : decode cX4_readSeeds 60 = .ok (.aload_n 0, 1) := by decide +kernel
theorem dX4_readSeeds_61 : decode cX4_readSeeds 61 = .ok (.invokevirtual 49, 3) := by decide +kernel
theorem dX4_readSeeds_64 : decode cX4_readSeeds 64 = .ok (.aload_n 0, 1) := by decide +kernel
theorem dX4_readSeeds_65 : decode cX4_readSeeds 65 = .ok (.getfield 52, 3) := by decide +kernel
theorem dX4_readSeeds_68 : decode cX4_readSeeds 68 = .ok (.iconst 2, 1) := by decide +kernel
theorem dX4_readSeeds_69 : decode cX4_readSeeds 69 = .ok (.if_icmp .ne 9, 3) := by decide +kernel
theorem dX4_readSeeds_72 : decode cX4_readSeeds 72 = .ok (.iload_n 1, 1) := by decide +kernel
theorem dX4_readSeeds_73 : decode cX4_readSeeds 73 = .ok (.bipush 12, 2) := by decide +kernel
theorem dX4_readSeeds_75 : decode cX4_readSeeds 75 = .ok (.if_icmp .le (-69), 3) := by decide +kernel
theorem dX4_readSeeds_78 : decode cX4_readSeeds 78 = .ok (.return_, 1) := by decide +kernel
theorem dX4_readNumber_0 : decode cX4_readNumber 0 = .ok (.aload_n 0, 1) := by decide +kernel
theorem dX4_readNumber_1 : decode cX4_readNumber 1 = .ok (.iload_n 1, 1) := by decide +kernel
theorem dX4_readNumber_2 : decode cX4_readNumber 2 = .ok (.iload_n 2, 1) := by decide +kernel
theorem dX4_readNumber_3 : decode cX4_readNumber 3 = .ok (.invokevirtual 127, 3) := by decide +kernel
theorem dX4_readNumber_6 : decode cX4_readNumber 6 = .ok (.istore_n 3, 1) := by decide +kernel
theorem dX4_readNumber_7 : decode cX4_readNumber 7 = .ok (.aload_n 0, 1) := by decide +kernel
theorem dX4_readNumber_8 : decode cX4_readNumber 8 = .ok (.getfield 40, 3) := by decide +kernel
theorem dX4_readNumber_11 : decode cX4_readNumber 11 = .ok (.ifCond .ne 7, 3) := by decide +kernel
theorem dX4_readNumber_14 : decode cX4_readNumber 14 = .ok (.aload_n 0, 1) := by decide +kernel
theorem dX4_readNumber_15 : decode cX4_readNumber 15 = .ok (.invokevirtual 49, 3) := by decide +kernel
theorem dX4_readNumber_18 : decode cX4_readNumber 18 = .ok (.iload_n 3, 1) := by decide +kernel
theorem dX4_readNumber_19 : decode cX4_readNumber 19 = .ok (.ireturn, 1) := by decide +kernel
theorem dX7_reach_0 : decode cX7_reach 0 = .ok (.aload_n 0, 1) := by decide +kernel
theorem dX7_reach_1 : decode cX7_reach 1 = .ok (.getfield 46, 3) := by decide +kernel
theorem dX7_reach_4 : decode cX7_reach 4 = .ok (.iload_n 1, 1) := by decide +kernel
theorem dX7_reach_5 : decode cX7_reach 5 = .ok (.invokevirtual 54, 3) := by decide +kernel
theorem dX7_reach_8 : decode cX7_reach 8 = .ok (.sipush 6000, 3) := by decide +kernel
theorem dX7_reach_11 : decode cX7_reach 11 = .ok (.if_icmp .le 5, 3) := by decide +kernel
theorem dX7_reach_14 : decode cX7_reach 14 = .ok (.iconst 0, 1) := by decide +kernel
theorem dX7_reach_15 : decode cX7_reach 15 = .ok (.ireturn, 1) := by decide +kernel
theorem dX7_reach_16 : decode cX7_reach 16 = .ok (.aload_n 0, 1) := by decide +kernel
theorem dX7_reach_17 : decode cX7_reach 17 = .ok (.getfield 25, 3) := by decide +kernel
theorem dX7_reach_20 : decode cX7_reach 20 = .ok (.iconst (-1), 1) := by decide +kernel
theorem dX7_reach_21 : decode cX7_reach 21 = .ok (.if_icmp .eq 17, 3) := by decide +kernel
theorem dX7_reach_24 : decode cX7_reach 24 = .ok (.aload_n 0, 1) := by decide +kernel
theorem dX7_reach_25 : decode cX7_reach 25 = .ok (.getfield 60, 3) := by decide +kernel
theorem dX7_reach_28 : decode cX7_reach 28 = .ok (.aload_n 0, 1) := by decide +kernel
theorem dX7_reach_29 : decode cX7_reach 29 = .ok (.getfield 42, 3) := by decide +kernel
theorem dX7_reach_32 : decode cX7_reach 32 = .ok (.invokevirtual 63, 3) := by decide +kernel
theorem dX7_reach_35 : decode cX7_reach 35 = .ok (.if_icmp .eq 19, 3) := by decide +kernel
theorem dX7_reach_38 : decode cX7_reach 38 = .ok (.aload_n 0, 1) := by decide +kernel
theorem dX7_reach_39 : decode cX7_reach 39 = .ok (.aload_n 0, 1) := by decide +kernel
theorem dX7_reach_40 : decode cX7_reach 40 = .ok (.getfield 42, 3) := by decide +kernel
theorem dX7_reach_43 : decode cX7_reach 43 = .ok (.invokevirtual 63, 3) := by decide +kernel
theorem dX7_reach_46 : decode cX7_reach 46 = .ok (.putfield 60, 3) := by decide +kernel
theorem dX7_reach_49 : decode cX7_reach 49 = .ok (.aload_n 0, 1) := by decide +kernel
theorem dX7_reach_50 : decode cX7_reach 50 = .ok (.iconst (-1), 1) := by decide +kernel
theorem dX7_reach_51 : decode cX7_reach 51 = .ok (.putfield 25, 3) := by decide +kernel
theorem dX7_reach_54 : decode cX7_reach 54 = .ok (.aload_n 0, 1) := by decide +kernel
theorem dX7_reach_55 : decode cX7_reach 55 = .ok (.getfield 25, 3) := by decide +kernel
theorem dX7_reach_58 : decode cX7_reach 58 = .ok (.iconst 1, 1) := by decide +kernel
theorem dX7_reach_59 : decode cX7_reach 59 = .ok (.iadd, 1) := by decide +kernel
theorem dX7_reach_60 : decode cX7_reach 60 = .ok (.istore_n 2, 1) := by decide +kernel
theorem dX7_reach_61 : decode cX7_reach 61 = .ok (.iload_n 2, 1) := by decide +kernel
theorem dX7_reach_62 : decode cX7_reach 62 = .ok (.iload_n 1, 1) := by decide +kernel
theorem dX7_reach_63 : decode cX7_reach 63 = .ok (.if_icmp .gt 71, 3) := by decide +kernel
theorem dX7_reach_66 : decode cX7_reach 66 = .ok (.aload_n 0, 1) := by decide +kernel
theorem dX7_reach_67 : decode cX7_reach 67 = .ok (.getfield 46, 3) := by decide +kernel
theorem dX7_reach_70 : decode cX7_reach 70 = .ok (.iload_n 2, 1) := by decide +kernel
theorem dX7_reach_71 : decode cX7_reach 71 = .ok (.invokevirtual 69, 3) := by decide +kernel
theorem dX7_reach_74 : decode cX7_reach 74 = .ok (.istore_n 3, 1) := by decide +kernel
theorem dX7_reach_75 : decode cX7_reach 75 = .ok (.iconst 0, 1) := by decide +kernel
theorem dX7_reach_76 : decode cX7_reach 76 = .ok (.istore 4, 2) := by decide +kernel
theorem dX7_reach_78 : decode cX7_reach 78 = .ok (.iload 4, 2) := by decide +kernel
theorem dX7_reach_80 : decode cX7_reach 80 = .ok (.aload_n 0, 1) := by decide +kernel
theorem dX7_reach_81 : decode cX7_reach 81 = .ok (.iconst 1, 1) := by decide +kernel
theorem dX7_reach_82 : decode cX7_reach 82 = .ok (.invokevirtual 72, 3) := by decide +kernel
theorem dX7_reach_85 : decode cX7_reach 85 = .ok (.if_icmp .gt 33, 3) := by decide +kernel
theorem dX7_reach_88 : decode cX7_reach 88 = .ok (.iconst 0, 1) := by decide +kernel
theorem dX7_reach_89 : decode cX7_reach 89 = .ok (.istore 5, 2) := by decide +kernel
theorem dX7_reach_91 : decode cX7_reach 91 = .ok (.iload 5, 2) := by decide +kernel
theorem dX7_reach_93 : decode cX7_reach 93 = .ok (.iload_n 3, 1) := by decide +kernel
theorem dX7_reach_94 : decode cX7_reach 94 = .ok (.if_icmp .ge 18, 3) := by decide +kernel
theorem dX7_reach_97 : decode cX7_reach 97 = .ok (.aload_n 0, 1) := by decide +kernel
theorem dX7_reach_98 : decode cX7_reach 98 = .ok (.iload 4, 2) := by decide +kernel
theorem dX7_reach_100 : decode cX7_reach 100 = .ok (.iload_n 2, 1) := by decide +kernel
theorem dX7_reach_101 : decode cX7_reach 101 = .ok (.iload 5, 2) := by decide +kernel
theorem dX7_reach_103 : decode cX7_reach 103 = .ok (.invokevirtual 75, 3) := by decide +kernel
theorem dX7_reach_106 : decode cX7_reach 106 = .ok (.iinc 5 1, 3) := by decide +kernel
theorem dX7_reach_109 : decode cX7_reach 109 = .ok (.goto (-18), 3) := by decide +kernel
theorem dX7_reach_112 : decode cX7_reach 112 = .ok (.iinc 4 1, 3) := by decide +kernel
theorem dX7_reach_115 : decode cX7_reach 115 = .ok (.goto (-37), 3) := by decide +kernel
theorem dX7_reach_118 : decode cX7_reach 118 = .ok (.aload_n 0, 1) := by decide +kernel
theorem dX7_reach_119 : decode cX7_reach 119 = .ok (.iload_n 2, 1) := by decide +kernel
theorem dX7_reach_120 : decode cX7_reach 120 = .ok (.invokevirtual 79, 3) := by decide +kernel
theorem dX7_reach_123 : decode cX7_reach 123 = .ok (.aload_n 0, 1) := by decide +kernel
theorem dX7_reach_124 : decode cX7_reach 124 = .ok (.iload_n 2, 1) := by decide +kernel
theorem dX7_reach_125 : decode cX7_reach 125 = .ok (.putfield 25, 3) := by decide +kernel
theorem dX7_reach_128 : decode cX7_reach 128 = .ok (.iinc 2 1, 3) := by decide +kernel
theorem dX7_reach_131 : decode cX7_reach 131 = .ok (.goto (-70), 3) := by decide +kernel
theorem dX7_reach_134 : decode cX7_reach 134 = .ok (.iconst 1, 1) := by decide +kernel
theorem dX7_reach_135 : decode cX7_reach 135 = .ok (.ireturn, 1) := by decide +kernel
theorem dX11_value_0 : decode cX11_value 0 = .ok (.aload_n 0, 1) := by decide +kernel
theorem dX11_value_1 : decode cX11_value 1 = .ok (.getfield 63, 3) := by decide +kernel
theorem dX11_value_4 : decode cX11_value 4 = .ok (.aload_n 0, 1) := by decide +kernel
theorem dX11_value_5 : decode cX11_value 5 = .ok (.getfield 37, 3) := by decide +kernel
theorem dX11_value_8 : decode cX11_value 8 = .ok (.invokevirtual 236, 3) := by decide +kernel
theorem dX11_value_11 : decode cX11_value 11 = .ok (.invokevirtual 259, 3) := by decide +kernel
theorem dX11_value_14 : decode cX11_value 14 = .ok (.ifCond .eq 17, 3) := by decide +kernel
theorem dX11_value_17 : decode cX11_value 17 = .ok (.aload_n 0, 1) := by decide +kernel
theorem dX11_value_18 : decode cX11_value 18 = .ok (.getfield 63, 3) := by decide +kernel
theorem dX11_value_21 : decode cX11_value 21 = .ok (.aload_n 0, 1) := by decide +kernel
theorem dX11_value_22 : decode cX11_value 22 = .ok (.getfield 37, 3) := by decide +kernel
theorem dX11_value_25 : decode cX11_value 25 = .ok (.invokevirtual 263, 3) := by decide +kernel
theorem dX11_value_28 : decode cX11_value 28 = .ok (.goto 6, 3) := by decide +kernel
theorem dX11_value_31 : decode cX11_value 31 = .ok (.sipush (-1000), 3) := by decide +kernel
theorem dX11_value_34 : decode cX11_value 34 = .ok (.ireturn, 1) := by decide +kernel
theorem dX11_rank_0 : decode cX11_rank 0 = .ok (.aload_n 0, 1) := by decide +kernel
theorem dX11_rank_1 : decode cX11_rank 1 = .ok (.getfield 63, 3) := by decide +kernel
theorem dX11_rank_4 : decode cX11_rank 4 = .ok (.aload_n 0, 1) := by decide +kernel
theorem dX11_rank_5 : decode cX11_rank 5 = .ok (.getfield 37, 3) := by decide +kernel
theorem dX11_rank_8 : decode cX11_rank 8 = .ok (.invokevirtual 236, 3) := by decide +kernel
theorem dX11_rank_11 : decode cX11_rank 11 = .ok (.invokevirtual 259, 3) := by decide +kernel
theorem dX11_rank_14 : decode cX11_rank 14 = .ok (.ifCond .eq 17, 3) := by decide +kernel
theorem dX11_rank_17 : decode cX11_rank 17 = .ok (.aload_n 0, 1) := by decide +kernel
theorem dX11_rank_18 : decode cX11_rank 18 = .ok (.getfield 63, 3) := by decide +kernel
theorem dX11_rank_21 : decode cX11_rank 21 = .ok (.aload_n 0, 1) := by decide +kernel
theorem dX11_rank_22 : decode cX11_rank 22 = .ok (.getfield 37, 3) := by decide +kernel
theorem dX11_rank_25 : decode cX11_rank 25 = .ok (.invokevirtual 266, 3) := by decide +kernel
theorem dX11_rank_28 : decode cX11_rank 28 = .ok (.goto 4, 3) := by decide +kernel
theorem dX11_rank_31 : decode cX11_rank 31 = .ok (.iconst (-1), 1) := by decide +kernel
theorem dX11_rank_32 : decode cX11_rank 32 = .ok (.ireturn, 1) := by decide +kernel
theorem dX11_best_0 : decode cX11_best 0 = .ok (.aload_n 0, 1) := by decide +kernel
theorem dX11_best_1 : decode cX11_best 1 = .ok (.getfield 63, 3) := by decide +kernel
theorem dX11_best_4 : decode cX11_best 4 = .ok (.aload_n 0, 1) := by decide +kernel
theorem dX11_best_5 : decode cX11_best 5 = .ok (.getfield 37, 3) := by decide +kernel
theorem dX11_best_8 : decode cX11_best 8 = .ok (.invokevirtual 236, 3) := by decide +kernel
theorem dX11_best_11 : decode cX11_best 11 = .ok (.invokevirtual 259, 3) := by decide +kernel
theorem dX11_best_14 : decode cX11_best 14 = .ok (.ifCond .eq 17, 3) := by decide +kernel
theorem dX11_best_17 : decode cX11_best 17 = .ok (.aload_n 0, 1) := by decide +kernel
theorem dX11_best_18 : decode cX11_best 18 = .ok (.getfield 63, 3) := by decide +kernel
theorem dX11_best_21 : decode cX11_best 21 = .ok (.aload_n 0, 1) := by decide +kernel
theorem dX11_best_22 : decode cX11_best 22 = .ok (.getfield 37, 3) := by decide +kernel
theorem dX11_best_25 : decode cX11_best 25 = .ok (.invokevirtual 269, 3) := by decide +kernel
theorem dX11_best_28 : decode cX11_best 28 = .ok (.goto 4, 3) := by decide +kernel
theorem dX11_best_31 : decode cX11_best 31 = .ok (.iconst (-1), 1) := by decide +kernel
theorem dX11_best_32 : decode cX11_best 32 = .ok (.ireturn, 1) := by decide +kernel
theorem dX11_worth_0 : decode cX11_worth 0 = .ok (.aload_n 0, 1) := by decide +kernel
theorem dX11_worth_1 : decode cX11_worth 1 = .ok (.getfield 30, 3) := by decide +kernel
theorem dX11_worth_4 : decode cX11_worth 4 = .ok (.aload_n 0, 1) := by decide +kernel
theorem dX11_worth_5 : decode cX11_worth 5 = .ok (.getfield 37, 3) := by decide +kernel
theorem dX11_worth_8 : decode cX11_worth 8 = .ok (.iload_n 1, 1) := by decide +kernel
theorem dX11_worth_9 : decode cX11_worth 9 = .ok (.i2l, 1) := by decide +kernel
theorem dX11_worth_10 : decode cX11_worth 10 = .ok (.invokevirtual 171, 3) := by decide +kernel
theorem dX11_worth_13 : decode cX11_worth 13 = .ok (.ifCond .eq 35, 3) := by decide +kernel
theorem dX11_worth_16 : decode cX11_worth 16 = .ok (.aload_n 0, 1) := by decide +kernel
theorem dX11_worth_17 : decode cX11_worth 17 = .ok (.getfield 63, 3) := by decide +kernel
theorem dX11_worth_20 : decode cX11_worth 20 = .ok (.aload_n 0, 1) := by decide +kernel
theorem dX11_worth_21 : decode cX11_worth 21 = .ok (.getfield 37, 3) := by decide +kernel
theorem dX11_worth_24 : decode cX11_worth 24 = .ok (.invokevirtual 236, 3) := by decide +kernel
theorem dX11_worth_27 : decode cX11_worth 27 = .ok (.invokevirtual 259, 3) := by decide +kernel
theorem dX11_worth_30 : decode cX11_worth 30 = .ok (.ifCond .eq 18, 3) := by decide +kernel
theorem dX11_worth_33 : decode cX11_worth 33 = .ok (.aload_n 0, 1) := by decide +kernel
theorem dX11_worth_34 : decode cX11_worth 34 = .ok (.getfield 63, 3) := by decide +kernel
theorem dX11_worth_37 : decode cX11_worth 37 = .ok (.aload_n 0, 1) := by decide +kernel
theorem dX11_worth_38 : decode cX11_worth 38 = .ok (.getfield 37, 3) := by decide +kernel
theorem dX11_worth_41 : decode cX11_worth 41 = .ok (.iload_n 1, 1) := by decide +kernel
theorem dX11_worth_42 : decode cX11_worth 42 = .ok (.invokevirtual 272, 3) := by decide +kernel
theorem dX11_worth_45 : decode cX11_worth 45 = .ok (.goto 6, 3) := by decide +kernel
theorem dX11_worth_48 : decode cX11_worth 48 = .ok (.sipush (-1000), 3) := by decide +kernel
theorem dX11_worth_51 : decode cX11_worth 51 = .ok (.ireturn, 1) := by decide +kernel
theorem dX11_swapped_0 : decode cX11_swapped 0 = .ok (.aload_n 0, 1) := by decide +kernel
theorem dX11_swapped_1 : decode cX11_swapped 1 = .ok (.getfield 63, 3) := by decide +kernel
theorem dX11_swapped_4 : decode cX11_swapped 4 = .ok (.aload_n 0, 1) := by decide +kernel
theorem dX11_swapped_5 : decode cX11_swapped 5 = .ok (.getfield 37, 3) := by decide +kernel
theorem dX11_swapped_8 : decode cX11_swapped 8 = .ok (.invokevirtual 236, 3) := by decide +kernel
theorem dX11_swapped_11 : decode cX11_swapped 11 = .ok (.invokevirtual 259, 3) := by decide +kernel
theorem dX11_swapped_14 : decode cX11_swapped 14 = .ok (.ifCond .ne 7, 3) := by decide +kernel
theorem dX11_swapped_17 : decode cX11_swapped 17 = .ok (.sipush (-1000), 3) := by decide +kernel
theorem dX11_swapped_20 : decode cX11_swapped 20 = .ok (.ireturn, 1) := by decide +kernel
theorem dX11_swapped_21 : decode cX11_swapped 21 = .ok (.aload_n 0, 1) := by decide +kernel
theorem dX11_swapped_22 : decode cX11_swapped 22 = .ok (.getfield 41, 3) := by decide +kernel
theorem dX11_swapped_25 : decode cX11_swapped 25 = .ok (.aload_n 0, 1) := by decide +kernel
theorem dX11_swapped_26 : decode cX11_swapped 26 = .ok (.getfield 37, 3) := by decide +kernel
theorem dX11_swapped_29 : decode cX11_swapped 29 = .ok (.invokevirtual 177, 3) := by decide +kernel
theorem dX11_swapped_32 : decode cX11_swapped 32 = .ok (.aload_n 0, 1) := by decide +kernel
theorem dX11_swapped_33 : decode cX11_swapped 33 = .ok (.getfield 41, 3) := by decide +kernel
theorem dX11_swapped_36 : decode cX11_swapped 36 = .ok (.iconst 1, 1) := by decide +kernel
theorem dX11_swapped_37 : decode cX11_swapped 37 = .ok (.aload_n 0, 1) := by decide +kernel
theorem dX11_swapped_38 : decode cX11_swapped 38 = .ok (.getfield 37, 3) := by decide +kernel
theorem dX11_swapped_41 : decode cX11_swapped 41 = .ok (.getfield 153, 3) := by decide +kernel
theorem dX11_swapped_44 : decode cX11_swapped 44 = .ok (.isub, 1) := by decide +kernel
theorem dX11_swapped_45 : decode cX11_swapped 45 = .ok (.putfield 153, 3) := by decide +kernel
theorem dX11_swapped_48 : decode cX11_swapped 48 = .ok (.aload_n 0, 1) := by decide +kernel
theorem dX11_swapped_49 : decode cX11_swapped 49 = .ok (.getfield 63, 3) := by decide +kernel
theorem dX11_swapped_52 : decode cX11_swapped 52 = .ok (.aload_n 0, 1) := by decide +kernel
theorem dX11_swapped_53 : decode cX11_swapped 53 = .ok (.getfield 41, 3) := by decide +kernel
theorem dX11_swapped_56 : decode cX11_swapped 56 = .ok (.invokevirtual 263, 3) := by decide +kernel
theorem dX11_swapped_59 : decode cX11_swapped 59 = .ok (.ireturn, 1) := by decide +kernel
theorem dX11_settle_0 : decode cX11_settle 0 = .ok (.aload_n 0, 1) := by decide +kernel
theorem dX11_settle_1 : decode cX11_settle 1 = .ok (.getfield 12, 3) := by decide +kernel
theorem dX11_settle_4 : decode cX11_settle 4 = .ok (.aload_n 1, 1) := by decide +kernel
theorem dX11_settle_5 : decode cX11_settle 5 = .ok (.invokevirtual 382, 3) := by decide +kernel
theorem dX11_settle_8 : decode cX11_settle 8 = .ok (.aload_n 0, 1) := by decide +kernel
theorem dX11_settle_9 : decode cX11_settle 9 = .ok (.getfield 21, 3) := by decide +kernel
theorem dX11_settle_12 : decode cX11_settle 12 = .ok (.invokevirtual 405, 3) := by decide +kernel
theorem dX11_settle_15 : decode cX11_settle 15 = .ok (.aload_n 0, 1) := by decide +kernel
theorem dX11_settle_16 : decode cX11_settle 16 = .ok (.getfield 37, 3) := by decide +kernel
theorem dX11_settle_19 : decode cX11_settle 19 = .ok (.aload_n 2, 1) := by decide +kernel
theorem dX11_settle_20 : decode cX11_settle 20 = .ok (.invokevirtual 177, 3) := by decide +kernel
theorem dX11_settle_23 : decode cX11_settle 23 = .ok (.aload_n 0, 1) := by decide +kernel
theorem dX11_settle_24 : decode cX11_settle 24 = .ok (.getfield 47, 3) := by decide +kernel
theorem dX11_settle_27 : decode cX11_settle 27 = .ok (.invokevirtual 408, 3) := by decide +kernel
theorem dX11_settle_30 : decode cX11_settle 30 = .ok (.return_, 1) := by decide +kernel
theorem dX12_laysMoves_0 : decode cX12_laysMoves 0 = .ok (.iconst 0, 1) := by decide +kernel
theorem dX12_laysMoves_1 : decode cX12_laysMoves 1 = .ok (.istore_n 2, 1) := by decide +kernel
theorem dX12_laysMoves_2 : decode cX12_laysMoves 2 = .ok (.iload_n 2, 1) := by decide +kernel
theorem dX12_laysMoves_3 : decode cX12_laysMoves 3 = .ok (.iconst 2, 1) := by decide +kernel
theorem dX12_laysMoves_4 : decode cX12_laysMoves 4 = .ok (.if_icmp .ge 135, 3) := by decide +kernel
theorem dX12_laysMoves_7 : decode cX12_laysMoves 7 = .ok (.iconst 0, 1) := by decide +kernel
theorem dX12_laysMoves_8 : decode cX12_laysMoves 8 = .ok (.istore_n 3, 1) := by decide +kernel
theorem dX12_laysMoves_9 : decode cX12_laysMoves 9 = .ok (.iload_n 3, 1) := by decide +kernel
theorem dX12_laysMoves_10 : decode cX12_laysMoves 10 = .ok (.aload_n 0, 1) := by decide +kernel
theorem dX12_laysMoves_11 : decode cX12_laysMoves 11 = .ok (.getfield 67, 3) := by decide +kernel
theorem dX12_laysMoves_14 : decode cX12_laysMoves 14 = .ok (.iload_n 1, 1) := by decide +kernel
theorem dX12_laysMoves_15 : decode cX12_laysMoves 15 = .ok (.iconst 1, 1) := by decide +kernel
theorem dX12_laysMoves_16 : decode cX12_laysMoves 16 = .ok (.iadd, 1) := by decide +kernel
theorem dX12_laysMoves_17 : decode cX12_laysMoves 17 = .ok (.iaload, 1) := by decide +kernel
theorem dX12_laysMoves_18 : decode cX12_laysMoves 18 = .ok (.aload_n 0, 1) := by decide +kernel
theorem dX12_laysMoves_19 : decode cX12_laysMoves 19 = .ok (.getfield 67, 3) := by decide +kernel
theorem dX12_laysMoves_22 : decode cX12_laysMoves 22 = .ok (.iload_n 1, 1) := by decide +kernel
theorem dX12_laysMoves_23 : decode cX12_laysMoves 23 = .ok (.iaload, 1) := by decide +kernel
theorem dX12_laysMoves_24 : decode cX12_laysMoves 24 = .ok (.isub, 1) := by decide +kernel
theorem dX12_laysMoves_25 : decode cX12_laysMoves 25 = .ok (.if_icmp .ge 108, 3) := by decide +kernel
theorem dX12_laysMoves_28 : decode cX12_laysMoves 28 = .ok (.aload_n 0, 1) := by decide +kernel
theorem dX12_laysMoves_29 : decode cX12_laysMoves 29 = .ok (.iload_n 2, 1) := by decide +kernel
theorem dX12_laysMoves_30 : decode cX12_laysMoves 30 = .ok (.iload_n 1, 1) := by decide +kernel
theorem dX12_laysMoves_31 : decode cX12_laysMoves 31 = .ok (.iload_n 3, 1) := by decide +kernel
theorem dX12_laysMoves_32 : decode cX12_laysMoves 32 = .ok (.invokevirtual 384, 3) := by decide +kernel
theorem dX12_laysMoves_35 : decode cX12_laysMoves 35 = .ok (.istore 4, 2) := by decide +kernel
theorem dX12_laysMoves_37 : decode cX12_laysMoves 37 = .ok (.aload_n 0, 1) := by decide +kernel
theorem dX12_laysMoves_38 : decode cX12_laysMoves 38 = .ok (.iload_n 2, 1) := by decide +kernel
theorem dX12_laysMoves_39 : decode cX12_laysMoves 39 = .ok (.iload_n 1, 1) := by decide +kernel
theorem dX12_laysMoves_40 : decode cX12_laysMoves 40 = .ok (.iload_n 3, 1) := by decide +kernel
theorem dX12_laysMoves_41 : decode cX12_laysMoves 41 = .ok (.invokevirtual 371, 3) := by decide +kernel
theorem dX12_laysMoves_44 : decode cX12_laysMoves 44 = .ok (.iconst 0, 1) := by decide +kernel
theorem dX12_laysMoves_45 : decode cX12_laysMoves 45 = .ok (.istore 5, 2) := by decide +kernel
theorem dX12_laysMoves_47 : decode cX12_laysMoves 47 = .ok (.iload 5, 2) := by decide +kernel
theorem dX12_laysMoves_49 : decode cX12_laysMoves 49 = .ok (.aload_n 0, 1) := by decide +kernel
theorem dX12_laysMoves_50 : decode cX12_laysMoves 50 = .ok (.invokevirtual 245, 3) := by decide +kernel
theorem dX12_laysMoves_53 : decode cX12_laysMoves 53 = .ok (.if_icmp .ge 26, 3) := by decide +kernel
theorem dX12_laysMoves_56 : decode cX12_laysMoves 56 = .ok (.aload_n 0, 1) := by decide +kernel
theorem dX12_laysMoves_57 : decode cX12_laysMoves 57 = .ok (.getfield 9, 3) := by decide +kernel
theorem dX12_laysMoves_60 : decode cX12_laysMoves 60 = .ok (.bipush 13, 2) := by decide +kernel
theorem dX12_laysMoves_62 : decode cX12_laysMoves 62 = .ok (.iload 5, 2) := by decide +kernel
theorem dX12_laysMoves_64 : decode cX12_laysMoves 64 = .ok (.iadd, 1) := by decide +kernel
theorem dX12_laysMoves_65 : decode cX12_laysMoves 65 = .ok (.aload_n 0, 1) := by decide +kernel
theorem dX12_laysMoves_66 : decode cX12_laysMoves 66 = .ok (.getfield 33, 3) := by decide +kernel
theorem dX12_laysMoves_69 : decode cX12_laysMoves 69 = .ok (.iload 5, 2) := by decide +kernel
theorem dX12_laysMoves_71 : decode cX12_laysMoves 71 = .ok (.iaload, 1) := by decide +kernel
theorem dX12_laysMoves_72 : decode cX12_laysMoves 72 = .ok (.iastore, 1) := by decide +kernel
theorem dX12_laysMoves_73 : decode cX12_laysMoves 73 = .ok (.iinc 5 1, 3) := by decide +kernel
theorem dX12_laysMoves_76 : decode cX12_laysMoves 76 = .ok (.goto (-29), 3) := by decide +kernel
theorem dX12_laysMoves_79 : decode cX12_laysMoves 79 = .ok (.aload_n 0, 1) := by decide +kernel
theorem dX12_laysMoves_80 : decode cX12_laysMoves 80 = .ok (.getfield 9, 3) := by decide +kernel
theorem dX12_laysMoves_83 : decode cX12_laysMoves 83 = .ok (.iconst 2, 1) := by decide +kernel
theorem dX12_laysMoves_84 : decode cX12_laysMoves 84 = .ok (.iload_n 2, 1) := by decide +kernel
theorem dX12_laysMoves_85 : decode cX12_laysMoves 85 = .ok (.iastore, 1) := by decide +kernel
theorem dX12_laysMoves_86 : decode cX12_laysMoves 86 = .ok (.aload_n 0, 1) := by decide +kernel
theorem dX12_laysMoves_87 : decode cX12_laysMoves 87 = .ok (.getfield 70, 3) := by decide +kernel
theorem dX12_laysMoves_90 : decode cX12_laysMoves 90 = .ok (.iload 4, 2) := by decide +kernel
theorem dX12_laysMoves_92 : decode cX12_laysMoves 92 = .ok (.aload_n 0, 1) := by decide +kernel
theorem dX12_laysMoves_93 : decode cX12_laysMoves 93 = .ok (.invokevirtual 305, 3) := by decide +kernel
theorem dX12_laysMoves_96 : decode cX12_laysMoves 96 = .ok (.bastore, 1) := by decide +kernel
theorem dX12_laysMoves_97 : decode cX12_laysMoves 97 = .ok (.iconst 0, 1) := by decide +kernel
theorem dX12_laysMoves_98 : decode cX12_laysMoves 98 = .ok (.istore 5, 2) := by decide +kernel
theorem dX12_laysMoves_100 : decode cX12_laysMoves 100 = .ok (.iload 5, 2) := by decide +kernel
theorem dX12_laysMoves_102 : decode cX12_laysMoves 102 = .ok (.aload_n 0, 1) := by decide +kernel
theorem dX12_laysMoves_103 : decode cX12_laysMoves 103 = .ok (.getfield 9, 3) := by decide +kernel
theorem dX12_laysMoves_106 : decode cX12_laysMoves 106 = .ok (.iconst 1, 1) := by decide +kernel
theorem dX12_laysMoves_107 : decode cX12_laysMoves 107 = .ok (.iaload, 1) := by decide +kernel
theorem dX12_laysMoves_108 : decode cX12_laysMoves 108 = .ok (.if_icmp .ge 19, 3) := by decide +kernel
theorem dX12_laysMoves_111 : decode cX12_laysMoves 111 = .ok (.aload_n 0, 1) := by decide +kernel
theorem dX12_laysMoves_112 : decode cX12_laysMoves 112 = .ok (.iload 4, 2) := by decide +kernel
theorem dX12_laysMoves_114 : decode cX12_laysMoves 114 = .ok (.iload_n 2, 1) := by decide +kernel
theorem dX12_laysMoves_115 : decode cX12_laysMoves 115 = .ok (.iload_n 1, 1) := by decide +kernel
theorem dX12_laysMoves_116 : decode cX12_laysMoves 116 = .ok (.iload 5, 2) := by decide +kernel
theorem dX12_laysMoves_118 : decode cX12_laysMoves 118 = .ok (.invokevirtual 387, 3) := by decide +kernel
theorem dX12_laysMoves_121 : decode cX12_laysMoves 121 = .ok (.iinc 5 1, 3) := by decide +kernel
theorem dX12_laysMoves_124 : decode cX12_laysMoves 124 = .ok (.goto (-24), 3) := by decide +kernel
theorem dX12_laysMoves_127 : decode cX12_laysMoves 127 = .ok (.iinc 3 1, 3) := by decide +kernel
theorem dX12_laysMoves_130 : decode cX12_laysMoves 130 = .ok (.goto (-121), 3) := by decide +kernel
theorem dX12_laysMoves_133 : decode cX12_laysMoves 133 = .ok (.iinc 2 1, 3) := by decide +kernel
theorem dX12_laysMoves_136 : decode cX12_laysMoves 136 = .ok (.goto (-134), 3) := by decide +kernel
theorem dX12_laysMoves_139 : decode cX12_laysMoves 139 = .ok (.return_, 1) := by decide +kernel
theorem dX12_forced_0 : decode cX12_forced 0 = .ok (.aload_n 0, 1) := by decide +kernel
theorem dX12_forced_1 : decode cX12_forced 1 = .ok (.iconst 0, 1) := by decide +kernel
theorem dX12_forced_2 : decode cX12_forced 2 = .ok (.putfield 107, 3) := by decide +kernel
theorem dX12_forced_5 : decode cX12_forced 5 = .ok (.aload_n 0, 1) := by decide +kernel
theorem dX12_forced_6 : decode cX12_forced 6 = .ok (.getfield 9, 3) := by decide +kernel
theorem dX12_forced_9 : decode cX12_forced 9 = .ok (.aload_n 0, 1) := by decide +kernel
theorem dX12_forced_10 : decode cX12_forced 10 = .ok (.getfield 19, 3) := by decide +kernel
theorem dX12_forced_13 : decode cX12_forced 13 = .ok (.invokestatic 235, 3) := by decide +kernel
theorem dX12_forced_16 : decode cX12_forced 16 = .ok (.iconst 0, 1) := by decide +kernel
theorem dX12_forced_17 : decode cX12_forced 17 = .ok (.istore_n 1, 1) := by decide +kernel
theorem dX12_forced_18 : decode cX12_forced 18 = .ok (.iload_n 1, 1) := by decide +kernel
theorem dX12_forced_19 : decode cX12_forced 19 = .ok (.bipush 60, 2) := by decide +kernel
theorem dX12_forced_21 : decode cX12_forced 21 = .ok (.if_icmp .ge 26, 3) := by decide +kernel
theorem dX12_forced_24 : decode cX12_forced 24 = .ok (.aload_n 0, 1) := by decide +kernel
theorem dX12_forced_25 : decode cX12_forced 25 = .ok (.invokevirtual 455, 3) := by decide +kernel
theorem dX12_forced_28 : decode cX12_forced 28 = .ok (.iconst (-1), 1) := by decide +kernel
theorem dX12_forced_29 : decode cX12_forced 29 = .ok (.if_icmp .eq 18, 3) := by decide +kernel
theorem dX12_forced_32 : decode cX12_forced 32 = .ok (.aload_n 0, 1) := by decide +kernel
theorem dX12_forced_33 : decode cX12_forced 33 = .ok (.aload_n 0, 1) := by decide +kernel
theorem dX12_forced_34 : decode cX12_forced 34 = .ok (.invokevirtual 455, 3) := by decide +kernel
theorem dX12_forced_37 : decode cX12_forced 37 = .ok (.invokevirtual 326, 3) := by decide +kernel
theorem dX12_forced_40 : decode cX12_forced 40 = .ok (.pop, 1) := by decide +kernel
theorem dX12_forced_41 : decode cX12_forced 41 = .ok (.iinc 1 1, 3) := by decide +kernel
theorem dX12_forced_44 : decode cX12_forced 44 = .ok (.goto (-26), 3) := by decide +kernel
theorem dX12_forced_47 : decode cX12_forced 47 = .ok (.aload_n 0, 1) := by decide +kernel
theorem dX12_forced_48 : decode cX12_forced 48 = .ok (.getfield 19, 3) := by decide +kernel
theorem dX12_forced_51 : decode cX12_forced 51 = .ok (.aload_n 0, 1) := by decide +kernel
theorem dX12_forced_52 : decode cX12_forced 52 = .ok (.getfield 9, 3) := by decide +kernel
theorem dX12_forced_55 : decode cX12_forced 55 = .ok (.invokestatic 235, 3) := by decide +kernel
theorem dX12_forced_58 : decode cX12_forced 58 = .ok (.iload_n 1, 1) := by decide +kernel
theorem dX12_forced_59 : decode cX12_forced 59 = .ok (.ireturn, 1) := by decide +kernel
theorem dX4_readPerSide_0 : decode cX4_readPerSide 0 = .ok (.aload_n 0, 1) := by decide +kernel
theorem dX4_readPerSide_1 : decode cX4_readPerSide 1 = .ok (.getfield 12, 3) := by decide +kernel
theorem dX4_readPerSide_4 : decode cX4_readPerSide 4 = .ok (.getfield 124, 3) := by decide +kernel
theorem dX4_readPerSide_7 : decode cX4_readPerSide 7 = .ok (.ifCond .le 9, 3) := by decide +kernel
theorem dX4_readPerSide_10 : decode cX4_readPerSide 10 = .ok (.aload_n 0, 1) := by decide +kernel
theorem dX4_readPerSide_11 : decode cX4_readPerSide 11 = .ok (.iconst 2, 1) := by decide +kernel
theorem dX4_readPerSide_12 : decode cX4_readPerSide 12 = .ok (.invokevirtual 120, 3) := by decide +kernel
theorem dX4_readPerSide_15 : decode cX4_readPerSide 15 = .ok (.return_, 1) := by decide +kernel
theorem dX4_readPerSide_16 : decode cX4_readPerSide 16 = .ok (.aload_n 0, 1) := by decide +kernel
theorem dX4_readPerSide_17 : decode cX4_readPerSide 17 = .ok (.invokevirtual 49, 3) := by decide +kernel
theorem dX4_readPerSide_20 : decode cX4_readPerSide 20 = .ok (.aload_n 0, 1) := by decide +kernel
theorem dX4_readPerSide_21 : decode cX4_readPerSide 21 = .ok (.getfield 12, 3) := by decide +kernel
theorem dX4_readPerSide_24 : decode cX4_readPerSide 24 = .ok (.aload_n 0, 1) := by decide +kernel
theorem dX4_readPerSide_25 : decode cX4_readPerSide 25 = .ok (.iconst 1, 1) := by decide +kernel
theorem dX4_readPerSide_26 : decode cX4_readPerSide 26 = .ok (.bipush 6, 2) := by decide +kernel
theorem dX4_readPerSide_28 : decode cX4_readPerSide 28 = .ok (.invokevirtual 97, 3) := by decide +kernel
theorem dX4_readPerSide_31 : decode cX4_readPerSide 31 = .ok (.putfield 105, 3) := by decide +kernel
theorem dX4_readPerSide_34 : decode cX4_readPerSide 34 = .ok (.return_, 1) := by decide +kernel
theorem dX12_solves_0 : decode cX12_solves 0 = .ok (.lconst 0, 1) := by decide +kernel
theorem dX12_solves_1 : decode cX12_solves 1 = .ok (.lstore_n 2, 1) := by decide +kernel
theorem dX12_solves_2 : decode cX12_solves 2 = .ok (.iconst 0, 1) := by decide +kernel
theorem dX12_solves_3 : decode cX12_solves 3 = .ok (.istore 4, 2) := by decide +kernel
theorem dX12_solves_5 : decode cX12_solves 5 = .ok (.iload 4, 2) := by decide +kernel
theorem dX12_solves_7 : decode cX12_solves 7 = .ok (.iload_n 1, 1) := by decide +kernel
theorem dX12_solves_8 : decode cX12_solves 8 = .ok (.if_icmp .gt 28, 3) := by decide +kernel
theorem dX12_solves_11 : decode cX12_solves 11 = .ok (.lload_n 2, 1) := by decide +kernel
theorem dX12_solves_12 : decode cX12_solves 12 = .ok (.aload_n 0, 1) := by decide +kernel
theorem dX12_solves_13 : decode cX12_solves 13 = .ok (.iload 4, 2) := by decide +kernel
theorem dX12_solves_15 : decode cX12_solves 15 = .ok (.invokevirtual 359, 3) := by decide +kernel
theorem dX12_solves_18 : decode cX12_solves 18 = .ok (.ladd, 1) := by decide +kernel
theorem dX12_solves_19 : decode cX12_solves 19 = .ok (.lstore_n 2, 1) := by decide +kernel
theorem dX12_solves_20 : decode cX12_solves 20 = .ok (.lload_n 2, 1) := by decide +kernel
theorem dX12_solves_21 : decode cX12_solves 21 = .ok (.ldc2_w 363, 3) := by decide +kernel
theorem dX12_solves_24 : decode cX12_solves 24 = .ok (.lcmp, 1) := by decide +kernel
theorem dX12_solves_25 : decode cX12_solves 25 = .ok (.ifCond .le 5, 3) := by decide +kernel
theorem dX12_solves_28 : decode cX12_solves 28 = .ok (.iconst 0, 1) := by decide +kernel
theorem dX12_solves_29 : decode cX12_solves 29 = .ok (.ireturn, 1) := by decide +kernel
theorem dX12_solves_30 : decode cX12_solves 30 = .ok (.iinc 4 1, 3) := by decide +kernel
theorem dX12_solves_33 : decode cX12_solves 33 = .ok (.goto (-28), 3) := by decide +kernel
theorem dX12_solves_36 : decode cX12_solves 36 = .ok (.aload_n 0, 1) := by decide +kernel
theorem dX12_solves_37 : decode cX12_solves 37 = .ok (.invokevirtual 375, 3) := by decide +kernel
theorem dX12_solves_40 : decode cX12_solves 40 = .ok (.ifCond .ne 45, 3) := by decide +kernel
theorem dX12_solves_43 : decode cX12_solves 43 = .ok (.iconst 1, 1) := by decide +kernel
theorem dX12_solves_44 : decode cX12_solves 44 = .ok (.istore 4, 2) := by decide +kernel
theorem dX12_solves_46 : decode cX12_solves 46 = .ok (.iload 4, 2) := by decide +kernel
theorem dX12_solves_48 : decode cX12_solves 48 = .ok (.bipush 10, 2) := by decide +kernel
theorem dX12_solves_50 : decode cX12_solves 50 = .ok (.if_icmp .gt 23, 3) := by decide +kernel
theorem dX12_solves_53 : decode cX12_solves 53 = .ok (.aload_n 0, 1) := by decide +kernel
theorem dX12_solves_54 : decode cX12_solves 54 = .ok (.getfield 73, 3) := by decide +kernel
theorem dX12_solves_57 : decode cX12_solves 57 = .ok (.iload 4, 2) := by decide +kernel
theorem dX12_solves_59 : decode cX12_solves 59 = .ok (.aload_n 0, 1) := by decide +kernel
theorem dX12_solves_60 : decode cX12_solves 60 = .ok (.getfield 9, 3) := by decide +kernel
theorem dX12_solves_63 : decode cX12_solves 63 = .ok (.iload 4, 2) := by decide +kernel
theorem dX12_solves_65 : decode cX12_solves 65 = .ok (.iaload, 1) := by decide +kernel
theorem dX12_solves_66 : decode cX12_solves 66 = .ok (.iastore, 1) := by decide +kernel
theorem dX12_solves_67 : decode cX12_solves 67 = .ok (.iinc 4 1, 3) := by decide +kernel
theorem dX12_solves_70 : decode cX12_solves 70 = .ok (.goto (-24), 3) := by decide +kernel
theorem dX12_solves_73 : decode cX12_solves 73 = .ok (.aload_n 0, 1) := by decide +kernel
theorem dX12_solves_74 : decode cX12_solves 74 = .ok (.iconst (-1), 1) := by decide +kernel
theorem dX12_solves_75 : decode cX12_solves 75 = .ok (.putfield 76, 3) := by decide +kernel
theorem dX12_solves_78 : decode cX12_solves 78 = .ok (.aload_n 0, 1) := by decide +kernel
theorem dX12_solves_79 : decode cX12_solves 79 = .ok (.getfield 67, 3) := by decide +kernel
theorem dX12_solves_82 : decode cX12_solves 82 = .ok (.iconst 0, 1) := by decide +kernel
theorem dX12_solves_83 : decode cX12_solves 83 = .ok (.iconst 0, 1) := by decide +kernel
theorem dX12_solves_84 : decode cX12_solves 84 = .ok (.iastore, 1) := by decide +kernel
theorem dX12_solves_85 : decode cX12_solves 85 = .ok (.aload_n 0, 1) := by decide +kernel
theorem dX12_solves_86 : decode cX12_solves 86 = .ok (.getfield 76, 3) := by decide +kernel
theorem dX12_solves_89 : decode cX12_solves 89 = .ok (.iload_n 1, 1) := by decide +kernel
theorem dX12_solves_90 : decode cX12_solves 90 = .ok (.if_icmp .lt 5, 3) := by decide +kernel
theorem dX12_solves_93 : decode cX12_solves 93 = .ok (.iconst 1, 1) := by decide +kernel
theorem dX12_solves_94 : decode cX12_solves 94 = .ok (.ireturn, 1) := by decide +kernel
theorem dX12_solves_95 : decode cX12_solves 95 = .ok (.aload_n 0, 1) := by decide +kernel
theorem dX12_solves_96 : decode cX12_solves 96 = .ok (.getfield 9, 3) := by decide +kernel
theorem dX12_solves_99 : decode cX12_solves 99 = .ok (.aload_n 0, 1) := by decide +kernel
theorem dX12_solves_100 : decode cX12_solves 100 = .ok (.getfield 79, 3) := by decide +kernel
theorem dX12_solves_103 : decode cX12_solves 103 = .ok (.invokestatic 235, 3) := by decide +kernel
theorem dX12_solves_106 : decode cX12_solves 106 = .ok (.aload_n 0, 1) := by decide +kernel
theorem dX12_solves_107 : decode cX12_solves 107 = .ok (.getfield 76, 3) := by decide +kernel
theorem dX12_solves_110 : decode cX12_solves 110 = .ok (.iload_n 1, 1) := by decide +kernel
theorem dX12_solves_111 : decode cX12_solves 111 = .ok (.if_icmp .ge 56, 3) := by decide +kernel
theorem dX12_solves_114 : decode cX12_solves 114 = .ok (.aload_n 0, 1) := by decide +kernel
theorem dX12_solves_115 : decode cX12_solves 115 = .ok (.getfield 76, 3) := by decide +kernel
theorem dX12_solves_118 : decode cX12_solves 118 = .ok (.iconst 1, 1) := by decide +kernel
theorem dX12_solves_119 : decode cX12_solves 119 = .ok (.iadd, 1) := by decide +kernel
theorem dX12_solves_120 : decode cX12_solves 120 = .ok (.istore 4, 2) := by decide +kernel
theorem dX12_solves_122 : decode cX12_solves 122 = .ok (.aload_n 0, 1) := by decide +kernel
theorem dX12_solves_123 : decode cX12_solves 123 = .ok (.getfield 67, 3) := by decide +kernel
theorem dX12_solves_126 : decode cX12_solves 126 = .ok (.iload 4, 2) := by decide +kernel
theorem dX12_solves_128 : decode cX12_solves 128 = .ok (.iconst 1, 1) := by decide +kernel
theorem dX12_solves_129 : decode cX12_solves 129 = .ok (.iadd, 1) := by decide +kernel
theorem dX12_solves_130 : decode cX12_solves 130 = .ok (.aload_n 0, 1) := by decide +kernel
theorem dX12_solves_131 : decode cX12_solves 131 = .ok (.getfield 67, 3) := by decide +kernel
theorem dX12_solves_134 : decode cX12_solves 134 = .ok (.iload 4, 2) := by decide +kernel
theorem dX12_solves_136 : decode cX12_solves 136 = .ok (.iaload, 1) := by decide +kernel
theorem dX12_solves_137 : decode cX12_solves 137 = .ok (.aload_n 0, 1) := by decide +kernel
theorem dX12_solves_138 : decode cX12_solves 138 = .ok (.iload 4, 2) := by decide +kernel
theorem dX12_solves_140 : decode cX12_solves 140 = .ok (.invokevirtual 359, 3) := by decide +kernel
theorem dX12_solves_143 : decode cX12_solves 143 = .ok (.l2i, 1) := by decide +kernel
theorem dX12_solves_144 : decode cX12_solves 144 = .ok (.iadd, 1) := by decide +kernel
theorem dX12_solves_145 : decode cX12_solves 145 = .ok (.iastore, 1) := by decide +kernel
theorem dX12_solves_146 : decode cX12_solves 146 = .ok (.aload_n 0, 1) := by decide +kernel
theorem dX12_solves_147 : decode cX12_solves 147 = .ok (.iload 4, 2) := by decide +kernel
theorem dX12_solves_149 : decode cX12_solves 149 = .ok (.invokevirtual 378, 3) := by decide +kernel
theorem dX12_solves_152 : decode cX12_solves 152 = .ok (.aload_n 0, 1) := by decide +kernel
theorem dX12_solves_153 : decode cX12_solves 153 = .ok (.iload 4, 2) := by decide +kernel
theorem dX12_solves_155 : decode cX12_solves 155 = .ok (.invokevirtual 381, 3) := by decide +kernel
theorem dX12_solves_158 : decode cX12_solves 158 = .ok (.aload_n 0, 1) := by decide +kernel
theorem dX12_solves_159 : decode cX12_solves 159 = .ok (.iload 4, 2) := by decide +kernel
theorem dX12_solves_161 : decode cX12_solves 161 = .ok (.putfield 76, 3) := by decide +kernel
theorem dX12_solves_164 : decode cX12_solves 164 = .ok (.goto (-58), 3) := by decide +kernel
theorem dX12_solves_167 : decode cX12_solves 167 = .ok (.aload_n 0, 1) := by decide +kernel
theorem dX12_solves_168 : decode cX12_solves 168 = .ok (.getfield 79, 3) := by decide +kernel
theorem dX12_solves_171 : decode cX12_solves 171 = .ok (.aload_n 0, 1) := by decide +kernel
theorem dX12_solves_172 : decode cX12_solves 172 = .ok (.getfield 9, 3) := by decide +kernel
theorem dX12_solves_175 : decode cX12_solves 175 = .ok (.invokestatic 235, 3) := by decide +kernel
theorem dX12_solves_178 : decode cX12_solves 178 = .ok (.iconst 1, 1) := by decide +kernel
theorem dX12_solves_179 : decode cX12_solves 179 = .ok (.ireturn, 1) := by decide +kernel
theorem dX12_value_0 : decode cX12_value 0 = .ok (.aload_n 0, 1) := by decide +kernel
theorem dX12_value_1 : decode cX12_value 1 = .ok (.iconst 0, 1) := by decide +kernel
theorem dX12_value_2 : decode cX12_value 2 = .ok (.putfield 107, 3) := by decide +kernel
theorem dX12_value_5 : decode cX12_value 5 = .ok (.aload_n 0, 1) := by decide +kernel
theorem dX12_value_6 : decode cX12_value 6 = .ok (.aload_n 0, 1) := by decide +kernel
theorem dX12_value_7 : decode cX12_value 7 = .ok (.invokevirtual 365, 3) := by decide +kernel
theorem dX12_value_10 : decode cX12_value 10 = .ok (.invokevirtual 407, 3) := by decide +kernel
theorem dX12_value_13 : decode cX12_value 13 = .ok (.ifCond .eq 15, 3) := by decide +kernel
theorem dX12_value_16 : decode cX12_value 16 = .ok (.aload_n 0, 1) := by decide +kernel
theorem dX12_value_17 : decode cX12_value 17 = .ok (.getfield 51, 3) := by decide +kernel
theorem dX12_value_20 : decode cX12_value 20 = .ok (.aload_n 0, 1) := by decide +kernel
theorem dX12_value_21 : decode cX12_value 21 = .ok (.invokevirtual 410, 3) := by decide +kernel
theorem dX12_value_24 : decode cX12_value 24 = .ok (.iaload, 1) := by decide +kernel
theorem dX12_value_25 : decode cX12_value 25 = .ok (.goto 6, 3) := by decide +kernel
theorem dX12_value_28 : decode cX12_value 28 = .ok (.sipush (-1000), 3) := by decide +kernel
theorem dX12_value_31 : decode cX12_value 31 = .ok (.ireturn, 1) := by decide +kernel
theorem dX12_rank_0 : decode cX12_rank 0 = .ok (.aload_n 0, 1) := by decide +kernel
theorem dX12_rank_1 : decode cX12_rank 1 = .ok (.iconst 0, 1) := by decide +kernel
theorem dX12_rank_2 : decode cX12_rank 2 = .ok (.putfield 107, 3) := by decide +kernel
theorem dX12_rank_5 : decode cX12_rank 5 = .ok (.aload_n 0, 1) := by decide +kernel
theorem dX12_rank_6 : decode cX12_rank 6 = .ok (.aload_n 0, 1) := by decide +kernel
theorem dX12_rank_7 : decode cX12_rank 7 = .ok (.invokevirtual 365, 3) := by decide +kernel
theorem dX12_rank_10 : decode cX12_rank 10 = .ok (.invokevirtual 407, 3) := by decide +kernel
theorem dX12_rank_13 : decode cX12_rank 13 = .ok (.ifCond .eq 15, 3) := by decide +kernel
theorem dX12_rank_16 : decode cX12_rank 16 = .ok (.aload_n 0, 1) := by decide +kernel
theorem dX12_rank_17 : decode cX12_rank 17 = .ok (.getfield 54, 3) := by decide +kernel
theorem dX12_rank_20 : decode cX12_rank 20 = .ok (.aload_n 0, 1) := by decide +kernel
theorem dX12_rank_21 : decode cX12_rank 21 = .ok (.invokevirtual 410, 3) := by decide +kernel
theorem dX12_rank_24 : decode cX12_rank 24 = .ok (.iaload, 1) := by decide +kernel
theorem dX12_rank_25 : decode cX12_rank 25 = .ok (.goto 4, 3) := by decide +kernel
theorem dX12_rank_28 : decode cX12_rank 28 = .ok (.iconst (-1), 1) := by decide +kernel
theorem dX12_rank_29 : decode cX12_rank 29 = .ok (.ireturn, 1) := by decide +kernel
theorem dX12_best_0 : decode cX12_best 0 = .ok (.aload_n 0, 1) := by decide +kernel
theorem dX12_best_1 : decode cX12_best 1 = .ok (.iconst 0, 1) := by decide +kernel
theorem dX12_best_2 : decode cX12_best 2 = .ok (.putfield 107, 3) := by decide +kernel
theorem dX12_best_5 : decode cX12_best 5 = .ok (.aload_n 0, 1) := by decide +kernel
theorem dX12_best_6 : decode cX12_best 6 = .ok (.aload_n 0, 1) := by decide +kernel
theorem dX12_best_7 : decode cX12_best 7 = .ok (.invokevirtual 365, 3) := by decide +kernel
theorem dX12_best_10 : decode cX12_best 10 = .ok (.invokevirtual 407, 3) := by decide +kernel
theorem dX12_best_13 : decode cX12_best 13 = .ok (.ifCond .eq 10, 3) := by decide +kernel
theorem dX12_best_16 : decode cX12_best 16 = .ok (.aload_n 0, 1) := by decide +kernel
theorem dX12_best_17 : decode cX12_best 17 = .ok (.invokevirtual 416, 3) := by decide +kernel
theorem dX12_best_20 : decode cX12_best 20 = .ok (.goto 4, 3) := by decide +kernel
theorem dX12_best_23 : decode cX12_best 23 = .ok (.iconst (-1), 1) := by decide +kernel
theorem dX12_best_24 : decode cX12_best 24 = .ok (.ireturn, 1) := by decide +kernel
theorem dX12_worth_0 : decode cX12_worth 0 = .ok (.aload_n 0, 1) := by decide +kernel
theorem dX12_worth_1 : decode cX12_worth 1 = .ok (.iconst 0, 1) := by decide +kernel
theorem dX12_worth_2 : decode cX12_worth 2 = .ok (.putfield 107, 3) := by decide +kernel
theorem dX12_worth_5 : decode cX12_worth 5 = .ok (.aload_n 0, 1) := by decide +kernel
theorem dX12_worth_6 : decode cX12_worth 6 = .ok (.aload_n 0, 1) := by decide +kernel
theorem dX12_worth_7 : decode cX12_worth 7 = .ok (.invokevirtual 365, 3) := by decide +kernel
theorem dX12_worth_10 : decode cX12_worth 10 = .ok (.invokevirtual 407, 3) := by decide +kernel
theorem dX12_worth_13 : decode cX12_worth 13 = .ok (.ifCond .eq 11, 3) := by decide +kernel
theorem dX12_worth_16 : decode cX12_worth 16 = .ok (.aload_n 0, 1) := by decide +kernel
theorem dX12_worth_17 : decode cX12_worth 17 = .ok (.iload_n 1, 1) := by decide +kernel
theorem dX12_worth_18 : decode cX12_worth 18 = .ok (.invokevirtual 311, 3) := by decide +kernel
theorem dX12_worth_21 : decode cX12_worth 21 = .ok (.ifCond .eq 7, 3) := by decide +kernel
theorem dX12_worth_24 : decode cX12_worth 24 = .ok (.sipush (-1000), 3) := by decide +kernel
theorem dX12_worth_27 : decode cX12_worth 27 = .ok (.ireturn, 1) := by decide +kernel
theorem dX12_worth_28 : decode cX12_worth 28 = .ok (.aload_n 0, 1) := by decide +kernel
theorem dX12_worth_29 : decode cX12_worth 29 = .ok (.aload_n 0, 1) := by decide +kernel
theorem dX12_worth_30 : decode cX12_worth 30 = .ok (.invokevirtual 410, 3) := by decide +kernel
theorem dX12_worth_33 : decode cX12_worth 33 = .ok (.iload_n 1, 1) := by decide +kernel
theorem dX12_worth_34 : decode cX12_worth 34 = .ok (.aload_n 0, 1) := by decide +kernel
theorem dX12_worth_35 : decode cX12_worth 35 = .ok (.getfield 9, 3) := by decide +kernel
theorem dX12_worth_38 : decode cX12_worth 38 = .ok (.iconst 1, 1) := by decide +kernel
theorem dX12_worth_39 : decode cX12_worth 39 = .ok (.iaload, 1) := by decide +kernel
theorem dX12_worth_40 : decode cX12_worth 40 = .ok (.irem, 1) := by decide +kernel
theorem dX12_worth_41 : decode cX12_worth 41 = .ok (.aload_n 0, 1) := by decide +kernel
theorem dX12_worth_42 : decode cX12_worth 42 = .ok (.getfield 51, 3) := by decide +kernel
theorem dX12_worth_45 : decode cX12_worth 45 = .ok (.invokevirtual 398, 3) := by decide +kernel
theorem dX12_worth_48 : decode cX12_worth 48 = .ok (.ireturn, 1) := by decide +kernel
theorem dX12_valueOf_0 : decode cX12_valueOf 0 = .ok (.aload_n 0, 1) := by decide +kernel
theorem dX12_valueOf_1 : decode cX12_valueOf 1 = .ok (.iload_n 1, 1) := by decide +kernel
theorem dX12_valueOf_2 : decode cX12_valueOf 2 = .ok (.invokestatic 254, 3) := by decide +kernel
theorem dX12_valueOf_5 : decode cX12_valueOf 5 = .ok (.ifCond .ne 7, 3) := by decide +kernel
theorem dX12_valueOf_8 : decode cX12_valueOf 8 = .ok (.iconst 1, 1) := by decide +kernel
theorem dX12_valueOf_9 : decode cX12_valueOf 9 = .ok (.goto 20, 3) := by decide +kernel
theorem dX12_valueOf_12 : decode cX12_valueOf 12 = .ok (.iload_n 2, 1) := by decide +kernel
theorem dX12_valueOf_13 : decode cX12_valueOf 13 = .ok (.i2l, 1) := by decide +kernel
theorem dX12_valueOf_14 : decode cX12_valueOf 14 = .ok (.lconst 0, 1) := by decide +kernel
theorem dX12_valueOf_15 : decode cX12_valueOf 15 = .ok (.ldc2_w 357, 3) := by decide +kernel
theorem dX12_valueOf_18 : decode cX12_valueOf 18 = .ok (.invokestatic 166, 3) := by decide +kernel
theorem dX12_valueOf_21 : decode cX12_valueOf 21 = .ok (.ifCond .eq 7, 3) := by decide +kernel
theorem dX12_valueOf_24 : decode cX12_valueOf 24 = .ok (.iconst 0, 1) := by decide +kernel
theorem dX12_valueOf_25 : decode cX12_valueOf 25 = .ok (.goto 4, 3) := by decide +kernel
theorem dX12_valueOf_28 : decode cX12_valueOf 28 = .ok (.iconst 2, 1) := by decide +kernel
theorem dX12_valueOf_29 : decode cX12_valueOf 29 = .ok (.putfield 107, 3) := by decide +kernel
theorem dX12_valueOf_32 : decode cX12_valueOf 32 = .ok (.aload_n 0, 1) := by decide +kernel
theorem dX12_valueOf_33 : decode cX12_valueOf 33 = .ok (.getfield 107, 3) := by decide +kernel
theorem dX12_valueOf_36 : decode cX12_valueOf 36 = .ok (.ifCond .le 5, 3) := by decide +kernel
theorem dX12_valueOf_39 : decode cX12_valueOf 39 = .ok (.iconst 0, 1) := by decide +kernel
theorem dX12_valueOf_40 : decode cX12_valueOf 40 = .ok (.ireturn, 1) := by decide +kernel
theorem dX12_valueOf_41 : decode cX12_valueOf 41 = .ok (.aload_n 0, 1) := by decide +kernel
theorem dX12_valueOf_42 : decode cX12_valueOf 42 = .ok (.iload_n 2, 1) := by decide +kernel
theorem dX12_valueOf_43 : decode cX12_valueOf 43 = .ok (.invokevirtual 407, 3) := by decide +kernel
theorem dX12_valueOf_46 : decode cX12_valueOf 46 = .ok (.ifCond .ne 9, 3) := by decide +kernel
theorem dX12_valueOf_49 : decode cX12_valueOf 49 = .ok (.aload_n 0, 1) := by decide +kernel
theorem dX12_valueOf_50 : decode cX12_valueOf 50 = .ok (.iconst 3, 1) := by decide +kernel
theorem dX12_valueOf_51 : decode cX12_valueOf 51 = .ok (.invokevirtual 221, 3) := by decide +kernel
theorem dX12_valueOf_54 : decode cX12_valueOf 54 = .ok (.ireturn, 1) := by decide +kernel
theorem dX12_valueOf_55 : decode cX12_valueOf 55 = .ok (.iload_n 3, 1) := by decide +kernel
theorem dX12_valueOf_56 : decode cX12_valueOf 56 = .ok (.i2l, 1) := by decide +kernel
theorem dX12_valueOf_57 : decode cX12_valueOf 57 = .ok (.lconst 0, 1) := by decide +kernel
theorem dX12_valueOf_58 : decode cX12_valueOf 58 = .ok (.aload_n 0, 1) := by decide +kernel
theorem dX12_valueOf_59 : decode cX12_valueOf 59 = .ok (.getfield 67, 3) := by decide +kernel
theorem dX12_valueOf_62 : decode cX12_valueOf 62 = .ok (.iload_n 2, 1) := by decide +kernel
theorem dX12_valueOf_63 : decode cX12_valueOf 63 = .ok (.iconst 1, 1) := by decide +kernel
theorem dX12_valueOf_64 : decode cX12_valueOf 64 = .ok (.iadd, 1) := by decide +kernel
theorem dX12_valueOf_65 : decode cX12_valueOf 65 = .ok (.iaload, 1) := by decide +kernel
theorem dX12_valueOf_66 : decode cX12_valueOf 66 = .ok (.aload_n 0, 1) := by decide +kernel
theorem dX12_valueOf_67 : decode cX12_valueOf 67 = .ok (.getfield 67, 3) := by decide +kernel
theorem dX12_valueOf_70 : decode cX12_valueOf 70 = .ok (.iload_n 2, 1) := by decide +kernel
theorem dX12_valueOf_71 : decode cX12_valueOf 71 = .ok (.iaload, 1) := by decide +kernel
theorem dX12_valueOf_72 : decode cX12_valueOf 72 = .ok (.isub, 1) := by decide +kernel
theorem dX12_valueOf_73 : decode cX12_valueOf 73 = .ok (.iconst 1, 1) := by decide +kernel
theorem dX12_valueOf_74 : decode cX12_valueOf 74 = .ok (.isub, 1) := by decide +kernel
theorem dX12_valueOf_75 : decode cX12_valueOf 75 = .ok (.i2l, 1) := by decide +kernel
theorem dX12_valueOf_76 : decode cX12_valueOf 76 = .ok (.invokestatic 166, 3) := by decide +kernel
theorem dX12_valueOf_79 : decode cX12_valueOf 79 = .ok (.ifCond .eq 18, 3) := by decide +kernel
theorem dX12_valueOf_82 : decode cX12_valueOf 82 = .ok (.aload_n 0, 1) := by decide +kernel
theorem dX12_valueOf_83 : decode cX12_valueOf 83 = .ok (.getfield 51, 3) := by decide +kernel
theorem dX12_valueOf_86 : decode cX12_valueOf 86 = .ok (.aload_n 0, 1) := by decide +kernel
theorem dX12_valueOf_87 : decode cX12_valueOf 87 = .ok (.iload_n 1, 1) := by decide +kernel
theorem dX12_valueOf_88 : decode cX12_valueOf 88 = .ok (.iload_n 2, 1) := by decide +kernel
theorem dX12_valueOf_89 : decode cX12_valueOf 89 = .ok (.iload_n 3, 1) := by decide +kernel
theorem dX12_valueOf_90 : decode cX12_valueOf 90 = .ok (.invokevirtual 384, 3) := by decide +kernel
theorem dX12_valueOf_93 : decode cX12_valueOf 93 = .ok (.iaload, 1) := by decide +kernel
theorem dX12_valueOf_94 : decode cX12_valueOf 94 = .ok (.goto 8, 3) := by decide +kernel
theorem dX12_valueOf_97 : decode cX12_valueOf 97 = .ok (.aload_n 0, 1) := by decide +kernel
theorem dX12_valueOf_98 : decode cX12_valueOf 98 = .ok (.iconst 1, 1) := by decide +kernel
theorem dX12_valueOf_99 : decode cX12_valueOf 99 = .ok (.invokevirtual 221, 3) := by decide +kernel
theorem dX12_valueOf_102 : decode cX12_valueOf 102 = .ok (.ireturn, 1) := by decide +kernel
theorem dX12_tally_0 : decode cX12_tally 0 = .ok (.aload_n 0, 1) := by decide +kernel
theorem dX12_tally_1 : decode cX12_tally 1 = .ok (.iload_n 1, 1) := by decide +kernel
theorem dX12_tally_2 : decode cX12_tally 2 = .ok (.invokestatic 254, 3) := by decide +kernel
theorem dX12_tally_5 : decode cX12_tally 5 = .ok (.ifCond .ne 7, 3) := by decide +kernel
theorem dX12_tally_8 : decode cX12_tally 8 = .ok (.iconst 1, 1) := by decide +kernel
theorem dX12_tally_9 : decode cX12_tally 9 = .ok (.goto 32, 3) := by decide +kernel
theorem dX12_tally_12 : decode cX12_tally 12 = .ok (.iload_n 2, 1) := by decide +kernel
theorem dX12_tally_13 : decode cX12_tally 13 = .ok (.i2l, 1) := by decide +kernel
theorem dX12_tally_14 : decode cX12_tally 14 = .ok (.lconst 0, 1) := by decide +kernel
theorem dX12_tally_15 : decode cX12_tally 15 = .ok (.ldc2_w 357, 3) := by decide +kernel
theorem dX12_tally_18 : decode cX12_tally 18 = .ok (.invokestatic 166, 3) := by decide +kernel
theorem dX12_tally_21 : decode cX12_tally 21 = .ok (.ifCond .eq 19, 3) := by decide +kernel
theorem dX12_tally_24 : decode cX12_tally 24 = .ok (.iload_n 3, 1) := by decide +kernel
theorem dX12_tally_25 : decode cX12_tally 25 = .ok (.i2l, 1) := by decide +kernel
theorem dX12_tally_26 : decode cX12_tally 26 = .ok (.lconst 0, 1) := by decide +kernel
theorem dX12_tally_27 : decode cX12_tally 27 = .ok (.ldc2_w 314, 3) := by decide +kernel
theorem dX12_tally_30 : decode cX12_tally 30 = .ok (.invokestatic 166, 3) := by decide +kernel
theorem dX12_tally_33 : decode cX12_tally 33 = .ok (.ifCond .eq 7, 3) := by decide +kernel
theorem dX12_tally_36 : decode cX12_tally 36 = .ok (.iconst 0, 1) := by decide +kernel
theorem dX12_tally_37 : decode cX12_tally 37 = .ok (.goto 4, 3) := by decide +kernel
theorem dX12_tally_40 : decode cX12_tally 40 = .ok (.iconst 2, 1) := by decide +kernel
theorem dX12_tally_41 : decode cX12_tally 41 = .ok (.putfield 107, 3) := by decide +kernel
theorem dX12_tally_44 : decode cX12_tally 44 = .ok (.aload_n 0, 1) := by decide +kernel
theorem dX12_tally_45 : decode cX12_tally 45 = .ok (.getfield 107, 3) := by decide +kernel
theorem dX12_tally_48 : decode cX12_tally 48 = .ok (.ifCond .le 5, 3) := by decide +kernel
theorem dX12_tally_51 : decode cX12_tally 51 = .ok (.iconst 0, 1) := by decide +kernel
theorem dX12_tally_52 : decode cX12_tally 52 = .ok (.ireturn, 1) := by decide +kernel
theorem dX12_tally_53 : decode cX12_tally 53 = .ok (.aload_n 0, 1) := by decide +kernel
theorem dX12_tally_54 : decode cX12_tally 54 = .ok (.iload_n 2, 1) := by decide +kernel
theorem dX12_tally_55 : decode cX12_tally 55 = .ok (.invokevirtual 407, 3) := by decide +kernel
theorem dX12_tally_58 : decode cX12_tally 58 = .ok (.ifCond .ne 9, 3) := by decide +kernel
theorem dX12_tally_61 : decode cX12_tally 61 = .ok (.aload_n 0, 1) := by decide +kernel
theorem dX12_tally_62 : decode cX12_tally 62 = .ok (.iconst 3, 1) := by decide +kernel
theorem dX12_tally_63 : decode cX12_tally 63 = .ok (.invokevirtual 221, 3) := by decide +kernel
theorem dX12_tally_66 : decode cX12_tally 66 = .ok (.ireturn, 1) := by decide +kernel
theorem dX12_tally_67 : decode cX12_tally 67 = .ok (.iconst 0, 1) := by decide +kernel
theorem dX12_tally_68 : decode cX12_tally 68 = .ok (.istore 4, 2) := by decide +kernel
theorem dX12_tally_70 : decode cX12_tally 70 = .ok (.iconst 0, 1) := by decide +kernel
theorem dX12_tally_71 : decode cX12_tally 71 = .ok (.istore 5, 2) := by decide +kernel
theorem dX12_tally_73 : decode cX12_tally 73 = .ok (.iload 5, 2) := by decide +kernel
theorem dX12_tally_75 : decode cX12_tally 75 = .ok (.aload_n 0, 1) := by decide +kernel
theorem dX12_tally_76 : decode cX12_tally 76 = .ok (.getfield 67, 3) := by decide +kernel
theorem dX12_tally_79 : decode cX12_tally 79 = .ok (.iload_n 2, 1) := by decide +kernel
theorem dX12_tally_80 : decode cX12_tally 80 = .ok (.iconst 1, 1) := by decide +kernel
theorem dX12_tally_81 : decode cX12_tally 81 = .ok (.iadd, 1) := by decide +kernel
theorem dX12_tally_82 : decode cX12_tally 82 = .ok (.iaload, 1) := by decide +kernel
theorem dX12_tally_83 : decode cX12_tally 83 = .ok (.aload_n 0, 1) := by decide +kernel
theorem dX12_tally_84 : decode cX12_tally 84 = .ok (.getfield 67, 3) := by decide +kernel
theorem dX12_tally_87 : decode cX12_tally 87 = .ok (.iload_n 2, 1) := by decide +kernel
theorem dX12_tally_88 : decode cX12_tally 88 = .ok (.iaload, 1) := by decide +kernel
theorem dX12_tally_89 : decode cX12_tally 89 = .ok (.isub, 1) := by decide +kernel
theorem dX12_tally_90 : decode cX12_tally 90 = .ok (.if_icmp .ge 82, 3) := by decide +kernel
theorem dX12_tally_93 : decode cX12_tally 93 = .ok (.aload_n 0, 1) := by decide +kernel
theorem dX12_tally_94 : decode cX12_tally 94 = .ok (.iload_n 1, 1) := by decide +kernel
theorem dX12_tally_95 : decode cX12_tally 95 = .ok (.iload_n 2, 1) := by decide +kernel
theorem dX12_tally_96 : decode cX12_tally 96 = .ok (.iload 5, 2) := by decide +kernel
theorem dX12_tally_98 : decode cX12_tally 98 = .ok (.invokevirtual 384, 3) := by decide +kernel
theorem dX12_tally_101 : decode cX12_tally 101 = .ok (.istore 6, 2) := by decide +kernel
theorem dX12_tally_103 : decode cX12_tally 103 = .ok (.aload_n 0, 1) := by decide +kernel
theorem dX12_tally_104 : decode cX12_tally 104 = .ok (.getfield 51, 3) := by decide +kernel
theorem dX12_tally_107 : decode cX12_tally 107 = .ok (.iload 6, 2) := by decide +kernel
theorem dX12_tally_109 : decode cX12_tally 109 = .ok (.iaload, 1) := by decide +kernel
theorem dX12_tally_110 : decode cX12_tally 110 = .ok (.istore 7, 2) := by decide +kernel
theorem dX12_tally_112 : decode cX12_tally 112 = .ok (.iload 4, 2) := by decide +kernel
theorem dX12_tally_114 : decode cX12_tally 114 = .ok (.iload_n 3, 1) := by decide +kernel
theorem dX12_tally_115 : decode cX12_tally 115 = .ok (.ifCond .ne 8, 3) := by decide +kernel
theorem dX12_tally_118 : decode cX12_tally 118 = .ok (.iload 7, 2) := by decide +kernel
theorem dX12_tally_120 : decode cX12_tally 120 = .ok (.ifCond .gt 38, 3) := by decide +kernel
theorem dX12_tally_123 : decode cX12_tally 123 = .ok (.iload_n 3, 1) := by decide +kernel
theorem dX12_tally_124 : decode cX12_tally 124 = .ok (.iconst 1, 1) := by decide +kernel
theorem dX12_tally_125 : decode cX12_tally 125 = .ok (.if_icmp .ne 8, 3) := by decide +kernel
theorem dX12_tally_128 : decode cX12_tally 128 = .ok (.iload 7, 2) := by decide +kernel
theorem dX12_tally_130 : decode cX12_tally 130 = .ok (.ifCond .eq 28, 3) := by decide +kernel
theorem dX12_tally_133 : decode cX12_tally 133 = .ok (.iload_n 3, 1) := by decide +kernel
theorem dX12_tally_134 : decode cX12_tally 134 = .ok (.iconst 2, 1) := by decide +kernel
theorem dX12_tally_135 : decode cX12_tally 135 = .ok (.if_icmp .ne 8, 3) := by decide +kernel
theorem dX12_tally_138 : decode cX12_tally 138 = .ok (.iload 7, 2) := by decide +kernel
theorem dX12_tally_140 : decode cX12_tally 140 = .ok (.ifCond .lt 18, 3) := by decide +kernel
theorem dX12_tally_143 : decode cX12_tally 143 = .ok (.iload_n 3, 1) := by decide +kernel
theorem dX12_tally_144 : decode cX12_tally 144 = .ok (.iconst 3, 1) := by decide +kernel
theorem dX12_tally_145 : decode cX12_tally 145 = .ok (.if_icmp .ne 17, 3) := by decide +kernel
theorem dX12_tally_148 : decode cX12_tally 148 = .ok (.aload_n 0, 1) := by decide +kernel
theorem dX12_tally_149 : decode cX12_tally 149 = .ok (.getfield 70, 3) := by decide +kernel
theorem dX12_tally_152 : decode cX12_tally 152 = .ok (.iload 6, 2) := by decide +kernel
theorem dX12_tally_154 : decode cX12_tally 154 = .ok (.baload, 1) := by decide +kernel
theorem dX12_tally_155 : decode cX12_tally 155 = .ok (.ifCond .eq 7, 3) := by decide +kernel
theorem dX12_tally_158 : decode cX12_tally 158 = .ok (.iconst 1, 1) := by decide +kernel
theorem dX12_tally_159 : decode cX12_tally 159 = .ok (.goto 4, 3) := by decide +kernel
theorem dX12_tally_162 : decode cX12_tally 162 = .ok (.iconst 0, 1) := by decide +kernel
theorem dX12_tally_163 : decode cX12_tally 163 = .ok (.iadd, 1) := by decide +kernel
theorem dX12_tally_164 : decode cX12_tally 164 = .ok (.istore 4, 2) := by decide +kernel
theorem dX12_tally_166 : decode cX12_tally 166 = .ok (.iinc 5 1, 3) := by decide +kernel
theorem dX12_tally_169 : decode cX12_tally 169 = .ok (.goto (-96), 3) := by decide +kernel
theorem dX12_tally_172 : decode cX12_tally 172 = .ok (.iload 4, 2) := by decide +kernel
theorem dX12_tally_174 : decode cX12_tally 174 = .ok (.ireturn, 1) := by decide +kernel
theorem dX12_row_0 : decode cX12_row 0 = .ok (.aload_n 0, 1) := by decide +kernel
theorem dX12_row_1 : decode cX12_row 1 = .ok (.iload_n 1, 1) := by decide +kernel
theorem dX12_row_2 : decode cX12_row 2 = .ok (.iload_n 2, 1) := by decide +kernel
theorem dX12_row_3 : decode cX12_row 3 = .ok (.iload_n 3, 1) := by decide +kernel
theorem dX12_row_4 : decode cX12_row 4 = .ok (.invokevirtual 419, 3) := by decide +kernel
theorem dX12_row_7 : decode cX12_row 7 = .ok (.pop, 1) := by decide +kernel
theorem dX12_row_8 : decode cX12_row 8 = .ok (.aload_n 0, 1) := by decide +kernel
theorem dX12_row_9 : decode cX12_row 9 = .ok (.getfield 107, 3) := by decide +kernel
theorem dX12_row_12 : decode cX12_row 12 = .ok (.ifCond .ne 43, 3) := by decide +kernel
theorem dX12_row_15 : decode cX12_row 15 = .ok (.iload 4, 2) := by decide +kernel
theorem dX12_row_17 : decode cX12_row 17 = .ok (.i2l, 1) := by decide +kernel
theorem dX12_row_18 : decode cX12_row 18 = .ok (.lconst 0, 1) := by decide +kernel
theorem dX12_row_19 : decode cX12_row 19 = .ok (.ldc2_w 314, 3) := by decide +kernel
theorem dX12_row_22 : decode cX12_row 22 = .ok (.invokestatic 166, 3) := by decide +kernel
theorem dX12_row_25 : decode cX12_row 25 = .ok (.ifCond .ne 30, 3) := by decide +kernel
theorem dX12_row_28 : decode cX12_row 28 = .ok (.iload 4, 2) := by decide +kernel
theorem dX12_row_30 : decode cX12_row 30 = .ok (.i2l, 1) := by decide +kernel
theorem dX12_row_31 : decode cX12_row 31 = .ok (.ldc2_w 422, 3) := by decide +kernel
theorem dX12_row_34 : decode cX12_row 34 = .ok (.bipush 9, 2) := by decide +kernel
theorem dX12_row_36 : decode cX12_row 36 = .ok (.aload_n 0, 1) := by decide +kernel
theorem dX12_row_37 : decode cX12_row 37 = .ok (.getfield 9, 3) := by decide +kernel
theorem dX12_row_40 : decode cX12_row 40 = .ok (.iconst 1, 1) := by decide +kernel
theorem dX12_row_41 : decode cX12_row 41 = .ok (.iaload, 1) := by decide +kernel
theorem dX12_row_42 : decode cX12_row 42 = .ok (.iadd, 1) := by decide +kernel
theorem dX12_row_43 : decode cX12_row 43 = .ok (.i2l, 1) := by decide +kernel
theorem dX12_row_44 : decode cX12_row 44 = .ok (.invokestatic 166, 3) := by decide +kernel
theorem dX12_row_47 : decode cX12_row 47 = .ok (.ifCond .ne 8, 3) := by decide +kernel
theorem dX12_row_50 : decode cX12_row 50 = .ok (.aload_n 0, 1) := by decide +kernel
theorem dX12_row_51 : decode cX12_row 51 = .ok (.iconst 2, 1) := by decide +kernel
theorem dX12_row_52 : decode cX12_row 52 = .ok (.putfield 107, 3) := by decide +kernel
theorem dX12_row_55 : decode cX12_row 55 = .ok (.aload_n 0, 1) := by decide +kernel
theorem dX12_row_56 : decode cX12_row 56 = .ok (.getfield 107, 3) := by decide +kernel
theorem dX12_row_59 : decode cX12_row 59 = .ok (.ifCond .le 5, 3) := by decide +kernel
theorem dX12_row_62 : decode cX12_row 62 = .ok (.iconst 0, 1) := by decide +kernel
theorem dX12_row_63 : decode cX12_row 63 = .ok (.ireturn, 1) := by decide +kernel
theorem dX12_row_64 : decode cX12_row 64 = .ok (.aload_n 0, 1) := by decide +kernel
theorem dX12_row_65 : decode cX12_row 65 = .ok (.iload_n 1, 1) := by decide +kernel
theorem dX12_row_66 : decode cX12_row 66 = .ok (.iload_n 2, 1) := by decide +kernel
theorem dX12_row_67 : decode cX12_row 67 = .ok (.iload_n 3, 1) := by decide +kernel
theorem dX12_row_68 : decode cX12_row 68 = .ok (.invokevirtual 384, 3) := by decide +kernel
theorem dX12_row_71 : decode cX12_row 71 = .ok (.istore 5, 2) := by decide +kernel
theorem dX12_row_73 : decode cX12_row 73 = .ok (.iload 4, 2) := by decide +kernel
theorem dX12_row_75 : decode cX12_row 75 = .ok (.bipush 10, 2) := by decide +kernel
theorem dX12_row_77 : decode cX12_row 77 = .ok (.if_icmp .lt 45, 3) := by decide +kernel
theorem dX12_row_80 : decode cX12_row 80 = .ok (.aload_n 0, 1) := by decide +kernel
theorem dX12_row_81 : decode cX12_row 81 = .ok (.getfield 61, 3) := by decide +kernel
theorem dX12_row_84 : decode cX12_row 84 = .ok (.bipush 6, 2) := by decide +kernel
theorem dX12_row_86 : decode cX12_row 86 = .ok (.iload 5, 2) := by decide +kernel
theorem dX12_row_88 : decode cX12_row 88 = .ok (.imul, 1) := by decide +kernel
theorem dX12_row_89 : decode cX12_row 89 = .ok (.iload 4, 2) := by decide +kernel
theorem dX12_row_91 : decode cX12_row 91 = .ok (.iadd, 1) := by decide +kernel
theorem dX12_row_92 : decode cX12_row 92 = .ok (.bipush 10, 2) := by decide +kernel
theorem dX12_row_94 : decode cX12_row 94 = .ok (.isub, 1) := by decide +kernel
theorem dX12_row_95 : decode cX12_row 95 = .ok (.iaload, 1) := by decide +kernel
theorem dX12_row_96 : decode cX12_row 96 = .ok (.iconst (-1), 1) := by decide +kernel
theorem dX12_row_97 : decode cX12_row 97 = .ok (.if_icmp .ne 9, 3) := by decide +kernel
theorem dX12_row_100 : decode cX12_row 100 = .ok (.sipush (-1000), 3) := by decide +kernel
theorem dX12_row_103 : decode cX12_row 103 = .ok (.goto 18, 3) := by decide +kernel
theorem dX12_row_106 : decode cX12_row 106 = .ok (.aload_n 0, 1) := by decide +kernel
theorem dX12_row_107 : decode cX12_row 107 = .ok (.iload 5, 2) := by decide +kernel
theorem dX12_row_109 : decode cX12_row 109 = .ok (.iload 4, 2) := by decide +kernel
theorem dX12_row_111 : decode cX12_row 111 = .ok (.bipush 10, 2) := by decide +kernel
theorem dX12_row_113 : decode cX12_row 113 = .ok (.isub, 1) := by decide +kernel
theorem dX12_row_114 : decode cX12_row 114 = .ok (.aload_n 0, 1) := by decide +kernel
theorem dX12_row_115 : decode cX12_row 115 = .ok (.getfield 51, 3) := by decide +kernel
theorem dX12_row_118 : decode cX12_row 118 = .ok (.invokevirtual 398, 3) := by decide +kernel
theorem dX12_row_121 : decode cX12_row 121 = .ok (.ireturn, 1) := by decide +kernel
theorem dX12_row_122 : decode cX12_row 122 = .ok (.iload 4, 2) := by decide +kernel
theorem dX12_row_124 : decode cX12_row 124 = .ok (.ifCond .ne 13, 3) := by decide +kernel
theorem dX12_row_127 : decode cX12_row 127 = .ok (.aload_n 0, 1) := by decide +kernel
theorem dX12_row_128 : decode cX12_row 128 = .ok (.getfield 54, 3) := by decide +kernel
theorem dX12_row_131 : decode cX12_row 131 = .ok (.iload 5, 2) := by decide +kernel
theorem dX12_row_133 : decode cX12_row 133 = .ok (.iaload, 1) := by decide +kernel
theorem dX12_row_134 : decode cX12_row 134 = .ok (.goto 35, 3) := by decide +kernel
theorem dX12_row_137 : decode cX12_row 137 = .ok (.iload 4, 2) := by decide +kernel
theorem dX12_row_139 : decode cX12_row 139 = .ok (.iconst 1, 1) := by decide +kernel
theorem dX12_row_140 : decode cX12_row 140 = .ok (.if_icmp .ne 12, 3) := by decide +kernel
theorem dX12_row_143 : decode cX12_row 143 = .ok (.aload_n 0, 1) := by decide +kernel
theorem dX12_row_144 : decode cX12_row 144 = .ok (.iload 5, 2) := by decide +kernel
theorem dX12_row_146 : decode cX12_row 146 = .ok (.invokevirtual 413, 3) := by decide +kernel
theorem dX12_row_149 : decode cX12_row 149 = .ok (.goto 20, 3) := by decide +kernel
theorem dX12_row_152 : decode cX12_row 152 = .ok (.aload_n 0, 1) := by decide +kernel
theorem dX12_row_153 : decode cX12_row 153 = .ok (.iload 5, 2) := by decide +kernel
theorem dX12_row_155 : decode cX12_row 155 = .ok (.iload 4, 2) := by decide +kernel
theorem dX12_row_157 : decode cX12_row 157 = .ok (.iconst 3, 1) := by decide +kernel
theorem dX12_row_158 : decode cX12_row 158 = .ok (.if_icmp .ne 7, 3) := by decide +kernel
theorem dX12_row_161 : decode cX12_row 161 = .ok (.iconst 1, 1) := by decide +kernel
theorem dX12_row_162 : decode cX12_row 162 = .ok (.goto 4, 3) := by decide +kernel
theorem dX12_row_165 : decode cX12_row 165 = .ok (.iconst 0, 1) := by decide +kernel
theorem dX12_row_166 : decode cX12_row 166 = .ok (.invokevirtual 424, 3) := by decide +kernel
theorem dX12_row_169 : decode cX12_row 169 = .ok (.ireturn, 1) := by decide +kernel
theorem dX12_find_0 : decode cX12_find 0 = .ok (.aload_n 0, 1) := by decide +kernel
theorem dX12_find_1 : decode cX12_find 1 = .ok (.iload_n 1, 1) := by decide +kernel
theorem dX12_find_2 : decode cX12_find 2 = .ok (.invokestatic 254, 3) := by decide +kernel
theorem dX12_find_5 : decode cX12_find 5 = .ok (.ifCond .ne 7, 3) := by decide +kernel
theorem dX12_find_8 : decode cX12_find 8 = .ok (.iconst 1, 1) := by decide +kernel
theorem dX12_find_9 : decode cX12_find 9 = .ok (.goto 32, 3) := by decide +kernel
theorem dX12_find_12 : decode cX12_find 12 = .ok (.iload_n 2, 1) := by decide +kernel
theorem dX12_find_13 : decode cX12_find 13 = .ok (.i2l, 1) := by decide +kernel
theorem dX12_find_14 : decode cX12_find 14 = .ok (.lconst 0, 1) := by decide +kernel
theorem dX12_find_15 : decode cX12_find 15 = .ok (.ldc2_w 357, 3) := by decide +kernel
theorem dX12_find_18 : decode cX12_find 18 = .ok (.invokestatic 166, 3) := by decide +kernel
theorem dX12_find_21 : decode cX12_find 21 = .ok (.ifCond .ne 7, 3) := by decide +kernel
theorem dX12_find_24 : decode cX12_find 24 = .ok (.iconst 2, 1) := by decide +kernel
theorem dX12_find_25 : decode cX12_find 25 = .ok (.goto 16, 3) := by decide +kernel
theorem dX12_find_28 : decode cX12_find 28 = .ok (.aload_n 0, 1) := by decide +kernel
theorem dX12_find_29 : decode cX12_find 29 = .ok (.iload_n 2, 1) := by decide +kernel
theorem dX12_find_30 : decode cX12_find 30 = .ok (.invokevirtual 407, 3) := by decide +kernel
theorem dX12_find_33 : decode cX12_find 33 = .ok (.ifCond .eq 7, 3) := by decide +kernel
theorem dX12_find_36 : decode cX12_find 36 = .ok (.iconst 0, 1) := by decide +kernel
theorem dX12_find_37 : decode cX12_find 37 = .ok (.goto 4, 3) := by decide +kernel
theorem dX12_find_40 : decode cX12_find 40 = .ok (.iconst 3, 1) := by decide +kernel
theorem dX12_find_41 : decode cX12_find 41 = .ok (.putfield 107, 3) := by decide +kernel
theorem dX12_find_44 : decode cX12_find 44 = .ok (.aload_n 0, 1) := by decide +kernel
theorem dX12_find_45 : decode cX12_find 45 = .ok (.getfield 107, 3) := by decide +kernel
theorem dX12_find_48 : decode cX12_find 48 = .ok (.ifCond .le 5, 3) := by decide +kernel
theorem dX12_find_51 : decode cX12_find 51 = .ok (.iconst 0, 1) := by decide +kernel
theorem dX12_find_52 : decode cX12_find 52 = .ok (.ireturn, 1) := by decide +kernel
theorem dX12_find_53 : decode cX12_find 53 = .ok (.iload 4, 2) := by decide +kernel
theorem dX12_find_55 : decode cX12_find 55 = .ok (.istore 5, 2) := by decide +kernel
theorem dX12_find_57 : decode cX12_find 57 = .ok (.iconst 0, 1) := by decide +kernel
theorem dX12_find_58 : decode cX12_find 58 = .ok (.istore 6, 2) := by decide +kernel
theorem dX12_find_60 : decode cX12_find 60 = .ok (.iload 6, 2) := by decide +kernel
theorem dX12_find_62 : decode cX12_find 62 = .ok (.aload_n 0, 1) := by decide +kernel
theorem dX12_find_63 : decode cX12_find 63 = .ok (.getfield 67, 3) := by decide +kernel
theorem dX12_find_66 : decode cX12_find 66 = .ok (.iload_n 2, 1) := by decide +kernel
theorem dX12_find_67 : decode cX12_find 67 = .ok (.iconst 1, 1) := by decide +kernel
theorem dX12_find_68 : decode cX12_find 68 = .ok (.iadd, 1) := by decide +kernel
theorem dX12_find_69 : decode cX12_find 69 = .ok (.iaload, 1) := by decide +kernel
theorem dX12_find_70 : decode cX12_find 70 = .ok (.aload_n 0, 1) := by decide +kernel
theorem dX12_find_71 : decode cX12_find 71 = .ok (.getfield 67, 3) := by decide +kernel
theorem dX12_find_74 : decode cX12_find 74 = .ok (.iload_n 2, 1) := by decide +kernel
theorem dX12_find_75 : decode cX12_find 75 = .ok (.iaload, 1) := by decide +kernel
theorem dX12_find_76 : decode cX12_find 76 = .ok (.isub, 1) := by decide +kernel
theorem dX12_find_77 : decode cX12_find 77 = .ok (.if_icmp .ge 40, 3) := by decide +kernel
theorem dX12_find_80 : decode cX12_find 80 = .ok (.aload_n 0, 1) := by decide +kernel
theorem dX12_find_81 : decode cX12_find 81 = .ok (.getfield 51, 3) := by decide +kernel
theorem dX12_find_84 : decode cX12_find 84 = .ok (.aload_n 0, 1) := by decide +kernel
theorem dX12_find_85 : decode cX12_find 85 = .ok (.iload_n 1, 1) := by decide +kernel
theorem dX12_find_86 : decode cX12_find 86 = .ok (.iload_n 2, 1) := by decide +kernel
theorem dX12_find_87 : decode cX12_find 87 = .ok (.iload 6, 2) := by decide +kernel
theorem dX12_find_89 : decode cX12_find 89 = .ok (.invokevirtual 384, 3) := by decide +kernel
theorem dX12_find_92 : decode cX12_find 92 = .ok (.iaload, 1) := by decide +kernel
theorem dX12_find_93 : decode cX12_find 93 = .ok (.iload_n 3, 1) := by decide +kernel
theorem dX12_find_94 : decode cX12_find 94 = .ok (.if_icmp .eq 6, 3) := by decide +kernel
theorem dX12_find_97 : decode cX12_find 97 = .ok (.goto 14, 3) := by decide +kernel
theorem dX12_find_100 : decode cX12_find 100 = .ok (.iload 5, 2) := by decide +kernel
theorem dX12_find_102 : decode cX12_find 102 = .ok (.ifCond .ne 6, 3) := by decide +kernel
theorem dX12_find_105 : decode cX12_find 105 = .ok (.iload 6, 2) := by decide +kernel
theorem dX12_find_107 : decode cX12_find 107 = .ok (.ireturn, 1) := by decide +kernel
theorem dX12_find_108 : decode cX12_find 108 = .ok (.iinc 5 (-1), 3) := by decide +kernel
theorem dX12_find_111 : decode cX12_find 111 = .ok (.iinc 6 1, 3) := by decide +kernel
theorem dX12_find_114 : decode cX12_find 114 = .ok (.goto (-54), 3) := by decide +kernel
theorem dX12_find_117 : decode cX12_find 117 = .ok (.iconst (-1), 1) := by decide +kernel
theorem dX12_find_118 : decode cX12_find 118 = .ok (.ireturn, 1) := by decide +kernel
theorem dX12_most_0 : decode cX12_most 0 = .ok (.aload_n 0, 1) := by decide +kernel
theorem dX12_most_1 : decode cX12_most 1 = .ok (.iload_n 1, 1) := by decide +kernel
theorem dX12_most_2 : decode cX12_most 2 = .ok (.invokestatic 254, 3) := by decide +kernel
theorem dX12_most_5 : decode cX12_most 5 = .ok (.ifCond .ne 7, 3) := by decide +kernel
theorem dX12_most_8 : decode cX12_most 8 = .ok (.iconst 1, 1) := by decide +kernel
theorem dX12_most_9 : decode cX12_most 9 = .ok (.goto 44, 3) := by decide +kernel
theorem dX12_most_12 : decode cX12_most 12 = .ok (.iload_n 2, 1) := by decide +kernel
theorem dX12_most_13 : decode cX12_most 13 = .ok (.i2l, 1) := by decide +kernel
theorem dX12_most_14 : decode cX12_most 14 = .ok (.lconst 0, 1) := by decide +kernel
theorem dX12_most_15 : decode cX12_most 15 = .ok (.ldc2_w 357, 3) := by decide +kernel
theorem dX12_most_18 : decode cX12_most 18 = .ok (.invokestatic 166, 3) := by decide +kernel
theorem dX12_most_21 : decode cX12_most 21 = .ok (.ifCond .eq 15, 3) := by decide +kernel
theorem dX12_most_24 : decode cX12_most 24 = .ok (.iload_n 3, 1) := by decide +kernel
theorem dX12_most_25 : decode cX12_most 25 = .ok (.i2l, 1) := by decide +kernel
theorem dX12_most_26 : decode cX12_most 26 = .ok (.lconst 0, 1) := by decide +kernel
theorem dX12_most_27 : decode cX12_most 27 = .ok (.ldc2_w 428, 3) := by decide +kernel
theorem dX12_most_30 : decode cX12_most 30 = .ok (.invokestatic 166, 3) := by decide +kernel
theorem dX12_most_33 : decode cX12_most 33 = .ok (.ifCond .ne 7, 3) := by decide +kernel
theorem dX12_most_36 : decode cX12_most 36 = .ok (.iconst 2, 1) := by decide +kernel
theorem dX12_most_37 : decode cX12_most 37 = .ok (.goto 16, 3) := by decide +kernel
theorem dX12_most_40 : decode cX12_most 40 = .ok (.aload_n 0, 1) := by decide +kernel
theorem dX12_most_41 : decode cX12_most 41 = .ok (.iload_n 2, 1) := by decide +kernel
theorem dX12_most_42 : decode cX12_most 42 = .ok (.invokevirtual 407, 3) := by decide +kernel
theorem dX12_most_45 : decode cX12_most 45 = .ok (.ifCond .eq 7, 3) := by decide +kernel
theorem dX12_most_48 : decode cX12_most 48 = .ok (.iconst 0, 1) := by decide +kernel
theorem dX12_most_49 : decode cX12_most 49 = .ok (.goto 4, 3) := by decide +kernel
theorem dX12_most_52 : decode cX12_most 52 = .ok (.iconst 3, 1) := by decide +kernel
theorem dX12_most_53 : decode cX12_most 53 = .ok (.putfield 107, 3) := by decide +kernel
theorem dX12_most_56 : decode cX12_most 56 = .ok (.aload_n 0, 1) := by decide +kernel
theorem dX12_most_57 : decode cX12_most 57 = .ok (.getfield 107, 3) := by decide +kernel
theorem dX12_most_60 : decode cX12_most 60 = .ok (.ifCond .le 5, 3) := by decide +kernel
theorem dX12_most_63 : decode cX12_most 63 = .ok (.iconst 0, 1) := by decide +kernel
theorem dX12_most_64 : decode cX12_most 64 = .ok (.ireturn, 1) := by decide +kernel
theorem dX12_most_65 : decode cX12_most 65 = .ok (.iconst (-1), 1) := by decide +kernel
theorem dX12_most_66 : decode cX12_most 66 = .ok (.istore 4, 2) := by decide +kernel
theorem dX12_most_68 : decode cX12_most 68 = .ok (.iconst 0, 1) := by decide +kernel
theorem dX12_most_69 : decode cX12_most 69 = .ok (.istore 5, 2) := by decide +kernel
theorem dX12_most_71 : decode cX12_most 71 = .ok (.iconst 0, 1) := by decide +kernel
theorem dX12_most_72 : decode cX12_most 72 = .ok (.istore 6, 2) := by decide +kernel
theorem dX12_most_74 : decode cX12_most 74 = .ok (.iload 6, 2) := by decide +kernel
theorem dX12_most_76 : decode cX12_most 76 = .ok (.aload_n 0, 1) := by decide +kernel
theorem dX12_most_77 : decode cX12_most 77 = .ok (.getfield 67, 3) := by decide +kernel
theorem dX12_most_80 : decode cX12_most 80 = .ok (.iload_n 2, 1) := by decide +kernel
theorem dX12_most_81 : decode cX12_most 81 = .ok (.iconst 1, 1) := by decide +kernel
theorem dX12_most_82 : decode cX12_most 82 = .ok (.iadd, 1) := by decide +kernel
theorem dX12_most_83 : decode cX12_most 83 = .ok (.iaload, 1) := by decide +kernel
theorem dX12_most_84 : decode cX12_most 84 = .ok (.aload_n 0, 1) := by decide +kernel
theorem dX12_most_85 : decode cX12_most 85 = .ok (.getfield 67, 3) := by decide +kernel
theorem dX12_most_88 : decode cX12_most 88 = .ok (.iload_n 2, 1) := by decide +kernel
theorem dX12_most_89 : decode cX12_most 89 = .ok (.iaload, 1) := by decide +kernel
theorem dX12_most_90 : decode cX12_most 90 = .ok (.isub, 1) := by decide +kernel
theorem dX12_most_91 : decode cX12_most 91 = .ok (.if_icmp .ge 83, 3) := by decide +kernel
theorem dX12_most_94 : decode cX12_most 94 = .ok (.aload_n 0, 1) := by decide +kernel
theorem dX12_most_95 : decode cX12_most 95 = .ok (.iload_n 1, 1) := by decide +kernel
theorem dX12_most_96 : decode cX12_most 96 = .ok (.iload_n 2, 1) := by decide +kernel
theorem dX12_most_97 : decode cX12_most 97 = .ok (.iload 6, 2) := by decide +kernel
theorem dX12_most_99 : decode cX12_most 99 = .ok (.invokevirtual 384, 3) := by decide +kernel
theorem dX12_most_102 : decode cX12_most 102 = .ok (.istore 7, 2) := by decide +kernel
theorem dX12_most_104 : decode cX12_most 104 = .ok (.iload_n 3, 1) := by decide +kernel
theorem dX12_most_105 : decode cX12_most 105 = .ok (.iconst 2, 1) := by decide +kernel
theorem dX12_most_106 : decode cX12_most 106 = .ok (.if_icmp .ge 13, 3) := by decide +kernel
theorem dX12_most_109 : decode cX12_most 109 = .ok (.aload_n 0, 1) := by decide +kernel
theorem dX12_most_110 : decode cX12_most 110 = .ok (.getfield 51, 3) := by decide +kernel
theorem dX12_most_113 : decode cX12_most 113 = .ok (.iload 7, 2) := by decide +kernel
theorem dX12_most_115 : decode cX12_most 115 = .ok (.iaload, 1) := by decide +kernel
theorem dX12_most_116 : decode cX12_most 116 = .ok (.goto 26, 3) := by decide +kernel
theorem dX12_most_119 : decode cX12_most 119 = .ok (.iload_n 3, 1) := by decide +kernel
theorem dX12_most_120 : decode cX12_most 120 = .ok (.iconst 4, 1) := by decide +kernel
theorem dX12_most_121 : decode cX12_most 121 = .ok (.if_icmp .ge 14, 3) := by decide +kernel
theorem dX12_most_124 : decode cX12_most 124 = .ok (.aload_n 0, 1) := by decide +kernel
theorem dX12_most_125 : decode cX12_most 125 = .ok (.getfield 51, 3) := by decide +kernel
theorem dX12_most_128 : decode cX12_most 128 = .ok (.iload 7, 2) := by decide +kernel
theorem dX12_most_130 : decode cX12_most 130 = .ok (.iaload, 1) := by decide +kernel
theorem dX12_most_131 : decode cX12_most 131 = .ok (.ineg, 1) := by decide +kernel
theorem dX12_most_132 : decode cX12_most 132 = .ok (.goto 10, 3) := by decide +kernel
theorem dX12_most_135 : decode cX12_most 135 = .ok (.aload_n 0, 1) := by decide +kernel
theorem dX12_most_136 : decode cX12_most 136 = .ok (.getfield 54, 3) := by decide +kernel
theorem dX12_most_139 : decode cX12_most 139 = .ok (.iload 7, 2) := by decide +kernel
theorem dX12_most_141 : decode cX12_most 141 = .ok (.iaload, 1) := by decide +kernel
theorem dX12_most_142 : decode cX12_most 142 = .ok (.istore 8, 2) := by decide +kernel
theorem dX12_most_144 : decode cX12_most 144 = .ok (.iload 4, 2) := by decide +kernel
theorem dX12_most_146 : decode cX12_most 146 = .ok (.iconst (-1), 1) := by decide +kernel
theorem dX12_most_147 : decode cX12_most 147 = .ok (.if_icmp .eq 13, 3) := by decide +kernel
theorem dX12_most_150 : decode cX12_most 150 = .ok (.iload 8, 2) := by decide +kernel
theorem dX12_most_152 : decode cX12_most 152 = .ok (.iload 5, 2) := by decide +kernel
theorem dX12_most_154 : decode cX12_most 154 = .ok (.if_icmp .gt 6, 3) := by decide +kernel
theorem dX12_most_157 : decode cX12_most 157 = .ok (.goto 11, 3) := by decide +kernel
theorem dX12_most_160 : decode cX12_most 160 = .ok (.iload 6, 2) := by decide +kernel
theorem dX12_most_162 : decode cX12_most 162 = .ok (.istore 4, 2) := by decide +kernel
theorem dX12_most_164 : decode cX12_most 164 = .ok (.iload 8, 2) := by decide +kernel
theorem dX12_most_166 : decode cX12_most 166 = .ok (.istore 5, 2) := by decide +kernel
theorem dX12_most_168 : decode cX12_most 168 = .ok (.iinc 6 1, 3) := by decide +kernel
theorem dX12_most_171 : decode cX12_most 171 = .ok (.goto (-97), 3) := by decide +kernel
theorem dX12_most_174 : decode cX12_most 174 = .ok (.iload 4, 2) := by decide +kernel
theorem dX12_most_176 : decode cX12_most 176 = .ok (.iconst (-1), 1) := by decide +kernel
theorem dX12_most_177 : decode cX12_most 177 = .ok (.if_icmp .eq 10, 3) := by decide +kernel
theorem dX12_most_180 : decode cX12_most 180 = .ok (.iload_n 3, 1) := by decide +kernel
theorem dX12_most_181 : decode cX12_most 181 = .ok (.iconst 2, 1) := by decide +kernel
theorem dX12_most_182 : decode cX12_most 182 = .ok (.irem, 1) := by decide +kernel
theorem dX12_most_183 : decode cX12_most 183 = .ok (.iconst 1, 1) := by decide +kernel
theorem dX12_most_184 : decode cX12_most 184 = .ok (.if_icmp .ne 8, 3) := by decide +kernel
theorem dX12_most_187 : decode cX12_most 187 = .ok (.iload 4, 2) := by decide +kernel
theorem dX12_most_189 : decode cX12_most 189 = .ok (.goto 16, 3) := by decide +kernel
theorem dX12_most_192 : decode cX12_most 192 = .ok (.iload_n 3, 1) := by decide +kernel
theorem dX12_most_193 : decode cX12_most 193 = .ok (.iconst 2, 1) := by decide +kernel
theorem dX12_most_194 : decode cX12_most 194 = .ok (.if_icmp .ne 9, 3) := by decide +kernel
theorem dX12_most_197 : decode cX12_most 197 = .ok (.iload 5, 2) := by decide +kernel
theorem dX12_most_199 : decode cX12_most 199 = .ok (.ineg, 1) := by decide +kernel
theorem dX12_most_200 : decode cX12_most 200 = .ok (.goto 5, 3) := by decide +kernel
theorem dX12_most_203 : decode cX12_most 203 = .ok (.iload 5, 2) := by decide +kernel
theorem dX12_most_205 : decode cX12_most 205 = .ok (.ireturn, 1) := by decide +kernel
theorem dX12_swapped_0 : decode cX12_swapped 0 = .ok (.aload_n 0, 1) := by decide +kernel
theorem dX12_swapped_1 : decode cX12_swapped 1 = .ok (.iconst 0, 1) := by decide +kernel
theorem dX12_swapped_2 : decode cX12_swapped 2 = .ok (.putfield 107, 3) := by decide +kernel
theorem dX12_swapped_5 : decode cX12_swapped 5 = .ok (.aload_n 0, 1) := by decide +kernel
theorem dX12_swapped_6 : decode cX12_swapped 6 = .ok (.aload_n 0, 1) := by decide +kernel
theorem dX12_swapped_7 : decode cX12_swapped 7 = .ok (.invokevirtual 365, 3) := by decide +kernel
theorem dX12_swapped_10 : decode cX12_swapped 10 = .ok (.invokevirtual 407, 3) := by decide +kernel
theorem dX12_swapped_13 : decode cX12_swapped 13 = .ok (.ifCond .ne 7, 3) := by decide +kernel
theorem dX12_swapped_16 : decode cX12_swapped 16 = .ok (.sipush (-1000), 3) := by decide +kernel
theorem dX12_swapped_19 : decode cX12_swapped 19 = .ok (.ireturn, 1) := by decide +kernel
theorem dX12_swapped_20 : decode cX12_swapped 20 = .ok (.aload_n 0, 1) := by decide +kernel
theorem dX12_swapped_21 : decode cX12_swapped 21 = .ok (.invokevirtual 293, 3) := by decide +kernel
theorem dX12_swapped_24 : decode cX12_swapped 24 = .ok (.aload_n 0, 1) := by decide +kernel
theorem dX12_swapped_25 : decode cX12_swapped 25 = .ok (.getfield 51, 3) := by decide +kernel
theorem dX12_swapped_28 : decode cX12_swapped 28 = .ok (.aload_n 0, 1) := by decide +kernel
theorem dX12_swapped_29 : decode cX12_swapped 29 = .ok (.iconst 1, 1) := by decide +kernel
theorem dX12_swapped_30 : decode cX12_swapped 30 = .ok (.aload_n 0, 1) := by decide +kernel
theorem dX12_swapped_31 : decode cX12_swapped 31 = .ok (.getfield 9, 3) := by decide +kernel
theorem dX12_swapped_34 : decode cX12_swapped 34 = .ok (.iconst 2, 1) := by decide +kernel
theorem dX12_swapped_35 : decode cX12_swapped 35 = .ok (.iaload, 1) := by decide +kernel
theorem dX12_swapped_36 : decode cX12_swapped 36 = .ok (.isub, 1) := by decide +kernel
theorem dX12_swapped_37 : decode cX12_swapped 37 = .ok (.aload_n 0, 1) := by decide +kernel
theorem dX12_swapped_38 : decode cX12_swapped 38 = .ok (.invokevirtual 365, 3) := by decide +kernel
theorem dX12_swapped_41 : decode cX12_swapped 41 = .ok (.aload_n 0, 1) := by decide +kernel
theorem dX12_swapped_42 : decode cX12_swapped 42 = .ok (.iconst 1, 1) := by decide +kernel
theorem dX12_swapped_43 : decode cX12_swapped 43 = .ok (.aload_n 0, 1) := by decide +kernel
theorem dX12_swapped_44 : decode cX12_swapped 44 = .ok (.getfield 9, 3) := by decide +kernel
theorem dX12_swapped_47 : decode cX12_swapped 47 = .ok (.iconst 2, 1) := by decide +kernel
theorem dX12_swapped_48 : decode cX12_swapped 48 = .ok (.iaload, 1) := by decide +kernel
theorem dX12_swapped_49 : decode cX12_swapped 49 = .ok (.isub, 1) := by decide +kernel
theorem dX12_swapped_50 : decode cX12_swapped 50 = .ok (.invokevirtual 368, 3) := by decide +kernel
theorem dX12_swapped_53 : decode cX12_swapped 53 = .ok (.invokevirtual 384, 3) := by decide +kernel
theorem dX12_swapped_56 : decode cX12_swapped 56 = .ok (.iaload, 1) := by decide +kernel
theorem dX12_swapped_57 : decode cX12_swapped 57 = .ok (.ireturn, 1) := by decide +kernel
theorem dX12_line_0 : decode cX12_line 0 = .ok (.aload_n 0, 1) := by decide +kernel
theorem dX12_line_1 : decode cX12_line 1 = .ok (.iload_n 1, 1) := by decide +kernel
theorem dX12_line_2 : decode cX12_line 2 = .ok (.bipush (-3), 2) := by decide +kernel
theorem dX12_line_4 : decode cX12_line 4 = .ok (.if_icmp .lt 7, 3) := by decide +kernel
theorem dX12_line_7 : decode cX12_line 7 = .ok (.iconst 0, 1) := by decide +kernel
theorem dX12_line_8 : decode cX12_line 8 = .ok (.goto 4, 3) := by decide +kernel
theorem dX12_line_11 : decode cX12_line 11 = .ok (.iconst 1, 1) := by decide +kernel
theorem dX12_line_12 : decode cX12_line 12 = .ok (.putfield 107, 3) := by decide +kernel
theorem dX12_line_15 : decode cX12_line 15 = .ok (.aload_n 0, 1) := by decide +kernel
theorem dX12_line_16 : decode cX12_line 16 = .ok (.getfield 107, 3) := by decide +kernel
theorem dX12_line_19 : decode cX12_line 19 = .ok (.ifCond .le 5, 3) := by decide +kernel
theorem dX12_line_22 : decode cX12_line 22 = .ok (.iconst 0, 1) := by decide +kernel
theorem dX12_line_23 : decode cX12_line 23 = .ok (.ireturn, 1) := by decide +kernel
theorem dX12_line_24 : decode cX12_line 24 = .ok (.aload_n 0, 1) := by decide +kernel
theorem dX12_line_25 : decode cX12_line 25 = .ok (.aload_n 0, 1) := by decide +kernel
theorem dX12_line_26 : decode cX12_line 26 = .ok (.invokevirtual 365, 3) := by decide +kernel
theorem dX12_line_29 : decode cX12_line 29 = .ok (.invokevirtual 407, 3) := by decide +kernel
theorem dX12_line_32 : decode cX12_line 32 = .ok (.ifCond .ne 9, 3) := by decide +kernel
theorem dX12_line_35 : decode cX12_line 35 = .ok (.aload_n 0, 1) := by decide +kernel
theorem dX12_line_36 : decode cX12_line 36 = .ok (.iconst 2, 1) := by decide +kernel
theorem dX12_line_37 : decode cX12_line 37 = .ok (.invokevirtual 221, 3) := by decide +kernel
theorem dX12_line_40 : decode cX12_line 40 = .ok (.ireturn, 1) := by decide +kernel
theorem dX12_line_41 : decode cX12_line 41 = .ok (.aload_n 0, 1) := by decide +kernel
theorem dX12_line_42 : decode cX12_line 42 = .ok (.getfield 9, 3) := by decide +kernel
theorem dX12_line_45 : decode cX12_line 45 = .ok (.aload_n 0, 1) := by decide +kernel
theorem dX12_line_46 : decode cX12_line 46 = .ok (.getfield 19, 3) := by decide +kernel
theorem dX12_line_49 : decode cX12_line 49 = .ok (.invokestatic 235, 3) := by decide +kernel
theorem dX12_line_52 : decode cX12_line 52 = .ok (.aload_n 0, 1) := by decide +kernel
theorem dX12_line_53 : decode cX12_line 53 = .ok (.invokevirtual 433, 3) := by decide +kernel
theorem dX12_line_56 : decode cX12_line 56 = .ok (.istore_n 2, 1) := by decide +kernel
theorem dX12_line_57 : decode cX12_line 57 = .ok (.aload_n 0, 1) := by decide +kernel
theorem dX12_line_58 : decode cX12_line 58 = .ok (.invokevirtual 316, 3) := by decide +kernel
theorem dX12_line_61 : decode cX12_line 61 = .ok (.istore_n 3, 1) := by decide +kernel
theorem dX12_line_62 : decode cX12_line 62 = .ok (.aload_n 0, 1) := by decide +kernel
theorem dX12_line_63 : decode cX12_line 63 = .ok (.getfield 19, 3) := by decide +kernel
theorem dX12_line_66 : decode cX12_line 66 = .ok (.aload_n 0, 1) := by decide +kernel
theorem dX12_line_67 : decode cX12_line 67 = .ok (.getfield 9, 3) := by decide +kernel
theorem dX12_line_70 : decode cX12_line 70 = .ok (.invokestatic 235, 3) := by decide +kernel
theorem dX12_line_73 : decode cX12_line 73 = .ok (.iload_n 1, 1) := by decide +kernel
theorem dX12_line_74 : decode cX12_line 74 = .ok (.iconst (-1), 1) := by decide +kernel
theorem dX12_line_75 : decode cX12_line 75 = .ok (.if_icmp .ne 10, 3) := by decide +kernel
theorem dX12_line_78 : decode cX12_line 78 = .ok (.aload_n 0, 1) := by decide +kernel
theorem dX12_line_79 : decode cX12_line 79 = .ok (.getfield 430, 3) := by decide +kernel
theorem dX12_line_82 : decode cX12_line 82 = .ok (.goto 49, 3) := by decide +kernel
theorem dX12_line_85 : decode cX12_line 85 = .ok (.iload_n 1, 1) := by decide +kernel
theorem dX12_line_86 : decode cX12_line 86 = .ok (.bipush (-2), 2) := by decide +kernel
theorem dX12_line_88 : decode cX12_line 88 = .ok (.if_icmp .ne 15, 3) := by decide +kernel
theorem dX12_line_91 : decode cX12_line 91 = .ok (.iload_n 2, 1) := by decide +kernel
theorem dX12_line_92 : decode cX12_line 92 = .ok (.ifCond .eq 7, 3) := by decide +kernel
theorem dX12_line_95 : decode cX12_line 95 = .ok (.iconst 1, 1) := by decide +kernel
theorem dX12_line_96 : decode cX12_line 96 = .ok (.goto 35, 3) := by decide +kernel
theorem dX12_line_99 : decode cX12_line 99 = .ok (.iconst 0, 1) := by decide +kernel
theorem dX12_line_100 : decode cX12_line 100 = .ok (.goto 31, 3) := by decide +kernel
theorem dX12_line_103 : decode cX12_line 103 = .ok (.iload_n 1, 1) := by decide +kernel
theorem dX12_line_104 : decode cX12_line 104 = .ok (.bipush (-3), 2) := by decide +kernel
theorem dX12_line_106 : decode cX12_line 106 = .ok (.if_icmp .ne 7, 3) := by decide +kernel
theorem dX12_line_109 : decode cX12_line 109 = .ok (.iload_n 3, 1) := by decide +kernel
theorem dX12_line_110 : decode cX12_line 110 = .ok (.goto 21, 3) := by decide +kernel
theorem dX12_line_113 : decode cX12_line 113 = .ok (.iload_n 1, 1) := by decide +kernel
theorem dX12_line_114 : decode cX12_line 114 = .ok (.aload_n 0, 1) := by decide +kernel
theorem dX12_line_115 : decode cX12_line 115 = .ok (.getfield 430, 3) := by decide +kernel
theorem dX12_line_118 : decode cX12_line 118 = .ok (.if_icmp .ge 12, 3) := by decide +kernel
theorem dX12_line_121 : decode cX12_line 121 = .ok (.aload_n 0, 1) := by decide +kernel
theorem dX12_line_122 : decode cX12_line 122 = .ok (.getfield 82, 3) := by decide +kernel
theorem dX12_line_125 : decode cX12_line 125 = .ok (.iload_n 1, 1) := by decide +kernel
theorem dX12_line_126 : decode cX12_line 126 = .ok (.iaload, 1) := by decide +kernel
theorem dX12_line_127 : decode cX12_line 127 = .ok (.goto 4, 3) := by decide +kernel
theorem dX12_line_130 : decode cX12_line 130 = .ok (.iconst (-1), 1) := by decide +kernel
theorem dX12_line_131 : decode cX12_line 131 = .ok (.ireturn, 1) := by decide +kernel
theorem dX12_against_0 : decode cX12_against 0 = .ok (.aload_n 0, 1) := by decide +kernel
theorem dX12_against_1 : decode cX12_against 1 = .ok (.aload_n 0, 1) := by decide +kernel
theorem dX12_against_2 : decode cX12_against 2 = .ok (.aload_n 0, 1) := by decide +kernel
theorem dX12_against_3 : decode cX12_against 3 = .ok (.invokevirtual 365, 3) := by decide +kernel
theorem dX12_against_6 : decode cX12_against 6 = .ok (.invokevirtual 407, 3) := by decide +kernel
theorem dX12_against_9 : decode cX12_against 9 = .ok (.ifCond .ne 7, 3) := by decide +kernel
theorem dX12_against_12 : decode cX12_against 12 = .ok (.iconst 1, 1) := by decide +kernel
theorem dX12_against_13 : decode cX12_against 13 = .ok (.goto 20, 3) := by decide +kernel
theorem dX12_against_16 : decode cX12_against 16 = .ok (.iload_n 2, 1) := by decide +kernel
theorem dX12_against_17 : decode cX12_against 17 = .ok (.i2l, 1) := by decide +kernel
theorem dX12_against_18 : decode cX12_against 18 = .ok (.lconst 0, 1) := by decide +kernel
theorem dX12_against_19 : decode cX12_against 19 = .ok (.ldc2_w 453, 3) := by decide +kernel
theorem dX12_against_22 : decode cX12_against 22 = .ok (.invokestatic 166, 3) := by decide +kernel
theorem dX12_against_25 : decode cX12_against 25 = .ok (.ifCond .eq 7, 3) := by decide +kernel
theorem dX12_against_28 : decode cX12_against 28 = .ok (.iconst 0, 1) := by decide +kernel
theorem dX12_against_29 : decode cX12_against 29 = .ok (.goto 4, 3) := by decide +kernel
theorem dX12_against_32 : decode cX12_against 32 = .ok (.iconst 2, 1) := by decide +kernel
theorem dX12_against_33 : decode cX12_against 33 = .ok (.putfield 107, 3) := by decide +kernel
theorem dX12_against_36 : decode cX12_against 36 = .ok (.aload_n 0, 1) := by decide +kernel
theorem dX12_against_37 : decode cX12_against 37 = .ok (.getfield 107, 3) := by decide +kernel
theorem dX12_against_40 : decode cX12_against 40 = .ok (.ifCond .le 7, 3) := by decide +kernel
theorem dX12_against_43 : decode cX12_against 43 = .ok (.iconst 0, 1) := by decide +kernel
theorem dX12_against_44 : decode cX12_against 44 = .ok (.goto 10, 3) := by decide +kernel
theorem dX12_against_47 : decode cX12_against 47 = .ok (.aload_n 0, 1) := by decide +kernel
theorem dX12_against_48 : decode cX12_against 48 = .ok (.iload_n 1, 1) := by decide +kernel
theorem dX12_against_49 : decode cX12_against 49 = .ok (.iconst 1, 1) := by decide +kernel
theorem dX12_against_50 : decode cX12_against 50 = .ok (.iload_n 2, 1) := by decide +kernel
theorem dX12_against_51 : decode cX12_against 51 = .ok (.invokevirtual 471, 3) := by decide +kernel
theorem dX12_against_54 : decode cX12_against 54 = .ok (.ireturn, 1) := by decide +kernel
