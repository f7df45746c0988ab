theorem dX11_find_0 : decode cX11_find 0 = .ok (.iload_n 1, 1) := by decide +kernel
theorem dX11_find_1 : decode cX11_find 1 = .ok (.invokestatic 146, 3) := by decide +kernel
theorem dX11_find_4 : decode cX11_find 4 = .ok (.iload_n 2, 1) := by decide +kernel
theorem dX11_find_5 : decode cX11_find 5 = .ok (.invokestatic 229, 3) := by decide +kernel
theorem dX11_find_8 : decode cX11_find 8 = .ok (.aload_n 0, 1) := by decide +kernel
theorem dX11_find_9 : decode cX11_find 9 = .ok (.iload_n 2, 1) := by decide +kernel
theorem dX11_find_10 : decode cX11_find 10 = .ok (.invokevirtual 279, 3) := by decide +kernel
theorem dX11_find_13 : decode cX11_find 13 = .ok (.iload 4, 2) := by decide +kernel
theorem dX11_find_15 : decode cX11_find 15 = .ok (.istore 5, 2) := by decide +kernel
theorem dX11_find_17 : decode cX11_find 17 = .ok (.iconst 0, 1) := by decide +kernel
theorem dX11_find_18 : decode cX11_find 18 = .ok (.istore 6, 2) := by decide +kernel
theorem dX11_find_20 : decode cX11_find 20 = .ok (.iload 6, 2) := by decide +kernel
theorem dX11_find_22 : decode cX11_find 22 = .ok (.aload_n 0, 1) := by decide +kernel
theorem dX11_find_23 : decode cX11_find 23 = .ok (.getfield 21, 3) := by decide +kernel
theorem dX11_find_26 : decode cX11_find 26 = .ok (.iload_n 2, 1) := by decide +kernel
theorem dX11_find_27 : decode cX11_find 27 = .ok (.invokevirtual 232, 3) := by decide +kernel
theorem dX11_find_30 : decode cX11_find 30 = .ok (.if_icmp .ge 48, 3) := by decide +kernel
theorem dX11_find_33 : decode cX11_find 33 = .ok (.iload 5, 2) := by decide +kernel
theorem dX11_find_35 : decode cX11_find 35 = .ok (.ifCond .lt 43, 3) := by decide +kernel
theorem dX11_find_38 : decode cX11_find 38 = .ok (.aload_n 0, 1) := by decide +kernel
theorem dX11_find_39 : decode cX11_find 39 = .ok (.getfield 63, 3) := by decide +kernel
theorem dX11_find_42 : decode cX11_find 42 = .ok (.getfield 301, 3) := by decide +kernel
theorem dX11_find_45 : decode cX11_find 45 = .ok (.aload_n 0, 1) := by decide +kernel
theorem dX11_find_46 : decode cX11_find 46 = .ok (.getfield 63, 3) := by decide +kernel
theorem dX11_find_49 : decode cX11_find 49 = .ok (.iload_n 1, 1) := by decide +kernel
theorem dX11_find_50 : decode cX11_find 50 = .ok (.iload_n 2, 1) := by decide +kernel
theorem dX11_find_51 : decode cX11_find 51 = .ok (.iload 6, 2) := by decide +kernel
theorem dX11_find_53 : decode cX11_find 53 = .ok (.invokevirtual 282, 3) := by decide +kernel
theorem dX11_find_56 : decode cX11_find 56 = .ok (.iaload, 1) := by decide +kernel
theorem dX11_find_57 : decode cX11_find 57 = .ok (.iload_n 3, 1) := by decide +kernel
theorem dX11_find_58 : decode cX11_find 58 = .ok (.if_icmp .ne 14, 3) := by decide +kernel
theorem dX11_find_61 : decode cX11_find 61 = .ok (.iload 5, 2) := by decide +kernel
theorem dX11_find_63 : decode cX11_find 63 = .ok (.ifCond .ne 6, 3) := by decide +kernel
theorem dX11_find_66 : decode cX11_find 66 = .ok (.iload 6, 2) := by decide +kernel
theorem dX11_find_68 : decode cX11_find 68 = .ok (.ireturn, 1) := by decide +kernel
theorem dX11_find_69 : decode cX11_find 69 = .ok (.iinc 5 (-1), 3) := by decide +kernel
theorem dX11_find_72 : decode cX11_find 72 = .ok (.iinc 6 1, 3) := by decide +kernel
theorem dX11_find_75 : decode cX11_find 75 = .ok (.goto (-55), 3) := by decide +kernel
theorem dX11_find_78 : decode cX11_find 78 = .ok (.iconst (-1), 1) := by decide +kernel
theorem dX11_find_79 : decode cX11_find 79 = .ok (.ireturn, 1) := by decide +kernel
theorem dX11_most_0 : decode cX11_most 0 = .ok (.iload_n 1, 1) := by decide +kernel
theorem dX11_most_1 : decode cX11_most 1 = .ok (.invokestatic 146, 3) := by decide +kernel
theorem dX11_most_4 : decode cX11_most 4 = .ok (.iload_n 2, 1) := by decide +kernel
theorem dX11_most_5 : decode cX11_most 5 = .ok (.invokestatic 229, 3) := by decide +kernel
theorem dX11_most_8 : decode cX11_most 8 = .ok (.iload_n 3, 1) := by decide +kernel
theorem dX11_most_9 : decode cX11_most 9 = .ok (.ifCond .lt 8, 3) := by decide +kernel
theorem dX11_most_12 : decode cX11_most 12 = .ok (.iload_n 3, 1) := by decide +kernel
theorem dX11_most_13 : decode cX11_most 13 = .ok (.iconst 5, 1) := by decide +kernel
theorem dX11_most_14 : decode cX11_most 14 = .ok (.if_icmp .le 13, 3) := by decide +kernel
theorem dX11_most_17 : decode cX11_most 17 = .ok (.new 107, 3) := by decide +kernel
theorem dX11_most_20 : decode cX11_most 20 = .ok (.dup, 1) := by decide +kernel
theorem dX11_most_21 : decode cX11_most 21 = .ok (.ldc 195, 2) := by decide +kernel
theorem dX11_most_23 : decode cX11_most 23 = .ok (.invokespecial 111, 3) := by decide +kernel
theorem dX11_most_26 : decode cX11_most 26 = .ok (.athrow, 1) := by decide +kernel
theorem dX11_most_27 : decode cX11_most 27 = .ok (.aload_n 0, 1) := by decide +kernel
theorem dX11_most_28 : decode cX11_most 28 = .ok (.iload_n 2, 1) := by decide +kernel
theorem dX11_most_29 : decode cX11_most 29 = .ok (.invokevirtual 279, 3) := by decide +kernel
theorem dX11_most_32 : decode cX11_most 32 = .ok (.iconst (-1), 1) := by decide +kernel
theorem dX11_most_33 : decode cX11_most 33 = .ok (.istore 4, 2) := by decide +kernel
theorem dX11_most_35 : decode cX11_most 35 = .ok (.iconst (-1), 1) := by decide +kernel
theorem dX11_most_36 : decode cX11_most 36 = .ok (.istore 5, 2) := by decide +kernel
theorem dX11_most_38 : decode cX11_most 38 = .ok (.iconst 0, 1) := by decide +kernel
theorem dX11_most_39 : decode cX11_most 39 = .ok (.istore 6, 2) := by decide +kernel
theorem dX11_most_41 : decode cX11_most 41 = .ok (.iload 6, 2) := by decide +kernel
theorem dX11_most_43 : decode cX11_most 43 = .ok (.aload_n 0, 1) := by decide +kernel
theorem dX11_most_44 : decode cX11_most 44 = .ok (.getfield 21, 3) := by decide +kernel
theorem dX11_most_47 : decode cX11_most 47 = .ok (.iload_n 2, 1) := by decide +kernel
theorem dX11_most_48 : decode cX11_most 48 = .ok (.invokevirtual 232, 3) := by decide +kernel
theorem dX11_most_51 : decode cX11_most 51 = .ok (.if_icmp .ge 53, 3) := by decide +kernel
theorem dX11_most_54 : decode cX11_most 54 = .ok (.aload_n 0, 1) := by decide +kernel
theorem dX11_most_55 : decode cX11_most 55 = .ok (.getfield 63, 3) := by decide +kernel
theorem dX11_most_58 : decode cX11_most 58 = .ok (.aload_n 0, 1) := by decide +kernel
theorem dX11_most_59 : decode cX11_most 59 = .ok (.getfield 63, 3) := by decide +kernel
theorem dX11_most_62 : decode cX11_most 62 = .ok (.iload_n 1, 1) := by decide +kernel
theorem dX11_most_63 : decode cX11_most 63 = .ok (.iload_n 2, 1) := by decide +kernel
theorem dX11_most_64 : decode cX11_most 64 = .ok (.iload 6, 2) := by decide +kernel
theorem dX11_most_66 : decode cX11_most 66 = .ok (.invokevirtual 282, 3) := by decide +kernel
theorem dX11_most_69 : decode cX11_most 69 = .ok (.iload_n 3, 1) := by decide +kernel
theorem dX11_most_70 : decode cX11_most 70 = .ok (.iconst 2, 1) := by decide +kernel
theorem dX11_most_71 : decode cX11_most 71 = .ok (.idiv, 1) := by decide +kernel
theorem dX11_most_72 : decode cX11_most 72 = .ok (.invokevirtual 304, 3) := by decide +kernel
theorem dX11_most_75 : decode cX11_most 75 = .ok (.istore 7, 2) := by decide +kernel
theorem dX11_most_77 : decode cX11_most 77 = .ok (.iload 4, 2) := by decide +kernel
theorem dX11_most_79 : decode cX11_most 79 = .ok (.iconst (-1), 1) := by decide +kernel
theorem dX11_most_80 : decode cX11_most 80 = .ok (.if_icmp .eq 10, 3) := by decide +kernel
theorem dX11_most_83 : decode cX11_most 83 = .ok (.iload 7, 2) := by decide +kernel
theorem dX11_most_85 : decode cX11_most 85 = .ok (.iload 5, 2) := by decide +kernel
theorem dX11_most_87 : decode cX11_most 87 = .ok (.if_icmp .le 11, 3) := by decide +kernel
theorem dX11_most_90 : decode cX11_most 90 = .ok (.iload 6, 2) := by decide +kernel
theorem dX11_most_92 : decode cX11_most 92 = .ok (.istore 4, 2) := by decide +kernel
theorem dX11_most_94 : decode cX11_most 94 = .ok (.iload 7, 2) := by decide +kernel
theorem dX11_most_96 : decode cX11_most 96 = .ok (.istore 5, 2) := by decide +kernel
theorem dX11_most_98 : decode cX11_most 98 = .ok (.iinc 6 1, 3) := by decide +kernel
theorem dX11_most_101 : decode cX11_most 101 = .ok (.goto (-60), 3) := by decide +kernel
theorem dX11_most_104 : decode cX11_most 104 = .ok (.iload 4, 2) := by decide +kernel
theorem dX11_most_106 : decode cX11_most 106 = .ok (.iconst (-1), 1) := by decide +kernel
theorem dX11_most_107 : decode cX11_most 107 = .ok (.if_icmp .eq 10, 3) := by decide +kernel
theorem dX11_most_110 : decode cX11_most 110 = .ok (.iload_n 3, 1) := by decide +kernel
theorem dX11_most_111 : decode cX11_most 111 = .ok (.iconst 2, 1) := by decide +kernel
theorem dX11_most_112 : decode cX11_most 112 = .ok (.irem, 1) := by decide +kernel
theorem dX11_most_113 : decode cX11_most 113 = .ok (.iconst 1, 1) := by decide +kernel
theorem dX11_most_114 : decode cX11_most 114 = .ok (.if_icmp .ne 6, 3) := by decide +kernel
theorem dX11_most_117 : decode cX11_most 117 = .ok (.iload 4, 2) := by decide +kernel
theorem dX11_most_119 : decode cX11_most 119 = .ok (.ireturn, 1) := by decide +kernel
theorem dX11_most_120 : decode cX11_most 120 = .ok (.iload_n 3, 1) := by decide +kernel
theorem dX11_most_121 : decode cX11_most 121 = .ok (.iconst 2, 1) := by decide +kernel
theorem dX11_most_122 : decode cX11_most 122 = .ok (.if_icmp .ne 9, 3) := by decide +kernel
theorem dX11_most_125 : decode cX11_most 125 = .ok (.iload 5, 2) := by decide +kernel
theorem dX11_most_127 : decode cX11_most 127 = .ok (.ineg, 1) := by decide +kernel
theorem dX11_most_128 : decode cX11_most 128 = .ok (.goto 5, 3) := by decide +kernel
theorem dX11_most_131 : decode cX11_most 131 = .ok (.iload 5, 2) := by decide +kernel
theorem dX11_most_133 : decode cX11_most 133 = .ok (.ireturn, 1) := by decide +kernel
theorem dX11_swapped_0 : decode cX11_swapped 0 = .ok (.aload_n 0, 1) := by decide +kernel
theorem dX11_swapped_1 : decode cX11_swapped 1 = .ok (.getfield 63, 3) := by decide +kernel
theorem dX11_swapped_4 : decode cX11_swapped 4 = .ok (.aload_n 0, 1) := by decide +kernel
theorem dX11_swapped_5 : decode cX11_swapped 5 = .ok (.getfield 37, 3) := by decide +kernel
theorem dX11_swapped_8 : decode cX11_swapped 8 = .ok (.invokevirtual 236, 3) := by decide +kernel
theorem dX11_swapped_11 : decode cX11_swapped 11 = .ok (.invokevirtual 259, 3) := by decide +kernel
theorem dX11_swapped_14 : decode cX11_swapped 14 = .ok (.ifCond .ne 7, 3) := by decide +kernel
theorem dX11_swapped_17 : decode cX11_swapped 17 = .ok (.sipush (-1000), 3) := by decide +kernel
theorem dX11_swapped_20 : decode cX11_swapped 20 = .ok (.ireturn, 1) := by decide +kernel
theorem dX11_swapped_21 : decode cX11_swapped 21 = .ok (.aload_n 0, 1) := by decide +kernel
theorem dX11_swapped_22 : decode cX11_swapped 22 = .ok (.getfield 41, 3) := by decide +kernel
theorem dX11_swapped_25 : decode cX11_swapped 25 = .ok (.aload_n 0, 1) := by decide +kernel
theorem dX11_swapped_26 : decode cX11_swapped 26 = .ok (.getfield 37, 3) := by decide +kernel
theorem dX11_swapped_29 : decode cX11_swapped 29 = .ok (.invokevirtual 177, 3) := by decide +kernel
theorem dX11_swapped_32 : decode cX11_swapped 32 = .ok (.aload_n 0, 1) := by decide +kernel
theorem dX11_swapped_33 : decode cX11_swapped 33 = .ok (.getfield 41, 3) := by decide +kernel
theorem dX11_swapped_36 : decode cX11_swapped 36 = .ok (.iconst 1, 1) := by decide +kernel
theorem dX11_swapped_37 : decode cX11_swapped 37 = .ok (.aload_n 0, 1) := by decide +kernel
theorem dX11_swapped_38 : decode cX11_swapped 38 = .ok (.getfield 37, 3) := by decide +kernel
theorem dX11_swapped_41 : decode cX11_swapped 41 = .ok (.getfield 153, 3) := by decide +kernel
theorem dX11_swapped_44 : decode cX11_swapped 44 = .ok (.isub, 1) := by decide +kernel
theorem dX11_swapped_45 : decode cX11_swapped 45 = .ok (.putfield 153, 3) := by decide +kernel
theorem dX11_swapped_48 : decode cX11_swapped 48 = .ok (.aload_n 0, 1) := by decide +kernel
theorem dX11_swapped_49 : decode cX11_swapped 49 = .ok (.getfield 63, 3) := by decide +kernel
theorem dX11_swapped_52 : decode cX11_swapped 52 = .ok (.aload_n 0, 1) := by decide +kernel
theorem dX11_swapped_53 : decode cX11_swapped 53 = .ok (.getfield 41, 3) := by decide +kernel
theorem dX11_swapped_56 : decode cX11_swapped 56 = .ok (.invokevirtual 263, 3) := by decide +kernel
theorem dX11_swapped_59 : decode cX11_swapped 59 = .ok (.ireturn, 1) := by decide +kernel
theorem dX11_line_0 : decode cX11_line 0 = .ok (.iload_n 1, 1) := by decide +kernel
theorem dX11_line_1 : decode cX11_line 1 = .ok (.bipush (-3), 2) := by decide +kernel
theorem dX11_line_3 : decode cX11_line 3 = .ok (.if_icmp .ge 14, 3) := by decide +kernel
theorem dX11_line_6 : decode cX11_line 6 = .ok (.new 107, 3) := by decide +kernel
theorem dX11_line_9 : decode cX11_line 9 = .ok (.dup, 1) := by decide +kernel
theorem dX11_line_10 : decode cX11_line 10 = .ok (.ldc_w 307, 3) := by decide +kernel
theorem dX11_line_13 : decode cX11_line 13 = .ok (.invokespecial 111, 3) := by decide +kernel
theorem dX11_line_16 : decode cX11_line 16 = .ok (.athrow, 1) := by decide +kernel
theorem dX11_line_17 : decode cX11_line 17 = .ok (.aload_n 0, 1) := by decide +kernel
theorem dX11_line_18 : decode cX11_line 18 = .ok (.aload_n 0, 1) := by decide +kernel
theorem dX11_line_19 : decode cX11_line 19 = .ok (.getfield 37, 3) := by decide +kernel
theorem dX11_line_22 : decode cX11_line 22 = .ok (.invokevirtual 236, 3) := by decide +kernel
theorem dX11_line_25 : decode cX11_line 25 = .ok (.invokevirtual 279, 3) := by decide +kernel
theorem dX11_line_28 : decode cX11_line 28 = .ok (.aload_n 0, 1) := by decide +kernel
theorem dX11_line_29 : decode cX11_line 29 = .ok (.getfield 72, 3) := by decide +kernel
theorem dX11_line_32 : decode cX11_line 32 = .ok (.aload_n 0, 1) := by decide +kernel
theorem dX11_line_33 : decode cX11_line 33 = .ok (.getfield 37, 3) := by decide +kernel
theorem dX11_line_36 : decode cX11_line 36 = .ok (.invokevirtual 309, 3) := by decide +kernel
theorem dX11_line_39 : decode cX11_line 39 = .ok (.iload_n 1, 1) := by decide +kernel
theorem dX11_line_40 : decode cX11_line 40 = .ok (.tableswitch 67 (-3) (-1) #[28, 43, 59], 28) := by decide +kernel
theorem dX11_line_68 : decode cX11_line 68 = .ok (.aload_n 0, 1) := by decide +kernel
theorem dX11_line_69 : decode cX11_line 69 = .ok (.getfield 30, 3) := by decide +kernel
theorem dX11_line_72 : decode cX11_line 72 = .ok (.aload_n 0, 1) := by decide +kernel
theorem dX11_line_73 : decode cX11_line 73 = .ok (.getfield 72, 3) := by decide +kernel
theorem dX11_line_76 : decode cX11_line 76 = .ok (.getfield 312, 3) := by decide +kernel
theorem dX11_line_79 : decode cX11_line 79 = .ok (.invokevirtual 214, 3) := by decide +kernel
theorem dX11_line_82 : decode cX11_line 82 = .ok (.ireturn, 1) := by decide +kernel
theorem dX11_line_83 : decode cX11_line 83 = .ok (.aload_n 0, 1) := by decide +kernel
theorem dX11_line_84 : decode cX11_line 84 = .ok (.getfield 72, 3) := by decide +kernel
theorem dX11_line_87 : decode cX11_line 87 = .ok (.getfield 315, 3) := by decide +kernel
theorem dX11_line_90 : decode cX11_line 90 = .ok (.ifCond .eq 7, 3) := by decide +kernel
theorem dX11_line_93 : decode cX11_line 93 = .ok (.iconst 1, 1) := by decide +kernel
theorem dX11_line_94 : decode cX11_line 94 = .ok (.goto 4, 3) := by decide +kernel
theorem dX11_line_97 : decode cX11_line 97 = .ok (.iconst 0, 1) := by decide +kernel
theorem dX11_line_98 : decode cX11_line 98 = .ok (.ireturn, 1) := by decide +kernel
theorem dX11_line_99 : decode cX11_line 99 = .ok (.aload_n 0, 1) := by decide +kernel
theorem dX11_line_100 : decode cX11_line 100 = .ok (.getfield 72, 3) := by decide +kernel
theorem dX11_line_103 : decode cX11_line 103 = .ok (.getfield 319, 3) := by decide +kernel
theorem dX11_line_106 : decode cX11_line 106 = .ok (.ireturn, 1) := by decide +kernel
theorem dX11_line_107 : decode cX11_line 107 = .ok (.iload_n 1, 1) := by decide +kernel
theorem dX11_line_108 : decode cX11_line 108 = .ok (.aload_n 0, 1) := by decide +kernel
theorem dX11_line_109 : decode cX11_line 109 = .ok (.getfield 72, 3) := by decide +kernel
theorem dX11_line_112 : decode cX11_line 112 = .ok (.getfield 319, 3) := by decide +kernel
theorem dX11_line_115 : decode cX11_line 115 = .ok (.if_icmp .ge 15, 3) := by decide +kernel
theorem dX11_line_118 : decode cX11_line 118 = .ok (.aload_n 0, 1) := by decide +kernel
theorem dX11_line_119 : decode cX11_line 119 = .ok (.getfield 72, 3) := by decide +kernel
theorem dX11_line_122 : decode cX11_line 122 = .ok (.getfield 320, 3) := by decide +kernel
theorem dX11_line_125 : decode cX11_line 125 = .ok (.iload_n 1, 1) := by decide +kernel
theorem dX11_line_126 : decode cX11_line 126 = .ok (.iaload, 1) := by decide +kernel
theorem dX11_line_127 : decode cX11_line 127 = .ok (.goto 4, 3) := by decide +kernel
theorem dX11_line_130 : decode cX11_line 130 = .ok (.iconst (-1), 1) := by decide +kernel
theorem dX11_line_131 : decode cX11_line 131 = .ok (.ireturn, 1) := by decide +kernel
theorem dX11_plays_0 : decode cX11_plays 0 = .ok (.iload_n 1, 1) := by decide +kernel
theorem dX11_plays_1 : decode cX11_plays 1 = .ok (.ifCond .lt 8, 3) := by decide +kernel
theorem dX11_plays_4 : decode cX11_plays 4 = .ok (.iload_n 1, 1) := by decide +kernel
theorem dX11_plays_5 : decode cX11_plays 5 = .ok (.iconst 5, 1) := by decide +kernel
theorem dX11_plays_6 : decode cX11_plays 6 = .ok (.if_icmp .le 14, 3) := by decide +kernel
theorem dX11_plays_9 : decode cX11_plays 9 = .ok (.new 107, 3) := by decide +kernel
theorem dX11_plays_12 : decode cX11_plays 12 = .ok (.dup, 1) := by decide +kernel
theorem dX11_plays_13 : decode cX11_plays 13 = .ok (.ldc_w 323, 3) := by decide +kernel
theorem dX11_plays_16 : decode cX11_plays 16 = .ok (.invokespecial 111, 3) := by decide +kernel
theorem dX11_plays_19 : decode cX11_plays 19 = .ok (.athrow, 1) := by decide +kernel
theorem dX11_plays_20 : decode cX11_plays 20 = .ok (.aload_n 0, 1) := by decide +kernel
theorem dX11_plays_21 : decode cX11_plays 21 = .ok (.getfield 81, 3) := by decide +kernel
theorem dX11_plays_24 : decode cX11_plays 24 = .ok (.aload_n 0, 1) := by decide +kernel
theorem dX11_plays_25 : decode cX11_plays 25 = .ok (.getfield 37, 3) := by decide +kernel
theorem dX11_plays_28 : decode cX11_plays 28 = .ok (.iload_n 1, 1) := by decide +kernel
theorem dX11_plays_29 : decode cX11_plays 29 = .ok (.invokevirtual 325, 3) := by decide +kernel
theorem dX11_plays_32 : decode cX11_plays 32 = .ok (.ireturn, 1) := by decide +kernel
theorem dX11_reached_0 : decode cX11_reached 0 = .ok (.iload_n 1, 1) := by decide +kernel
theorem dX11_reached_1 : decode cX11_reached 1 = .ok (.ifCond .lt 8, 3) := by decide +kernel
theorem dX11_reached_4 : decode cX11_reached 4 = .ok (.iload_n 1, 1) := by decide +kernel
theorem dX11_reached_5 : decode cX11_reached 5 = .ok (.iconst 4, 1) := by decide +kernel
theorem dX11_reached_6 : decode cX11_reached 6 = .ok (.if_icmp .le 14, 3) := by decide +kernel
theorem dX11_reached_9 : decode cX11_reached 9 = .ok (.new 107, 3) := by decide +kernel
theorem dX11_reached_12 : decode cX11_reached 12 = .ok (.dup, 1) := by decide +kernel
theorem dX11_reached_13 : decode cX11_reached 13 = .ok (.ldc_w 323, 3) := by decide +kernel
theorem dX11_reached_16 : decode cX11_reached 16 = .ok (.invokespecial 111, 3) := by decide +kernel
theorem dX11_reached_19 : decode cX11_reached 19 = .ok (.athrow, 1) := by decide +kernel
theorem dX11_reached_20 : decode cX11_reached 20 = .ok (.aload_n 0, 1) := by decide +kernel
theorem dX11_reached_21 : decode cX11_reached 21 = .ok (.getfield 81, 3) := by decide +kernel
theorem dX11_reached_24 : decode cX11_reached 24 = .ok (.aload_n 0, 1) := by decide +kernel
theorem dX11_reached_25 : decode cX11_reached 25 = .ok (.getfield 37, 3) := by decide +kernel
theorem dX11_reached_28 : decode cX11_reached 28 = .ok (.iload_n 1, 1) := by decide +kernel
theorem dX11_reached_29 : decode cX11_reached 29 = .ok (.invokevirtual 328, 3) := by decide +kernel
theorem dX11_reached_32 : decode cX11_reached 32 = .ok (.ireturn, 1) := by decide +kernel
theorem dX11_soonest_0 : decode cX11_soonest 0 = .ok (.aload_n 0, 1) := by decide +kernel
theorem dX11_soonest_1 : decode cX11_soonest 1 = .ok (.getfield 81, 3) := by decide +kernel
theorem dX11_soonest_4 : decode cX11_soonest 4 = .ok (.aload_n 0, 1) := by decide +kernel
theorem dX11_soonest_5 : decode cX11_soonest 5 = .ok (.getfield 37, 3) := by decide +kernel
theorem dX11_soonest_8 : decode cX11_soonest 8 = .ok (.invokevirtual 331, 3) := by decide +kernel
theorem dX11_soonest_11 : decode cX11_soonest 11 = .ok (.istore_n 2, 1) := by decide +kernel
theorem dX11_soonest_12 : decode cX11_soonest 12 = .ok (.iload_n 1, 1) := by decide +kernel
theorem dX11_soonest_13 : decode cX11_soonest 13 = .ok (.iconst (-1), 1) := by decide +kernel
theorem dX11_soonest_14 : decode cX11_soonest 14 = .ok (.if_icmp .ne 5, 3) := by decide +kernel
theorem dX11_soonest_17 : decode cX11_soonest 17 = .ok (.iload_n 2, 1) := by decide +kernel
theorem dX11_soonest_18 : decode cX11_soonest 18 = .ok (.ireturn, 1) := by decide +kernel
theorem dX11_soonest_19 : decode cX11_soonest 19 = .ok (.iload_n 1, 1) := by decide +kernel
theorem dX11_soonest_20 : decode cX11_soonest 20 = .ok (.ifCond .lt 20, 3) := by decide +kernel
theorem dX11_soonest_23 : decode cX11_soonest 23 = .ok (.iload_n 1, 1) := by decide +kernel
theorem dX11_soonest_24 : decode cX11_soonest 24 = .ok (.iload_n 2, 1) := by decide +kernel
theorem dX11_soonest_25 : decode cX11_soonest 25 = .ok (.if_icmp .ge 15, 3) := by decide +kernel
theorem dX11_soonest_28 : decode cX11_soonest 28 = .ok (.aload_n 0, 1) := by decide +kernel
theorem dX11_soonest_29 : decode cX11_soonest 29 = .ok (.getfield 81, 3) := by decide +kernel
theorem dX11_soonest_32 : decode cX11_soonest 32 = .ok (.getfield 334, 3) := by decide +kernel
theorem dX11_soonest_35 : decode cX11_soonest 35 = .ok (.iload_n 1, 1) := by decide +kernel
theorem dX11_soonest_36 : decode cX11_soonest 36 = .ok (.iaload, 1) := by decide +kernel
theorem dX11_soonest_37 : decode cX11_soonest 37 = .ok (.goto 4, 3) := by decide +kernel
theorem dX11_soonest_40 : decode cX11_soonest 40 = .ok (.iconst (-1), 1) := by decide +kernel
theorem dX11_soonest_41 : decode cX11_soonest 41 = .ok (.ireturn, 1) := by decide +kernel
theorem dX11_pits_0 : decode cX11_pits 0 = .ok (.iload_n 1, 1) := by decide +kernel
theorem dX11_pits_1 : decode cX11_pits 1 = .ok (.ifCond .lt 8, 3) := by decide +kernel
theorem dX11_pits_4 : decode cX11_pits 4 = .ok (.iload_n 1, 1) := by decide +kernel
theorem dX11_pits_5 : decode cX11_pits 5 = .ok (.iconst 2, 1) := by decide +kernel
theorem dX11_pits_6 : decode cX11_pits 6 = .ok (.if_icmp .le 13, 3) := by decide +kernel
theorem dX11_pits_9 : decode cX11_pits 9 = .ok (.new 107, 3) := by decide +kernel
theorem dX11_pits_12 : decode cX11_pits 12 = .ok (.dup, 1) := by decide +kernel
theorem dX11_pits_13 : decode cX11_pits 13 = .ok (.ldc 195, 2) := by decide +kernel
theorem dX11_pits_15 : decode cX11_pits 15 = .ok (.invokespecial 111, 3) := by decide +kernel
theorem dX11_pits_18 : decode cX11_pits 18 = .ok (.athrow, 1) := by decide +kernel
theorem dX11_pits_19 : decode cX11_pits 19 = .ok (.aload_n 0, 1) := by decide +kernel
theorem dX11_pits_20 : decode cX11_pits 20 = .ok (.getfield 30, 3) := by decide +kernel
theorem dX11_pits_23 : decode cX11_pits 23 = .ok (.aload_n 0, 1) := by decide +kernel
theorem dX11_pits_24 : decode cX11_pits 24 = .ok (.getfield 37, 3) := by decide +kernel
theorem dX11_pits_27 : decode cX11_pits 27 = .ok (.invokevirtual 290, 3) := by decide +kernel
theorem dX11_pits_30 : decode cX11_pits 30 = .ok (.istore_n 2, 1) := by decide +kernel
theorem dX11_pits_31 : decode cX11_pits 31 = .ok (.iconst 0, 1) := by decide +kernel
theorem dX11_pits_32 : decode cX11_pits 32 = .ok (.istore_n 3, 1) := by decide +kernel
theorem dX11_pits_33 : decode cX11_pits 33 = .ok (.iconst 0, 1) := by decide +kernel
theorem dX11_pits_34 : decode cX11_pits 34 = .ok (.istore 4, 2) := by decide +kernel
theorem dX11_pits_36 : decode cX11_pits 36 = .ok (.iload 4, 2) := by decide +kernel
theorem dX11_pits_38 : decode cX11_pits 38 = .ok (.bipush 12, 2) := by decide +kernel
theorem dX11_pits_40 : decode cX11_pits 40 = .ok (.if_icmp .ge 35, 3) := by decide +kernel
theorem dX11_pits_43 : decode cX11_pits 43 = .ok (.iload_n 2, 1) := by decide +kernel
theorem dX11_pits_44 : decode cX11_pits 44 = .ok (.iload 4, 2) := by decide +kernel
theorem dX11_pits_46 : decode cX11_pits 46 = .ok (.invokestatic 337, 3) := by decide +kernel
theorem dX11_pits_49 : decode cX11_pits 49 = .ok (.ifCond .eq 20, 3) := by decide +kernel
theorem dX11_pits_52 : decode cX11_pits 52 = .ok (.aload_n 0, 1) := by decide +kernel
theorem dX11_pits_53 : decode cX11_pits 53 = .ok (.iload 4, 2) := by decide +kernel
theorem dX11_pits_55 : decode cX11_pits 55 = .ok (.iload_n 1, 1) := by decide +kernel
theorem dX11_pits_56 : decode cX11_pits 56 = .ok (.invokevirtual 340, 3) := by decide +kernel
theorem dX11_pits_59 : decode cX11_pits 59 = .ok (.ifCond .eq 10, 3) := by decide +kernel
theorem dX11_pits_62 : decode cX11_pits 62 = .ok (.iload_n 3, 1) := by decide +kernel
theorem dX11_pits_63 : decode cX11_pits 63 = .ok (.iconst 1, 1) := by decide +kernel
theorem dX11_pits_64 : decode cX11_pits 64 = .ok (.iload 4, 2) := by decide +kernel
theorem dX11_pits_66 : decode cX11_pits 66 = .ok (.ishl, 1) := by decide +kernel
theorem dX11_pits_67 : decode cX11_pits 67 = .ok (.ior, 1) := by decide +kernel
theorem dX11_pits_68 : decode cX11_pits 68 = .ok (.istore_n 3, 1) := by decide +kernel
theorem dX11_pits_69 : decode cX11_pits 69 = .ok (.iinc 4 1, 3) := by decide +kernel
theorem dX11_pits_72 : decode cX11_pits 72 = .ok (.goto (-36), 3) := by decide +kernel
theorem dX11_pits_75 : decode cX11_pits 75 = .ok (.iload_n 3, 1) := by decide +kernel
theorem dX11_pits_76 : decode cX11_pits 76 = .ok (.ireturn, 1) := by decide +kernel
theorem dX11_forced_0 : decode cX11_forced 0 = .ok (.aload_n 0, 1) := by decide +kernel
theorem dX11_forced_1 : decode cX11_forced 1 = .ok (.getfield 72, 3) := by decide +kernel
theorem dX11_forced_4 : decode cX11_forced 4 = .ok (.aload_n 0, 1) := by decide +kernel
theorem dX11_forced_5 : decode cX11_forced 5 = .ok (.getfield 37, 3) := by decide +kernel
theorem dX11_forced_8 : decode cX11_forced 8 = .ok (.invokevirtual 343, 3) := by decide +kernel
theorem dX11_forced_11 : decode cX11_forced 11 = .ok (.aload_n 0, 1) := by decide +kernel
theorem dX11_forced_12 : decode cX11_forced 12 = .ok (.getfield 72, 3) := by decide +kernel
theorem dX11_forced_15 : decode cX11_forced 15 = .ok (.getfield 319, 3) := by decide +kernel
theorem dX11_forced_18 : decode cX11_forced 18 = .ok (.ireturn, 1) := by decide +kernel
theorem dX11_play_0 : decode cX11_play 0 = .ok (.iload_n 2, 1) := by decide +kernel
theorem dX11_play_1 : decode cX11_play 1 = .ok (.ifCond .lt 8, 3) := by decide +kernel
theorem dX11_play_4 : decode cX11_play 4 = .ok (.iload_n 2, 1) := by decide +kernel
theorem dX11_play_5 : decode cX11_play 5 = .ok (.iconst 2, 1) := by decide +kernel
theorem dX11_play_6 : decode cX11_play 6 = .ok (.if_icmp .le 13, 3) := by decide +kernel
theorem dX11_play_9 : decode cX11_play 9 = .ok (.new 107, 3) := by decide +kernel
theorem dX11_play_12 : decode cX11_play 12 = .ok (.dup, 1) := by decide +kernel
theorem dX11_play_13 : decode cX11_play 13 = .ok (.ldc 195, 2) := by decide +kernel
theorem dX11_play_15 : decode cX11_play 15 = .ok (.invokespecial 111, 3) := by decide +kernel
theorem dX11_play_18 : decode cX11_play 18 = .ok (.athrow, 1) := by decide +kernel
theorem dX11_play_19 : decode cX11_play 19 = .ok (.aload_n 0, 1) := by decide +kernel
theorem dX11_play_20 : decode cX11_play 20 = .ok (.getfield 72, 3) := by decide +kernel
theorem dX11_play_23 : decode cX11_play 23 = .ok (.aload_n 0, 1) := by decide +kernel
theorem dX11_play_24 : decode cX11_play 24 = .ok (.getfield 37, 3) := by decide +kernel
theorem dX11_play_27 : decode cX11_play 27 = .ok (.iload_n 1, 1) := by decide +kernel
theorem dX11_play_28 : decode cX11_play 28 = .ok (.iconst 0, 1) := by decide +kernel
theorem dX11_play_29 : decode cX11_play 29 = .ok (.invokevirtual 346, 3) := by decide +kernel
theorem dX11_play_32 : decode cX11_play 32 = .ok (.aload_n 0, 1) := by decide +kernel
theorem dX11_play_33 : decode cX11_play 33 = .ok (.iload_n 2, 1) := by decide +kernel
theorem dX11_play_34 : decode cX11_play 34 = .ok (.invokevirtual 350, 3) := by decide +kernel
theorem dX11_play_37 : decode cX11_play 37 = .ok (.ireturn, 1) := by decide +kernel
theorem dX11_against_0 : decode cX11_against 0 = .ok (.aload_n 0, 1) := by decide +kernel
theorem dX11_against_1 : decode cX11_against 1 = .ok (.aload_n 0, 1) := by decide +kernel
theorem dX11_against_2 : decode cX11_against 2 = .ok (.getfield 37, 3) := by decide +kernel
theorem dX11_against_5 : decode cX11_against 5 = .ok (.invokevirtual 236, 3) := by decide +kernel
theorem dX11_against_8 : decode cX11_against 8 = .ok (.invokevirtual 279, 3) := by decide +kernel
theorem dX11_against_11 : decode cX11_against 11 = .ok (.iload_n 2, 1) := by decide +kernel
theorem dX11_against_12 : decode cX11_against 12 = .ok (.ifCond .lt 8, 3) := by decide +kernel
theorem dX11_against_15 : decode cX11_against 15 = .ok (.iload_n 2, 1) := by decide +kernel
theorem dX11_against_16 : decode cX11_against 16 = .ok (.iconst 2, 1) := by decide +kernel
theorem dX11_against_17 : decode cX11_against 17 = .ok (.if_icmp .le 13, 3) := by decide +kernel
theorem dX11_against_20 : decode cX11_against 20 = .ok (.new 107, 3) := by decide +kernel
theorem dX11_against_23 : decode cX11_against 23 = .ok (.dup, 1) := by decide +kernel
theorem dX11_against_24 : decode cX11_against 24 = .ok (.ldc 195, 2) := by decide +kernel
theorem dX11_against_26 : decode cX11_against 26 = .ok (.invokespecial 111, 3) := by decide +kernel
theorem dX11_against_29 : decode cX11_against 29 = .ok (.athrow, 1) := by decide +kernel
theorem dX11_against_30 : decode cX11_against 30 = .ok (.aload_n 0, 1) := by decide +kernel
theorem dX11_against_31 : decode cX11_against 31 = .ok (.getfield 72, 3) := by decide +kernel
theorem dX11_against_34 : decode cX11_against 34 = .ok (.aload_n 0, 1) := by decide +kernel
theorem dX11_against_35 : decode cX11_against 35 = .ok (.getfield 37, 3) := by decide +kernel
theorem dX11_against_38 : decode cX11_against 38 = .ok (.iload_n 1, 1) := by decide +kernel
theorem dX11_against_39 : decode cX11_against 39 = .ok (.iconst 1, 1) := by decide +kernel
theorem dX11_against_40 : decode cX11_against 40 = .ok (.invokevirtual 346, 3) := by decide +kernel
theorem dX11_against_43 : decode cX11_against 43 = .ok (.aload_n 0, 1) := by decide +kernel
theorem dX11_against_44 : decode cX11_against 44 = .ok (.iload_n 2, 1) := by decide +kernel
theorem dX11_against_45 : decode cX11_against 45 = .ok (.invokevirtual 350, 3) := by decide +kernel
theorem dX11_against_48 : decode cX11_against 48 = .ok (.ireturn, 1) := by decide +kernel
theorem dX11_tray_0 : decode cX11_tray 0 = .ok (.aload_n 0, 1) := by decide +kernel
theorem dX11_tray_1 : decode cX11_tray 1 = .ok (.iload_n 1, 1) := by decide +kernel
theorem dX11_tray_2 : decode cX11_tray 2 = .ok (.invokevirtual 353, 3) := by decide +kernel
theorem dX11_tray_5 : decode cX11_tray 5 = .ok (.astore 4, 2) := by decide +kernel
theorem dX11_tray_7 : decode cX11_tray 7 = .ok (.iload_n 2, 1) := by decide +kernel
theorem dX11_tray_8 : decode cX11_tray 8 = .ok (.ifCond .lt 18, 3) := by decide +kernel
theorem dX11_tray_11 : decode cX11_tray 11 = .ok (.iload_n 2, 1) := by decide +kernel
theorem dX11_tray_12 : decode cX11_tray 12 = .ok (.iconst 3, 1) := by decide +kernel
theorem dX11_tray_13 : decode cX11_tray 13 = .ok (.if_icmp .gt 13, 3) := by decide +kernel
theorem dX11_tray_16 : decode cX11_tray 16 = .ok (.iload_n 3, 1) := by decide +kernel
theorem dX11_tray_17 : decode cX11_tray 17 = .ok (.ifCond .lt 9, 3) := by decide +kernel
theorem dX11_tray_20 : decode cX11_tray 20 = .ok (.iload_n 3, 1) := by decide +kernel
theorem dX11_tray_21 : decode cX11_tray 21 = .ok (.bipush 40, 2) := by decide +kernel
theorem dX11_tray_23 : decode cX11_tray 23 = .ok (.if_icmp .le 14, 3) := by decide +kernel
theorem dX11_tray_26 : decode cX11_tray 26 = .ok (.new 107, 3) := by decide +kernel
theorem dX11_tray_29 : decode cX11_tray 29 = .ok (.dup, 1) := by decide +kernel
theorem dX11_tray_30 : decode cX11_tray 30 = .ok (.ldc_w 356, 3) := by decide +kernel
theorem dX11_tray_33 : decode cX11_tray 33 = .ok (.invokespecial 111, 3) := by decide +kernel
theorem dX11_tray_36 : decode cX11_tray 36 = .ok (.athrow, 1) := by decide +kernel
theorem dX11_tray_37 : decode cX11_tray 37 = .ok (.aload 4, 2) := by decide +kernel
theorem dX11_tray_39 : decode cX11_tray 39 = .ok (.iload_n 2, 1) := by decide +kernel
theorem dX11_tray_40 : decode cX11_tray 40 = .ok (.iload_n 3, 1) := by decide +kernel
theorem dX11_tray_41 : decode cX11_tray 41 = .ok (.invokevirtual 358, 3) := by decide +kernel
theorem dX11_tray_44 : decode cX11_tray 44 = .ok (.return_, 1) := by decide +kernel
theorem dX11_write_0 : decode cX11_write 0 = .ok (.aload_n 0, 1) := by decide +kernel
theorem dX11_write_1 : decode cX11_write 1 = .ok (.iload_n 1, 1) := by decide +kernel
theorem dX11_write_2 : decode cX11_write 2 = .ok (.invokevirtual 218, 3) := by decide +kernel
theorem dX11_write_5 : decode cX11_write 5 = .ok (.astore 5, 2) := by decide +kernel
theorem dX11_write_7 : decode cX11_write 7 = .ok (.iload_n 2, 1) := by decide +kernel
theorem dX11_write_8 : decode cX11_write 8 = .ok (.ifCond .lt 12, 3) := by decide +kernel
theorem dX11_write_11 : decode cX11_write 11 = .ok (.iload_n 2, 1) := by decide +kernel
theorem dX11_write_12 : decode cX11_write 12 = .ok (.aload 5, 2) := by decide +kernel
theorem dX11_write_14 : decode cX11_write 14 = .ok (.getfield 222, 3) := by decide +kernel
theorem dX11_write_17 : decode cX11_write 17 = .ok (.if_icmp .lt 14, 3) := by decide +kernel
theorem dX11_write_20 : decode cX11_write 20 = .ok (.new 248, 3) := by decide +kernel
theorem dX11_write_23 : decode cX11_write 23 = .ok (.dup, 1) := by decide +kernel
theorem dX11_write_24 : decode cX11_write 24 = .ok (.ldc_w 360, 3) := by decide +kernel
theorem dX11_write_27 : decode cX11_write 27 = .ok (.invokespecial 250, 3) := by decide +kernel
theorem dX11_write_30 : decode cX11_write 30 = .ok (.athrow, 1) := by decide +kernel
theorem dX11_write_31 : decode cX11_write 31 = .ok (.aload 5, 2) := by decide +kernel
theorem dX11_write_33 : decode cX11_write 33 = .ok (.getfield 225, 3) := by decide +kernel
theorem dX11_write_36 : decode cX11_write 36 = .ok (.iload_n 2, 1) := by decide +kernel
theorem dX11_write_37 : decode cX11_write 37 = .ok (.aload 5, 2) := by decide +kernel
theorem dX11_write_39 : decode cX11_write 39 = .ok (.lload_n 3, 1) := by decide +kernel
theorem dX11_write_40 : decode cX11_write 40 = .ok (.invokevirtual 362, 3) := by decide +kernel
theorem dX11_write_43 : decode cX11_write 43 = .ok (.lastore, 1) := by decide +kernel
theorem dX11_write_44 : decode cX11_write 44 = .ok (.aload 5, 2) := by decide +kernel
theorem dX11_write_46 : decode cX11_write 46 = .ok (.getfield 225, 3) := by decide +kernel
theorem dX11_write_49 : decode cX11_write 49 = .ok (.iload_n 2, 1) := by decide +kernel
theorem dX11_write_50 : decode cX11_write 50 = .ok (.laload, 1) := by decide +kernel
theorem dX11_write_51 : decode cX11_write 51 = .ok (.lreturn, 1) := by decide +kernel
theorem dX11_pour_0 : decode cX11_pour 0 = .ok (.aload_n 0, 1) := by decide +kernel
theorem dX11_pour_1 : decode cX11_pour 1 = .ok (.iload_n 1, 1) := by decide +kernel
theorem dX11_pour_2 : decode cX11_pour 2 = .ok (.invokevirtual 218, 3) := by decide +kernel
theorem dX11_pour_5 : decode cX11_pour 5 = .ok (.astore_n 2, 1) := by decide +kernel
theorem dX11_pour_6 : decode cX11_pour 6 = .ok (.aload_n 0, 1) := by decide +kernel
theorem dX11_pour_7 : decode cX11_pour 7 = .ok (.getfield 47, 3) := by decide +kernel
theorem dX11_pour_10 : decode cX11_pour 10 = .ok (.getfield 197, 3) := by decide +kernel
theorem dX11_pour_13 : decode cX11_pour 13 = .ok (.aload_n 2, 1) := by decide +kernel
theorem dX11_pour_14 : decode cX11_pour 14 = .ok (.getfield 222, 3) := by decide +kernel
theorem dX11_pour_17 : decode cX11_pour 17 = .ok (.invokestatic 366, 3) := by decide +kernel
theorem dX11_pour_20 : decode cX11_pour 20 = .ok (.istore_n 3, 1) := by decide +kernel
theorem dX11_pour_21 : decode cX11_pour 21 = .ok (.iconst 0, 1) := by decide +kernel
theorem dX11_pour_22 : decode cX11_pour 22 = .ok (.istore 4, 2) := by decide +kernel
theorem dX11_pour_24 : decode cX11_pour 24 = .ok (.iload 4, 2) := by decide +kernel
theorem dX11_pour_26 : decode cX11_pour 26 = .ok (.iload_n 3, 1) := by decide +kernel
theorem dX11_pour_27 : decode cX11_pour 27 = .ok (.if_icmp .ge 26, 3) := by decide +kernel
theorem dX11_pour_30 : decode cX11_pour 30 = .ok (.aload_n 2, 1) := by decide +kernel
theorem dX11_pour_31 : decode cX11_pour 31 = .ok (.getfield 225, 3) := by decide +kernel
theorem dX11_pour_34 : decode cX11_pour 34 = .ok (.iload 4, 2) := by decide +kernel
theorem dX11_pour_36 : decode cX11_pour 36 = .ok (.aload_n 0, 1) := by decide +kernel
theorem dX11_pour_37 : decode cX11_pour 37 = .ok (.getfield 47, 3) := by decide +kernel
theorem dX11_pour_40 : decode cX11_pour 40 = .ok (.iload 4, 2) := by decide +kernel
theorem dX11_pour_42 : decode cX11_pour 42 = .ok (.invokevirtual 371, 3) := by decide +kernel
theorem dX11_pour_45 : decode cX11_pour 45 = .ok (.i2l, 1) := by decide +kernel
theorem dX11_pour_46 : decode cX11_pour 46 = .ok (.lastore, 1) := by decide +kernel
theorem dX11_pour_47 : decode cX11_pour 47 = .ok (.iinc 4 1, 3) := by decide +kernel
theorem dX11_pour_50 : decode cX11_pour 50 = .ok (.goto (-26), 3) := by decide +kernel
theorem dX11_pour_53 : decode cX11_pour 53 = .ok (.iload_n 3, 1) := by decide +kernel
theorem dX11_pour_54 : decode cX11_pour 54 = .ok (.ireturn, 1) := by decide +kernel
theorem dX11_image_0 : decode cX11_image 0 = .ok (.aload_n 0, 1) := by decide +kernel
theorem dX11_image_1 : decode cX11_image 1 = .ok (.iload_n 1, 1) := by decide +kernel
theorem dX11_image_2 : decode cX11_image 2 = .ok (.invokevirtual 374, 3) := by decide +kernel
theorem dX11_image_5 : decode cX11_image 5 = .ok (.astore_n 2, 1) := by decide +kernel
theorem dX11_image_6 : decode cX11_image 6 = .ok (.aload_n 2, 1) := by decide +kernel
theorem dX11_image_7 : decode cX11_image 7 = .ok (.iconst 1, 1) := by decide +kernel
theorem dX11_image_8 : decode cX11_image 8 = .ok (.putfield 378, 3) := by decide +kernel
theorem dX11_image_11 : decode cX11_image 11 = .ok (.aload_n 2, 1) := by decide +kernel
theorem dX11_image_12 : decode cX11_image 12 = .ok (.getfield 381, 3) := by decide +kernel
theorem dX11_image_15 : decode cX11_image 15 = .ok (.aload_n 0, 1) := by decide +kernel
theorem dX11_image_16 : decode cX11_image 16 = .ok (.getfield 12, 3) := by decide +kernel
theorem dX11_image_19 : decode cX11_image 19 = .ok (.invokevirtual 382, 3) := by decide +kernel
theorem dX11_image_22 : decode cX11_image 22 = .ok (.aload_n 2, 1) := by decide +kernel
theorem dX11_image_23 : decode cX11_image 23 = .ok (.getfield 384, 3) := by decide +kernel
theorem dX11_image_26 : decode cX11_image 26 = .ok (.aload_n 0, 1) := by decide +kernel
theorem dX11_image_27 : decode cX11_image 27 = .ok (.getfield 37, 3) := by decide +kernel
theorem dX11_image_30 : decode cX11_image 30 = .ok (.invokevirtual 177, 3) := by decide +kernel
theorem dX11_image_33 : decode cX11_image 33 = .ok (.return_, 1) := by decide +kernel
theorem dX11_restore_0 : decode cX11_restore 0 = .ok (.aload_n 0, 1) := by decide +kernel
theorem dX11_restore_1 : decode cX11_restore 1 = .ok (.iload_n 1, 1) := by decide +kernel
theorem dX11_restore_2 : decode cX11_restore 2 = .ok (.invokevirtual 374, 3) := by decide +kernel
theorem dX11_restore_5 : decode cX11_restore 5 = .ok (.astore_n 2, 1) := by decide +kernel
theorem dX11_restore_6 : decode cX11_restore 6 = .ok (.aload_n 2, 1) := by decide +kernel
theorem dX11_restore_7 : decode cX11_restore 7 = .ok (.getfield 378, 3) := by decide +kernel
theorem dX11_restore_10 : decode cX11_restore 10 = .ok (.ifCond .ne 14, 3) := by decide +kernel
theorem dX11_restore_13 : decode cX11_restore 13 = .ok (.new 181, 3) := by decide +kernel
theorem dX11_restore_16 : decode cX11_restore 16 = .ok (.dup, 1) := by decide +kernel
theorem dX11_restore_17 : decode cX11_restore 17 = .ok (.ldc_w 385, 3) := by decide +kernel
theorem dX11_restore_20 : decode cX11_restore 20 = .ok (.invokespecial 185, 3) := by decide +kernel
theorem dX11_restore_23 : decode cX11_restore 23 = .ok (.athrow, 1) := by decide +kernel
theorem dX11_restore_24 : decode cX11_restore 24 = .ok (.aload_n 0, 1) := by decide +kernel
theorem dX11_restore_25 : decode cX11_restore 25 = .ok (.aload_n 2, 1) := by decide +kernel
theorem dX11_restore_26 : decode cX11_restore 26 = .ok (.getfield 381, 3) := by decide +kernel
theorem dX11_restore_29 : decode cX11_restore 29 = .ok (.aload_n 2, 1) := by decide +kernel
theorem dX11_restore_30 : decode cX11_restore 30 = .ok (.getfield 384, 3) := by decide +kernel
theorem dX11_restore_33 : decode cX11_restore 33 = .ok (.invokevirtual 124, 3) := by decide +kernel
theorem dX11_restore_36 : decode cX11_restore 36 = .ok (.return_, 1) := by decide +kernel
theorem dX11_count_0 : decode cX11_count 0 = .ok (.iload_n 1, 1) := by decide +kernel
theorem dX11_count_1 : decode cX11_count 1 = .ok (.tableswitch 102 0 6 #[43, 51, 59, 67, 78, 86, 94], 43) := by decide +kernel
theorem dX11_count_44 : decode cX11_count 44 = .ok (.aload_n 0, 1) := by decide +kernel
theorem dX11_count_45 : decode cX11_count 45 = .ok (.getfield 12, 3) := by decide +kernel
theorem dX11_count_48 : decode cX11_count 48 = .ok (.getfield 128, 3) := by decide +kernel
theorem dX11_count_51 : decode cX11_count 51 = .ok (.ireturn, 1) := by decide +kernel
theorem dX11_count_52 : decode cX11_count 52 = .ok (.aload_n 0, 1) := by decide +kernel
theorem dX11_count_53 : decode cX11_count 53 = .ok (.getfield 12, 3) := by decide +kernel
theorem dX11_count_56 : decode cX11_count 56 = .ok (.getfield 134, 3) := by decide +kernel
theorem dX11_count_59 : decode cX11_count 59 = .ok (.ireturn, 1) := by decide +kernel
theorem dX11_count_60 : decode cX11_count 60 = .ok (.aload_n 0, 1) := by decide +kernel
theorem dX11_count_61 : decode cX11_count 61 = .ok (.getfield 37, 3) := by decide +kernel
theorem dX11_count_64 : decode cX11_count 64 = .ok (.invokevirtual 236, 3) := by decide +kernel
theorem dX11_count_67 : decode cX11_count 67 = .ok (.ireturn, 1) := by decide +kernel
theorem dX11_count_68 : decode cX11_count 68 = .ok (.aload_n 0, 1) := by decide +kernel
theorem dX11_count_69 : decode cX11_count 69 = .ok (.getfield 12, 3) := by decide +kernel
theorem dX11_count_72 : decode cX11_count 72 = .ok (.getfield 387, 3) := by decide +kernel
theorem dX11_count_75 : decode cX11_count 75 = .ok (.invokestatic 293, 3) := by decide +kernel
theorem dX11_count_78 : decode cX11_count 78 = .ok (.ireturn, 1) := by decide +kernel
theorem dX11_count_79 : decode cX11_count 79 = .ok (.aload_n 0, 1) := by decide +kernel
theorem dX11_count_80 : decode cX11_count 80 = .ok (.getfield 47, 3) := by decide +kernel
theorem dX11_count_83 : decode cX11_count 83 = .ok (.getfield 197, 3) := by decide +kernel
theorem dX11_count_86 : decode cX11_count 86 = .ok (.ireturn, 1) := by decide +kernel
theorem dX11_count_87 : decode cX11_count 87 = .ok (.aload_n 0, 1) := by decide +kernel
theorem dX11_count_88 : decode cX11_count 88 = .ok (.getfield 47, 3) := by decide +kernel
theorem dX11_count_91 : decode cX11_count 91 = .ok (.getfield 203, 3) := by decide +kernel
theorem dX11_count_94 : decode cX11_count 94 = .ok (.ireturn, 1) := by decide +kernel
theorem dX11_count_95 : decode cX11_count 95 = .ok (.aload_n 0, 1) := by decide +kernel
theorem dX11_count_96 : decode cX11_count 96 = .ok (.getfield 54, 3) := by decide +kernel
theorem dX11_count_99 : decode cX11_count 99 = .ok (.getfield 99, 3) := by decide +kernel
theorem dX11_count_102 : decode cX11_count 102 = .ok (.ireturn, 1) := by decide +kernel
theorem dX11_count_103 : decode cX11_count 103 = .ok (.iconst (-1), 1) := by decide +kernel
theorem dX11_count_104 : decode cX11_count 104 = .ok (.ireturn, 1) := by decide +kernel
theorem dX11_has_0 : decode cX11_has 0 = .ok (.iload_n 0, 1) := by decide +kernel
theorem dX11_has_1 : decode cX11_has 1 = .ok (.iload_n 1, 1) := by decide +kernel
theorem dX11_has_2 : decode cX11_has 2 = .ok (.iushr, 1) := by decide +kernel
theorem dX11_has_3 : decode cX11_has 3 = .ok (.iconst 1, 1) := by decide +kernel
theorem dX11_has_4 : decode cX11_has 4 = .ok (.iand, 1) := by decide +kernel
theorem dX11_has_5 : decode cX11_has 5 = .ok (.iconst 1, 1) := by decide +kernel
theorem dX11_has_6 : decode cX11_has 6 = .ok (.if_icmp .ne 7, 3) := by decide +kernel
theorem dX11_has_9 : decode cX11_has 9 = .ok (.iconst 1, 1) := by decide +kernel
theorem dX11_has_10 : decode cX11_has 10 = .ok (.goto 4, 3) := by decide +kernel
theorem dX11_has_13 : decode cX11_has 13 = .ok (.iconst 0, 1) := by decide +kernel
theorem dX11_has_14 : decode cX11_has 14 = .ok (.ireturn, 1) := by decide +kernel
theorem dX11_needSide_0 : decode cX11_needSide 0 = .ok (.iload_n 0, 1) := by decide +kernel
theorem dX11_needSide_1 : decode cX11_needSide 1 = .ok (.ifCond .lt 8, 3) := by decide +kernel
theorem dX11_needSide_4 : decode cX11_needSide 4 = .ok (.iload_n 0, 1) := by decide +kernel
theorem dX11_needSide_5 : decode cX11_needSide 5 = .ok (.iconst 1, 1) := by decide +kernel
theorem dX11_needSide_6 : decode cX11_needSide 6 = .ok (.if_icmp .le 14, 3) := by decide +kernel
theorem dX11_needSide_9 : decode cX11_needSide 9 = .ok (.new 137, 3) := by decide +kernel
theorem dX11_needSide_12 : decode cX11_needSide 12 = .ok (.dup, 1) := by decide +kernel
theorem dX11_needSide_13 : decode cX11_needSide 13 = .ok (.ldc_w 390, 3) := by decide +kernel
theorem dX11_needSide_16 : decode cX11_needSide 16 = .ok (.invokespecial 141, 3) := by decide +kernel
theorem dX11_needSide_19 : decode cX11_needSide 19 = .ok (.athrow, 1) := by decide +kernel
theorem dX11_needSide_20 : decode cX11_needSide 20 = .ok (.return_, 1) := by decide +kernel
theorem dX11_needSeeds_0 : decode cX11_needSeeds 0 = .ok (.iload_n 0, 1) := by decide +kernel
theorem dX11_needSeeds_1 : decode cX11_needSeeds 1 = .ok (.ifCond .lt 9, 3) := by decide +kernel
theorem dX11_needSeeds_4 : decode cX11_needSeeds 4 = .ok (.iload_n 0, 1) := by decide +kernel
theorem dX11_needSeeds_5 : decode cX11_needSeeds 5 = .ok (.bipush 40, 2) := by decide +kernel
theorem dX11_needSeeds_7 : decode cX11_needSeeds 7 = .ok (.if_icmp .le 14, 3) := by decide +kernel
theorem dX11_needSeeds_10 : decode cX11_needSeeds 10 = .ok (.new 107, 3) := by decide +kernel
theorem dX11_needSeeds_13 : decode cX11_needSeeds 13 = .ok (.dup, 1) := by decide +kernel
theorem dX11_needSeeds_14 : decode cX11_needSeeds 14 = .ok (.ldc_w 392, 3) := by decide +kernel
theorem dX11_needSeeds_17 : decode cX11_needSeeds 17 = .ok (.invokespecial 111, 3) := by decide +kernel
theorem dX11_needSeeds_20 : decode cX11_needSeeds 20 = .ok (.athrow, 1) := by decide +kernel
theorem dX11_needSeeds_21 : decode cX11_needSeeds 21 = .ok (.return_, 1) := by decide +kernel
theorem dX11_needPosition_0 : decode cX11_needPosition 0 = .ok (.iload_n 0, 1) := by decide +kernel
theorem dX11_needPosition_1 : decode cX11_needPosition 1 = .ok (.ifCond .lt 8, 3) := by decide +kernel
theorem dX11_needPosition_4 : decode cX11_needPosition 4 = .ok (.iload_n 0, 1) := by decide +kernel
theorem dX11_needPosition_5 : decode cX11_needPosition 5 = .ok (.iload_n 1, 1) := by decide +kernel
theorem dX11_needPosition_6 : decode cX11_needPosition 6 = .ok (.if_icmp .lt 14, 3) := by decide +kernel
theorem dX11_needPosition_9 : decode cX11_needPosition 9 = .ok (.new 137, 3) := by decide +kernel
theorem dX11_needPosition_12 : decode cX11_needPosition 12 = .ok (.dup, 1) := by decide +kernel
theorem dX11_needPosition_13 : decode cX11_needPosition 13 = .ok (.ldc_w 394, 3) := by decide +kernel
theorem dX11_needPosition_16 : decode cX11_needPosition 16 = .ok (.invokespecial 141, 3) := by decide +kernel
theorem dX11_needPosition_19 : decode cX11_needPosition 19 = .ok (.athrow, 1) := by decide +kernel
theorem dX11_needPosition_20 : decode cX11_needPosition 20 = .ok (.return_, 1) := by decide +kernel
theorem dX11_needSolved_0 : decode cX11_needSolved 0 = .ok (.aload_n 0, 1) := by decide +kernel
theorem dX11_needSolved_1 : decode cX11_needSolved 1 = .ok (.getfield 63, 3) := by decide +kernel
theorem dX11_needSolved_4 : decode cX11_needSolved 4 = .ok (.iload_n 1, 1) := by decide +kernel
theorem dX11_needSolved_5 : decode cX11_needSolved 5 = .ok (.invokevirtual 259, 3) := by decide +kernel
theorem dX11_needSolved_8 : decode cX11_needSolved 8 = .ok (.ifCond .ne 13, 3) := by decide +kernel
theorem dX11_needSolved_11 : decode cX11_needSolved 11 = .ok (.new 181, 3) := by decide +kernel
theorem dX11_needSolved_14 : decode cX11_needSolved 14 = .ok (.dup, 1) := by decide +kernel
theorem dX11_needSolved_15 : decode cX11_needSolved 15 = .ok (.ldc 242, 2) := by decide +kernel
theorem dX11_needSolved_17 : decode cX11_needSolved 17 = .ok (.invokespecial 185, 3) := by decide +kernel
theorem dX11_needSolved_20 : decode cX11_needSolved 20 = .ok (.athrow, 1) := by decide +kernel
theorem dX11_needSolved_21 : decode cX11_needSolved 21 = .ok (.return_, 1) := by decide +kernel
theorem dX11_laySolved_0 : decode cX11_laySolved 0 = .ok (.iload_n 1, 1) := by decide +kernel
theorem dX11_laySolved_1 : decode cX11_laySolved 1 = .ok (.invokestatic 146, 3) := by decide +kernel
theorem dX11_laySolved_4 : decode cX11_laySolved 4 = .ok (.iload_n 2, 1) := by decide +kernel
theorem dX11_laySolved_5 : decode cX11_laySolved 5 = .ok (.invokestatic 229, 3) := by decide +kernel
theorem dX11_laySolved_8 : decode cX11_laySolved 8 = .ok (.aload_n 0, 1) := by decide +kernel
theorem dX11_laySolved_9 : decode cX11_laySolved 9 = .ok (.getfield 63, 3) := by decide +kernel
theorem dX11_laySolved_12 : decode cX11_laySolved 12 = .ok (.iload_n 2, 1) := by decide +kernel
theorem dX11_laySolved_13 : decode cX11_laySolved 13 = .ok (.invokevirtual 259, 3) := by decide +kernel
theorem dX11_laySolved_16 : decode cX11_laySolved 16 = .ok (.ifCond .ne 13, 3) := by decide +kernel
theorem dX11_laySolved_19 : decode cX11_laySolved 19 = .ok (.new 181, 3) := by decide +kernel
theorem dX11_laySolved_22 : decode cX11_laySolved 22 = .ok (.dup, 1) := by decide +kernel
theorem dX11_laySolved_23 : decode cX11_laySolved 23 = .ok (.ldc 242, 2) := by decide +kernel
theorem dX11_laySolved_25 : decode cX11_laySolved 25 = .ok (.invokespecial 185, 3) := by decide +kernel
theorem dX11_laySolved_28 : decode cX11_laySolved 28 = .ok (.athrow, 1) := by decide +kernel
theorem dX11_laySolved_29 : decode cX11_laySolved 29 = .ok (.iload_n 3, 1) := by decide +kernel
theorem dX11_laySolved_30 : decode cX11_laySolved 30 = .ok (.aload_n 0, 1) := by decide +kernel
theorem dX11_laySolved_31 : decode cX11_laySolved 31 = .ok (.getfield 21, 3) := by decide +kernel
theorem dX11_laySolved_34 : decode cX11_laySolved 34 = .ok (.iload_n 2, 1) := by decide +kernel
theorem dX11_laySolved_35 : decode cX11_laySolved 35 = .ok (.invokevirtual 232, 3) := by decide +kernel
theorem dX11_laySolved_38 : decode cX11_laySolved 38 = .ok (.invokestatic 244, 3) := by decide +kernel
theorem dX11_laySolved_41 : decode cX11_laySolved 41 = .ok (.aload_n 0, 1) := by decide +kernel
theorem dX11_laySolved_42 : decode cX11_laySolved 42 = .ok (.getfield 21, 3) := by decide +kernel
theorem dX11_laySolved_45 : decode cX11_laySolved 45 = .ok (.aload_n 0, 1) := by decide +kernel
theorem dX11_laySolved_46 : decode cX11_laySolved 46 = .ok (.getfield 41, 3) := by decide +kernel
theorem dX11_laySolved_49 : decode cX11_laySolved 49 = .ok (.iload_n 1, 1) := by decide +kernel
theorem dX11_laySolved_50 : decode cX11_laySolved 50 = .ok (.iload_n 2, 1) := by decide +kernel
theorem dX11_laySolved_51 : decode cX11_laySolved 51 = .ok (.iload_n 3, 1) := by decide +kernel
theorem dX11_laySolved_52 : decode cX11_laySolved 52 = .ok (.invokevirtual 251, 3) := by decide +kernel
theorem dX11_laySolved_55 : decode cX11_laySolved 55 = .ok (.return_, 1) := by decide +kernel
theorem dX11_anyTray_0 : decode cX11_anyTray 0 = .ok (.iload_n 1, 1) := by decide +kernel
theorem dX11_anyTray_1 : decode cX11_anyTray 1 = .ok (.ifCond .lt 8, 3) := by decide +kernel
theorem dX11_anyTray_4 : decode cX11_anyTray 4 = .ok (.iload_n 1, 1) := by decide +kernel
theorem dX11_anyTray_5 : decode cX11_anyTray 5 = .ok (.iconst 4, 1) := by decide +kernel
theorem dX11_anyTray_6 : decode cX11_anyTray 6 = .ok (.if_icmp .lt 14, 3) := by decide +kernel
theorem dX11_anyTray_9 : decode cX11_anyTray 9 = .ok (.new 137, 3) := by decide +kernel
theorem dX11_anyTray_12 : decode cX11_anyTray 12 = .ok (.dup, 1) := by decide +kernel
theorem dX11_anyTray_13 : decode cX11_anyTray 13 = .ok (.ldc_w 396, 3) := by decide +kernel
theorem dX11_anyTray_16 : decode cX11_anyTray 16 = .ok (.invokespecial 141, 3) := by decide +kernel
theorem dX11_anyTray_19 : decode cX11_anyTray 19 = .ok (.athrow, 1) := by decide +kernel
theorem dX11_anyTray_20 : decode cX11_anyTray 20 = .ok (.aload_n 0, 1) := by decide +kernel
theorem dX11_anyTray_21 : decode cX11_anyTray 21 = .ok (.getfield 87, 3) := by decide +kernel
theorem dX11_anyTray_24 : decode cX11_anyTray 24 = .ok (.iload_n 1, 1) := by decide +kernel
theorem dX11_anyTray_25 : decode cX11_anyTray 25 = .ok (.aaload, 1) := by decide +kernel
theorem dX11_anyTray_26 : decode cX11_anyTray 26 = .ok (.areturn, 1) := by decide +kernel
theorem dX11_laidTray_0 : decode cX11_laidTray 0 = .ok (.aload_n 0, 1) := by decide +kernel
theorem dX11_laidTray_1 : decode cX11_laidTray 1 = .ok (.iload_n 1, 1) := by decide +kernel
theorem dX11_laidTray_2 : decode cX11_laidTray 2 = .ok (.invokevirtual 353, 3) := by decide +kernel
theorem dX11_laidTray_5 : decode cX11_laidTray 5 = .ok (.astore_n 2, 1) := by decide +kernel
theorem dX11_laidTray_6 : decode cX11_laidTray 6 = .ok (.aload_n 2, 1) := by decide +kernel
theorem dX11_laidTray_7 : decode cX11_laidTray 7 = .ok (.getfield 398, 3) := by decide +kernel
theorem dX11_laidTray_10 : decode cX11_laidTray 10 = .ok (.iconst (-1), 1) := by decide +kernel
theorem dX11_laidTray_11 : decode cX11_laidTray 11 = .ok (.if_icmp .ne 14, 3) := by decide +kernel
theorem dX11_laidTray_14 : decode cX11_laidTray 14 = .ok (.new 181, 3) := by decide +kernel
theorem dX11_laidTray_17 : decode cX11_laidTray 17 = .ok (.dup, 1) := by decide +kernel
theorem dX11_laidTray_18 : decode cX11_laidTray 18 = .ok (.ldc_w 401, 3) := by decide +kernel
theorem dX11_laidTray_21 : decode cX11_laidTray 21 = .ok (.invokespecial 185, 3) := by decide +kernel
theorem dX11_laidTray_24 : decode cX11_laidTray 24 = .ok (.athrow, 1) := by decide +kernel
theorem dX11_laidTray_25 : decode cX11_laidTray 25 = .ok (.aload_n 2, 1) := by decide +kernel
theorem dX11_laidTray_26 : decode cX11_laidTray 26 = .ok (.areturn, 1) := by decide +kernel
theorem dX11_anyImage_0 : decode cX11_anyImage 0 = .ok (.iload_n 1, 1) := by decide +kernel
theorem dX11_anyImage_1 : decode cX11_anyImage 1 = .ok (.ifCond .lt 8, 3) := by decide +kernel
theorem dX11_anyImage_4 : decode cX11_anyImage 4 = .ok (.iload_n 1, 1) := by decide +kernel
theorem dX11_anyImage_5 : decode cX11_anyImage 5 = .ok (.iconst 3, 1) := by decide +kernel
theorem dX11_anyImage_6 : decode cX11_anyImage 6 = .ok (.if_icmp .lt 14, 3) := by decide +kernel
theorem dX11_anyImage_9 : decode cX11_anyImage 9 = .ok (.new 137, 3) := by decide +kernel
theorem dX11_anyImage_12 : decode cX11_anyImage 12 = .ok (.dup, 1) := by decide +kernel
theorem dX11_anyImage_13 : decode cX11_anyImage 13 = .ok (.ldc_w 403, 3) := by decide +kernel
theorem dX11_anyImage_16 : decode cX11_anyImage 16 = .ok (.invokespecial 141, 3) := by decide +kernel
theorem dX11_anyImage_19 : decode cX11_anyImage 19 = .ok (.athrow, 1) := by decide +kernel
theorem dX11_anyImage_20 : decode cX11_anyImage 20 = .ok (.aload_n 0, 1) := by decide +kernel
theorem dX11_anyImage_21 : decode cX11_anyImage 21 = .ok (.getfield 93, 3) := by decide +kernel
theorem dX11_anyImage_24 : decode cX11_anyImage 24 = .ok (.iload_n 1, 1) := by decide +kernel
theorem dX11_anyImage_25 : decode cX11_anyImage 25 = .ok (.aaload, 1) := by decide +kernel
theorem dX11_anyImage_26 : decode cX11_anyImage 26 = .ok (.areturn, 1) := by decide +kernel
theorem dX11_settle_0 : decode cX11_settle 0 = .ok (.aload_n 0, 1) := by decide +kernel
theorem dX11_settle_1 : decode cX11_settle 1 = .ok (.getfield 12, 3) := by decide +kernel
theorem dX11_settle_4 : decode cX11_settle 4 = .ok (.aload_n 1, 1) := by decide +kernel
theorem dX11_settle_5 : decode cX11_settle 5 = .ok (.invokevirtual 382, 3) := by decide +kernel
theorem dX11_settle_8 : decode cX11_settle 8 = .ok (.aload_n 0, 1) := by decide +kernel
theorem dX11_settle_9 : decode cX11_settle 9 = .ok (.getfield 21, 3) := by decide +kernel
theorem dX11_settle_12 : decode cX11_settle 12 = .ok (.invokevirtual 405, 3) := by decide +kernel
theorem dX11_settle_15 : decode cX11_settle 15 = .ok (.aload_n 0, 1) := by decide +kernel
theorem dX11_settle_16 : decode cX11_settle 16 = .ok (.getfield 37, 3) := by decide +kernel
theorem dX11_settle_19 : decode cX11_settle 19 = .ok (.aload_n 2, 1) := by decide +kernel
theorem dX11_settle_20 : decode cX11_settle 20 = .ok (.invokevirtual 177, 3) := by decide +kernel
theorem dX11_settle_23 : decode cX11_settle 23 = .ok (.aload_n 0, 1) := by decide +kernel
theorem dX11_settle_24 : decode cX11_settle 24 = .ok (.getfield 47, 3) := by decide +kernel
theorem dX11_settle_27 : decode cX11_settle 27 = .ok (.invokevirtual 408, 3) := by decide +kernel
theorem dX11_settle_30 : decode cX11_settle 30 = .ok (.return_, 1) := by decide +kernel
theorem dX11_seedsOrLacking_0 : decode cX11_seedsOrLacking 0 = .ok (.aload_n 0, 1) := by decide +kernel
theorem dX11_seedsOrLacking_1 : decode cX11_seedsOrLacking 1 = .ok (.getfield 12, 3) := by decide +kernel
theorem dX11_seedsOrLacking_4 : decode cX11_seedsOrLacking 4 = .ok (.iload_n 2, 1) := by decide +kernel
theorem dX11_seedsOrLacking_5 : decode cX11_seedsOrLacking 5 = .ok (.invokevirtual 411, 3) := by decide +kernel
theorem dX11_seedsOrLacking_8 : decode cX11_seedsOrLacking 8 = .ok (.ifCond .eq 7, 3) := by decide +kernel
theorem dX11_seedsOrLacking_11 : decode cX11_seedsOrLacking 11 = .ok (.iconst (-1), 1) := by decide +kernel
theorem dX11_seedsOrLacking_12 : decode cX11_seedsOrLacking 12 = .ok (.goto 9, 3) := by decide +kernel
theorem dX11_seedsOrLacking_15 : decode cX11_seedsOrLacking 15 = .ok (.aload_n 1, 1) := by decide +kernel
theorem dX11_seedsOrLacking_16 : decode cX11_seedsOrLacking 16 = .ok (.getfield 149, 3) := by decide +kernel
theorem dX11_seedsOrLacking_19 : decode cX11_seedsOrLacking 19 = .ok (.iload_n 2, 1) := by decide +kernel
theorem dX11_seedsOrLacking_20 : decode cX11_seedsOrLacking 20 = .ok (.iaload, 1) := by decide +kernel
theorem dX11_seedsOrLacking_21 : decode cX11_seedsOrLacking 21 = .ok (.ireturn, 1) := by decide +kernel
theorem dX11_isNotable_0 : decode cX11_isNotable 0 = .ok (.aload_n 0, 1) := by decide +kernel
theorem dX11_isNotable_1 : decode cX11_isNotable 1 = .ok (.getfield 41, 3) := by decide +kernel
theorem dX11_isNotable_4 : decode cX11_isNotable 4 = .ok (.aload_n 0, 1) := by decide +kernel
theorem dX11_isNotable_5 : decode cX11_isNotable 5 = .ok (.getfield 37, 3) := by decide +kernel
theorem dX11_isNotable_8 : decode cX11_isNotable 8 = .ok (.invokevirtual 177, 3) := by decide +kernel
theorem dX11_isNotable_11 : decode cX11_isNotable 11 = .ok (.aload_n 0, 1) := by decide +kernel
theorem dX11_isNotable_12 : decode cX11_isNotable 12 = .ok (.getfield 30, 3) := by decide +kernel
theorem dX11_isNotable_15 : decode cX11_isNotable 15 = .ok (.aload_n 0, 1) := by decide +kernel
theorem dX11_isNotable_16 : decode cX11_isNotable 16 = .ok (.getfield 41, 3) := by decide +kernel
theorem dX11_isNotable_19 : decode cX11_isNotable 19 = .ok (.iload_n 1, 1) := by decide +kernel
theorem dX11_isNotable_20 : decode cX11_isNotable 20 = .ok (.invokevirtual 164, 3) := by decide +kernel
theorem dX11_isNotable_23 : decode cX11_isNotable 23 = .ok (.pop, 1) := by decide +kernel
theorem dX11_isNotable_24 : decode cX11_isNotable 24 = .ok (.iload_n 2, 1) := by decide +kernel
theorem dX11_isNotable_25 : decode cX11_isNotable 25 = .ok (.lookupswitch 61 #[(0, 27), (1, 45)], 27) := by decide +kernel
theorem dX11_isNotable_52 : decode cX11_isNotable 52 = .ok (.aload_n 0, 1) := by decide +kernel
theorem dX11_isNotable_53 : decode cX11_isNotable 53 = .ok (.getfield 30, 3) := by decide +kernel
theorem dX11_isNotable_56 : decode cX11_isNotable 56 = .ok (.getfield 186, 3) := by decide +kernel
theorem dX11_isNotable_59 : decode cX11_isNotable 59 = .ok (.bipush 12, 2) := by decide +kernel
theorem dX11_isNotable_61 : decode cX11_isNotable 61 = .ok (.if_icmp .lt 7, 3) := by decide +kernel
theorem dX11_isNotable_64 : decode cX11_isNotable 64 = .ok (.iconst 1, 1) := by decide +kernel
theorem dX11_isNotable_65 : decode cX11_isNotable 65 = .ok (.goto 4, 3) := by decide +kernel
theorem dX11_isNotable_68 : decode cX11_isNotable 68 = .ok (.iconst 0, 1) := by decide +kernel
theorem dX11_isNotable_69 : decode cX11_isNotable 69 = .ok (.ireturn, 1) := by decide +kernel
theorem dX11_isNotable_70 : decode cX11_isNotable 70 = .ok (.aload_n 0, 1) := by decide +kernel
theorem dX11_isNotable_71 : decode cX11_isNotable 71 = .ok (.getfield 30, 3) := by decide +kernel
theorem dX11_isNotable_74 : decode cX11_isNotable 74 = .ok (.getfield 192, 3) := by decide +kernel
theorem dX11_isNotable_77 : decode cX11_isNotable 77 = .ok (.ifCond .le 7, 3) := by decide +kernel
theorem dX11_isNotable_80 : decode cX11_isNotable 80 = .ok (.iconst 1, 1) := by decide +kernel
theorem dX11_isNotable_81 : decode cX11_isNotable 81 = .ok (.goto 4, 3) := by decide +kernel
theorem dX11_isNotable_84 : decode cX11_isNotable 84 = .ok (.iconst 0, 1) := by decide +kernel
theorem dX11_isNotable_85 : decode cX11_isNotable 85 = .ok (.ireturn, 1) := by decide +kernel
theorem dX11_isNotable_86 : decode cX11_isNotable 86 = .ok (.aload_n 0, 1) := by decide +kernel
theorem dX11_isNotable_87 : decode cX11_isNotable 87 = .ok (.getfield 41, 3) := by decide +kernel
theorem dX11_isNotable_90 : decode cX11_isNotable 90 = .ok (.iconst 1, 1) := by decide +kernel
theorem dX11_isNotable_91 : decode cX11_isNotable 91 = .ok (.aload_n 0, 1) := by decide +kernel
theorem dX11_isNotable_92 : decode cX11_isNotable 92 = .ok (.getfield 37, 3) := by decide +kernel
theorem dX11_isNotable_95 : decode cX11_isNotable 95 = .ok (.getfield 153, 3) := by decide +kernel
theorem dX11_isNotable_98 : decode cX11_isNotable 98 = .ok (.isub, 1) := by decide +kernel
theorem dX11_isNotable_99 : decode cX11_isNotable 99 = .ok (.aload_n 0, 1) := by decide +kernel
theorem dX11_isNotable_100 : decode cX11_isNotable 100 = .ok (.getfield 12, 3) := by decide +kernel
theorem dX11_isNotable_103 : decode cX11_isNotable 103 = .ok (.getfield 134, 3) := by decide +kernel
theorem dX11_isNotable_106 : decode cX11_isNotable 106 = .ok (.invokevirtual 414, 3) := by decide +kernel
theorem dX11_isNotable_109 : decode cX11_isNotable 109 = .ok (.ifCond .ne 7, 3) := by decide +kernel
theorem dX11_isNotable_112 : decode cX11_isNotable 112 = .ok (.iconst 1, 1) := by decide +kernel
theorem dX11_isNotable_113 : decode cX11_isNotable 113 = .ok (.goto 4, 3) := by decide +kernel
theorem dX11_isNotable_116 : decode cX11_isNotable 116 = .ok (.iconst 0, 1) := by decide +kernel
theorem dX11_isNotable_117 : decode cX11_isNotable 117 = .ok (.ireturn, 1) := by decide +kernel
theorem dX11_toldOfPlay_0 : decode cX11_toldOfPlay 0 = .ok (.iload_n 1, 1) := by decide +kernel
theorem dX11_toldOfPlay_1 : decode cX11_toldOfPlay 1 = .ok (.lookupswitch 50 #[(0, 27), (1, 42)], 27) := by decide +kernel
theorem dX11_toldOfPlay_28 : decode cX11_toldOfPlay 28 = .ok (.aload_n 0, 1) := by decide +kernel
theorem dX11_toldOfPlay_29 : decode cX11_toldOfPlay 29 = .ok (.getfield 30, 3) := by decide +kernel
theorem dX11_toldOfPlay_32 : decode cX11_toldOfPlay 32 = .ok (.aload_n 0, 1) := by decide +kernel
theorem dX11_toldOfPlay_33 : decode cX11_toldOfPlay 33 = .ok (.getfield 72, 3) := by decide +kernel
theorem dX11_toldOfPlay_36 : decode cX11_toldOfPlay 36 = .ok (.getfield 312, 3) := by decide +kernel
theorem dX11_toldOfPlay_39 : decode cX11_toldOfPlay 39 = .ok (.invokevirtual 214, 3) := by decide +kernel
theorem dX11_toldOfPlay_42 : decode cX11_toldOfPlay 42 = .ok (.ireturn, 1) := by decide +kernel
theorem dX11_toldOfPlay_43 : decode cX11_toldOfPlay 43 = .ok (.aload_n 0, 1) := by decide +kernel
theorem dX11_toldOfPlay_44 : decode cX11_toldOfPlay 44 = .ok (.getfield 72, 3) := by decide +kernel
theorem dX11_toldOfPlay_47 : decode cX11_toldOfPlay 47 = .ok (.getfield 319, 3) := by decide +kernel
theorem dX11_toldOfPlay_50 : decode cX11_toldOfPlay 50 = .ok (.ireturn, 1) := by decide +kernel
theorem dX11_toldOfPlay_51 : decode cX11_toldOfPlay 51 = .ok (.aload_n 0, 1) := by decide +kernel
theorem dX11_toldOfPlay_52 : decode cX11_toldOfPlay 52 = .ok (.getfield 30, 3) := by decide +kernel
theorem dX11_toldOfPlay_55 : decode cX11_toldOfPlay 55 = .ok (.aload_n 0, 1) := by decide +kernel
theorem dX11_toldOfPlay_56 : decode cX11_toldOfPlay 56 = .ok (.getfield 72, 3) := by decide +kernel
theorem dX11_toldOfPlay_59 : decode cX11_toldOfPlay 59 = .ok (.getfield 312, 3) := by decide +kernel
theorem dX11_toldOfPlay_62 : decode cX11_toldOfPlay 62 = .ok (.invokevirtual 210, 3) := by decide +kernel
theorem dX11_toldOfPlay_65 : decode cX11_toldOfPlay 65 = .ok (.ifCond .eq 7, 3) := by decide +kernel
theorem dX11_toldOfPlay_68 : decode cX11_toldOfPlay 68 = .ok (.iconst 1, 1) := by decide +kernel
theorem dX11_toldOfPlay_69 : decode cX11_toldOfPlay 69 = .ok (.goto 4, 3) := by decide +kernel
theorem dX11_toldOfPlay_72 : decode cX11_toldOfPlay 72 = .ok (.iconst 0, 1) := by decide +kernel
theorem dX11_toldOfPlay_73 : decode cX11_toldOfPlay 73 = .ok (.ireturn, 1) := by decide +kernel
theorem dX12_init_0 : decode cX12_init 0 = .ok (.aload_n 0, 1) := by decide +kernel
theorem dX12_init_1 : decode cX12_init 1 = .ok (.invokespecial 1, 3) := by decide +kernel
theorem dX12_init_4 : decode cX12_init 4 = .ok (.aload_n 0, 1) := by decide +kernel
theorem dX12_init_5 : decode cX12_init 5 = .ok (.bipush 25, 2) := by decide +kernel
theorem dX12_init_7 : decode cX12_init 7 = .ok (.newarray .int, 2) := by decide +kernel
theorem dX12_init_9 : decode cX12_init 9 = .ok (.putfield 9, 3) := by decide +kernel
theorem dX12_init_12 : decode cX12_init 12 = .ok (.aload_n 0, 1) := by decide +kernel
theorem dX12_init_13 : decode cX12_init 13 = .ok (.bipush 25, 2) := by decide +kernel
theorem dX12_init_15 : decode cX12_init 15 = .ok (.newarray .int, 2) := by decide +kernel
theorem dX12_init_17 : decode cX12_init 17 = .ok (.putfield 13, 3) := by decide +kernel
theorem dX12_init_20 : decode cX12_init 20 = .ok (.aload_n 0, 1) := by decide +kernel
theorem dX12_init_21 : decode cX12_init 21 = .ok (.bipush 75, 2) := by decide +kernel
theorem dX12_init_23 : decode cX12_init 23 = .ok (.newarray .int, 2) := by decide +kernel
theorem dX12_init_25 : decode cX12_init 25 = .ok (.putfield 16, 3) := by decide +kernel
theorem dX12_init_28 : decode cX12_init 28 = .ok (.aload_n 0, 1) := by decide +kernel
theorem dX12_init_29 : decode cX12_init 29 = .ok (.bipush 25, 2) := by decide +kernel
theorem dX12_init_31 : decode cX12_init 31 = .ok (.newarray .int, 2) := by decide +kernel
theorem dX12_init_33 : decode cX12_init 33 = .ok (.putfield 19, 3) := by decide +kernel
theorem dX12_init_36 : decode cX12_init 36 = .ok (.aload_n 0, 1) := by decide +kernel
theorem dX12_init_37 : decode cX12_init 37 = .ok (.iconst 3, 1) := by decide +kernel
theorem dX12_init_38 : decode cX12_init 38 = .ok (.newarray .boolean, 2) := by decide +kernel
theorem dX12_init_40 : decode cX12_init 40 = .ok (.putfield 22, 3) := by decide +kernel
theorem dX12_init_43 : decode cX12_init 43 = .ok (.aload_n 0, 1) := by decide +kernel
theorem dX12_init_44 : decode cX12_init 44 = .ok (.sipush 500, 3) := by decide +kernel
theorem dX12_init_47 : decode cX12_init 47 = .ok (.newarray .int, 2) := by decide +kernel
theorem dX12_init_49 : decode cX12_init 49 = .ok (.putfield 26, 3) := by decide +kernel
theorem dX12_init_52 : decode cX12_init 52 = .ok (.aload_n 0, 1) := by decide +kernel
theorem dX12_init_53 : decode cX12_init 53 = .ok (.iconst (-1), 1) := by decide +kernel
theorem dX12_init_54 : decode cX12_init 54 = .ok (.putfield 29, 3) := by decide +kernel
theorem dX12_init_57 : decode cX12_init 57 = .ok (.aload_n 0, 1) := by decide +kernel
theorem dX12_init_58 : decode cX12_init 58 = .ok (.bipush 12, 2) := by decide +kernel
theorem dX12_init_60 : decode cX12_init 60 = .ok (.newarray .int, 2) := by decide +kernel
theorem dX12_init_62 : decode cX12_init 62 = .ok (.putfield 33, 3) := by decide +kernel
theorem dX12_init_65 : decode cX12_init 65 = .ok (.aload_n 0, 1) := by decide +kernel
theorem dX12_init_66 : decode cX12_init 66 = .ok (.sipush 1000, 3) := by decide +kernel
theorem dX12_init_69 : decode cX12_init 69 = .ok (.newarray .int, 2) := by decide +kernel
theorem dX12_init_71 : decode cX12_init 71 = .ok (.putfield 36, 3) := by decide +kernel
theorem dX12_init_74 : decode cX12_init 74 = .ok (.aload_n 0, 1) := by decide +kernel
theorem dX12_init_75 : decode cX12_init 75 = .ok (.bipush 40, 2) := by decide +kernel
theorem dX12_init_77 : decode cX12_init 77 = .ok (.newarray .int, 2) := by decide +kernel
theorem dX12_init_79 : decode cX12_init 79 = .ok (.putfield 39, 3) := by decide +kernel
theorem dX12_init_82 : decode cX12_init 82 = .ok (.aload_n 0, 1) := by decide +kernel
theorem dX12_init_83 : decode cX12_init 83 = .ok (.sipush 1000, 3) := by decide +kernel
theorem dX12_init_86 : decode cX12_init 86 = .ok (.newarray .int, 2) := by decide +kernel
theorem dX12_init_88 : decode cX12_init 88 = .ok (.putfield 42, 3) := by decide +kernel
theorem dX12_init_91 : decode cX12_init 91 = .ok (.aload_n 0, 1) := by decide +kernel
theorem dX12_init_92 : decode cX12_init 92 = .ok (.bipush 40, 2) := by decide +kernel
theorem dX12_init_94 : decode cX12_init 94 = .ok (.newarray .int, 2) := by decide +kernel
theorem dX12_init_96 : decode cX12_init 96 = .ok (.putfield 45, 3) := by decide +kernel
theorem dX12_init_99 : decode cX12_init 99 = .ok (.aload_n 0, 1) := by decide +kernel
theorem dX12_init_100 : decode cX12_init 100 = .ok (.bipush 12, 2) := by decide +kernel
theorem dX12_init_102 : decode cX12_init 102 = .ok (.newarray .int, 2) := by decide +kernel
theorem dX12_init_104 : decode cX12_init 104 = .ok (.putfield 48, 3) := by decide +kernel
theorem dX12_init_107 : decode cX12_init 107 = .ok (.aload_n 0, 1) := by decide +kernel
theorem dX12_init_108 : decode cX12_init 108 = .ok (.sipush 12000, 3) := by decide +kernel
theorem dX12_init_111 : decode cX12_init 111 = .ok (.newarray .int, 2) := by decide +kernel
theorem dX12_init_113 : decode cX12_init 113 = .ok (.putfield 51, 3) := by decide +kernel
theorem dX12_init_116 : decode cX12_init 116 = .ok (.aload_n 0, 1) := by decide +kernel
theorem dX12_init_117 : decode cX12_init 117 = .ok (.sipush 12000, 3) := by decide +kernel
theorem dX12_init_120 : decode cX12_init 120 = .ok (.newarray .int, 2) := by decide +kernel
theorem dX12_init_122 : decode cX12_init 122 = .ok (.putfield 54, 3) := by decide +kernel
theorem dX12_init_125 : decode cX12_init 125 = .ok (.aload_n 0, 1) := by decide +kernel
theorem dX12_init_126 : decode cX12_init 126 = .ok (.sipush 12000, 3) := by decide +kernel
theorem dX12_init_129 : decode cX12_init 129 = .ok (.newarray .int, 2) := by decide +kernel
theorem dX12_init_131 : decode cX12_init 131 = .ok (.putfield 57, 3) := by decide +kernel
theorem dX12_init_134 : decode cX12_init 134 = .ok (.aload_n 0, 1) := by decide +kernel
theorem dX12_init_135 : decode cX12_init 135 = .ok (.ldc 60, 2) := by decide +kernel
theorem dX12_init_137 : decode cX12_init 137 = .ok (.newarray .int, 2) := by decide +kernel
theorem dX12_init_139 : decode cX12_init 139 = .ok (.putfield 61, 3) := by decide +kernel
theorem dX12_init_142 : decode cX12_init 142 = .ok (.aload_n 0, 1) := by decide +kernel
theorem dX12_init_143 : decode cX12_init 143 = .ok (.ldc 60, 2) := by decide +kernel
theorem dX12_init_145 : decode cX12_init 145 = .ok (.newarray .int, 2) := by decide +kernel
theorem dX12_init_147 : decode cX12_init 147 = .ok (.putfield 64, 3) := by decide +kernel
theorem dX12_init_150 : decode cX12_init 150 = .ok (.aload_n 0, 1) := by decide +kernel
theorem dX12_init_151 : decode cX12_init 151 = .ok (.bipush 42, 2) := by decide +kernel
theorem dX12_init_153 : decode cX12_init 153 = .ok (.newarray .int, 2) := by decide +kernel
theorem dX12_init_155 : decode cX12_init 155 = .ok (.putfield 67, 3) := by decide +kernel
theorem dX12_init_158 : decode cX12_init 158 = .ok (.aload_n 0, 1) := by decide +kernel
theorem dX12_init_159 : decode cX12_init 159 = .ok (.sipush 12000, 3) := by decide +kernel
theorem dX12_init_162 : decode cX12_init 162 = .ok (.newarray .boolean, 2) := by decide +kernel
theorem dX12_init_164 : decode cX12_init 164 = .ok (.putfield 70, 3) := by decide +kernel
theorem dX12_init_167 : decode cX12_init 167 = .ok (.aload_n 0, 1) := by decide +kernel
theorem dX12_init_168 : decode cX12_init 168 = .ok (.bipush 12, 2) := by decide +kernel
theorem dX12_init_170 : decode cX12_init 170 = .ok (.newarray .int, 2) := by decide +kernel
theorem dX12_init_172 : decode cX12_init 172 = .ok (.putfield 73, 3) := by decide +kernel
theorem dX12_init_175 : decode cX12_init 175 = .ok (.aload_n 0, 1) := by decide +kernel
theorem dX12_init_176 : decode cX12_init 176 = .ok (.iconst (-1), 1) := by decide +kernel
theorem dX12_init_177 : decode cX12_init 177 = .ok (.putfield 76, 3) := by decide +kernel
theorem dX12_init_180 : decode cX12_init 180 = .ok (.aload_n 0, 1) := by decide +kernel
theorem dX12_init_181 : decode cX12_init 181 = .ok (.bipush 25, 2) := by decide +kernel
theorem dX12_init_183 : decode cX12_init 183 = .ok (.newarray .int, 2) := by decide +kernel
theorem dX12_init_185 : decode cX12_init 185 = .ok (.putfield 79, 3) := by decide +kernel
theorem dX12_init_188 : decode cX12_init 188 = .ok (.aload_n 0, 1) := by decide +kernel
theorem dX12_init_189 : decode cX12_init 189 = .ok (.bipush 60, 2) := by decide +kernel
theorem dX12_init_191 : decode cX12_init 191 = .ok (.newarray .int, 2) := by decide +kernel
theorem dX12_init_193 : decode cX12_init 193 = .ok (.putfield 82, 3) := by decide +kernel
theorem dX12_init_196 : decode cX12_init 196 = .ok (.aload_n 0, 1) := by decide +kernel
theorem dX12_init_197 : decode cX12_init 197 = .ok (.bipush 61, 2) := by decide +kernel
theorem dX12_init_199 : decode cX12_init 199 = .ok (.newarray .int, 2) := by decide +kernel
theorem dX12_init_201 : decode cX12_init 201 = .ok (.putfield 85, 3) := by decide +kernel
theorem dX12_init_204 : decode cX12_init 204 = .ok (.aload_n 0, 1) := by decide +kernel
theorem dX12_init_205 : decode cX12_init 205 = .ok (.sipush 175, 3) := by decide +kernel
theorem dX12_init_208 : decode cX12_init 208 = .ok (.newarray .int, 2) := by decide +kernel
theorem dX12_init_210 : decode cX12_init 210 = .ok (.putfield 88, 3) := by decide +kernel
theorem dX12_init_213 : decode cX12_init 213 = .ok (.aload_n 0, 1) := by decide +kernel
theorem dX12_init_214 : decode cX12_init 214 = .ok (.sipush 32500, 3) := by decide +kernel
theorem dX12_init_217 : decode cX12_init 217 = .ok (.newarray .int, 2) := by decide +kernel
theorem dX12_init_219 : decode cX12_init 219 = .ok (.putfield 91, 3) := by decide +kernel
theorem dX12_init_222 : decode cX12_init 222 = .ok (.aload_n 0, 1) := by decide +kernel
theorem dX12_init_223 : decode cX12_init 223 = .ok (.bipush 7, 2) := by decide +kernel
theorem dX12_init_225 : decode cX12_init 225 = .ok (.newarray .int, 2) := by decide +kernel
theorem dX12_init_227 : decode cX12_init 227 = .ok (.putfield 94, 3) := by decide +kernel
theorem dX12_init_230 : decode cX12_init 230 = .ok (.aload_n 0, 1) := by decide +kernel
theorem dX12_init_231 : decode cX12_init 231 = .ok (.iconst 4, 1) := by decide +kernel
theorem dX12_init_232 : decode cX12_init 232 = .ok (.newarray .int, 2) := by decide +kernel
theorem dX12_init_234 : decode cX12_init 234 = .ok (.dup, 1) := by decide +kernel
theorem dX12_init_235 : decode cX12_init 235 = .ok (.iconst 0, 1) := by decide +kernel
theorem dX12_init_236 : decode cX12_init 236 = .ok (.iconst (-1), 1) := by decide +kernel
theorem dX12_init_237 : decode cX12_init 237 = .ok (.iastore, 1) := by decide +kernel
theorem dX12_init_238 : decode cX12_init 238 = .ok (.dup, 1) := by decide +kernel
theorem dX12_init_239 : decode cX12_init 239 = .ok (.iconst 1, 1) := by decide +kernel
theorem dX12_init_240 : decode cX12_init 240 = .ok (.iconst (-1), 1) := by decide +kernel
theorem dX12_init_241 : decode cX12_init 241 = .ok (.iastore, 1) := by decide +kernel
theorem dX12_init_242 : decode cX12_init 242 = .ok (.dup, 1) := by decide +kernel
theorem dX12_init_243 : decode cX12_init 243 = .ok (.iconst 2, 1) := by decide +kernel
theorem dX12_init_244 : decode cX12_init 244 = .ok (.iconst (-1), 1) := by decide +kernel
theorem dX12_init_245 : decode cX12_init 245 = .ok (.iastore, 1) := by decide +kernel
theorem dX12_init_246 : decode cX12_init 246 = .ok (.dup, 1) := by decide +kernel
theorem dX12_init_247 : decode cX12_init 247 = .ok (.iconst 3, 1) := by decide +kernel
theorem dX12_init_248 : decode cX12_init 248 = .ok (.iconst (-1), 1) := by decide +kernel
theorem dX12_init_249 : decode cX12_init 249 = .ok (.iastore, 1) := by decide +kernel
theorem dX12_init_250 : decode cX12_init 250 = .ok (.putfield 97, 3) := by decide +kernel
theorem dX12_init_253 : decode cX12_init 253 = .ok (.aload_n 0, 1) := by decide +kernel
theorem dX12_init_254 : decode cX12_init 254 = .ok (.iconst 4, 1) := by decide +kernel
theorem dX12_init_255 : decode cX12_init 255 = .ok (.newarray .int, 2) := by decide +kernel
theorem dX12_init_257 : decode cX12_init 257 = .ok (.putfield 100, 3) := by decide +kernel
theorem dX12_init_260 : decode cX12_init 260 = .ok (.aload_n 0, 1) := by decide +kernel
theorem dX12_init_261 : decode cX12_init 261 = .ok (.sipush 160, 3) := by decide +kernel
theorem dX12_init_264 : decode cX12_init 264 = .ok (.newarray .long, 2) := by decide +kernel
theorem dX12_init_266 : decode cX12_init 266 = .ok (.putfield 103, 3) := by decide +kernel
theorem dX12_init_269 : decode cX12_init 269 = .ok (.aload_n 0, 1) := by decide +kernel
theorem dX12_init_270 : decode cX12_init 270 = .ok (.getfield 9, 3) := by decide +kernel
theorem dX12_init_273 : decode cX12_init 273 = .ok (.iconst 1, 1) := by decide +kernel
theorem dX12_init_274 : decode cX12_init 274 = .ok (.iconst 3, 1) := by decide +kernel
theorem dX12_init_275 : decode cX12_init 275 = .ok (.iastore, 1) := by decide +kernel
theorem dX12_init_276 : decode cX12_init 276 = .ok (.return_, 1) := by decide +kernel
theorem dX12_thrown_0 : decode cX12_thrown 0 = .ok (.aload_n 0, 1) := by decide +kernel
theorem dX12_thrown_1 : decode cX12_thrown 1 = .ok (.getfield 107, 3) := by decide +kernel
theorem dX12_thrown_4 : decode cX12_thrown 4 = .ok (.ireturn, 1) := by decide +kernel
theorem dX12_fails_0 : decode cX12_fails 0 = .ok (.aload_n 0, 1) := by decide +kernel
theorem dX12_fails_1 : decode cX12_fails 1 = .ok (.iload_n 1, 1) := by decide +kernel
theorem dX12_fails_2 : decode cX12_fails 2 = .ok (.putfield 107, 3) := by decide +kernel
theorem dX12_fails_5 : decode cX12_fails 5 = .ok (.iconst 0, 1) := by decide +kernel
theorem dX12_fails_6 : decode cX12_fails 6 = .ok (.ireturn, 1) := by decide +kernel
theorem dX12_within_0 : decode cX12_within 0 = .ok (.lload_n 0, 1) := by decide +kernel
theorem dX12_within_1 : decode cX12_within 1 = .ok (.lload_n 2, 1) := by decide +kernel
theorem dX12_within_2 : decode cX12_within 2 = .ok (.lcmp, 1) := by decide +kernel
theorem dX12_within_3 : decode cX12_within 3 = .ok (.ifCond .lt 14, 3) := by decide +kernel
theorem dX12_within_6 : decode cX12_within 6 = .ok (.lload_n 0, 1) := by decide +kernel
theorem dX12_within_7 : decode cX12_within 7 = .ok (.lload 4, 2) := by decide +kernel
theorem dX12_within_9 : decode cX12_within 9 = .ok (.lcmp, 1) := by decide +kernel
theorem dX12_within_10 : decode cX12_within 10 = .ok (.ifCond .gt 7, 3) := by decide +kernel
theorem dX12_within_13 : decode cX12_within 13 = .ok (.iconst 1, 1) := by decide +kernel
theorem dX12_within_14 : decode cX12_within 14 = .ok (.goto 4, 3) := by decide +kernel
theorem dX12_within_17 : decode cX12_within 17 = .ok (.iconst 0, 1) := by decide +kernel
theorem dX12_within_18 : decode cX12_within 18 = .ok (.ireturn, 1) := by decide +kernel
theorem dX12_copies_0 : decode cX12_copies 0 = .ok (.iconst 0, 1) := by decide +kernel
theorem dX12_copies_1 : decode cX12_copies 1 = .ok (.istore_n 2, 1) := by decide +kernel
theorem dX12_copies_2 : decode cX12_copies 2 = .ok (.iload_n 2, 1) := by decide +kernel
theorem dX12_copies_3 : decode cX12_copies 3 = .ok (.bipush 25, 2) := by decide +kernel
theorem dX12_copies_5 : decode cX12_copies 5 = .ok (.if_icmp .ge 15, 3) := by decide +kernel
theorem dX12_copies_8 : decode cX12_copies 8 = .ok (.aload_n 1, 1) := by decide +kernel
theorem dX12_copies_9 : decode cX12_copies 9 = .ok (.iload_n 2, 1) := by decide +kernel
theorem dX12_copies_10 : decode cX12_copies 10 = .ok (.aload_n 0, 1) := by decide +kernel
theorem dX12_copies_11 : decode cX12_copies 11 = .ok (.iload_n 2, 1) := by decide +kernel
theorem dX12_copies_12 : decode cX12_copies 12 = .ok (.iaload, 1) := by decide +kernel
theorem dX12_copies_13 : decode cX12_copies 13 = .ok (.iastore, 1) := by decide +kernel
theorem dX12_copies_14 : decode cX12_copies 14 = .ok (.iinc 2 1, 3) := by decide +kernel
theorem dX12_copies_17 : decode cX12_copies 17 = .ok (.goto (-15), 3) := by decide +kernel
theorem dX12_copies_20 : decode cX12_copies 20 = .ok (.return_, 1) := by decide +kernel
theorem dX12_feed_0 : decode cX12_feed 0 = .ok (.aload_n 0, 1) := by decide +kernel
theorem dX12_feed_1 : decode cX12_feed 1 = .ok (.iconst 0, 1) := by decide +kernel
theorem dX12_feed_2 : decode cX12_feed 2 = .ok (.putfield 107, 3) := by decide +kernel
theorem dX12_feed_5 : decode cX12_feed 5 = .ok (.aload_n 0, 1) := by decide +kernel
theorem dX12_feed_6 : decode cX12_feed 6 = .ok (.getfield 110, 3) := by decide +kernel
theorem dX12_feed_9 : decode cX12_feed 9 = .ok (.bipush 20, 2) := by decide +kernel
theorem dX12_feed_11 : decode cX12_feed 11 = .ok (.iadd, 1) := by decide +kernel
theorem dX12_feed_12 : decode cX12_feed 12 = .ok (.sipush 500, 3) := by decide +kernel
theorem dX12_feed_15 : decode cX12_feed 15 = .ok (.if_icmp .le 5, 3) := by decide +kernel
theorem dX12_feed_18 : decode cX12_feed 18 = .ok (.iconst (-1), 1) := by decide +kernel
theorem dX12_feed_19 : decode cX12_feed 19 = .ok (.ireturn, 1) := by decide +kernel
theorem dX12_feed_20 : decode cX12_feed 20 = .ok (.iconst 0, 1) := by decide +kernel
theorem dX12_feed_21 : decode cX12_feed 21 = .ok (.istore 6, 2) := by decide +kernel
theorem dX12_feed_23 : decode cX12_feed 23 = .ok (.iload 6, 2) := by decide +kernel
theorem dX12_feed_25 : decode cX12_feed 25 = .ok (.bipush 20, 2) := by decide +kernel
theorem dX12_feed_27 : decode cX12_feed 27 = .ok (.if_icmp .ge 93, 3) := by decide +kernel
theorem dX12_feed_30 : decode cX12_feed 30 = .ok (.iload 6, 2) := by decide +kernel
theorem dX12_feed_32 : decode cX12_feed 32 = .ok (.iconst 4, 1) := by decide +kernel
theorem dX12_feed_33 : decode cX12_feed 33 = .ok (.if_icmp .ge 7, 3) := by decide +kernel
theorem dX12_feed_36 : decode cX12_feed 36 = .ok (.iload_n 1, 1) := by decide +kernel
theorem dX12_feed_37 : decode cX12_feed 37 = .ok (.goto 39, 3) := by decide +kernel
theorem dX12_feed_40 : decode cX12_feed 40 = .ok (.iload 6, 2) := by decide +kernel
theorem dX12_feed_42 : decode cX12_feed 42 = .ok (.bipush 8, 2) := by decide +kernel
theorem dX12_feed_44 : decode cX12_feed 44 = .ok (.if_icmp .ge 7, 3) := by decide +kernel
theorem dX12_feed_47 : decode cX12_feed 47 = .ok (.iload_n 2, 1) := by decide +kernel
theorem dX12_feed_48 : decode cX12_feed 48 = .ok (.goto 28, 3) := by decide +kernel
theorem dX12_feed_51 : decode cX12_feed 51 = .ok (.iload 6, 2) := by decide +kernel
theorem dX12_feed_53 : decode cX12_feed 53 = .ok (.bipush 12, 2) := by decide +kernel
theorem dX12_feed_55 : decode cX12_feed 55 = .ok (.if_icmp .ge 7, 3) := by decide +kernel
theorem dX12_feed_58 : decode cX12_feed 58 = .ok (.iload_n 3, 1) := by decide +kernel
theorem dX12_feed_59 : decode cX12_feed 59 = .ok (.goto 17, 3) := by decide +kernel
theorem dX12_feed_62 : decode cX12_feed 62 = .ok (.iload 6, 2) := by decide +kernel
theorem dX12_feed_64 : decode cX12_feed 64 = .ok (.bipush 16, 2) := by decide +kernel
theorem dX12_feed_66 : decode cX12_feed 66 = .ok (.if_icmp .ge 8, 3) := by decide +kernel
theorem dX12_feed_69 : decode cX12_feed 69 = .ok (.iload 4, 2) := by decide +kernel
theorem dX12_feed_71 : decode cX12_feed 71 = .ok (.goto 5, 3) := by decide +kernel
theorem dX12_feed_74 : decode cX12_feed 74 = .ok (.iload 5, 2) := by decide +kernel
theorem dX12_feed_76 : decode cX12_feed 76 = .ok (.istore 7, 2) := by decide +kernel
theorem dX12_feed_78 : decode cX12_feed 78 = .ok (.aload_n 0, 1) := by decide +kernel
theorem dX12_feed_79 : decode cX12_feed 79 = .ok (.getfield 26, 3) := by decide +kernel
theorem dX12_feed_82 : decode cX12_feed 82 = .ok (.aload_n 0, 1) := by decide +kernel
theorem dX12_feed_83 : decode cX12_feed 83 = .ok (.getfield 110, 3) := by decide +kernel
theorem dX12_feed_86 : decode cX12_feed 86 = .ok (.iload 7, 2) := by decide +kernel
theorem dX12_feed_88 : decode cX12_feed 88 = .ok (.bipush 24, 2) := by decide +kernel
theorem dX12_feed_90 : decode cX12_feed 90 = .ok (.bipush 8, 2) := by decide +kernel
theorem dX12_feed_92 : decode cX12_feed 92 = .ok (.iload 6, 2) := by decide +kernel
theorem dX12_feed_94 : decode cX12_feed 94 = .ok (.iconst 3, 1) := by decide +kernel
theorem dX12_feed_95 : decode cX12_feed 95 = .ok (.iand, 1) := by decide +kernel
theorem dX12_feed_96 : decode cX12_feed 96 = .ok (.imul, 1) := by decide +kernel
theorem dX12_feed_97 : decode cX12_feed 97 = .ok (.isub, 1) := by decide +kernel
theorem dX12_feed_98 : decode cX12_feed 98 = .ok (.iushr, 1) := by decide +kernel
theorem dX12_feed_99 : decode cX12_feed 99 = .ok (.sipush 255, 3) := by decide +kernel
theorem dX12_feed_102 : decode cX12_feed 102 = .ok (.iand, 1) := by decide +kernel
theorem dX12_feed_103 : decode cX12_feed 103 = .ok (.iastore, 1) := by decide +kernel
theorem dX12_feed_104 : decode cX12_feed 104 = .ok (.aload_n 0, 1) := by decide +kernel
theorem dX12_feed_105 : decode cX12_feed 105 = .ok (.dup, 1) := by decide +kernel
theorem dX12_feed_106 : decode cX12_feed 106 = .ok (.getfield 110, 3) := by decide +kernel
theorem dX12_feed_109 : decode cX12_feed 109 = .ok (.iconst 1, 1) := by decide +kernel
theorem dX12_feed_110 : decode cX12_feed 110 = .ok (.iadd, 1) := by decide +kernel
theorem dX12_feed_111 : decode cX12_feed 111 = .ok (.putfield 110, 3) := by decide +kernel
theorem dX12_feed_114 : decode cX12_feed 114 = .ok (.iinc 6 1, 3) := by decide +kernel
theorem dX12_feed_117 : decode cX12_feed 117 = .ok (.goto (-94), 3) := by decide +kernel
theorem dX12_feed_120 : decode cX12_feed 120 = .ok (.aload_n 0, 1) := by decide +kernel
theorem dX12_feed_121 : decode cX12_feed 121 = .ok (.getfield 110, 3) := by decide +kernel
theorem dX12_feed_124 : decode cX12_feed 124 = .ok (.ireturn, 1) := by decide +kernel
theorem dX12_see_0 : decode cX12_see 0 = .ok (.iload_n 1, 1) := by decide +kernel
theorem dX12_see_1 : decode cX12_see 1 = .ok (.aload_n 0, 1) := by decide +kernel
theorem dX12_see_2 : decode cX12_see 2 = .ok (.getfield 113, 3) := by decide +kernel
theorem dX12_see_5 : decode cX12_see 5 = .ok (.if_icmp .ge 12, 3) := by decide +kernel
theorem dX12_see_8 : decode cX12_see 8 = .ok (.aload_n 0, 1) := by decide +kernel
theorem dX12_see_9 : decode cX12_see 9 = .ok (.getfield 26, 3) := by decide +kernel
theorem dX12_see_12 : decode cX12_see 12 = .ok (.iload_n 1, 1) := by decide +kernel
theorem dX12_see_13 : decode cX12_see 13 = .ok (.iaload, 1) := by decide +kernel
theorem dX12_see_14 : decode cX12_see 14 = .ok (.goto 4, 3) := by decide +kernel
theorem dX12_see_17 : decode cX12_see 17 = .ok (.iconst 0, 1) := by decide +kernel
theorem dX12_see_18 : decode cX12_see 18 = .ok (.ireturn, 1) := by decide +kernel
theorem dX12_isLetter_0 : decode cX12_isLetter 0 = .ok (.iload_n 0, 1) := by decide +kernel
theorem dX12_isLetter_1 : decode cX12_isLetter 1 = .ok (.bipush 97, 2) := by decide +kernel
theorem dX12_isLetter_3 : decode cX12_isLetter 3 = .ok (.if_icmp .lt 13, 3) := by decide +kernel
theorem dX12_isLetter_6 : decode cX12_isLetter 6 = .ok (.iload_n 0, 1) := by decide +kernel
theorem dX12_isLetter_7 : decode cX12_isLetter 7 = .ok (.bipush 122, 2) := by decide +kernel
theorem dX12_isLetter_9 : decode cX12_isLetter 9 = .ok (.if_icmp .gt 7, 3) := by decide +kernel
theorem dX12_isLetter_12 : decode cX12_isLetter 12 = .ok (.iconst 1, 1) := by decide +kernel
theorem dX12_isLetter_13 : decode cX12_isLetter 13 = .ok (.goto 4, 3) := by decide +kernel
theorem dX12_isLetter_16 : decode cX12_isLetter 16 = .ok (.iconst 0, 1) := by decide +kernel
theorem dX12_isLetter_17 : decode cX12_isLetter 17 = .ok (.ireturn, 1) := by decide +kernel
theorem dX12_isDigit_0 : decode cX12_isDigit 0 = .ok (.iload_n 0, 1) := by decide +kernel
theorem dX12_isDigit_1 : decode cX12_isDigit 1 = .ok (.bipush 48, 2) := by decide +kernel
theorem dX12_isDigit_3 : decode cX12_isDigit 3 = .ok (.if_icmp .lt 13, 3) := by decide +kernel
theorem dX12_isDigit_6 : decode cX12_isDigit 6 = .ok (.iload_n 0, 1) := by decide +kernel
theorem dX12_isDigit_7 : decode cX12_isDigit 7 = .ok (.bipush 57, 2) := by decide +kernel
theorem dX12_isDigit_9 : decode cX12_isDigit 9 = .ok (.if_icmp .gt 7, 3) := by decide +kernel
theorem dX12_isDigit_12 : decode cX12_isDigit 12 = .ok (.iconst 1, 1) := by decide +kernel
theorem dX12_isDigit_13 : decode cX12_isDigit 13 = .ok (.goto 4, 3) := by decide +kernel
theorem dX12_isDigit_16 : decode cX12_isDigit 16 = .ok (.iconst 0, 1) := by decide +kernel
theorem dX12_isDigit_17 : decode cX12_isDigit 17 = .ok (.ireturn, 1) := by decide +kernel
theorem dX12_reads_0 : decode cX12_reads 0 = .ok (.aload_n 0, 1) := by decide +kernel
theorem dX12_reads_1 : decode cX12_reads 1 = .ok (.getfield 116, 3) := by decide +kernel
theorem dX12_reads_4 : decode cX12_reads 4 = .ok (.aload_n 0, 1) := by decide +kernel
theorem dX12_reads_5 : decode cX12_reads 5 = .ok (.getfield 113, 3) := by decide +kernel
theorem dX12_reads_8 : decode cX12_reads 8 = .ok (.if_icmp .ge 44, 3) := by decide +kernel
theorem dX12_reads_11 : decode cX12_reads 11 = .ok (.aload_n 0, 1) := by decide +kernel
theorem dX12_reads_12 : decode cX12_reads 12 = .ok (.getfield 26, 3) := by decide +kernel
theorem dX12_reads_15 : decode cX12_reads 15 = .ok (.aload_n 0, 1) := by decide +kernel
theorem dX12_reads_16 : decode cX12_reads 16 = .ok (.getfield 116, 3) := by decide +kernel
theorem dX12_reads_19 : decode cX12_reads 19 = .ok (.iaload, 1) := by decide +kernel
theorem dX12_reads_20 : decode cX12_reads 20 = .ok (.bipush 32, 2) := by decide +kernel
theorem dX12_reads_22 : decode cX12_reads 22 = .ok (.if_icmp .eq 17, 3) := by decide +kernel
theorem dX12_reads_25 : decode cX12_reads 25 = .ok (.aload_n 0, 1) := by decide +kernel
theorem dX12_reads_26 : decode cX12_reads 26 = .ok (.getfield 26, 3) := by decide +kernel
theorem dX12_reads_29 : decode cX12_reads 29 = .ok (.aload_n 0, 1) := by decide +kernel
theorem dX12_reads_30 : decode cX12_reads 30 = .ok (.getfield 116, 3) := by decide +kernel
theorem dX12_reads_33 : decode cX12_reads 33 = .ok (.iaload, 1) := by decide +kernel
theorem dX12_reads_34 : decode cX12_reads 34 = .ok (.bipush 10, 2) := by decide +kernel
theorem dX12_reads_36 : decode cX12_reads 36 = .ok (.if_icmp .ne 16, 3) := by decide +kernel
theorem dX12_reads_39 : decode cX12_reads 39 = .ok (.aload_n 0, 1) := by decide +kernel
theorem dX12_reads_40 : decode cX12_reads 40 = .ok (.dup, 1) := by decide +kernel
theorem dX12_reads_41 : decode cX12_reads 41 = .ok (.getfield 116, 3) := by decide +kernel
theorem dX12_reads_44 : decode cX12_reads 44 = .ok (.iconst 1, 1) := by decide +kernel
theorem dX12_reads_45 : decode cX12_reads 45 = .ok (.iadd, 1) := by decide +kernel
theorem dX12_reads_46 : decode cX12_reads 46 = .ok (.putfield 116, 3) := by decide +kernel
theorem dX12_reads_49 : decode cX12_reads 49 = .ok (.goto (-49), 3) := by decide +kernel
theorem dX12_reads_52 : decode cX12_reads 52 = .ok (.aload_n 0, 1) := by decide +kernel
theorem dX12_reads_53 : decode cX12_reads 53 = .ok (.aload_n 0, 1) := by decide +kernel
theorem dX12_reads_54 : decode cX12_reads 54 = .ok (.getfield 116, 3) := by decide +kernel
theorem dX12_reads_57 : decode cX12_reads 57 = .ok (.putfield 119, 3) := by decide +kernel
theorem dX12_reads_60 : decode cX12_reads 60 = .ok (.aload_n 0, 1) := by decide +kernel
theorem dX12_reads_61 : decode cX12_reads 61 = .ok (.getfield 116, 3) := by decide +kernel
theorem dX12_reads_64 : decode cX12_reads 64 = .ok (.aload_n 0, 1) := by decide +kernel
theorem dX12_reads_65 : decode cX12_reads 65 = .ok (.getfield 113, 3) := by decide +kernel
theorem dX12_reads_68 : decode cX12_reads 68 = .ok (.if_icmp .lt 9, 3) := by decide +kernel
theorem dX12_reads_71 : decode cX12_reads 71 = .ok (.aload_n 0, 1) := by decide +kernel
theorem dX12_reads_72 : decode cX12_reads 72 = .ok (.iconst 0, 1) := by decide +kernel
theorem dX12_reads_73 : decode cX12_reads 73 = .ok (.putfield 122, 3) := by decide +kernel
theorem dX12_reads_76 : decode cX12_reads 76 = .ok (.return_, 1) := by decide +kernel
theorem dX12_reads_77 : decode cX12_reads 77 = .ok (.aload_n 0, 1) := by decide +kernel
theorem dX12_reads_78 : decode cX12_reads 78 = .ok (.getfield 26, 3) := by decide +kernel
theorem dX12_reads_81 : decode cX12_reads 81 = .ok (.aload_n 0, 1) := by decide +kernel
theorem dX12_reads_82 : decode cX12_reads 82 = .ok (.getfield 116, 3) := by decide +kernel
theorem dX12_reads_85 : decode cX12_reads 85 = .ok (.iaload, 1) := by decide +kernel
theorem dX12_reads_86 : decode cX12_reads 86 = .ok (.istore_n 1, 1) := by decide +kernel
theorem dX12_reads_87 : decode cX12_reads 87 = .ok (.iload_n 1, 1) := by decide +kernel
theorem dX12_reads_88 : decode cX12_reads 88 = .ok (.invokestatic 125, 3) := by decide +kernel
theorem dX12_reads_91 : decode cX12_reads 91 = .ok (.ifCond .eq 38, 3) := by decide +kernel
theorem dX12_reads_94 : decode cX12_reads 94 = .ok (.aload_n 0, 1) := by decide +kernel
theorem dX12_reads_95 : decode cX12_reads 95 = .ok (.aload_n 0, 1) := by decide +kernel
theorem dX12_reads_96 : decode cX12_reads 96 = .ok (.getfield 116, 3) := by decide +kernel
theorem dX12_reads_99 : decode cX12_reads 99 = .ok (.invokevirtual 129, 3) := by decide +kernel
theorem dX12_reads_102 : decode cX12_reads 102 = .ok (.invokestatic 125, 3) := by decide +kernel
theorem dX12_reads_105 : decode cX12_reads 105 = .ok (.ifCond .eq 16, 3) := by decide +kernel
theorem dX12_reads_108 : decode cX12_reads 108 = .ok (.aload_n 0, 1) := by decide +kernel
theorem dX12_reads_109 : decode cX12_reads 109 = .ok (.dup, 1) := by decide +kernel
theorem dX12_reads_110 : decode cX12_reads 110 = .ok (.getfield 116, 3) := by decide +kernel
theorem dX12_reads_113 : decode cX12_reads 113 = .ok (.iconst 1, 1) := by decide +kernel
theorem dX12_reads_114 : decode cX12_reads 114 = .ok (.iadd, 1) := by decide +kernel
theorem dX12_reads_115 : decode cX12_reads 115 = .ok (.putfield 116, 3) := by decide +kernel
theorem dX12_reads_118 : decode cX12_reads 118 = .ok (.goto (-24), 3) := by decide +kernel
theorem dX12_reads_121 : decode cX12_reads 121 = .ok (.aload_n 0, 1) := by decide +kernel
theorem dX12_reads_122 : decode cX12_reads 122 = .ok (.iconst 1, 1) := by decide +kernel
theorem dX12_reads_123 : decode cX12_reads 123 = .ok (.putfield 122, 3) := by decide +kernel
theorem dX12_reads_126 : decode cX12_reads 126 = .ok (.goto 136, 3) := by decide +kernel
theorem dX12_reads_129 : decode cX12_reads 129 = .ok (.iload_n 1, 1) := by decide +kernel
theorem dX12_reads_130 : decode cX12_reads 130 = .ok (.invokestatic 133, 3) := by decide +kernel
theorem dX12_reads_133 : decode cX12_reads 133 = .ok (.ifCond .eq 104, 3) := by decide +kernel
theorem dX12_reads_136 : decode cX12_reads 136 = .ok (.aload_n 0, 1) := by decide +kernel
theorem dX12_reads_137 : decode cX12_reads 137 = .ok (.iconst 0, 1) := by decide +kernel
theorem dX12_reads_138 : decode cX12_reads 138 = .ok (.putfield 136, 3) := by decide +kernel
theorem dX12_reads_141 : decode cX12_reads 141 = .ok (.aload_n 0, 1) := by decide +kernel
theorem dX12_reads_142 : decode cX12_reads 142 = .ok (.aload_n 0, 1) := by decide +kernel
theorem dX12_reads_143 : decode cX12_reads 143 = .ok (.getfield 116, 3) := by decide +kernel
theorem dX12_reads_146 : decode cX12_reads 146 = .ok (.invokevirtual 129, 3) := by decide +kernel
theorem dX12_reads_149 : decode cX12_reads 149 = .ok (.invokestatic 133, 3) := by decide +kernel
theorem dX12_reads_152 : decode cX12_reads 152 = .ok (.ifCond .eq 60, 3) := by decide +kernel
theorem dX12_reads_155 : decode cX12_reads 155 = .ok (.aload_n 0, 1) := by decide +kernel
theorem dX12_reads_156 : decode cX12_reads 156 = .ok (.aload_n 0, 1) := by decide +kernel
theorem dX12_reads_157 : decode cX12_reads 157 = .ok (.getfield 116, 3) := by decide +kernel
theorem dX12_reads_160 : decode cX12_reads 160 = .ok (.aload_n 0, 1) := by decide +kernel
theorem dX12_reads_161 : decode cX12_reads 161 = .ok (.getfield 119, 3) := by decide +kernel
theorem dX12_reads_164 : decode cX12_reads 164 = .ok (.isub, 1) := by decide +kernel
theorem dX12_reads_165 : decode cX12_reads 165 = .ok (.iconst 3, 1) := by decide +kernel
theorem dX12_reads_166 : decode cX12_reads 166 = .ok (.if_icmp .ge 26, 3) := by decide +kernel
theorem dX12_reads_169 : decode cX12_reads 169 = .ok (.bipush 10, 2) := by decide +kernel
theorem dX12_reads_171 : decode cX12_reads 171 = .ok (.aload_n 0, 1) := by decide +kernel
theorem dX12_reads_172 : decode cX12_reads 172 = .ok (.getfield 136, 3) := by decide +kernel
theorem dX12_reads_175 : decode cX12_reads 175 = .ok (.imul, 1) := by decide +kernel
theorem dX12_reads_176 : decode cX12_reads 176 = .ok (.aload_n 0, 1) := by decide +kernel
theorem dX12_reads_177 : decode cX12_reads 177 = .ok (.getfield 26, 3) := by decide +kernel
theorem dX12_reads_180 : decode cX12_reads 180 = .ok (.aload_n 0, 1) := by decide +kernel
theorem dX12_reads_181 : decode cX12_reads 181 = .ok (.getfield 116, 3) := by decide +kernel
theorem dX12_reads_184 : decode cX12_reads 184 = .ok (.iaload, 1) := by decide +kernel
theorem dX12_reads_185 : decode cX12_reads 185 = .ok (.iadd, 1) := by decide +kernel
theorem dX12_reads_186 : decode cX12_reads 186 = .ok (.bipush 48, 2) := by decide +kernel
theorem dX12_reads_188 : decode cX12_reads 188 = .ok (.isub, 1) := by decide +kernel
theorem dX12_reads_189 : decode cX12_reads 189 = .ok (.goto 7, 3) := by decide +kernel
theorem dX12_reads_192 : decode cX12_reads 192 = .ok (.aload_n 0, 1) := by decide +kernel
theorem dX12_reads_193 : decode cX12_reads 193 = .ok (.getfield 136, 3) := by decide +kernel
theorem dX12_reads_196 : decode cX12_reads 196 = .ok (.putfield 136, 3) := by decide +kernel
theorem dX12_reads_199 : decode cX12_reads 199 = .ok (.aload_n 0, 1) := by decide +kernel
theorem dX12_reads_200 : decode cX12_reads 200 = .ok (.dup, 1) := by decide +kernel
theorem dX12_reads_201 : decode cX12_reads 201 = .ok (.getfield 116, 3) := by decide +kernel
theorem dX12_reads_204 : decode cX12_reads 204 = .ok (.iconst 1, 1) := by decide +kernel
theorem dX12_reads_205 : decode cX12_reads 205 = .ok (.iadd, 1) := by decide +kernel
theorem dX12_reads_206 : decode cX12_reads 206 = .ok (.putfield 116, 3) := by decide +kernel
theorem dX12_reads_209 : decode cX12_reads 209 = .ok (.goto (-68), 3) := by decide +kernel
theorem dX12_reads_212 : decode cX12_reads 212 = .ok (.aload_n 0, 1) := by decide +kernel
theorem dX12_reads_213 : decode cX12_reads 213 = .ok (.aload_n 0, 1) := by decide +kernel
theorem dX12_reads_214 : decode cX12_reads 214 = .ok (.getfield 116, 3) := by decide +kernel
theorem dX12_reads_217 : decode cX12_reads 217 = .ok (.aload_n 0, 1) := by decide +kernel
theorem dX12_reads_218 : decode cX12_reads 218 = .ok (.getfield 119, 3) := by decide +kernel
theorem dX12_reads_221 : decode cX12_reads 221 = .ok (.isub, 1) := by decide +kernel
theorem dX12_reads_222 : decode cX12_reads 222 = .ok (.iconst 3, 1) := by decide +kernel
theorem dX12_reads_223 : decode cX12_reads 223 = .ok (.if_icmp .le 7, 3) := by decide +kernel
theorem dX12_reads_226 : decode cX12_reads 226 = .ok (.iconst 4, 1) := by decide +kernel
theorem dX12_reads_227 : decode cX12_reads 227 = .ok (.goto 4, 3) := by decide +kernel
theorem dX12_reads_230 : decode cX12_reads 230 = .ok (.iconst 2, 1) := by decide +kernel
theorem dX12_reads_231 : decode cX12_reads 231 = .ok (.putfield 122, 3) := by decide +kernel
theorem dX12_reads_234 : decode cX12_reads 234 = .ok (.goto 28, 3) := by decide +kernel
theorem dX12_reads_237 : decode cX12_reads 237 = .ok (.aload_n 0, 1) := by decide +kernel
theorem dX12_reads_238 : decode cX12_reads 238 = .ok (.iload_n 1, 1) := by decide +kernel
theorem dX12_reads_239 : decode cX12_reads 239 = .ok (.bipush 59, 2) := by decide +kernel
theorem dX12_reads_241 : decode cX12_reads 241 = .ok (.if_icmp .ne 7, 3) := by decide +kernel
theorem dX12_reads_244 : decode cX12_reads 244 = .ok (.iconst 3, 1) := by decide +kernel
theorem dX12_reads_245 : decode cX12_reads 245 = .ok (.goto 4, 3) := by decide +kernel
theorem dX12_reads_248 : decode cX12_reads 248 = .ok (.iconst 4, 1) := by decide +kernel
theorem dX12_reads_249 : decode cX12_reads 249 = .ok (.putfield 122, 3) := by decide +kernel
theorem dX12_reads_252 : decode cX12_reads 252 = .ok (.aload_n 0, 1) := by decide +kernel
theorem dX12_reads_253 : decode cX12_reads 253 = .ok (.dup, 1) := by decide +kernel
theorem dX12_reads_254 : decode cX12_reads 254 = .ok (.getfield 116, 3) := by decide +kernel
theorem dX12_reads_257 : decode cX12_reads 257 = .ok (.iconst 1, 1) := by decide +kernel
theorem dX12_reads_258 : decode cX12_reads 258 = .ok (.iadd, 1) := by decide +kernel
theorem dX12_reads_259 : decode cX12_reads 259 = .ok (.putfield 116, 3) := by decide +kernel
theorem dX12_reads_262 : decode cX12_reads 262 = .ok (.return_, 1) := by decide +kernel
theorem dX12_blames_0 : decode cX12_blames 0 = .ok (.aload_n 0, 1) := by decide +kernel
theorem dX12_blames_1 : decode cX12_blames 1 = .ok (.getfield 139, 3) := by decide +kernel
theorem dX12_blames_4 : decode cX12_blames 4 = .ok (.ifCond .eq 4, 3) := by decide +kernel
theorem dX12_blames_7 : decode cX12_blames 7 = .ok (.return_, 1) := by decide +kernel
theorem dX12_blames_8 : decode cX12_blames 8 = .ok (.aload_n 0, 1) := by decide +kernel
theorem dX12_blames_9 : decode cX12_blames 9 = .ok (.aload_n 0, 1) := by decide +kernel
theorem dX12_blames_10 : decode cX12_blames 10 = .ok (.getfield 122, 3) := by decide +kernel
theorem dX12_blames_13 : decode cX12_blames 13 = .ok (.iconst 4, 1) := by decide +kernel
theorem dX12_blames_14 : decode cX12_blames 14 = .ok (.if_icmp .ne 7, 3) := by decide +kernel
theorem dX12_blames_17 : decode cX12_blames 17 = .ok (.iconst 1, 1) := by decide +kernel
theorem dX12_blames_18 : decode cX12_blames 18 = .ok (.goto 4, 3) := by decide +kernel
theorem dX12_blames_21 : decode cX12_blames 21 = .ok (.iload_n 1, 1) := by decide +kernel
theorem dX12_blames_22 : decode cX12_blames 22 = .ok (.putfield 139, 3) := by decide +kernel
theorem dX12_blames_25 : decode cX12_blames 25 = .ok (.aload_n 0, 1) := by decide +kernel
theorem dX12_blames_26 : decode cX12_blames 26 = .ok (.aload_n 0, 1) := by decide +kernel
theorem dX12_blames_27 : decode cX12_blames 27 = .ok (.getfield 119, 3) := by decide +kernel
theorem dX12_blames_30 : decode cX12_blames 30 = .ok (.putfield 142, 3) := by decide +kernel
theorem dX12_blames_33 : decode cX12_blames 33 = .ok (.return_, 1) := by decide +kernel
theorem dX12_isWord_0 : decode cX12_isWord 0 = .ok (.aload_n 0, 1) := by decide +kernel
theorem dX12_isWord_1 : decode cX12_isWord 1 = .ok (.getfield 139, 3) := by decide +kernel
theorem dX12_isWord_4 : decode cX12_isWord 4 = .ok (.ifCond .ne 31, 3) := by decide +kernel
theorem dX12_isWord_7 : decode cX12_isWord 7 = .ok (.aload_n 0, 1) := by decide +kernel
theorem dX12_isWord_8 : decode cX12_isWord 8 = .ok (.getfield 122, 3) := by decide +kernel
theorem dX12_isWord_11 : decode cX12_isWord 11 = .ok (.iconst 1, 1) := by decide +kernel
theorem dX12_isWord_12 : decode cX12_isWord 12 = .ok (.if_icmp .ne 23, 3) := by decide +kernel
theorem dX12_isWord_15 : decode cX12_isWord 15 = .ok (.aload_n 0, 1) := by decide +kernel
theorem dX12_isWord_16 : decode cX12_isWord 16 = .ok (.getfield 116, 3) := by decide +kernel
theorem dX12_isWord_19 : decode cX12_isWord 19 = .ok (.aload_n 0, 1) := by decide +kernel
theorem dX12_isWord_20 : decode cX12_isWord 20 = .ok (.getfield 119, 3) := by decide +kernel
theorem dX12_isWord_23 : decode cX12_isWord 23 = .ok (.isub, 1) := by decide +kernel
theorem dX12_isWord_24 : decode cX12_isWord 24 = .ok (.aload_n 1, 1) := by decide +kernel
theorem dX12_isWord_25 : decode cX12_isWord 25 = .ok (.invokevirtual 145, 3) := by decide +kernel
theorem dX12_isWord_28 : decode cX12_isWord 28 = .ok (.if_icmp .ne 7, 3) := by decide +kernel
theorem dX12_isWord_31 : decode cX12_isWord 31 = .ok (.iconst 1, 1) := by decide +kernel
theorem dX12_isWord_32 : decode cX12_isWord 32 = .ok (.goto 4, 3) := by decide +kernel
theorem dX12_isWord_35 : decode cX12_isWord 35 = .ok (.iconst 0, 1) := by decide +kernel
theorem dX12_isWord_36 : decode cX12_isWord 36 = .ok (.istore_n 2, 1) := by decide +kernel
theorem dX12_isWord_37 : decode cX12_isWord 37 = .ok (.iconst 0, 1) := by decide +kernel
theorem dX12_isWord_38 : decode cX12_isWord 38 = .ok (.istore_n 3, 1) := by decide +kernel
theorem dX12_isWord_39 : decode cX12_isWord 39 = .ok (.iload_n 2, 1) := by decide +kernel
theorem dX12_isWord_40 : decode cX12_isWord 40 = .ok (.ifCond .eq 42, 3) := by decide +kernel
theorem dX12_isWord_43 : decode cX12_isWord 43 = .ok (.iload_n 3, 1) := by decide +kernel
theorem dX12_isWord_44 : decode cX12_isWord 44 = .ok (.aload_n 1, 1) := by decide +kernel
theorem dX12_isWord_45 : decode cX12_isWord 45 = .ok (.invokevirtual 145, 3) := by decide +kernel
theorem dX12_isWord_48 : decode cX12_isWord 48 = .ok (.if_icmp .ge 34, 3) := by decide +kernel
theorem dX12_isWord_51 : decode cX12_isWord 51 = .ok (.aload_n 0, 1) := by decide +kernel
theorem dX12_isWord_52 : decode cX12_isWord 52 = .ok (.getfield 26, 3) := by decide +kernel
theorem dX12_isWord_55 : decode cX12_isWord 55 = .ok (.aload_n 0, 1) := by decide +kernel
theorem dX12_isWord_56 : decode cX12_isWord 56 = .ok (.getfield 119, 3) := by decide +kernel
theorem dX12_isWord_59 : decode cX12_isWord 59 = .ok (.iload_n 3, 1) := by decide +kernel
theorem dX12_isWord_60 : decode cX12_isWord 60 = .ok (.iadd, 1) := by decide +kernel
theorem dX12_isWord_61 : decode cX12_isWord 61 = .ok (.iaload, 1) := by decide +kernel
theorem dX12_isWord_62 : decode cX12_isWord 62 = .ok (.aload_n 1, 1) := by decide +kernel
theorem dX12_isWord_63 : decode cX12_isWord 63 = .ok (.iload_n 3, 1) := by decide +kernel
theorem dX12_isWord_64 : decode cX12_isWord 64 = .ok (.invokevirtual 151, 3) := by decide +kernel
theorem dX12_isWord_67 : decode cX12_isWord 67 = .ok (.if_icmp .ne 7, 3) := by decide +kernel
theorem dX12_isWord_70 : decode cX12_isWord 70 = .ok (.iconst 1, 1) := by decide +kernel
theorem dX12_isWord_71 : decode cX12_isWord 71 = .ok (.goto 4, 3) := by decide +kernel
theorem dX12_isWord_74 : decode cX12_isWord 74 = .ok (.iconst 0, 1) := by decide +kernel
theorem dX12_isWord_75 : decode cX12_isWord 75 = .ok (.istore_n 2, 1) := by decide +kernel
theorem dX12_isWord_76 : decode cX12_isWord 76 = .ok (.iinc 3 1, 3) := by decide +kernel
theorem dX12_isWord_79 : decode cX12_isWord 79 = .ok (.goto (-40), 3) := by decide +kernel
theorem dX12_isWord_82 : decode cX12_isWord 82 = .ok (.iload_n 2, 1) := by decide +kernel
theorem dX12_isWord_83 : decode cX12_isWord 83 = .ok (.ireturn, 1) := by decide +kernel
theorem dX12_took_0 : decode cX12_took 0 = .ok (.aload_n 0, 1) := by decide +kernel
theorem dX12_took_1 : decode cX12_took 1 = .ok (.aload_n 1, 1) := by decide +kernel
theorem dX12_took_2 : decode cX12_took 2 = .ok (.invokevirtual 155, 3) := by decide +kernel
theorem dX12_took_5 : decode cX12_took 5 = .ok (.istore_n 2, 1) := by decide +kernel
theorem dX12_took_6 : decode cX12_took 6 = .ok (.iload_n 2, 1) := by decide +kernel
theorem dX12_took_7 : decode cX12_took 7 = .ok (.ifCond .eq 7, 3) := by decide +kernel
theorem dX12_took_10 : decode cX12_took 10 = .ok (.aload_n 0, 1) := by decide +kernel
theorem dX12_took_11 : decode cX12_took 11 = .ok (.invokevirtual 159, 3) := by decide +kernel
theorem dX12_took_14 : decode cX12_took 14 = .ok (.iload_n 2, 1) := by decide +kernel
theorem dX12_took_15 : decode cX12_took 15 = .ok (.ireturn, 1) := by decide +kernel
theorem dX12_number_0 : decode cX12_number 0 = .ok (.aload_n 0, 1) := by decide +kernel
theorem dX12_number_1 : decode cX12_number 1 = .ok (.getfield 122, 3) := by decide +kernel
theorem dX12_number_4 : decode cX12_number 4 = .ok (.iconst 2, 1) := by decide +kernel
theorem dX12_number_5 : decode cX12_number 5 = .ok (.if_icmp .eq 11, 3) := by decide +kernel
theorem dX12_number_8 : decode cX12_number 8 = .ok (.aload_n 0, 1) := by decide +kernel
theorem dX12_number_9 : decode cX12_number 9 = .ok (.iconst 2, 1) := by decide +kernel
theorem dX12_number_10 : decode cX12_number 10 = .ok (.invokevirtual 162, 3) := by decide +kernel
theorem dX12_number_13 : decode cX12_number 13 = .ok (.goto 23, 3) := by decide +kernel
theorem dX12_number_16 : decode cX12_number 16 = .ok (.aload_n 0, 1) := by decide +kernel
theorem dX12_number_17 : decode cX12_number 17 = .ok (.getfield 136, 3) := by decide +kernel
theorem dX12_number_20 : decode cX12_number 20 = .ok (.i2l, 1) := by decide +kernel
theorem dX12_number_21 : decode cX12_number 21 = .ok (.iload_n 1, 1) := by decide +kernel
theorem dX12_number_22 : decode cX12_number 22 = .ok (.i2l, 1) := by decide +kernel
theorem dX12_number_23 : decode cX12_number 23 = .ok (.iload_n 2, 1) := by decide +kernel
theorem dX12_number_24 : decode cX12_number 24 = .ok (.i2l, 1) := by decide +kernel
theorem dX12_number_25 : decode cX12_number 25 = .ok (.invokestatic 166, 3) := by decide +kernel
theorem dX12_number_28 : decode cX12_number 28 = .ok (.ifCond .ne 8, 3) := by decide +kernel
theorem dX12_number_31 : decode cX12_number 31 = .ok (.aload_n 0, 1) := by decide +kernel
theorem dX12_number_32 : decode cX12_number 32 = .ok (.iconst 3, 1) := by decide +kernel
theorem dX12_number_33 : decode cX12_number 33 = .ok (.invokevirtual 162, 3) := by decide +kernel
theorem dX12_number_36 : decode cX12_number 36 = .ok (.aload_n 0, 1) := by decide +kernel
theorem dX12_number_37 : decode cX12_number 37 = .ok (.getfield 136, 3) := by decide +kernel
theorem dX12_number_40 : decode cX12_number 40 = .ok (.istore_n 3, 1) := by decide +kernel
theorem dX12_number_41 : decode cX12_number 41 = .ok (.aload_n 0, 1) := by decide +kernel
theorem dX12_number_42 : decode cX12_number 42 = .ok (.getfield 139, 3) := by decide +kernel
theorem dX12_number_45 : decode cX12_number 45 = .ok (.ifCond .ne 7, 3) := by decide +kernel
theorem dX12_number_48 : decode cX12_number 48 = .ok (.aload_n 0, 1) := by decide +kernel
theorem dX12_number_49 : decode cX12_number 49 = .ok (.invokevirtual 159, 3) := by decide +kernel
theorem dX12_number_52 : decode cX12_number 52 = .ok (.aload_n 0, 1) := by decide +kernel
theorem dX12_number_53 : decode cX12_number 53 = .ok (.getfield 139, 3) := by decide +kernel
theorem dX12_number_56 : decode cX12_number 56 = .ok (.ifCond .ne 7, 3) := by decide +kernel
theorem dX12_number_59 : decode cX12_number 59 = .ok (.iload_n 3, 1) := by decide +kernel
theorem dX12_number_60 : decode cX12_number 60 = .ok (.goto 4, 3) := by decide +kernel
theorem dX12_number_63 : decode cX12_number 63 = .ok (.iload_n 1, 1) := by decide +kernel
theorem dX12_number_64 : decode cX12_number 64 = .ok (.ireturn, 1) := by decide +kernel
theorem dX12_readLay_0 : decode cX12_readLay 0 = .ok (.iconst 0, 1) := by decide +kernel
theorem dX12_readLay_1 : decode cX12_readLay 1 = .ok (.istore_n 1, 1) := by decide +kernel
theorem dX12_readLay_2 : decode cX12_readLay 2 = .ok (.iload_n 1, 1) := by decide +kernel
theorem dX12_readLay_3 : decode cX12_readLay 3 = .ok (.iconst 2, 1) := by decide +kernel
theorem dX12_readLay_4 : decode cX12_readLay 4 = .ok (.aload_n 0, 1) := by decide +kernel
theorem dX12_readLay_5 : decode cX12_readLay 5 = .ok (.getfield 13, 3) := by decide +kernel
theorem dX12_readLay_8 : decode cX12_readLay 8 = .ok (.iconst 1, 1) := by decide +kernel
theorem dX12_readLay_9 : decode cX12_readLay 9 = .ok (.iaload, 1) := by decide +kernel
theorem dX12_readLay_10 : decode cX12_readLay 10 = .ok (.imul, 1) := by decide +kernel
theorem dX12_readLay_11 : decode cX12_readLay 11 = .ok (.if_icmp .ne 31, 3) := by decide +kernel
theorem dX12_readLay_14 : decode cX12_readLay 14 = .ok (.aload_n 0, 1) := by decide +kernel
theorem dX12_readLay_15 : decode cX12_readLay 15 = .ok (.getfield 122, 3) := by decide +kernel
theorem dX12_readLay_18 : decode cX12_readLay 18 = .ok (.iconst 2, 1) := by decide +kernel
theorem dX12_readLay_19 : decode cX12_readLay 19 = .ok (.if_icmp .ne 23, 3) := by decide +kernel
theorem dX12_readLay_22 : decode cX12_readLay 22 = .ok (.aload_n 0, 1) := by decide +kernel
theorem dX12_readLay_23 : decode cX12_readLay 23 = .ok (.getfield 136, 3) := by decide +kernel
theorem dX12_readLay_26 : decode cX12_readLay 26 = .ok (.i2l, 1) := by decide +kernel
theorem dX12_readLay_27 : decode cX12_readLay 27 = .ok (.lconst 0, 1) := by decide +kernel
theorem dX12_readLay_28 : decode cX12_readLay 28 = .ok (.ldc2_w 170, 3) := by decide +kernel
theorem dX12_readLay_31 : decode cX12_readLay 31 = .ok (.invokestatic 166, 3) := by decide +kernel
theorem dX12_readLay_34 : decode cX12_readLay 34 = .ok (.ifCond .eq 8, 3) := by decide +kernel
theorem dX12_readLay_37 : decode cX12_readLay 37 = .ok (.aload_n 0, 1) := by decide +kernel
theorem dX12_readLay_38 : decode cX12_readLay 38 = .ok (.iconst 4, 1) := by decide +kernel
theorem dX12_readLay_39 : decode cX12_readLay 39 = .ok (.invokevirtual 162, 3) := by decide +kernel
theorem dX12_readLay_42 : decode cX12_readLay 42 = .ok (.aload_n 0, 1) := by decide +kernel
theorem dX12_readLay_43 : decode cX12_readLay 43 = .ok (.iconst 0, 1) := by decide +kernel
theorem dX12_readLay_44 : decode cX12_readLay 44 = .ok (.bipush 20, 2) := by decide +kernel
theorem dX12_readLay_46 : decode cX12_readLay 46 = .ok (.invokevirtual 172, 3) := by decide +kernel
theorem dX12_readLay_49 : decode cX12_readLay 49 = .ok (.istore_n 2, 1) := by decide +kernel
theorem dX12_readLay_50 : decode cX12_readLay 50 = .ok (.aload_n 0, 1) := by decide +kernel
theorem dX12_readLay_51 : decode cX12_readLay 51 = .ok (.getfield 139, 3) := by decide +kernel
theorem dX12_readLay_54 : decode cX12_readLay 54 = .ok (.ifCond .eq 4, 3) := by decide +kernel
theorem dX12_readLay_57 : decode cX12_readLay 57 = .ok (.return_, 1) := by decide +kernel
theorem dX12_readLay_58 : decode cX12_readLay 58 = .ok (.aload_n 0, 1) := by decide +kernel
theorem dX12_readLay_59 : decode cX12_readLay 59 = .ok (.getfield 13, 3) := by decide +kernel
theorem dX12_readLay_62 : decode cX12_readLay 62 = .ok (.bipush 13, 2) := by decide +kernel
theorem dX12_readLay_64 : decode cX12_readLay 64 = .ok (.iload_n 1, 1) := by decide +kernel
theorem dX12_readLay_65 : decode cX12_readLay 65 = .ok (.iadd, 1) := by decide +kernel
theorem dX12_readLay_66 : decode cX12_readLay 66 = .ok (.iload_n 2, 1) := by decide +kernel
theorem dX12_readLay_67 : decode cX12_readLay 67 = .ok (.iastore, 1) := by decide +kernel
theorem dX12_readLay_68 : decode cX12_readLay 68 = .ok (.iinc 1 1, 3) := by decide +kernel
theorem dX12_readLay_71 : decode cX12_readLay 71 = .ok (.aload_n 0, 1) := by decide +kernel
theorem dX12_readLay_72 : decode cX12_readLay 72 = .ok (.getfield 122, 3) := by decide +kernel
theorem dX12_readLay_75 : decode cX12_readLay 75 = .ok (.iconst 2, 1) := by decide +kernel
theorem dX12_readLay_76 : decode cX12_readLay 76 = .ok (.if_icmp .eq (-74), 3) := by decide +kernel
theorem dX12_readLay_79 : decode cX12_readLay 79 = .ok (.return_, 1) := by decide +kernel
theorem dX12_readTake_0 : decode cX12_readTake 0 = .ok (.aload_n 0, 1) := by decide +kernel
theorem dX12_readTake_1 : decode cX12_readTake 1 = .ok (.ldc 176, 2) := by decide +kernel
theorem dX12_readTake_3 : decode cX12_readTake 3 = .ok (.invokevirtual 155, 3) := by decide +kernel
theorem dX12_readTake_6 : decode cX12_readTake 6 = .ok (.ifCond .eq 7, 3) := by decide +kernel
theorem dX12_readTake_9 : decode cX12_readTake 9 = .ok (.iconst 0, 1) := by decide +kernel
theorem dX12_readTake_10 : decode cX12_readTake 10 = .ok (.goto 30, 3) := by decide +kernel
theorem dX12_readTake_13 : decode cX12_readTake 13 = .ok (.aload_n 0, 1) := by decide +kernel
theorem dX12_readTake_14 : decode cX12_readTake 14 = .ok (.ldc 178, 2) := by decide +kernel
theorem dX12_readTake_16 : decode cX12_readTake 16 = .ok (.invokevirtual 155, 3) := by decide +kernel
theorem dX12_readTake_19 : decode cX12_readTake 19 = .ok (.ifCond .eq 7, 3) := by decide +kernel
theorem dX12_readTake_22 : decode cX12_readTake 22 = .ok (.iconst 1, 1) := by decide +kernel
theorem dX12_readTake_23 : decode cX12_readTake 23 = .ok (.goto 17, 3) := by decide +kernel
theorem dX12_readTake_26 : decode cX12_readTake 26 = .ok (.aload_n 0, 1) := by decide +kernel
theorem dX12_readTake_27 : decode cX12_readTake 27 = .ok (.ldc 180, 2) := by decide +kernel
theorem dX12_readTake_29 : decode cX12_readTake 29 = .ok (.invokevirtual 155, 3) := by decide +kernel
theorem dX12_readTake_32 : decode cX12_readTake 32 = .ok (.ifCond .eq 7, 3) := by decide +kernel
theorem dX12_readTake_35 : decode cX12_readTake 35 = .ok (.iconst 2, 1) := by decide +kernel
theorem dX12_readTake_36 : decode cX12_readTake 36 = .ok (.goto 4, 3) := by decide +kernel
theorem dX12_readTake_39 : decode cX12_readTake 39 = .ok (.iconst (-1), 1) := by decide +kernel
theorem dX12_readTake_40 : decode cX12_readTake 40 = .ok (.istore_n 1, 1) := by decide +kernel
theorem dX12_readTake_41 : decode cX12_readTake 41 = .ok (.iload_n 1, 1) := by decide +kernel
theorem dX12_readTake_42 : decode cX12_readTake 42 = .ok (.iconst (-1), 1) := by decide +kernel
theorem dX12_readTake_43 : decode cX12_readTake 43 = .ok (.if_icmp .ne 8, 3) := by decide +kernel
theorem dX12_readTake_46 : decode cX12_readTake 46 = .ok (.aload_n 0, 1) := by decide +kernel
theorem dX12_readTake_47 : decode cX12_readTake 47 = .ok (.iconst 2, 1) := by decide +kernel
theorem dX12_readTake_48 : decode cX12_readTake 48 = .ok (.invokevirtual 162, 3) := by decide +kernel
theorem dX12_readTake_51 : decode cX12_readTake 51 = .ok (.aload_n 0, 1) := by decide +kernel
theorem dX12_readTake_52 : decode cX12_readTake 52 = .ok (.getfield 139, 3) := by decide +kernel
theorem dX12_readTake_55 : decode cX12_readTake 55 = .ok (.ifCond .eq 4, 3) := by decide +kernel
theorem dX12_readTake_58 : decode cX12_readTake 58 = .ok (.return_, 1) := by decide +kernel
theorem dX12_readTake_59 : decode cX12_readTake 59 = .ok (.aload_n 0, 1) := by decide +kernel
theorem dX12_readTake_60 : decode cX12_readTake 60 = .ok (.invokevirtual 159, 3) := by decide +kernel
theorem dX12_readTake_63 : decode cX12_readTake 63 = .ok (.aload_n 0, 1) := by decide +kernel
theorem dX12_readTake_64 : decode cX12_readTake 64 = .ok (.getfield 13, 3) := by decide +kernel
theorem dX12_readTake_67 : decode cX12_readTake 67 = .ok (.bipush 7, 2) := by decide +kernel
theorem dX12_readTake_69 : decode cX12_readTake 69 = .ok (.iload_n 1, 1) := by decide +kernel
theorem dX12_readTake_70 : decode cX12_readTake 70 = .ok (.iastore, 1) := by decide +kernel
theorem dX12_readTake_71 : decode cX12_readTake 71 = .ok (.aload_n 0, 1) := by decide +kernel
theorem dX12_readTake_72 : decode cX12_readTake 72 = .ok (.getfield 13, 3) := by decide +kernel
theorem dX12_readTake_75 : decode cX12_readTake 75 = .ok (.bipush 8, 2) := by decide +kernel
theorem dX12_readTake_77 : decode cX12_readTake 77 = .ok (.iload_n 1, 1) := by decide +kernel
theorem dX12_readTake_78 : decode cX12_readTake 78 = .ok (.iconst 2, 1) := by decide +kernel
theorem dX12_readTake_79 : decode cX12_readTake 79 = .ok (.if_icmp .ne 16, 3) := by decide +kernel
theorem dX12_readTake_82 : decode cX12_readTake 82 = .ok (.aload_n 0, 1) := by decide +kernel
theorem dX12_readTake_83 : decode cX12_readTake 83 = .ok (.ldc 182, 2) := by decide +kernel
theorem dX12_readTake_85 : decode cX12_readTake 85 = .ok (.invokevirtual 184, 3) := by decide +kernel
theorem dX12_readTake_88 : decode cX12_readTake 88 = .ok (.ifCond .eq 7, 3) := by decide +kernel
theorem dX12_readTake_91 : decode cX12_readTake 91 = .ok (.iconst 1, 1) := by decide +kernel
theorem dX12_readTake_92 : decode cX12_readTake 92 = .ok (.goto 4, 3) := by decide +kernel
theorem dX12_readTake_95 : decode cX12_readTake 95 = .ok (.iconst 0, 1) := by decide +kernel
theorem dX12_readTake_96 : decode cX12_readTake 96 = .ok (.iastore, 1) := by decide +kernel
theorem dX12_readTake_97 : decode cX12_readTake 97 = .ok (.return_, 1) := by decide +kernel
theorem dX12_readLine_0 : decode cX12_readLine 0 = .ok (.iload_n 1, 1) := by decide +kernel
theorem dX12_readLine_1 : decode cX12_readLine 1 = .ok (.ifCond .eq 28, 3) := by decide +kernel
theorem dX12_readLine_4 : decode cX12_readLine 4 = .ok (.aload_n 0, 1) := by decide +kernel
theorem dX12_readLine_5 : decode cX12_readLine 5 = .ok (.ldc 187, 2) := by decide +kernel
theorem dX12_readLine_7 : decode cX12_readLine 7 = .ok (.invokevirtual 184, 3) := by decide +kernel
theorem dX12_readLine_10 : decode cX12_readLine 10 = .ok (.ifCond .eq 19, 3) := by decide +kernel
theorem dX12_readLine_13 : decode cX12_readLine 13 = .ok (.aload_n 0, 1) := by decide +kernel
theorem dX12_readLine_14 : decode cX12_readLine 14 = .ok (.getfield 13, 3) := by decide +kernel
theorem dX12_readLine_17 : decode cX12_readLine 17 = .ok (.iconst 1, 1) := by decide +kernel
theorem dX12_readLine_18 : decode cX12_readLine 18 = .ok (.aload_n 0, 1) := by decide +kernel
theorem dX12_readLine_19 : decode cX12_readLine 19 = .ok (.iconst 1, 1) := by decide +kernel
theorem dX12_readLine_20 : decode cX12_readLine 20 = .ok (.bipush 6, 2) := by decide +kernel
theorem dX12_readLine_22 : decode cX12_readLine 22 = .ok (.invokevirtual 172, 3) := by decide +kernel
theorem dX12_readLine_25 : decode cX12_readLine 25 = .ok (.iastore, 1) := by decide +kernel
theorem dX12_readLine_26 : decode cX12_readLine 26 = .ok (.goto 215, 3) := by decide +kernel
theorem dX12_readLine_29 : decode cX12_readLine 29 = .ok (.aload_n 0, 1) := by decide +kernel
theorem dX12_readLine_30 : decode cX12_readLine 30 = .ok (.ldc 189, 2) := by decide +kernel
theorem dX12_readLine_32 : decode cX12_readLine 32 = .ok (.invokevirtual 184, 3) := by decide +kernel
theorem dX12_readLine_35 : decode cX12_readLine 35 = .ok (.ifCond .eq 10, 3) := by decide +kernel
theorem dX12_readLine_38 : decode cX12_readLine 38 = .ok (.aload_n 0, 1) := by decide +kernel
theorem dX12_readLine_39 : decode cX12_readLine 39 = .ok (.invokevirtual 191, 3) := by decide +kernel
theorem dX12_readLine_42 : decode cX12_readLine 42 = .ok (.goto 199, 3) := by decide +kernel
theorem dX12_readLine_45 : decode cX12_readLine 45 = .ok (.aload_n 0, 1) := by decide +kernel
theorem dX12_readLine_46 : decode cX12_readLine 46 = .ok (.ldc 194, 2) := by decide +kernel
theorem dX12_readLine_48 : decode cX12_readLine 48 = .ok (.invokevirtual 184, 3) := by decide +kernel
theorem dX12_readLine_51 : decode cX12_readLine 51 = .ok (.ifCond .eq 10, 3) := by decide +kernel
theorem dX12_readLine_54 : decode cX12_readLine 54 = .ok (.aload_n 0, 1) := by decide +kernel
theorem dX12_readLine_55 : decode cX12_readLine 55 = .ok (.invokevirtual 196, 3) := by decide +kernel
theorem dX12_readLine_58 : decode cX12_readLine 58 = .ok (.goto 183, 3) := by decide +kernel
theorem dX12_readLine_61 : decode cX12_readLine 61 = .ok (.aload_n 0, 1) := by decide +kernel
theorem dX12_readLine_62 : decode cX12_readLine 62 = .ok (.ldc 199, 2) := by decide +kernel
theorem dX12_readLine_64 : decode cX12_readLine 64 = .ok (.invokevirtual 184, 3) := by decide +kernel
theorem dX12_readLine_67 : decode cX12_readLine 67 = .ok (.ifCond .eq 25, 3) := by decide +kernel
theorem dX12_readLine_70 : decode cX12_readLine 70 = .ok (.aload_n 0, 1) := by decide +kernel
theorem dX12_readLine_71 : decode cX12_readLine 71 = .ok (.aload_n 0, 1) := by decide +kernel
theorem dX12_readLine_72 : decode cX12_readLine 72 = .ok (.iconst 0, 1) := by decide +kernel
theorem dX12_readLine_73 : decode cX12_readLine 73 = .ok (.iconst 2, 1) := by decide +kernel
theorem dX12_readLine_74 : decode cX12_readLine 74 = .ok (.aload_n 0, 1) := by decide +kernel
theorem dX12_readLine_75 : decode cX12_readLine 75 = .ok (.getfield 13, 3) := by decide +kernel
theorem dX12_readLine_78 : decode cX12_readLine 78 = .ok (.iconst 1, 1) := by decide +kernel
theorem dX12_readLine_79 : decode cX12_readLine 79 = .ok (.iaload, 1) := by decide +kernel
theorem dX12_readLine_80 : decode cX12_readLine 80 = .ok (.imul, 1) := by decide +kernel
theorem dX12_readLine_81 : decode cX12_readLine 81 = .ok (.iconst 1, 1) := by decide +kernel
theorem dX12_readLine_82 : decode cX12_readLine 82 = .ok (.isub, 1) := by decide +kernel
theorem dX12_readLine_83 : decode cX12_readLine 83 = .ok (.invokevirtual 172, 3) := by decide +kernel
theorem dX12_readLine_86 : decode cX12_readLine 86 = .ok (.invokevirtual 201, 3) := by decide +kernel
theorem dX12_readLine_89 : decode cX12_readLine 89 = .ok (.goto 152, 3) := by decide +kernel
theorem dX12_readLine_92 : decode cX12_readLine 92 = .ok (.aload_n 0, 1) := by decide +kernel
theorem dX12_readLine_93 : decode cX12_readLine 93 = .ok (.ldc 204, 2) := by decide +kernel
theorem dX12_readLine_95 : decode cX12_readLine 95 = .ok (.invokevirtual 184, 3) := by decide +kernel
theorem dX12_readLine_98 : decode cX12_readLine 98 = .ok (.ifCond .eq 18, 3) := by decide +kernel
theorem dX12_readLine_101 : decode cX12_readLine 101 = .ok (.aload_n 0, 1) := by decide +kernel
theorem dX12_readLine_102 : decode cX12_readLine 102 = .ok (.getfield 13, 3) := by decide +kernel
theorem dX12_readLine_105 : decode cX12_readLine 105 = .ok (.iconst 2, 1) := by decide +kernel
theorem dX12_readLine_106 : decode cX12_readLine 106 = .ok (.aload_n 0, 1) := by decide +kernel
theorem dX12_readLine_107 : decode cX12_readLine 107 = .ok (.iconst 0, 1) := by decide +kernel
theorem dX12_readLine_108 : decode cX12_readLine 108 = .ok (.iconst 1, 1) := by decide +kernel
theorem dX12_readLine_109 : decode cX12_readLine 109 = .ok (.invokevirtual 172, 3) := by decide +kernel
theorem dX12_readLine_112 : decode cX12_readLine 112 = .ok (.iastore, 1) := by decide +kernel
theorem dX12_readLine_113 : decode cX12_readLine 113 = .ok (.goto 128, 3) := by decide +kernel
theorem dX12_readLine_116 : decode cX12_readLine 116 = .ok (.aload_n 0, 1) := by decide +kernel
theorem dX12_readLine_117 : decode cX12_readLine 117 = .ok (.ldc 206, 2) := by decide +kernel
theorem dX12_readLine_119 : decode cX12_readLine 119 = .ok (.invokevirtual 184, 3) := by decide +kernel
theorem dX12_readLine_122 : decode cX12_readLine 122 = .ok (.ifCond .eq 13, 3) := by decide +kernel
theorem dX12_readLine_125 : decode cX12_readLine 125 = .ok (.aload_n 0, 1) := by decide +kernel
theorem dX12_readLine_126 : decode cX12_readLine 126 = .ok (.getfield 13, 3) := by decide +kernel
theorem dX12_readLine_129 : decode cX12_readLine 129 = .ok (.iconst 4, 1) := by decide +kernel
theorem dX12_readLine_130 : decode cX12_readLine 130 = .ok (.iconst 1, 1) := by decide +kernel
theorem dX12_readLine_131 : decode cX12_readLine 131 = .ok (.iastore, 1) := by decide +kernel
theorem dX12_readLine_132 : decode cX12_readLine 132 = .ok (.goto 109, 3) := by decide +kernel
theorem dX12_readLine_135 : decode cX12_readLine 135 = .ok (.aload_n 0, 1) := by decide +kernel
theorem dX12_readLine_136 : decode cX12_readLine 136 = .ok (.ldc 208, 2) := by decide +kernel
theorem dX12_readLine_138 : decode cX12_readLine 138 = .ok (.invokevirtual 184, 3) := by decide +kernel
theorem dX12_readLine_141 : decode cX12_readLine 141 = .ok (.ifCond .eq 13, 3) := by decide +kernel
theorem dX12_readLine_144 : decode cX12_readLine 144 = .ok (.aload_n 0, 1) := by decide +kernel
theorem dX12_readLine_145 : decode cX12_readLine 145 = .ok (.getfield 13, 3) := by decide +kernel
theorem dX12_readLine_148 : decode cX12_readLine 148 = .ok (.iconst 5, 1) := by decide +kernel
theorem dX12_readLine_149 : decode cX12_readLine 149 = .ok (.iconst 1, 1) := by decide +kernel
theorem dX12_readLine_150 : decode cX12_readLine 150 = .ok (.iastore, 1) := by decide +kernel
theorem dX12_readLine_151 : decode cX12_readLine 151 = .ok (.goto 90, 3) := by decide +kernel
theorem dX12_readLine_154 : decode cX12_readLine 154 = .ok (.aload_n 0, 1) := by decide +kernel
theorem dX12_readLine_155 : decode cX12_readLine 155 = .ok (.ldc 210, 2) := by decide +kernel
theorem dX12_readLine_157 : decode cX12_readLine 157 = .ok (.invokevirtual 184, 3) := by decide +kernel
theorem dX12_readLine_160 : decode cX12_readLine 160 = .ok (.ifCond .eq 20, 3) := by decide +kernel
theorem dX12_readLine_163 : decode cX12_readLine 163 = .ok (.aload_n 0, 1) := by decide +kernel
theorem dX12_readLine_164 : decode cX12_readLine 164 = .ok (.getfield 13, 3) := by decide +kernel
theorem dX12_readLine_167 : decode cX12_readLine 167 = .ok (.bipush 6, 2) := by decide +kernel
theorem dX12_readLine_169 : decode cX12_readLine 169 = .ok (.aload_n 0, 1) := by decide +kernel
theorem dX12_readLine_170 : decode cX12_readLine 170 = .ok (.iconst 1, 1) := by decide +kernel
theorem dX12_readLine_171 : decode cX12_readLine 171 = .ok (.bipush 20, 2) := by decide +kernel
theorem dX12_readLine_173 : decode cX12_readLine 173 = .ok (.invokevirtual 172, 3) := by decide +kernel
theorem dX12_readLine_176 : decode cX12_readLine 176 = .ok (.iastore, 1) := by decide +kernel
theorem dX12_readLine_177 : decode cX12_readLine 177 = .ok (.goto 64, 3) := by decide +kernel
theorem dX12_readLine_180 : decode cX12_readLine 180 = .ok (.aload_n 0, 1) := by decide +kernel
theorem dX12_readLine_181 : decode cX12_readLine 181 = .ok (.ldc 212, 2) := by decide +kernel
theorem dX12_readLine_183 : decode cX12_readLine 183 = .ok (.invokevirtual 184, 3) := by decide +kernel
theorem dX12_readLine_186 : decode cX12_readLine 186 = .ok (.ifCond .eq 10, 3) := by decide +kernel
theorem dX12_readLine_189 : decode cX12_readLine 189 = .ok (.aload_n 0, 1) := by decide +kernel
theorem dX12_readLine_190 : decode cX12_readLine 190 = .ok (.invokevirtual 214, 3) := by decide +kernel
theorem dX12_readLine_193 : decode cX12_readLine 193 = .ok (.goto 48, 3) := by decide +kernel
theorem dX12_readLine_196 : decode cX12_readLine 196 = .ok (.aload_n 0, 1) := by decide +kernel
theorem dX12_readLine_197 : decode cX12_readLine 197 = .ok (.ldc 217, 2) := by decide +kernel
theorem dX12_readLine_199 : decode cX12_readLine 199 = .ok (.invokevirtual 184, 3) := by decide +kernel
theorem dX12_readLine_202 : decode cX12_readLine 202 = .ok (.ifCond .eq 14, 3) := by decide +kernel
theorem dX12_readLine_205 : decode cX12_readLine 205 = .ok (.aload_n 0, 1) := by decide +kernel
theorem dX12_readLine_206 : decode cX12_readLine 206 = .ok (.getfield 13, 3) := by decide +kernel
theorem dX12_readLine_209 : decode cX12_readLine 209 = .ok (.bipush 9, 2) := by decide +kernel
theorem dX12_readLine_211 : decode cX12_readLine 211 = .ok (.iconst 1, 1) := by decide +kernel
theorem dX12_readLine_212 : decode cX12_readLine 212 = .ok (.iastore, 1) := by decide +kernel
theorem dX12_readLine_213 : decode cX12_readLine 213 = .ok (.goto 28, 3) := by decide +kernel
theorem dX12_readLine_216 : decode cX12_readLine 216 = .ok (.aload_n 0, 1) := by decide +kernel
theorem dX12_readLine_217 : decode cX12_readLine 217 = .ok (.ldc 219, 2) := by decide +kernel
theorem dX12_readLine_219 : decode cX12_readLine 219 = .ok (.invokevirtual 184, 3) := by decide +kernel
theorem dX12_readLine_222 : decode cX12_readLine 222 = .ok (.ifCond .eq 14, 3) := by decide +kernel
theorem dX12_readLine_225 : decode cX12_readLine 225 = .ok (.aload_n 0, 1) := by decide +kernel
theorem dX12_readLine_226 : decode cX12_readLine 226 = .ok (.getfield 13, 3) := by decide +kernel
theorem dX12_readLine_229 : decode cX12_readLine 229 = .ok (.bipush 10, 2) := by decide +kernel
theorem dX12_readLine_231 : decode cX12_readLine 231 = .ok (.iconst 1, 1) := by decide +kernel
theorem dX12_readLine_232 : decode cX12_readLine 232 = .ok (.iastore, 1) := by decide +kernel
theorem dX12_readLine_233 : decode cX12_readLine 233 = .ok (.goto 8, 3) := by decide +kernel
theorem dX12_readLine_236 : decode cX12_readLine 236 = .ok (.aload_n 0, 1) := by decide +kernel
theorem dX12_readLine_237 : decode cX12_readLine 237 = .ok (.iconst 2, 1) := by decide +kernel
theorem dX12_readLine_238 : decode cX12_readLine 238 = .ok (.invokevirtual 162, 3) := by decide +kernel
theorem dX12_readLine_241 : decode cX12_readLine 241 = .ok (.aload_n 0, 1) := by decide +kernel
theorem dX12_readLine_242 : decode cX12_readLine 242 = .ok (.getfield 122, 3) := by decide +kernel
theorem dX12_readLine_245 : decode cX12_readLine 245 = .ok (.iconst 3, 1) := by decide +kernel
theorem dX12_readLine_246 : decode cX12_readLine 246 = .ok (.if_icmp .eq 8, 3) := by decide +kernel
theorem dX12_readLine_249 : decode cX12_readLine 249 = .ok (.aload_n 0, 1) := by decide +kernel
theorem dX12_readLine_250 : decode cX12_readLine 250 = .ok (.iconst 2, 1) := by decide +kernel
theorem dX12_readLine_251 : decode cX12_readLine 251 = .ok (.invokevirtual 162, 3) := by decide +kernel
theorem dX12_readLine_254 : decode cX12_readLine 254 = .ok (.aload_n 0, 1) := by decide +kernel
theorem dX12_readLine_255 : decode cX12_readLine 255 = .ok (.getfield 139, 3) := by decide +kernel
theorem dX12_readLine_258 : decode cX12_readLine 258 = .ok (.ifCond .ne 7, 3) := by decide +kernel
theorem dX12_readLine_261 : decode cX12_readLine 261 = .ok (.aload_n 0, 1) := by decide +kernel
theorem dX12_readLine_262 : decode cX12_readLine 262 = .ok (.invokevirtual 159, 3) := by decide +kernel
theorem dX12_readLine_265 : decode cX12_readLine 265 = .ok (.aload_n 0, 1) := by decide +kernel
theorem dX12_readLine_266 : decode cX12_readLine 266 = .ok (.getfield 139, 3) := by decide +kernel
theorem dX12_readLine_269 : decode cX12_readLine 269 = .ok (.ifCond .ne 13, 3) := by decide +kernel
theorem dX12_readLine_272 : decode cX12_readLine 272 = .ok (.aload_n 0, 1) := by decide +kernel
theorem dX12_readLine_273 : decode cX12_readLine 273 = .ok (.getfield 13, 3) := by decide +kernel
theorem dX12_readLine_276 : decode cX12_readLine 276 = .ok (.iconst 0, 1) := by decide +kernel
theorem dX12_readLine_277 : decode cX12_readLine 277 = .ok (.dup2, 1) := by decide +kernel
theorem dX12_readLine_278 : decode cX12_readLine 278 = .ok (.iaload, 1) := by decide +kernel
theorem dX12_readLine_279 : decode cX12_readLine 279 = .ok (.iconst 1, 1) := by decide +kernel
theorem dX12_readLine_280 : decode cX12_readLine 280 = .ok (.iadd, 1) := by decide +kernel
theorem dX12_readLine_281 : decode cX12_readLine 281 = .ok (.iastore, 1) := by decide +kernel
theorem dX12_readLine_282 : decode cX12_readLine 282 = .ok (.return_, 1) := by decide +kernel
