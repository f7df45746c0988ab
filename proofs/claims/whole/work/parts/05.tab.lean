theorem inG12 : ∀ w ∈ u_ws RX12 TX12 54, w ∈ gt := by decide +kernel
theorem k4 : oK 4 = 20 := by decide +kernel
theorem k6 : oK 6 = 8 := by decide +kernel
theorem k171 : oK 171 = 12 := by decide +kernel
theorem fl_X12_9 : FL RX12 9 12 0 RX12 TX12 54 := ⟨rfl, by decide, by decide, by decide, inG12, by decide +kernel⟩
theorem k172 : oK 172 = 20 := by decide +kernel
theorem n172 : oN 172 = 25 := by decide +kernel
theorem t171_0 : oT 171 0 = 172 := by decide +kernel
theorem im_X12_pitMany : Cond.instanceMethod yX12_pitMany ∈ gt := by decide +kernel
theorem se_X12_pitMany : Cond.selects yX12_pitMany.cls yX12_pitMany yX12_pitMany ∈ gt := by decide +kernel
theorem ml_X12_245 : ML RX12 245 yX12_pitMany cX12_pitMany 1 (some .int) 0 := ⟨by decide +kernel, by decide +kernel, by decide +kernel, by decide +kernel⟩
theorem im_X12_isLacking : Cond.instanceMethod yX12_isLacking ∈ gt := by decide +kernel
theorem se_X12_isLacking : Cond.selects yX12_isLacking.cls yX12_isLacking yX12_isLacking ∈ gt := by decide +kernel
theorem ml_X12_251 : ML RX12 251 yX12_isLacking cX12_isLacking 2 (some .boolean) 1 := ⟨by decide +kernel, by decide +kernel, by decide +kernel, by decide +kernel⟩
theorem fl_X12_33 : FL RX12 33 12 17 RX12 TX12 54 := ⟨rfl, by decide, by decide, by decide, inG12, by decide +kernel⟩
theorem k178 : oK 178 = 20 := by decide +kernel
theorem n178 : oN 178 = 12 := by decide +kernel
theorem t171_17 : oT 171 17 = 178 := by decide +kernel
theorem im_X12_sideOf : Cond.instanceMethod yX12_sideOf ∈ gt := by decide +kernel
theorem se_X12_sideOf : Cond.selects yX12_sideOf.cls yX12_sideOf yX12_sideOf ∈ gt := by decide +kernel
theorem ml_X12_257 : ML RX12 257 yX12_sideOf cX12_sideOf 2 (some .int) 1 := ⟨by decide +kernel, by decide +kernel, by decide +kernel, by decide +kernel⟩
theorem dX12_pitMany_0 : decode cX12_pitMany 0 = .ok (.iconst 2, 1) := by decide +kernel
theorem dX12_pitMany_1 : decode cX12_pitMany 1 = .ok (.aload_n 0, 1) := by decide +kernel
theorem dX12_pitMany_2 : decode cX12_pitMany 2 = .ok (.getfield 9, 3) := by decide +kernel
theorem dX12_pitMany_5 : decode cX12_pitMany 5 = .ok (.iconst 1, 1) := by decide +kernel
theorem dX12_pitMany_6 : decode cX12_pitMany 6 = .ok (.iaload, 1) := by decide +kernel
theorem dX12_pitMany_7 : decode cX12_pitMany 7 = .ok (.imul, 1) := by decide +kernel
theorem dX12_pitMany_8 : decode cX12_pitMany 8 = .ok (.ireturn, 1) := by decide +kernel
theorem dX12_isLacking_0 : decode cX12_isLacking 0 = .ok (.aload_n 0, 1) := by decide +kernel
theorem dX12_isLacking_1 : decode cX12_isLacking 1 = .ok (.getfield 9, 3) := by decide +kernel
theorem dX12_isLacking_4 : decode cX12_isLacking 4 = .ok (.iconst 3, 1) := by decide +kernel
theorem dX12_isLacking_5 : decode cX12_isLacking 5 = .ok (.iaload, 1) := by decide +kernel
theorem dX12_isLacking_6 : decode cX12_isLacking 6 = .ok (.iload_n 1, 1) := by decide +kernel
theorem dX12_isLacking_7 : decode cX12_isLacking 7 = .ok (.ishr, 1) := by decide +kernel
theorem dX12_isLacking_8 : decode cX12_isLacking 8 = .ok (.iconst 1, 1) := by decide +kernel
theorem dX12_isLacking_9 : decode cX12_isLacking 9 = .ok (.iand, 1) := by decide +kernel
theorem dX12_isLacking_10 : decode cX12_isLacking 10 = .ok (.iconst 1, 1) := by decide +kernel
theorem dX12_isLacking_11 : decode cX12_isLacking 11 = .ok (.if_icmp .ne 7, 3) := by decide +kernel
theorem dX12_isLacking_14 : decode cX12_isLacking 14 = .ok (.iconst 1, 1) := by decide +kernel
theorem dX12_isLacking_15 : decode cX12_isLacking 15 = .ok (.goto 4, 3) := by decide +kernel
theorem dX12_isLacking_18 : decode cX12_isLacking 18 = .ok (.iconst 0, 1) := by decide +kernel
theorem dX12_isLacking_19 : decode cX12_isLacking 19 = .ok (.ireturn, 1) := by decide +kernel
theorem dX12_sideOf_0 : decode cX12_sideOf 0 = .ok (.iload_n 1, 1) := by decide +kernel
theorem dX12_sideOf_1 : decode cX12_sideOf 1 = .ok (.aload_n 0, 1) := by decide +kernel
theorem dX12_sideOf_2 : decode cX12_sideOf 2 = .ok (.getfield 9, 3) := by decide +kernel
theorem dX12_sideOf_5 : decode cX12_sideOf 5 = .ok (.iconst 1, 1) := by decide +kernel
theorem dX12_sideOf_6 : decode cX12_sideOf 6 = .ok (.iaload, 1) := by decide +kernel
theorem dX12_sideOf_7 : decode cX12_sideOf 7 = .ok (.if_icmp .ge 7, 3) := by decide +kernel
theorem dX12_sideOf_10 : decode cX12_sideOf 10 = .ok (.iconst 0, 1) := by decide +kernel
theorem dX12_sideOf_11 : decode cX12_sideOf 11 = .ok (.goto 4, 3) := by decide +kernel
theorem dX12_sideOf_14 : decode cX12_sideOf 14 = .ok (.iconst 1, 1) := by decide +kernel
theorem dX12_sideOf_15 : decode cX12_sideOf 15 = .ok (.ireturn, 1) := by decide +kernel
theorem dX12_next_0 : decode cX12_next 0 = .ok (.iload_n 2, 1) := by decide +kernel
theorem dX12_next_1 : decode cX12_next 1 = .ok (.istore 4, 2) := by decide +kernel
theorem dX12_next_3 : decode cX12_next 3 = .ok (.iconst 0, 1) := by decide +kernel
theorem dX12_next_4 : decode cX12_next 4 = .ok (.istore 5, 2) := by decide +kernel
theorem dX12_next_6 : decode cX12_next 6 = .ok (.iload 5, 2) := by decide +kernel
theorem dX12_next_8 : decode cX12_next 8 = .ok (.bipush 36, 2) := by decide +kernel
theorem dX12_next_10 : decode cX12_next 10 = .ok (.if_icmp .ge 153, 3) := by decide +kernel
theorem dX12_next_13 : decode cX12_next 13 = .ok (.iload 4, 2) := by decide +kernel
theorem dX12_next_15 : decode cX12_next 15 = .ok (.bipush 100, 2) := by decide +kernel
theorem dX12_next_17 : decode cX12_next 17 = .ok (.if_icmp .ne 14, 3) := by decide +kernel
theorem dX12_next_20 : decode cX12_next 20 = .ok (.aload_n 0, 1) := by decide +kernel
theorem dX12_next_21 : decode cX12_next 21 = .ok (.getfield 9, 3) := by decide +kernel
theorem dX12_next_24 : decode cX12_next 24 = .ok (.iconst 1, 1) := by decide +kernel
theorem dX12_next_25 : decode cX12_next 25 = .ok (.iaload, 1) := by decide +kernel
theorem dX12_next_26 : decode cX12_next 26 = .ok (.iconst 1, 1) := by decide +kernel
theorem dX12_next_27 : decode cX12_next 27 = .ok (.isub, 1) := by decide +kernel
theorem dX12_next_28 : decode cX12_next 28 = .ok (.goto 25, 3) := by decide +kernel
theorem dX12_next_31 : decode cX12_next 31 = .ok (.iload 4, 2) := by decide +kernel
theorem dX12_next_33 : decode cX12_next 33 = .ok (.iload_n 1, 1) := by decide +kernel
theorem dX12_next_34 : decode cX12_next 34 = .ok (.ifCond .ne 7, 3) := by decide +kernel
theorem dX12_next_37 : decode cX12_next 37 = .ok (.iconst 0, 1) := by decide +kernel
theorem dX12_next_38 : decode cX12_next 38 = .ok (.goto 9, 3) := by decide +kernel
theorem dX12_next_41 : decode cX12_next 41 = .ok (.aload_n 0, 1) := by decide +kernel
theorem dX12_next_42 : decode cX12_next 42 = .ok (.getfield 9, 3) := by decide +kernel
theorem dX12_next_45 : decode cX12_next 45 = .ok (.iconst 1, 1) := by decide +kernel
theorem dX12_next_46 : decode cX12_next 46 = .ok (.iaload, 1) := by decide +kernel
theorem dX12_next_47 : decode cX12_next 47 = .ok (.iadd, 1) := by decide +kernel
theorem dX12_next_48 : decode cX12_next 48 = .ok (.aload_n 0, 1) := by decide +kernel
theorem dX12_next_49 : decode cX12_next 49 = .ok (.invokevirtual 245, 3) := by decide +kernel
theorem dX12_next_52 : decode cX12_next 52 = .ok (.irem, 1) := by decide +kernel
theorem dX12_next_53 : decode cX12_next 53 = .ok (.istore 6, 2) := by decide +kernel
theorem dX12_next_55 : decode cX12_next 55 = .ok (.iload 4, 2) := by decide +kernel
theorem dX12_next_57 : decode cX12_next 57 = .ok (.bipush 100, 2) := by decide +kernel
theorem dX12_next_59 : decode cX12_next 59 = .ok (.if_icmp .eq 20, 3) := by decide +kernel
theorem dX12_next_62 : decode cX12_next 62 = .ok (.iload 6, 2) := by decide +kernel
theorem dX12_next_64 : decode cX12_next 64 = .ok (.aload_n 0, 1) := by decide +kernel
theorem dX12_next_65 : decode cX12_next 65 = .ok (.getfield 9, 3) := by decide +kernel
theorem dX12_next_68 : decode cX12_next 68 = .ok (.iconst 1, 1) := by decide +kernel
theorem dX12_next_69 : decode cX12_next 69 = .ok (.iaload, 1) := by decide +kernel
theorem dX12_next_70 : decode cX12_next 70 = .ok (.iconst 1, 1) := by decide +kernel
theorem dX12_next_71 : decode cX12_next 71 = .ok (.isub, 1) := by decide +kernel
theorem dX12_next_72 : decode cX12_next 72 = .ok (.if_icmp .ne 7, 3) := by decide +kernel
theorem dX12_next_75 : decode cX12_next 75 = .ok (.iconst 1, 1) := by decide +kernel
theorem dX12_next_76 : decode cX12_next 76 = .ok (.goto 4, 3) := by decide +kernel
theorem dX12_next_79 : decode cX12_next 79 = .ok (.iconst 0, 1) := by decide +kernel
theorem dX12_next_80 : decode cX12_next 80 = .ok (.istore 7, 2) := by decide +kernel
theorem dX12_next_82 : decode cX12_next 82 = .ok (.iload 7, 2) := by decide +kernel
theorem dX12_next_84 : decode cX12_next 84 = .ok (.ifCond .eq 20, 3) := by decide +kernel
theorem dX12_next_87 : decode cX12_next 87 = .ok (.aload_n 0, 1) := by decide +kernel
theorem dX12_next_88 : decode cX12_next 88 = .ok (.getfield 9, 3) := by decide +kernel
theorem dX12_next_91 : decode cX12_next 91 = .ok (.iconst 4, 1) := by decide +kernel
theorem dX12_next_92 : decode cX12_next 92 = .ok (.iaload, 1) := by decide +kernel
theorem dX12_next_93 : decode cX12_next 93 = .ok (.iconst 1, 1) := by decide +kernel
theorem dX12_next_94 : decode cX12_next 94 = .ok (.if_icmp .ne 10, 3) := by decide +kernel
theorem dX12_next_97 : decode cX12_next 97 = .ok (.bipush 100, 2) := by decide +kernel
theorem dX12_next_99 : decode cX12_next 99 = .ok (.istore 4, 2) := by decide +kernel
theorem dX12_next_101 : decode cX12_next 101 = .ok (.iload 4, 2) := by decide +kernel
theorem dX12_next_103 : decode cX12_next 103 = .ok (.ireturn, 1) := by decide +kernel
theorem dX12_next_104 : decode cX12_next 104 = .ok (.iload 6, 2) := by decide +kernel
theorem dX12_next_106 : decode cX12_next 106 = .ok (.iconst 1, 1) := by decide +kernel
theorem dX12_next_107 : decode cX12_next 107 = .ok (.iadd, 1) := by decide +kernel
theorem dX12_next_108 : decode cX12_next 108 = .ok (.aload_n 0, 1) := by decide +kernel
theorem dX12_next_109 : decode cX12_next 109 = .ok (.invokevirtual 245, 3) := by decide +kernel
theorem dX12_next_112 : decode cX12_next 112 = .ok (.irem, 1) := by decide +kernel
theorem dX12_next_113 : decode cX12_next 113 = .ok (.istore 6, 2) := by decide +kernel
theorem dX12_next_115 : decode cX12_next 115 = .ok (.iload 6, 2) := by decide +kernel
theorem dX12_next_117 : decode cX12_next 117 = .ok (.iload_n 1, 1) := by decide +kernel
theorem dX12_next_118 : decode cX12_next 118 = .ok (.ifCond .ne 7, 3) := by decide +kernel
theorem dX12_next_121 : decode cX12_next 121 = .ok (.iconst 0, 1) := by decide +kernel
theorem dX12_next_122 : decode cX12_next 122 = .ok (.goto 9, 3) := by decide +kernel
theorem dX12_next_125 : decode cX12_next 125 = .ok (.aload_n 0, 1) := by decide +kernel
theorem dX12_next_126 : decode cX12_next 126 = .ok (.getfield 9, 3) := by decide +kernel
theorem dX12_next_129 : decode cX12_next 129 = .ok (.iconst 1, 1) := by decide +kernel
theorem dX12_next_130 : decode cX12_next 130 = .ok (.iaload, 1) := by decide +kernel
theorem dX12_next_131 : decode cX12_next 131 = .ok (.iadd, 1) := by decide +kernel
theorem dX12_next_132 : decode cX12_next 132 = .ok (.aload_n 0, 1) := by decide +kernel
theorem dX12_next_133 : decode cX12_next 133 = .ok (.invokevirtual 245, 3) := by decide +kernel
theorem dX12_next_136 : decode cX12_next 136 = .ok (.irem, 1) := by decide +kernel
theorem dX12_next_137 : decode cX12_next 137 = .ok (.istore 4, 2) := by decide +kernel
theorem dX12_next_139 : decode cX12_next 139 = .ok (.aload_n 0, 1) := by decide +kernel
theorem dX12_next_140 : decode cX12_next 140 = .ok (.iload 4, 2) := by decide +kernel
theorem dX12_next_142 : decode cX12_next 142 = .ok (.invokevirtual 251, 3) := by decide +kernel
theorem dX12_next_145 : decode cX12_next 145 = .ok (.ifCond .ne 12, 3) := by decide +kernel
theorem dX12_next_148 : decode cX12_next 148 = .ok (.iload 4, 2) := by decide +kernel
theorem dX12_next_150 : decode cX12_next 150 = .ok (.iload_n 3, 1) := by decide +kernel
theorem dX12_next_151 : decode cX12_next 151 = .ok (.if_icmp .eq 6, 3) := by decide +kernel
theorem dX12_next_154 : decode cX12_next 154 = .ok (.iload 4, 2) := by decide +kernel
theorem dX12_next_156 : decode cX12_next 156 = .ok (.ireturn, 1) := by decide +kernel
theorem dX12_next_157 : decode cX12_next 157 = .ok (.iinc 5 1, 3) := by decide +kernel
theorem dX12_next_160 : decode cX12_next 160 = .ok (.goto (-154), 3) := by decide +kernel
theorem dX12_next_163 : decode cX12_next 163 = .ok (.iconst (-1), 1) := by decide +kernel
theorem dX12_next_164 : decode cX12_next 164 = .ok (.ireturn, 1) := by decide +kernel
theorem dX12_sum_0 : decode cX12_sum 0 = .ok (.iconst 0, 1) := by decide +kernel
theorem dX12_sum_1 : decode cX12_sum 1 = .ok (.istore_n 2, 1) := by decide +kernel
theorem dX12_sum_2 : decode cX12_sum 2 = .ok (.iconst 0, 1) := by decide +kernel
theorem dX12_sum_3 : decode cX12_sum 3 = .ok (.istore_n 3, 1) := by decide +kernel
theorem dX12_sum_4 : decode cX12_sum 4 = .ok (.iload_n 3, 1) := by decide +kernel
theorem dX12_sum_5 : decode cX12_sum 5 = .ok (.aload_n 0, 1) := by decide +kernel
theorem dX12_sum_6 : decode cX12_sum 6 = .ok (.invokevirtual 245, 3) := by decide +kernel
theorem dX12_sum_9 : decode cX12_sum 9 = .ok (.if_icmp .ge 31, 3) := by decide +kernel
theorem dX12_sum_12 : decode cX12_sum 12 = .ok (.iload_n 2, 1) := by decide +kernel
theorem dX12_sum_13 : decode cX12_sum 13 = .ok (.aload_n 0, 1) := by decide +kernel
theorem dX12_sum_14 : decode cX12_sum 14 = .ok (.iload_n 3, 1) := by decide +kernel
theorem dX12_sum_15 : decode cX12_sum 15 = .ok (.invokevirtual 257, 3) := by decide +kernel
theorem dX12_sum_18 : decode cX12_sum 18 = .ok (.iload_n 1, 1) := by decide +kernel
theorem dX12_sum_19 : decode cX12_sum 19 = .ok (.if_icmp .ne 12, 3) := by decide +kernel
theorem dX12_sum_22 : decode cX12_sum 22 = .ok (.aload_n 0, 1) := by decide +kernel
theorem dX12_sum_23 : decode cX12_sum 23 = .ok (.getfield 33, 3) := by decide +kernel
theorem dX12_sum_26 : decode cX12_sum 26 = .ok (.iload_n 3, 1) := by decide +kernel
theorem dX12_sum_27 : decode cX12_sum 27 = .ok (.iaload, 1) := by decide +kernel
theorem dX12_sum_28 : decode cX12_sum 28 = .ok (.goto 4, 3) := by decide +kernel
theorem dX12_sum_31 : decode cX12_sum 31 = .ok (.iconst 0, 1) := by decide +kernel
theorem dX12_sum_32 : decode cX12_sum 32 = .ok (.iadd, 1) := by decide +kernel
theorem dX12_sum_33 : decode cX12_sum 33 = .ok (.istore_n 2, 1) := by decide +kernel
theorem dX12_sum_34 : decode cX12_sum 34 = .ok (.iinc 3 1, 3) := by decide +kernel
theorem dX12_sum_37 : decode cX12_sum 37 = .ok (.goto (-33), 3) := by decide +kernel
theorem dX12_sum_40 : decode cX12_sum 40 = .ok (.iload_n 2, 1) := by decide +kernel
theorem dX12_sum_41 : decode cX12_sum 41 = .ok (.ireturn, 1) := by decide +kernel
