theorem dX0_packed_0 : decode cX0_packed 0 = .ok (.lconst 0, 1) := by decide +kernel
theorem dX0_packed_1 : decode cX0_packed 1 = .ok (.lstore_n 3, 1) := by decide +kernel
theorem dX0_packed_2 : decode cX0_packed 2 = .ok (.iload_n 1, 1) := by decide +kernel
theorem dX0_packed_3 : decode cX0_packed 3 = .ok (.istore 5, 2) := by decide +kernel
theorem dX0_packed_5 : decode cX0_packed 5 = .ok (.iload 5, 2) := by decide +kernel
theorem dX0_packed_7 : decode cX0_packed 7 = .ok (.iload_n 2, 1) := by decide +kernel
theorem dX0_packed_8 : decode cX0_packed 8 = .ok (.if_icmp .ge 20, 3) := by decide +kernel
theorem dX0_packed_11 : decode cX0_packed 11 = .ok (.lload_n 3, 1) := by decide +kernel
theorem dX0_packed_12 : decode cX0_packed 12 = .ok (.bipush 8, 2) := by decide +kernel
theorem dX0_packed_14 : decode cX0_packed 14 = .ok (.lshl, 1) := by decide +kernel
theorem dX0_packed_15 : decode cX0_packed 15 = .ok (.aload_n 0, 1) := by decide +kernel
theorem dX0_packed_16 : decode cX0_packed 16 = .ok (.iload 5, 2) := by decide +kernel
theorem dX0_packed_18 : decode cX0_packed 18 = .ok (.iaload, 1) := by decide +kernel
theorem dX0_packed_19 : decode cX0_packed 19 = .ok (.i2l, 1) := by decide +kernel
theorem dX0_packed_20 : decode cX0_packed 20 = .ok (.lor, 1) := by decide +kernel
theorem dX0_packed_21 : decode cX0_packed 21 = .ok (.lstore_n 3, 1) := by decide +kernel
theorem dX0_packed_22 : decode cX0_packed 22 = .ok (.iinc 5 1, 3) := by decide +kernel
theorem dX0_packed_25 : decode cX0_packed 25 = .ok (.goto (-20), 3) := by decide +kernel
theorem dX0_packed_28 : decode cX0_packed 28 = .ok (.lload_n 3, 1) := by decide +kernel
theorem dX0_packed_29 : decode cX0_packed 29 = .ok (.lreturn, 1) := by decide +kernel
theorem dX1_pitAsSeen_0 : decode cX1_pitAsSeen 0 = .ok (.iload_n 1, 1) := by decide +kernel
theorem dX1_pitAsSeen_1 : decode cX1_pitAsSeen 1 = .ok (.aload_n 0, 1) := by decide +kernel
theorem dX1_pitAsSeen_2 : decode cX1_pitAsSeen 2 = .ok (.getfield 21, 3) := by decide +kernel
theorem dX1_pitAsSeen_5 : decode cX1_pitAsSeen 5 = .ok (.getfield 66, 3) := by decide +kernel
theorem dX1_pitAsSeen_8 : decode cX1_pitAsSeen 8 = .ok (.imul, 1) := by decide +kernel
theorem dX1_pitAsSeen_9 : decode cX1_pitAsSeen 9 = .ok (.iload_n 2, 1) := by decide +kernel
theorem dX1_pitAsSeen_10 : decode cX1_pitAsSeen 10 = .ok (.iadd, 1) := by decide +kernel
theorem dX1_pitAsSeen_11 : decode cX1_pitAsSeen 11 = .ok (.istore_n 3, 1) := by decide +kernel
theorem dX1_pitAsSeen_12 : decode cX1_pitAsSeen 12 = .ok (.iload_n 3, 1) := by decide +kernel
theorem dX1_pitAsSeen_13 : decode cX1_pitAsSeen 13 = .ok (.iconst 2, 1) := by decide +kernel
theorem dX1_pitAsSeen_14 : decode cX1_pitAsSeen 14 = .ok (.aload_n 0, 1) := by decide +kernel
theorem dX1_pitAsSeen_15 : decode cX1_pitAsSeen 15 = .ok (.getfield 21, 3) := by decide +kernel
theorem dX1_pitAsSeen_18 : decode cX1_pitAsSeen 18 = .ok (.getfield 66, 3) := by decide +kernel
theorem dX1_pitAsSeen_21 : decode cX1_pitAsSeen 21 = .ok (.imul, 1) := by decide +kernel
theorem dX1_pitAsSeen_22 : decode cX1_pitAsSeen 22 = .ok (.if_icmp .ge 7, 3) := by decide +kernel
theorem dX1_pitAsSeen_25 : decode cX1_pitAsSeen 25 = .ok (.iload_n 3, 1) := by decide +kernel
theorem dX1_pitAsSeen_26 : decode cX1_pitAsSeen 26 = .ok (.goto 14, 3) := by decide +kernel
theorem dX1_pitAsSeen_29 : decode cX1_pitAsSeen 29 = .ok (.iload_n 3, 1) := by decide +kernel
theorem dX1_pitAsSeen_30 : decode cX1_pitAsSeen 30 = .ok (.iconst 2, 1) := by decide +kernel
theorem dX1_pitAsSeen_31 : decode cX1_pitAsSeen 31 = .ok (.aload_n 0, 1) := by decide +kernel
theorem dX1_pitAsSeen_32 : decode cX1_pitAsSeen 32 = .ok (.getfield 21, 3) := by decide +kernel
theorem dX1_pitAsSeen_35 : decode cX1_pitAsSeen 35 = .ok (.getfield 66, 3) := by decide +kernel
theorem dX1_pitAsSeen_38 : decode cX1_pitAsSeen 38 = .ok (.imul, 1) := by decide +kernel
theorem dX1_pitAsSeen_39 : decode cX1_pitAsSeen 39 = .ok (.isub, 1) := by decide +kernel
theorem dX1_pitAsSeen_40 : decode cX1_pitAsSeen 40 = .ok (.ireturn, 1) := by decide +kernel
theorem dX1_positionsOf_0 : decode cX1_positionsOf 0 = .ok (.aload_n 0, 1) := by decide +kernel
theorem dX1_positionsOf_1 : decode cX1_positionsOf 1 = .ok (.getfield 18, 3) := by decide +kernel
theorem dX1_positionsOf_4 : decode cX1_positionsOf 4 = .ok (.aload_n 0, 1) := by decide +kernel
theorem dX1_positionsOf_5 : decode cX1_positionsOf 5 = .ok (.getfield 60, 3) := by decide +kernel
theorem dX1_positionsOf_8 : decode cX1_positionsOf 8 = .ok (.bipush 41, 2) := by decide +kernel
theorem dX1_positionsOf_10 : decode cX1_positionsOf 10 = .ok (.imul, 1) := by decide +kernel
theorem dX1_positionsOf_11 : decode cX1_positionsOf 11 = .ok (.iload_n 1, 1) := by decide +kernel
theorem dX1_positionsOf_12 : decode cX1_positionsOf 12 = .ok (.iadd, 1) := by decide +kernel
theorem dX1_positionsOf_13 : decode cX1_positionsOf 13 = .ok (.iaload, 1) := by decide +kernel
theorem dX1_positionsOf_14 : decode cX1_positionsOf 14 = .ok (.ireturn, 1) := by decide +kernel
theorem dX1_positionsUpTo_0 : decode cX1_positionsUpTo 0 = .ok (.iload_n 1, 1) := by decide +kernel
theorem dX1_positionsUpTo_1 : decode cX1_positionsUpTo 1 = .ok (.ifCond .ge 7, 3) := by decide +kernel
theorem dX1_positionsUpTo_4 : decode cX1_positionsUpTo 4 = .ok (.iconst 0, 1) := by decide +kernel
theorem dX1_positionsUpTo_5 : decode cX1_positionsUpTo 5 = .ok (.goto 19, 3) := by decide +kernel
theorem dX1_positionsUpTo_8 : decode cX1_positionsUpTo 8 = .ok (.aload_n 0, 1) := by decide +kernel
theorem dX1_positionsUpTo_9 : decode cX1_positionsUpTo 9 = .ok (.getfield 18, 3) := by decide +kernel
theorem dX1_positionsUpTo_12 : decode cX1_positionsUpTo 12 = .ok (.aload_n 0, 1) := by decide +kernel
theorem dX1_positionsUpTo_13 : decode cX1_positionsUpTo 13 = .ok (.getfield 60, 3) := by decide +kernel
theorem dX1_positionsUpTo_16 : decode cX1_positionsUpTo 16 = .ok (.iconst 1, 1) := by decide +kernel
theorem dX1_positionsUpTo_17 : decode cX1_positionsUpTo 17 = .ok (.iadd, 1) := by decide +kernel
theorem dX1_positionsUpTo_18 : decode cX1_positionsUpTo 18 = .ok (.bipush 41, 2) := by decide +kernel
theorem dX1_positionsUpTo_20 : decode cX1_positionsUpTo 20 = .ok (.imul, 1) := by decide +kernel
theorem dX1_positionsUpTo_21 : decode cX1_positionsUpTo 21 = .ok (.iload_n 1, 1) := by decide +kernel
theorem dX1_positionsUpTo_22 : decode cX1_positionsUpTo 22 = .ok (.iadd, 1) := by decide +kernel
theorem dX1_positionsUpTo_23 : decode cX1_positionsUpTo 23 = .ok (.iaload, 1) := by decide +kernel
theorem dX1_positionsUpTo_24 : decode cX1_positionsUpTo 24 = .ok (.ireturn, 1) := by decide +kernel
theorem dX1_numberOf_0 : decode cX1_numberOf 0 = .ok (.aload_n 1, 1) := by decide +kernel
theorem dX1_numberOf_1 : decode cX1_numberOf 1 = .ok (.getfield 79, 3) := by decide +kernel
theorem dX1_numberOf_4 : decode cX1_numberOf 4 = .ok (.bipush 12, 2) := by decide +kernel
theorem dX1_numberOf_6 : decode cX1_numberOf 6 = .ok (.imul, 1) := by decide +kernel
theorem dX1_numberOf_7 : decode cX1_numberOf 7 = .ok (.istore_n 3, 1) := by decide +kernel
theorem dX1_numberOf_8 : decode cX1_numberOf 8 = .ok (.iload_n 2, 1) := by decide +kernel
theorem dX1_numberOf_9 : decode cX1_numberOf 9 = .ok (.istore 4, 2) := by decide +kernel
theorem dX1_numberOf_11 : decode cX1_numberOf 11 = .ok (.iconst 0, 1) := by decide +kernel
theorem dX1_numberOf_12 : decode cX1_numberOf 12 = .ok (.istore 5, 2) := by decide +kernel
theorem dX1_numberOf_14 : decode cX1_numberOf 14 = .ok (.iconst 0, 1) := by decide +kernel
theorem dX1_numberOf_15 : decode cX1_numberOf 15 = .ok (.istore 6, 2) := by decide +kernel
theorem dX1_numberOf_17 : decode cX1_numberOf 17 = .ok (.iload 6, 2) := by decide +kernel
theorem dX1_numberOf_19 : decode cX1_numberOf 19 = .ok (.aload_n 0, 1) := by decide +kernel
theorem dX1_numberOf_20 : decode cX1_numberOf 20 = .ok (.getfield 60, 3) := by decide +kernel
theorem dX1_numberOf_23 : decode cX1_numberOf 23 = .ok (.if_icmp .ge 63, 3) := by decide +kernel
theorem dX1_numberOf_26 : decode cX1_numberOf 26 = .ok (.iload 4, 2) := by decide +kernel
theorem dX1_numberOf_28 : decode cX1_numberOf 28 = .ok (.ifCond .le 58, 3) := by decide +kernel
theorem dX1_numberOf_31 : decode cX1_numberOf 31 = .ok (.iload 4, 2) := by decide +kernel
theorem dX1_numberOf_33 : decode cX1_numberOf 33 = .ok (.aload_n 1, 1) := by decide +kernel
theorem dX1_numberOf_34 : decode cX1_numberOf 34 = .ok (.getfield 84, 3) := by decide +kernel
theorem dX1_numberOf_37 : decode cX1_numberOf 37 = .ok (.aload_n 0, 1) := by decide +kernel
theorem dX1_numberOf_38 : decode cX1_numberOf 38 = .ok (.getfield 15, 3) := by decide +kernel
theorem dX1_numberOf_41 : decode cX1_numberOf 41 = .ok (.iload_n 3, 1) := by decide +kernel
theorem dX1_numberOf_42 : decode cX1_numberOf 42 = .ok (.iload 6, 2) := by decide +kernel
theorem dX1_numberOf_44 : decode cX1_numberOf 44 = .ok (.iadd, 1) := by decide +kernel
theorem dX1_numberOf_45 : decode cX1_numberOf 45 = .ok (.iaload, 1) := by decide +kernel
theorem dX1_numberOf_46 : decode cX1_numberOf 46 = .ok (.iaload, 1) := by decide +kernel
theorem dX1_numberOf_47 : decode cX1_numberOf 47 = .ok (.isub, 1) := by decide +kernel
theorem dX1_numberOf_48 : decode cX1_numberOf 48 = .ok (.istore 4, 2) := by decide +kernel
theorem dX1_numberOf_50 : decode cX1_numberOf 50 = .ok (.iload 4, 2) := by decide +kernel
theorem dX1_numberOf_52 : decode cX1_numberOf 52 = .ok (.ifCond .le 28, 3) := by decide +kernel
theorem dX1_numberOf_55 : decode cX1_numberOf 55 = .ok (.iload 5, 2) := by decide +kernel
theorem dX1_numberOf_57 : decode cX1_numberOf 57 = .ok (.aload_n 0, 1) := by decide +kernel
theorem dX1_numberOf_58 : decode cX1_numberOf 58 = .ok (.getfield 18, 3) := by decide +kernel
theorem dX1_numberOf_61 : decode cX1_numberOf 61 = .ok (.aload_n 0, 1) := by decide +kernel
theorem dX1_numberOf_62 : decode cX1_numberOf 62 = .ok (.getfield 60, 3) := by decide +kernel
theorem dX1_numberOf_65 : decode cX1_numberOf 65 = .ok (.iload 6, 2) := by decide +kernel
theorem dX1_numberOf_67 : decode cX1_numberOf 67 = .ok (.isub, 1) := by decide +kernel
theorem dX1_numberOf_68 : decode cX1_numberOf 68 = .ok (.bipush 41, 2) := by decide +kernel
theorem dX1_numberOf_70 : decode cX1_numberOf 70 = .ok (.imul, 1) := by decide +kernel
theorem dX1_numberOf_71 : decode cX1_numberOf 71 = .ok (.iload 4, 2) := by decide +kernel
theorem dX1_numberOf_73 : decode cX1_numberOf 73 = .ok (.iadd, 1) := by decide +kernel
theorem dX1_numberOf_74 : decode cX1_numberOf 74 = .ok (.iconst 1, 1) := by decide +kernel
theorem dX1_numberOf_75 : decode cX1_numberOf 75 = .ok (.isub, 1) := by decide +kernel
theorem dX1_numberOf_76 : decode cX1_numberOf 76 = .ok (.iaload, 1) := by decide +kernel
theorem dX1_numberOf_77 : decode cX1_numberOf 77 = .ok (.iadd, 1) := by decide +kernel
theorem dX1_numberOf_78 : decode cX1_numberOf 78 = .ok (.istore 5, 2) := by decide +kernel
theorem dX1_numberOf_80 : decode cX1_numberOf 80 = .ok (.iinc 6 1, 3) := by decide +kernel
theorem dX1_numberOf_83 : decode cX1_numberOf 83 = .ok (.goto (-66), 3) := by decide +kernel
theorem dX1_numberOf_86 : decode cX1_numberOf 86 = .ok (.iload 5, 2) := by decide +kernel
theorem dX1_numberOf_88 : decode cX1_numberOf 88 = .ok (.ireturn, 1) := by decide +kernel
theorem dX3_forget_0 : decode cX3_forget 0 = .ok (.aload_n 0, 1) := by decide +kernel
theorem dX3_forget_1 : decode cX3_forget 1 = .ok (.iconst 0, 1) := by decide +kernel
theorem dX3_forget_2 : decode cX3_forget 2 = .ok (.putfield 22, 3) := by decide +kernel
theorem dX3_forget_5 : decode cX3_forget 5 = .ok (.aload_n 0, 1) := by decide +kernel
theorem dX3_forget_6 : decode cX3_forget 6 = .ok (.iconst 0, 1) := by decide +kernel
theorem dX3_forget_7 : decode cX3_forget 7 = .ok (.putfield 26, 3) := by decide +kernel
theorem dX3_forget_10 : decode cX3_forget 10 = .ok (.return_, 1) := by decide +kernel
theorem dX3_slot_0 : decode cX3_slot 0 = .ok (.aload_n 0, 1) := by decide +kernel
theorem dX3_slot_1 : decode cX3_slot 1 = .ok (.getfield 29, 3) := by decide +kernel
theorem dX3_slot_4 : decode cX3_slot 4 = .ok (.iload_n 1, 1) := by decide +kernel
theorem dX3_slot_5 : decode cX3_slot 5 = .ok (.iadd, 1) := by decide +kernel
theorem dX3_slot_6 : decode cX3_slot 6 = .ok (.istore_n 2, 1) := by decide +kernel
theorem dX3_slot_7 : decode cX3_slot 7 = .ok (.iload_n 2, 1) := by decide +kernel
theorem dX3_slot_8 : decode cX3_slot 8 = .ok (.bipush 40, 2) := by decide +kernel
theorem dX3_slot_10 : decode cX3_slot 10 = .ok (.if_icmp .ge 7, 3) := by decide +kernel
theorem dX3_slot_13 : decode cX3_slot 13 = .ok (.iload_n 2, 1) := by decide +kernel
theorem dX3_slot_14 : decode cX3_slot 14 = .ok (.goto 7, 3) := by decide +kernel
theorem dX3_slot_17 : decode cX3_slot 17 = .ok (.iload_n 2, 1) := by decide +kernel
theorem dX3_slot_18 : decode cX3_slot 18 = .ok (.bipush 40, 2) := by decide +kernel
theorem dX3_slot_20 : decode cX3_slot 20 = .ok (.isub, 1) := by decide +kernel
theorem dX3_slot_21 : decode cX3_slot 21 = .ok (.ireturn, 1) := by decide +kernel
theorem dX3_moveAt_0 : decode cX3_moveAt 0 = .ok (.aload_n 0, 1) := by decide +kernel
theorem dX3_moveAt_1 : decode cX3_moveAt 1 = .ok (.getfield 9, 3) := by decide +kernel
theorem dX3_moveAt_4 : decode cX3_moveAt 4 = .ok (.aload_n 0, 1) := by decide +kernel
theorem dX3_moveAt_5 : decode cX3_moveAt 5 = .ok (.iload_n 1, 1) := by decide +kernel
theorem dX3_moveAt_6 : decode cX3_moveAt 6 = .ok (.invokevirtual 32, 3) := by decide +kernel
theorem dX3_moveAt_9 : decode cX3_moveAt 9 = .ok (.iaload, 1) := by decide +kernel
theorem dX3_moveAt_10 : decode cX3_moveAt 10 = .ok (.ireturn, 1) := by decide +kernel
theorem dX3_again_0 : decode cX3_again 0 = .ok (.aload_n 0, 1) := by decide +kernel
theorem dX3_again_1 : decode cX3_again 1 = .ok (.dup, 1) := by decide +kernel
theorem dX3_again_2 : decode cX3_again 2 = .ok (.getfield 22, 3) := by decide +kernel
theorem dX3_again_5 : decode cX3_again 5 = .ok (.iconst 1, 1) := by decide +kernel
theorem dX3_again_6 : decode cX3_again 6 = .ok (.iadd, 1) := by decide +kernel
theorem dX3_again_7 : decode cX3_again 7 = .ok (.putfield 22, 3) := by decide +kernel
theorem dX3_again_10 : decode cX3_again 10 = .ok (.aload_n 0, 1) := by decide +kernel
theorem dX3_again_11 : decode cX3_again 11 = .ok (.dup, 1) := by decide +kernel
theorem dX3_again_12 : decode cX3_again 12 = .ok (.getfield 26, 3) := by decide +kernel
theorem dX3_again_15 : decode cX3_again 15 = .ok (.iconst 1, 1) := by decide +kernel
theorem dX3_again_16 : decode cX3_again 16 = .ok (.isub, 1) := by decide +kernel
theorem dX3_again_17 : decode cX3_again 17 = .ok (.putfield 26, 3) := by decide +kernel
theorem dX3_again_20 : decode cX3_again 20 = .ok (.aload_n 0, 1) := by decide +kernel
theorem dX3_again_21 : decode cX3_again 21 = .ok (.getfield 9, 3) := by decide +kernel
theorem dX3_again_24 : decode cX3_again 24 = .ok (.aload_n 0, 1) := by decide +kernel
theorem dX3_again_25 : decode cX3_again 25 = .ok (.aload_n 0, 1) := by decide +kernel
theorem dX3_again_26 : decode cX3_again 26 = .ok (.getfield 22, 3) := by decide +kernel
theorem dX3_again_29 : decode cX3_again 29 = .ok (.iconst 1, 1) := by decide +kernel
theorem dX3_again_30 : decode cX3_again 30 = .ok (.isub, 1) := by decide +kernel
theorem dX3_again_31 : decode cX3_again 31 = .ok (.invokevirtual 32, 3) := by decide +kernel
theorem dX3_again_34 : decode cX3_again 34 = .ok (.iaload, 1) := by decide +kernel
theorem dX3_again_35 : decode cX3_again 35 = .ok (.ireturn, 1) := by decide +kernel
theorem dX4_append_0 : decode cX4_append 0 = .ok (.bipush 24, 2) := by decide +kernel
theorem dX4_append_2 : decode cX4_append 2 = .ok (.istore_n 2, 1) := by decide +kernel
theorem dX4_append_3 : decode cX4_append 3 = .ok (.iload_n 2, 1) := by decide +kernel
theorem dX4_append_4 : decode cX4_append 4 = .ok (.ifCond .lt 45, 3) := by decide +kernel
theorem dX4_append_7 : decode cX4_append 7 = .ok (.aload_n 0, 1) := by decide +kernel
theorem dX4_append_8 : decode cX4_append 8 = .ok (.getfield 33, 3) := by decide +kernel
theorem dX4_append_11 : decode cX4_append 11 = .ok (.sipush 500, 3) := by decide +kernel
theorem dX4_append_14 : decode cX4_append 14 = .ok (.if_icmp .ge 35, 3) := by decide +kernel
theorem dX4_append_17 : decode cX4_append 17 = .ok (.aload_n 0, 1) := by decide +kernel
theorem dX4_append_18 : decode cX4_append 18 = .ok (.getfield 29, 3) := by decide +kernel
theorem dX4_append_21 : decode cX4_append 21 = .ok (.aload_n 0, 1) := by decide +kernel
theorem dX4_append_22 : decode cX4_append 22 = .ok (.getfield 33, 3) := by decide +kernel
theorem dX4_append_25 : decode cX4_append 25 = .ok (.iload_n 1, 1) := by decide +kernel
theorem dX4_append_26 : decode cX4_append 26 = .ok (.iload_n 2, 1) := by decide +kernel
theorem dX4_append_27 : decode cX4_append 27 = .ok (.iushr, 1) := by decide +kernel
theorem dX4_append_28 : decode cX4_append 28 = .ok (.sipush 255, 3) := by decide +kernel
theorem dX4_append_31 : decode cX4_append 31 = .ok (.iand, 1) := by decide +kernel
theorem dX4_append_32 : decode cX4_append 32 = .ok (.iastore, 1) := by decide +kernel
theorem dX4_append_33 : decode cX4_append 33 = .ok (.aload_n 0, 1) := by decide +kernel
theorem dX4_append_34 : decode cX4_append 34 = .ok (.dup, 1) := by decide +kernel
theorem dX4_append_35 : decode cX4_append 35 = .ok (.getfield 33, 3) := by decide +kernel
theorem dX4_append_38 : decode cX4_append 38 = .ok (.iconst 1, 1) := by decide +kernel
theorem dX4_append_39 : decode cX4_append 39 = .ok (.iadd, 1) := by decide +kernel
theorem dX4_append_40 : decode cX4_append 40 = .ok (.putfield 33, 3) := by decide +kernel
theorem dX4_append_43 : decode cX4_append 43 = .ok (.iinc 2 (-8), 3) := by decide +kernel
theorem dX4_append_46 : decode cX4_append 46 = .ok (.goto (-43), 3) := by decide +kernel
theorem dX4_append_49 : decode cX4_append 49 = .ok (.return_, 1) := by decide +kernel
theorem dX4_refuse_0 : decode cX4_refuse 0 = .ok (.aload_n 0, 1) := by decide +kernel
theorem dX4_refuse_1 : decode cX4_refuse 1 = .ok (.getfield 40, 3) := by decide +kernel
theorem dX4_refuse_4 : decode cX4_refuse 4 = .ok (.ifCond .ne 16, 3) := by decide +kernel
theorem dX4_refuse_7 : decode cX4_refuse 7 = .ok (.aload_n 0, 1) := by decide +kernel
theorem dX4_refuse_8 : decode cX4_refuse 8 = .ok (.iload_n 1, 1) := by decide +kernel
theorem dX4_refuse_9 : decode cX4_refuse 9 = .ok (.putfield 40, 3) := by decide +kernel
theorem dX4_refuse_12 : decode cX4_refuse 12 = .ok (.aload_n 0, 1) := by decide +kernel
theorem dX4_refuse_13 : decode cX4_refuse 13 = .ok (.aload_n 0, 1) := by decide +kernel
theorem dX4_refuse_14 : decode cX4_refuse 14 = .ok (.getfield 73, 3) := by decide +kernel
theorem dX4_refuse_17 : decode cX4_refuse 17 = .ok (.putfield 25, 3) := by decide +kernel
theorem dX4_refuse_20 : decode cX4_refuse 20 = .ok (.return_, 1) := by decide +kernel
theorem dX4_checkedNumber_0 : decode cX4_checkedNumber 0 = .ok (.aload_n 0, 1) := by decide +kernel
theorem dX4_checkedNumber_1 : decode cX4_checkedNumber 1 = .ok (.getfield 52, 3) := by decide +kernel
theorem dX4_checkedNumber_4 : decode cX4_checkedNumber 4 = .ok (.iconst 2, 1) := by decide +kernel
theorem dX4_checkedNumber_5 : decode cX4_checkedNumber 5 = .ok (.if_icmp .eq 10, 3) := by decide +kernel
theorem dX4_checkedNumber_8 : decode cX4_checkedNumber 8 = .ok (.aload_n 0, 1) := by decide +kernel
theorem dX4_checkedNumber_9 : decode cX4_checkedNumber 9 = .ok (.iconst 2, 1) := by decide +kernel
theorem dX4_checkedNumber_10 : decode cX4_checkedNumber 10 = .ok (.invokevirtual 120, 3) := by decide +kernel
theorem dX4_checkedNumber_13 : decode cX4_checkedNumber 13 = .ok (.iload_n 1, 1) := by decide +kernel
theorem dX4_checkedNumber_14 : decode cX4_checkedNumber 14 = .ok (.ireturn, 1) := by decide +kernel
theorem dX4_checkedNumber_15 : decode cX4_checkedNumber 15 = .ok (.aload_n 0, 1) := by decide +kernel
theorem dX4_checkedNumber_16 : decode cX4_checkedNumber 16 = .ok (.getfield 158, 3) := by decide +kernel
theorem dX4_checkedNumber_19 : decode cX4_checkedNumber 19 = .ok (.iload_n 1, 1) := by decide +kernel
theorem dX4_checkedNumber_20 : decode cX4_checkedNumber 20 = .ok (.if_icmp .lt 11, 3) := by decide +kernel
theorem dX4_checkedNumber_23 : decode cX4_checkedNumber 23 = .ok (.aload_n 0, 1) := by decide +kernel
theorem dX4_checkedNumber_24 : decode cX4_checkedNumber 24 = .ok (.getfield 158, 3) := by decide +kernel
theorem dX4_checkedNumber_27 : decode cX4_checkedNumber 27 = .ok (.iload_n 2, 1) := by decide +kernel
theorem dX4_checkedNumber_28 : decode cX4_checkedNumber 28 = .ok (.if_icmp .le 10, 3) := by decide +kernel
theorem dX4_checkedNumber_31 : decode cX4_checkedNumber 31 = .ok (.aload_n 0, 1) := by decide +kernel
theorem dX4_checkedNumber_32 : decode cX4_checkedNumber 32 = .ok (.iconst 3, 1) := by decide +kernel
theorem dX4_checkedNumber_33 : decode cX4_checkedNumber 33 = .ok (.invokevirtual 120, 3) := by decide +kernel
theorem dX4_checkedNumber_36 : decode cX4_checkedNumber 36 = .ok (.iload_n 1, 1) := by decide +kernel
theorem dX4_checkedNumber_37 : decode cX4_checkedNumber 37 = .ok (.ireturn, 1) := by decide +kernel
theorem dX4_checkedNumber_38 : decode cX4_checkedNumber 38 = .ok (.aload_n 0, 1) := by decide +kernel
theorem dX4_checkedNumber_39 : decode cX4_checkedNumber 39 = .ok (.getfield 158, 3) := by decide +kernel
theorem dX4_checkedNumber_42 : decode cX4_checkedNumber 42 = .ok (.ireturn, 1) := by decide +kernel
theorem dX4_isDigit_0 : decode cX4_isDigit 0 = .ok (.aload_n 0, 1) := by decide +kernel
theorem dX4_isDigit_1 : decode cX4_isDigit 1 = .ok (.getfield 29, 3) := by decide +kernel
theorem dX4_isDigit_4 : decode cX4_isDigit 4 = .ok (.iload_n 1, 1) := by decide +kernel
theorem dX4_isDigit_5 : decode cX4_isDigit 5 = .ok (.iaload, 1) := by decide +kernel
theorem dX4_isDigit_6 : decode cX4_isDigit 6 = .ok (.bipush 48, 2) := by decide +kernel
theorem dX4_isDigit_8 : decode cX4_isDigit 8 = .ok (.if_icmp .lt 18, 3) := by decide +kernel
theorem dX4_isDigit_11 : decode cX4_isDigit 11 = .ok (.aload_n 0, 1) := by decide +kernel
theorem dX4_isDigit_12 : decode cX4_isDigit 12 = .ok (.getfield 29, 3) := by decide +kernel
theorem dX4_isDigit_15 : decode cX4_isDigit 15 = .ok (.iload_n 1, 1) := by decide +kernel
theorem dX4_isDigit_16 : decode cX4_isDigit 16 = .ok (.iaload, 1) := by decide +kernel
theorem dX4_isDigit_17 : decode cX4_isDigit 17 = .ok (.bipush 57, 2) := by decide +kernel
theorem dX4_isDigit_19 : decode cX4_isDigit 19 = .ok (.if_icmp .gt 7, 3) := by decide +kernel
theorem dX4_isDigit_22 : decode cX4_isDigit 22 = .ok (.iconst 1, 1) := by decide +kernel
theorem dX4_isDigit_23 : decode cX4_isDigit 23 = .ok (.goto 4, 3) := by decide +kernel
theorem dX4_isDigit_26 : decode cX4_isDigit 26 = .ok (.iconst 0, 1) := by decide +kernel
theorem dX4_isDigit_27 : decode cX4_isDigit 27 = .ok (.ireturn, 1) := by decide +kernel
theorem dX4_isLetter_0 : decode cX4_isLetter 0 = .ok (.aload_n 0, 1) := by decide +kernel
theorem dX4_isLetter_1 : decode cX4_isLetter 1 = .ok (.getfield 29, 3) := by decide +kernel
theorem dX4_isLetter_4 : decode cX4_isLetter 4 = .ok (.iload_n 1, 1) := by decide +kernel
theorem dX4_isLetter_5 : decode cX4_isLetter 5 = .ok (.iaload, 1) := by decide +kernel
theorem dX4_isLetter_6 : decode cX4_isLetter 6 = .ok (.bipush 97, 2) := by decide +kernel
theorem dX4_isLetter_8 : decode cX4_isLetter 8 = .ok (.if_icmp .lt 18, 3) := by decide +kernel
theorem dX4_isLetter_11 : decode cX4_isLetter 11 = .ok (.aload_n 0, 1) := by decide +kernel
theorem dX4_isLetter_12 : decode cX4_isLetter 12 = .ok (.getfield 29, 3) := by decide +kernel
theorem dX4_isLetter_15 : decode cX4_isLetter 15 = .ok (.iload_n 1, 1) := by decide +kernel
theorem dX4_isLetter_16 : decode cX4_isLetter 16 = .ok (.iaload, 1) := by decide +kernel
theorem dX4_isLetter_17 : decode cX4_isLetter 17 = .ok (.bipush 122, 2) := by decide +kernel
theorem dX4_isLetter_19 : decode cX4_isLetter 19 = .ok (.if_icmp .gt 7, 3) := by decide +kernel
theorem dX4_isLetter_22 : decode cX4_isLetter 22 = .ok (.iconst 1, 1) := by decide +kernel
theorem dX4_isLetter_23 : decode cX4_isLetter 23 = .ok (.goto 4, 3) := by decide +kernel
theorem dX4_isLetter_26 : decode cX4_isLetter 26 = .ok (.iconst 0, 1) := by decide +kernel
theorem dX4_isLetter_27 : decode cX4_isLetter 27 = .ok (.ireturn, 1) := by decide +kernel
theorem dX5_clear_0 : decode cX5_clear 0 = .ok (.aload_n 0, 1) := by decide +kernel
theorem dX5_clear_1 : decode cX5_clear 1 = .ok (.iconst 0, 1) := by decide +kernel
theorem dX5_clear_2 : decode cX5_clear 2 = .ok (.putfield 18, 3) := by decide +kernel
theorem dX5_clear_5 : decode cX5_clear 5 = .ok (.aload_n 0, 1) := by decide +kernel
theorem dX5_clear_6 : decode cX5_clear 6 = .ok (.iconst 3, 1) := by decide +kernel
theorem dX5_clear_7 : decode cX5_clear 7 = .ok (.putfield 9, 3) := by decide +kernel
theorem dX5_clear_10 : decode cX5_clear 10 = .ok (.aload_n 0, 1) := by decide +kernel
theorem dX5_clear_11 : decode cX5_clear 11 = .ok (.iconst 0, 1) := by decide +kernel
theorem dX5_clear_12 : decode cX5_clear 12 = .ok (.putfield 21, 3) := by decide +kernel
theorem dX5_clear_15 : decode cX5_clear 15 = .ok (.aload_n 0, 1) := by decide +kernel
theorem dX5_clear_16 : decode cX5_clear 16 = .ok (.iconst 0, 1) := by decide +kernel
theorem dX5_clear_17 : decode cX5_clear 17 = .ok (.putfield 24, 3) := by decide +kernel
theorem dX5_clear_20 : decode cX5_clear 20 = .ok (.aload_n 0, 1) := by decide +kernel
theorem dX5_clear_21 : decode cX5_clear 21 = .ok (.iconst 0, 1) := by decide +kernel
theorem dX5_clear_22 : decode cX5_clear 22 = .ok (.putfield 15, 3) := by decide +kernel
theorem dX5_clear_25 : decode cX5_clear 25 = .ok (.aload_n 0, 1) := by decide +kernel
theorem dX5_clear_26 : decode cX5_clear 26 = .ok (.iconst 0, 1) := by decide +kernel
theorem dX5_clear_27 : decode cX5_clear 27 = .ok (.putfield 27, 3) := by decide +kernel
theorem dX5_clear_30 : decode cX5_clear 30 = .ok (.aload_n 0, 1) := by decide +kernel
theorem dX5_clear_31 : decode cX5_clear 31 = .ok (.iconst 0, 1) := by decide +kernel
theorem dX5_clear_32 : decode cX5_clear 32 = .ok (.putfield 31, 3) := by decide +kernel
theorem dX5_clear_35 : decode cX5_clear 35 = .ok (.aload_n 0, 1) := by decide +kernel
theorem dX5_clear_36 : decode cX5_clear 36 = .ok (.iconst 0, 1) := by decide +kernel
theorem dX5_clear_37 : decode cX5_clear 37 = .ok (.putfield 34, 3) := by decide +kernel
theorem dX5_clear_40 : decode cX5_clear 40 = .ok (.aload_n 0, 1) := by decide +kernel
theorem dX5_clear_41 : decode cX5_clear 41 = .ok (.iconst 0, 1) := by decide +kernel
theorem dX5_clear_42 : decode cX5_clear 42 = .ok (.putfield 37, 3) := by decide +kernel
theorem dX5_clear_45 : decode cX5_clear 45 = .ok (.return_, 1) := by decide +kernel
theorem dX5_copy_0 : decode cX5_copy 0 = .ok (.aload_n 0, 1) := by decide +kernel
theorem dX5_copy_1 : decode cX5_copy 1 = .ok (.aload_n 1, 1) := by decide +kernel
theorem dX5_copy_2 : decode cX5_copy 2 = .ok (.getfield 18, 3) := by decide +kernel
theorem dX5_copy_5 : decode cX5_copy 5 = .ok (.putfield 18, 3) := by decide +kernel
theorem dX5_copy_8 : decode cX5_copy 8 = .ok (.aload_n 0, 1) := by decide +kernel
theorem dX5_copy_9 : decode cX5_copy 9 = .ok (.aload_n 1, 1) := by decide +kernel
theorem dX5_copy_10 : decode cX5_copy 10 = .ok (.getfield 9, 3) := by decide +kernel
theorem dX5_copy_13 : decode cX5_copy 13 = .ok (.putfield 9, 3) := by decide +kernel
theorem dX5_copy_16 : decode cX5_copy 16 = .ok (.aload_n 0, 1) := by decide +kernel
theorem dX5_copy_17 : decode cX5_copy 17 = .ok (.aload_n 1, 1) := by decide +kernel
theorem dX5_copy_18 : decode cX5_copy 18 = .ok (.getfield 21, 3) := by decide +kernel
theorem dX5_copy_21 : decode cX5_copy 21 = .ok (.putfield 21, 3) := by decide +kernel
theorem dX5_copy_24 : decode cX5_copy 24 = .ok (.aload_n 0, 1) := by decide +kernel
theorem dX5_copy_25 : decode cX5_copy 25 = .ok (.aload_n 1, 1) := by decide +kernel
theorem dX5_copy_26 : decode cX5_copy 26 = .ok (.getfield 24, 3) := by decide +kernel
theorem dX5_copy_29 : decode cX5_copy 29 = .ok (.putfield 24, 3) := by decide +kernel
theorem dX5_copy_32 : decode cX5_copy 32 = .ok (.aload_n 0, 1) := by decide +kernel
theorem dX5_copy_33 : decode cX5_copy 33 = .ok (.aload_n 1, 1) := by decide +kernel
theorem dX5_copy_34 : decode cX5_copy 34 = .ok (.getfield 15, 3) := by decide +kernel
theorem dX5_copy_37 : decode cX5_copy 37 = .ok (.putfield 15, 3) := by decide +kernel
theorem dX5_copy_40 : decode cX5_copy 40 = .ok (.aload_n 0, 1) := by decide +kernel
theorem dX5_copy_41 : decode cX5_copy 41 = .ok (.aload_n 1, 1) := by decide +kernel
theorem dX5_copy_42 : decode cX5_copy 42 = .ok (.getfield 27, 3) := by decide +kernel
theorem dX5_copy_45 : decode cX5_copy 45 = .ok (.putfield 27, 3) := by decide +kernel
theorem dX5_copy_48 : decode cX5_copy 48 = .ok (.aload_n 0, 1) := by decide +kernel
theorem dX5_copy_49 : decode cX5_copy 49 = .ok (.aload_n 1, 1) := by decide +kernel
theorem dX5_copy_50 : decode cX5_copy 50 = .ok (.getfield 31, 3) := by decide +kernel
theorem dX5_copy_53 : decode cX5_copy 53 = .ok (.putfield 31, 3) := by decide +kernel
theorem dX5_copy_56 : decode cX5_copy 56 = .ok (.aload_n 0, 1) := by decide +kernel
theorem dX5_copy_57 : decode cX5_copy 57 = .ok (.aload_n 1, 1) := by decide +kernel
theorem dX5_copy_58 : decode cX5_copy 58 = .ok (.getfield 34, 3) := by decide +kernel
theorem dX5_copy_61 : decode cX5_copy 61 = .ok (.putfield 34, 3) := by decide +kernel
theorem dX5_copy_64 : decode cX5_copy 64 = .ok (.aload_n 0, 1) := by decide +kernel
theorem dX5_copy_65 : decode cX5_copy 65 = .ok (.aload_n 1, 1) := by decide +kernel
theorem dX5_copy_66 : decode cX5_copy 66 = .ok (.getfield 37, 3) := by decide +kernel
theorem dX5_copy_69 : decode cX5_copy 69 = .ok (.putfield 37, 3) := by decide +kernel
theorem dX5_copy_72 : decode cX5_copy 72 = .ok (.return_, 1) := by decide +kernel
theorem dX5_isLacking_0 : decode cX5_isLacking 0 = .ok (.aload_n 0, 1) := by decide +kernel
theorem dX5_isLacking_1 : decode cX5_isLacking 1 = .ok (.getfield 21, 3) := by decide +kernel
theorem dX5_isLacking_4 : decode cX5_isLacking 4 = .ok (.iload_n 1, 1) := by decide +kernel
theorem dX5_isLacking_5 : decode cX5_isLacking 5 = .ok (.iushr, 1) := by decide +kernel
theorem dX5_isLacking_6 : decode cX5_isLacking 6 = .ok (.iconst 1, 1) := by decide +kernel
theorem dX5_isLacking_7 : decode cX5_isLacking 7 = .ok (.iand, 1) := by decide +kernel
theorem dX5_isLacking_8 : decode cX5_isLacking 8 = .ok (.iconst 1, 1) := by decide +kernel
theorem dX5_isLacking_9 : decode cX5_isLacking 9 = .ok (.if_icmp .ne 7, 3) := by decide +kernel
theorem dX5_isLacking_12 : decode cX5_isLacking 12 = .ok (.iconst 1, 1) := by decide +kernel
theorem dX5_isLacking_13 : decode cX5_isLacking 13 = .ok (.goto 4, 3) := by decide +kernel
theorem dX5_isLacking_16 : decode cX5_isLacking 16 = .ok (.iconst 0, 1) := by decide +kernel
theorem dX5_isLacking_17 : decode cX5_isLacking 17 = .ok (.ireturn, 1) := by decide +kernel
theorem dX5_key_0 : decode cX5_key 0 = .ok (.aload_n 0, 1) := by decide +kernel
theorem dX5_key_1 : decode cX5_key 1 = .ok (.getfield 27, 3) := by decide +kernel
theorem dX5_key_4 : decode cX5_key 4 = .ok (.ifCond .eq 7, 3) := by decide +kernel
theorem dX5_key_7 : decode cX5_key 7 = .ok (.iconst 1, 1) := by decide +kernel
theorem dX5_key_8 : decode cX5_key 8 = .ok (.goto 4, 3) := by decide +kernel
theorem dX5_key_11 : decode cX5_key 11 = .ok (.iconst 0, 1) := by decide +kernel
theorem dX5_key_12 : decode cX5_key 12 = .ok (.aload_n 0, 1) := by decide +kernel
theorem dX5_key_13 : decode cX5_key 13 = .ok (.getfield 31, 3) := by decide +kernel
theorem dX5_key_16 : decode cX5_key 16 = .ok (.ifCond .eq 7, 3) := by decide +kernel
theorem dX5_key_19 : decode cX5_key 19 = .ok (.iconst 2, 1) := by decide +kernel
theorem dX5_key_20 : decode cX5_key 20 = .ok (.goto 4, 3) := by decide +kernel
theorem dX5_key_23 : decode cX5_key 23 = .ok (.iconst 0, 1) := by decide +kernel
theorem dX5_key_24 : decode cX5_key 24 = .ok (.ior, 1) := by decide +kernel
theorem dX5_key_25 : decode cX5_key 25 = .ok (.aload_n 0, 1) := by decide +kernel
theorem dX5_key_26 : decode cX5_key 26 = .ok (.getfield 34, 3) := by decide +kernel
theorem dX5_key_29 : decode cX5_key 29 = .ok (.ifCond .eq 7, 3) := by decide +kernel
theorem dX5_key_32 : decode cX5_key 32 = .ok (.iconst 4, 1) := by decide +kernel
theorem dX5_key_33 : decode cX5_key 33 = .ok (.goto 4, 3) := by decide +kernel
theorem dX5_key_36 : decode cX5_key 36 = .ok (.iconst 0, 1) := by decide +kernel
theorem dX5_key_37 : decode cX5_key 37 = .ok (.ior, 1) := by decide +kernel
theorem dX5_key_38 : decode cX5_key 38 = .ok (.aload_n 0, 1) := by decide +kernel
theorem dX5_key_39 : decode cX5_key 39 = .ok (.getfield 37, 3) := by decide +kernel
theorem dX5_key_42 : decode cX5_key 42 = .ok (.ifCond .eq 8, 3) := by decide +kernel
theorem dX5_key_45 : decode cX5_key 45 = .ok (.bipush 8, 2) := by decide +kernel
theorem dX5_key_47 : decode cX5_key 47 = .ok (.goto 4, 3) := by decide +kernel
theorem dX5_key_50 : decode cX5_key 50 = .ok (.iconst 0, 1) := by decide +kernel
theorem dX5_key_51 : decode cX5_key 51 = .ok (.ior, 1) := by decide +kernel
theorem dX5_key_52 : decode cX5_key 52 = .ok (.istore_n 1, 1) := by decide +kernel
theorem dX5_key_53 : decode cX5_key 53 = .ok (.aload_n 0, 1) := by decide +kernel
theorem dX5_key_54 : decode cX5_key 54 = .ok (.getfield 21, 3) := by decide +kernel
theorem dX5_key_57 : decode cX5_key 57 = .ok (.iconst 3, 1) := by decide +kernel
theorem dX5_key_58 : decode cX5_key 58 = .ok (.ishl, 1) := by decide +kernel
theorem dX5_key_59 : decode cX5_key 59 = .ok (.aload_n 0, 1) := by decide +kernel
theorem dX5_key_60 : decode cX5_key 60 = .ok (.getfield 9, 3) := by decide +kernel
theorem dX5_key_63 : decode cX5_key 63 = .ok (.ior, 1) := by decide +kernel
theorem dX5_key_64 : decode cX5_key 64 = .ok (.iconst 5, 1) := by decide +kernel
theorem dX5_key_65 : decode cX5_key 65 = .ok (.ishl, 1) := by decide +kernel
theorem dX5_key_66 : decode cX5_key 66 = .ok (.aload_n 0, 1) := by decide +kernel
theorem dX5_key_67 : decode cX5_key 67 = .ok (.getfield 24, 3) := by decide +kernel
theorem dX5_key_70 : decode cX5_key 70 = .ok (.ior, 1) := by decide +kernel
theorem dX5_key_71 : decode cX5_key 71 = .ok (.bipush 6, 2) := by decide +kernel
theorem dX5_key_73 : decode cX5_key 73 = .ok (.ishl, 1) := by decide +kernel
theorem dX5_key_74 : decode cX5_key 74 = .ok (.aload_n 0, 1) := by decide +kernel
theorem dX5_key_75 : decode cX5_key 75 = .ok (.getfield 15, 3) := by decide +kernel
theorem dX5_key_78 : decode cX5_key 78 = .ok (.iconst 4, 1) := by decide +kernel
theorem dX5_key_79 : decode cX5_key 79 = .ok (.ishl, 1) := by decide +kernel
theorem dX5_key_80 : decode cX5_key 80 = .ok (.ior, 1) := by decide +kernel
theorem dX5_key_81 : decode cX5_key 81 = .ok (.iload_n 1, 1) := by decide +kernel
theorem dX5_key_82 : decode cX5_key 82 = .ok (.ior, 1) := by decide +kernel
theorem dX5_key_83 : decode cX5_key 83 = .ok (.ireturn, 1) := by decide +kernel
theorem dX6_clear_0 : decode cX6_clear 0 = .ok (.iconst 0, 1) := by decide +kernel
theorem dX6_clear_1 : decode cX6_clear 1 = .ok (.istore_n 1, 1) := by decide +kernel
theorem dX6_clear_2 : decode cX6_clear 2 = .ok (.iload_n 1, 1) := by decide +kernel
theorem dX6_clear_3 : decode cX6_clear 3 = .ok (.bipush 14, 2) := by decide +kernel
theorem dX6_clear_5 : decode cX6_clear 5 = .ok (.if_icmp .ge 16, 3) := by decide +kernel
theorem dX6_clear_8 : decode cX6_clear 8 = .ok (.aload_n 0, 1) := by decide +kernel
theorem dX6_clear_9 : decode cX6_clear 9 = .ok (.getfield 9, 3) := by decide +kernel
theorem dX6_clear_12 : decode cX6_clear 12 = .ok (.iload_n 1, 1) := by decide +kernel
theorem dX6_clear_13 : decode cX6_clear 13 = .ok (.iconst 0, 1) := by decide +kernel
theorem dX6_clear_14 : decode cX6_clear 14 = .ok (.iastore, 1) := by decide +kernel
theorem dX6_clear_15 : decode cX6_clear 15 = .ok (.iinc 1 1, 3) := by decide +kernel
theorem dX6_clear_18 : decode cX6_clear 18 = .ok (.goto (-16), 3) := by decide +kernel
theorem dX6_clear_21 : decode cX6_clear 21 = .ok (.aload_n 0, 1) := by decide +kernel
theorem dX6_clear_22 : decode cX6_clear 22 = .ok (.iconst 0, 1) := by decide +kernel
theorem dX6_clear_23 : decode cX6_clear 23 = .ok (.putfield 15, 3) := by decide +kernel
theorem dX6_clear_26 : decode cX6_clear 26 = .ok (.return_, 1) := by decide +kernel
theorem dX6_copy_0 : decode cX6_copy 0 = .ok (.aload_n 1, 1) := by decide +kernel
theorem dX6_copy_1 : decode cX6_copy 1 = .ok (.getfield 9, 3) := by decide +kernel
theorem dX6_copy_4 : decode cX6_copy 4 = .ok (.iconst 0, 1) := by decide +kernel
theorem dX6_copy_5 : decode cX6_copy 5 = .ok (.aload_n 0, 1) := by decide +kernel
theorem dX6_copy_6 : decode cX6_copy 6 = .ok (.getfield 9, 3) := by decide +kernel
theorem dX6_copy_9 : decode cX6_copy 9 = .ok (.iconst 0, 1) := by decide +kernel
theorem dX6_copy_10 : decode cX6_copy 10 = .ok (.bipush 14, 2) := by decide +kernel
theorem dX6_copy_12 : decode cX6_copy 12 = .ok (.invokestatic 19, 3) := by decide +kernel
theorem dX6_copy_15 : decode cX6_copy 15 = .ok (.aload_n 0, 1) := by decide +kernel
theorem dX6_copy_16 : decode cX6_copy 16 = .ok (.aload_n 1, 1) := by decide +kernel
theorem dX6_copy_17 : decode cX6_copy 17 = .ok (.getfield 15, 3) := by decide +kernel
theorem dX6_copy_20 : decode cX6_copy 20 = .ok (.putfield 15, 3) := by decide +kernel
theorem dX6_copy_23 : decode cX6_copy 23 = .ok (.return_, 1) := by decide +kernel
theorem dX6_isLike_0 : decode cX6_isLike 0 = .ok (.iconst 0, 1) := by decide +kernel
theorem dX6_isLike_1 : decode cX6_isLike 1 = .ok (.istore_n 2, 1) := by decide +kernel
theorem dX6_isLike_2 : decode cX6_isLike 2 = .ok (.iload_n 2, 1) := by decide +kernel
theorem dX6_isLike_3 : decode cX6_isLike 3 = .ok (.bipush 14, 2) := by decide +kernel
theorem dX6_isLike_5 : decode cX6_isLike 5 = .ok (.if_icmp .ge 26, 3) := by decide +kernel
theorem dX6_isLike_8 : decode cX6_isLike 8 = .ok (.aload_n 0, 1) := by decide +kernel
theorem dX6_isLike_9 : decode cX6_isLike 9 = .ok (.getfield 9, 3) := by decide +kernel
theorem dX6_isLike_12 : decode cX6_isLike 12 = .ok (.iload_n 2, 1) := by decide +kernel
theorem dX6_isLike_13 : decode cX6_isLike 13 = .ok (.iaload, 1) := by decide +kernel
theorem dX6_isLike_14 : decode cX6_isLike 14 = .ok (.aload_n 1, 1) := by decide +kernel
theorem dX6_isLike_15 : decode cX6_isLike 15 = .ok (.getfield 9, 3) := by decide +kernel
theorem dX6_isLike_18 : decode cX6_isLike 18 = .ok (.iload_n 2, 1) := by decide +kernel
theorem dX6_isLike_19 : decode cX6_isLike 19 = .ok (.iaload, 1) := by decide +kernel
theorem dX6_isLike_20 : decode cX6_isLike 20 = .ok (.if_icmp .eq 5, 3) := by decide +kernel
theorem dX6_isLike_23 : decode cX6_isLike 23 = .ok (.iconst 0, 1) := by decide +kernel
theorem dX6_isLike_24 : decode cX6_isLike 24 = .ok (.ireturn, 1) := by decide +kernel
theorem dX6_isLike_25 : decode cX6_isLike 25 = .ok (.iinc 2 1, 3) := by decide +kernel
theorem dX6_isLike_28 : decode cX6_isLike 28 = .ok (.goto (-26), 3) := by decide +kernel
theorem dX6_isLike_31 : decode cX6_isLike 31 = .ok (.aload_n 0, 1) := by decide +kernel
theorem dX6_isLike_32 : decode cX6_isLike 32 = .ok (.getfield 15, 3) := by decide +kernel
theorem dX6_isLike_35 : decode cX6_isLike 35 = .ok (.aload_n 1, 1) := by decide +kernel
theorem dX6_isLike_36 : decode cX6_isLike 36 = .ok (.getfield 15, 3) := by decide +kernel
theorem dX6_isLike_39 : decode cX6_isLike 39 = .ok (.if_icmp .ne 7, 3) := by decide +kernel
theorem dX6_isLike_42 : decode cX6_isLike 42 = .ok (.iconst 1, 1) := by decide +kernel
theorem dX6_isLike_43 : decode cX6_isLike 43 = .ok (.goto 4, 3) := by decide +kernel
theorem dX6_isLike_46 : decode cX6_isLike 46 = .ok (.iconst 0, 1) := by decide +kernel
theorem dX6_isLike_47 : decode cX6_isLike 47 = .ok (.ireturn, 1) := by decide +kernel
theorem dX6_inPits_0 : decode cX6_inPits 0 = .ok (.iconst 0, 1) := by decide +kernel
theorem dX6_inPits_1 : decode cX6_inPits 1 = .ok (.istore_n 1, 1) := by decide +kernel
theorem dX6_inPits_2 : decode cX6_inPits 2 = .ok (.iconst 0, 1) := by decide +kernel
theorem dX6_inPits_3 : decode cX6_inPits 3 = .ok (.istore_n 2, 1) := by decide +kernel
theorem dX6_inPits_4 : decode cX6_inPits 4 = .ok (.iload_n 2, 1) := by decide +kernel
theorem dX6_inPits_5 : decode cX6_inPits 5 = .ok (.bipush 12, 2) := by decide +kernel
theorem dX6_inPits_7 : decode cX6_inPits 7 = .ok (.if_icmp .ge 18, 3) := by decide +kernel
theorem dX6_inPits_10 : decode cX6_inPits 10 = .ok (.iload_n 1, 1) := by decide +kernel
theorem dX6_inPits_11 : decode cX6_inPits 11 = .ok (.aload_n 0, 1) := by decide +kernel
theorem dX6_inPits_12 : decode cX6_inPits 12 = .ok (.getfield 9, 3) := by decide +kernel
theorem dX6_inPits_15 : decode cX6_inPits 15 = .ok (.iload_n 2, 1) := by decide +kernel
theorem dX6_inPits_16 : decode cX6_inPits 16 = .ok (.iaload, 1) := by decide +kernel
theorem dX6_inPits_17 : decode cX6_inPits 17 = .ok (.iadd, 1) := by decide +kernel
theorem dX6_inPits_18 : decode cX6_inPits 18 = .ok (.istore_n 1, 1) := by decide +kernel
theorem dX6_inPits_19 : decode cX6_inPits 19 = .ok (.iinc 2 1, 3) := by decide +kernel
theorem dX6_inPits_22 : decode cX6_inPits 22 = .ok (.goto (-18), 3) := by decide +kernel
theorem dX6_inPits_25 : decode cX6_inPits 25 = .ok (.iload_n 1, 1) := by decide +kernel
theorem dX6_inPits_26 : decode cX6_inPits 26 = .ok (.ireturn, 1) := by decide +kernel
theorem dX6_filled_0 : decode cX6_filled 0 = .ok (.iconst 0, 1) := by decide +kernel
theorem dX6_filled_1 : decode cX6_filled 1 = .ok (.istore_n 2, 1) := by decide +kernel
theorem dX6_filled_2 : decode cX6_filled 2 = .ok (.aload_n 0, 1) := by decide +kernel
theorem dX6_filled_3 : decode cX6_filled 3 = .ok (.getfield 15, 3) := by decide +kernel
theorem dX6_filled_6 : decode cX6_filled 6 = .ok (.iload_n 1, 1) := by decide +kernel
theorem dX6_filled_7 : decode cX6_filled 7 = .ok (.imul, 1) := by decide +kernel
theorem dX6_filled_8 : decode cX6_filled 8 = .ok (.istore_n 3, 1) := by decide +kernel
theorem dX6_filled_9 : decode cX6_filled 9 = .ok (.iload_n 3, 1) := by decide +kernel
theorem dX6_filled_10 : decode cX6_filled 10 = .ok (.aload_n 0, 1) := by decide +kernel
theorem dX6_filled_11 : decode cX6_filled 11 = .ok (.getfield 15, 3) := by decide +kernel
theorem dX6_filled_14 : decode cX6_filled 14 = .ok (.iconst 1, 1) := by decide +kernel
theorem dX6_filled_15 : decode cX6_filled 15 = .ok (.iadd, 1) := by decide +kernel
theorem dX6_filled_16 : decode cX6_filled 16 = .ok (.iload_n 1, 1) := by decide +kernel
theorem dX6_filled_17 : decode cX6_filled 17 = .ok (.imul, 1) := by decide +kernel
theorem dX6_filled_18 : decode cX6_filled 18 = .ok (.if_icmp .ge 24, 3) := by decide +kernel
theorem dX6_filled_21 : decode cX6_filled 21 = .ok (.aload_n 0, 1) := by decide +kernel
theorem dX6_filled_22 : decode cX6_filled 22 = .ok (.getfield 9, 3) := by decide +kernel
theorem dX6_filled_25 : decode cX6_filled 25 = .ok (.iload_n 3, 1) := by decide +kernel
theorem dX6_filled_26 : decode cX6_filled 26 = .ok (.iaload, 1) := by decide +kernel
theorem dX6_filled_27 : decode cX6_filled 27 = .ok (.ifCond .le 9, 3) := by decide +kernel
theorem dX6_filled_30 : decode cX6_filled 30 = .ok (.iload_n 2, 1) := by decide +kernel
theorem dX6_filled_31 : decode cX6_filled 31 = .ok (.iconst 1, 1) := by decide +kernel
theorem dX6_filled_32 : decode cX6_filled 32 = .ok (.iload_n 3, 1) := by decide +kernel
theorem dX6_filled_33 : decode cX6_filled 33 = .ok (.ishl, 1) := by decide +kernel
theorem dX6_filled_34 : decode cX6_filled 34 = .ok (.ior, 1) := by decide +kernel
theorem dX6_filled_35 : decode cX6_filled 35 = .ok (.istore_n 2, 1) := by decide +kernel
theorem dX6_filled_36 : decode cX6_filled 36 = .ok (.iinc 3 1, 3) := by decide +kernel
theorem dX6_filled_39 : decode cX6_filled 39 = .ok (.goto (-30), 3) := by decide +kernel
theorem dX6_filled_42 : decode cX6_filled 42 = .ok (.iload_n 2, 1) := by decide +kernel
theorem dX6_filled_43 : decode cX6_filled 43 = .ok (.ireturn, 1) := by decide +kernel
theorem dX6_inRow_0 : decode cX6_inRow 0 = .ok (.iconst 0, 1) := by decide +kernel
theorem dX6_inRow_1 : decode cX6_inRow 1 = .ok (.istore_n 3, 1) := by decide +kernel
theorem dX6_inRow_2 : decode cX6_inRow 2 = .ok (.iload_n 1, 1) := by decide +kernel
theorem dX6_inRow_3 : decode cX6_inRow 3 = .ok (.iload_n 2, 1) := by decide +kernel
theorem dX6_inRow_4 : decode cX6_inRow 4 = .ok (.imul, 1) := by decide +kernel
theorem dX6_inRow_5 : decode cX6_inRow 5 = .ok (.istore 4, 2) := by decide +kernel
theorem dX6_inRow_7 : decode cX6_inRow 7 = .ok (.iload 4, 2) := by decide +kernel
theorem dX6_inRow_9 : decode cX6_inRow 9 = .ok (.iload_n 1, 1) := by decide +kernel
theorem dX6_inRow_10 : decode cX6_inRow 10 = .ok (.iconst 1, 1) := by decide +kernel
theorem dX6_inRow_11 : decode cX6_inRow 11 = .ok (.iadd, 1) := by decide +kernel
theorem dX6_inRow_12 : decode cX6_inRow 12 = .ok (.iload_n 2, 1) := by decide +kernel
theorem dX6_inRow_13 : decode cX6_inRow 13 = .ok (.imul, 1) := by decide +kernel
theorem dX6_inRow_14 : decode cX6_inRow 14 = .ok (.if_icmp .ge 19, 3) := by decide +kernel
theorem dX6_inRow_17 : decode cX6_inRow 17 = .ok (.iload_n 3, 1) := by decide +kernel
theorem dX6_inRow_18 : decode cX6_inRow 18 = .ok (.aload_n 0, 1) := by decide +kernel
theorem dX6_inRow_19 : decode cX6_inRow 19 = .ok (.getfield 9, 3) := by decide +kernel
theorem dX6_inRow_22 : decode cX6_inRow 22 = .ok (.iload 4, 2) := by decide +kernel
theorem dX6_inRow_24 : decode cX6_inRow 24 = .ok (.iaload, 1) := by decide +kernel
theorem dX6_inRow_25 : decode cX6_inRow 25 = .ok (.iadd, 1) := by decide +kernel
theorem dX6_inRow_26 : decode cX6_inRow 26 = .ok (.istore_n 3, 1) := by decide +kernel
theorem dX6_inRow_27 : decode cX6_inRow 27 = .ok (.iinc 4 1, 3) := by decide +kernel
theorem dX6_inRow_30 : decode cX6_inRow 30 = .ok (.goto (-23), 3) := by decide +kernel
theorem dX6_inRow_33 : decode cX6_inRow 33 = .ok (.iload_n 3, 1) := by decide +kernel
theorem dX6_inRow_34 : decode cX6_inRow 34 = .ok (.ireturn, 1) := by decide +kernel
theorem dX7_halfOf_0 : decode cX7_halfOf 0 = .ok (.aload_n 0, 1) := by decide +kernel
theorem dX7_halfOf_1 : decode cX7_halfOf 1 = .ok (.getfield 46, 3) := by decide +kernel
theorem dX7_halfOf_4 : decode cX7_halfOf 4 = .ok (.getfield 83, 3) := by decide +kernel
theorem dX7_halfOf_7 : decode cX7_halfOf 7 = .ok (.ifCond .eq 7, 3) := by decide +kernel
theorem dX7_halfOf_10 : decode cX7_halfOf 10 = .ok (.iconst 0, 1) := by decide +kernel
theorem dX7_halfOf_11 : decode cX7_halfOf 11 = .ok (.goto 4, 3) := by decide +kernel
theorem dX7_halfOf_14 : decode cX7_halfOf 14 = .ok (.iload_n 1, 1) := by decide +kernel
theorem dX7_halfOf_15 : decode cX7_halfOf 15 = .ok (.ireturn, 1) := by decide +kernel
theorem dX7_indexOf_0 : decode cX7_indexOf 0 = .ok (.aload_n 0, 1) := by decide +kernel
theorem dX7_indexOf_1 : decode cX7_indexOf 1 = .ok (.iload_n 1, 1) := by decide +kernel
theorem dX7_indexOf_2 : decode cX7_indexOf 2 = .ok (.invokevirtual 72, 3) := by decide +kernel
theorem dX7_indexOf_5 : decode cX7_indexOf 5 = .ok (.sipush 6000, 3) := by decide +kernel
theorem dX7_indexOf_8 : decode cX7_indexOf 8 = .ok (.imul, 1) := by decide +kernel
theorem dX7_indexOf_9 : decode cX7_indexOf 9 = .ok (.aload_n 0, 1) := by decide +kernel
theorem dX7_indexOf_10 : decode cX7_indexOf 10 = .ok (.getfield 46, 3) := by decide +kernel
theorem dX7_indexOf_13 : decode cX7_indexOf 13 = .ok (.iload_n 2, 1) := by decide +kernel
theorem dX7_indexOf_14 : decode cX7_indexOf 14 = .ok (.iconst 1, 1) := by decide +kernel
theorem dX7_indexOf_15 : decode cX7_indexOf 15 = .ok (.isub, 1) := by decide +kernel
theorem dX7_indexOf_16 : decode cX7_indexOf 16 = .ok (.invokevirtual 54, 3) := by decide +kernel
theorem dX7_indexOf_19 : decode cX7_indexOf 19 = .ok (.iadd, 1) := by decide +kernel
theorem dX7_indexOf_20 : decode cX7_indexOf 20 = .ok (.iload_n 3, 1) := by decide +kernel
theorem dX7_indexOf_21 : decode cX7_indexOf 21 = .ok (.iadd, 1) := by decide +kernel
theorem dX7_indexOf_22 : decode cX7_indexOf 22 = .ok (.ireturn, 1) := by decide +kernel
theorem dX7_indexAt_0 : decode cX7_indexAt 0 = .ok (.aload_n 0, 1) := by decide +kernel
theorem dX7_indexAt_1 : decode cX7_indexAt 1 = .ok (.aload_n 1, 1) := by decide +kernel
theorem dX7_indexAt_2 : decode cX7_indexAt 2 = .ok (.getfield 87, 3) := by decide +kernel
theorem dX7_indexAt_5 : decode cX7_indexAt 5 = .ok (.iload_n 2, 1) := by decide +kernel
theorem dX7_indexAt_6 : decode cX7_indexAt 6 = .ok (.aload_n 0, 1) := by decide +kernel
theorem dX7_indexAt_7 : decode cX7_indexAt 7 = .ok (.getfield 46, 3) := by decide +kernel
theorem dX7_indexAt_10 : decode cX7_indexAt 10 = .ok (.aload_n 1, 1) := by decide +kernel
theorem dX7_indexAt_11 : decode cX7_indexAt 11 = .ok (.iload_n 2, 1) := by decide +kernel
theorem dX7_indexAt_12 : decode cX7_indexAt 12 = .ok (.invokevirtual 90, 3) := by decide +kernel
theorem dX7_indexAt_15 : decode cX7_indexAt 15 = .ok (.invokevirtual 94, 3) := by decide +kernel
theorem dX7_indexAt_18 : decode cX7_indexAt 18 = .ok (.ireturn, 1) := by decide +kernel
theorem dX7_weighAll_0 : decode cX7_weighAll 0 = .ok (.iload_n 1, 1) := by decide +kernel
theorem dX7_weighAll_1 : decode cX7_weighAll 1 = .ok (.sipush 3003, 3) := by decide +kernel
theorem dX7_weighAll_4 : decode cX7_weighAll 4 = .ok (.imul, 1) := by decide +kernel
theorem dX7_weighAll_5 : decode cX7_weighAll 5 = .ok (.aload_n 0, 1) := by decide +kernel
theorem dX7_weighAll_6 : decode cX7_weighAll 6 = .ok (.getfield 46, 3) := by decide +kernel
theorem dX7_weighAll_9 : decode cX7_weighAll 9 = .ok (.iload_n 2, 1) := by decide +kernel
theorem dX7_weighAll_10 : decode cX7_weighAll 10 = .ok (.invokevirtual 69, 3) := by decide +kernel
theorem dX7_weighAll_13 : decode cX7_weighAll 13 = .ok (.iadd, 1) := by decide +kernel
theorem dX7_weighAll_14 : decode cX7_weighAll 14 = .ok (.istore_n 3, 1) := by decide +kernel
theorem dX7_weighAll_15 : decode cX7_weighAll 15 = .ok (.iload_n 1, 1) := by decide +kernel
theorem dX7_weighAll_16 : decode cX7_weighAll 16 = .ok (.sipush 3003, 3) := by decide +kernel
theorem dX7_weighAll_19 : decode cX7_weighAll 19 = .ok (.imul, 1) := by decide +kernel
theorem dX7_weighAll_20 : decode cX7_weighAll 20 = .ok (.istore 4, 2) := by decide +kernel
theorem dX7_weighAll_22 : decode cX7_weighAll 22 = .ok (.iload 4, 2) := by decide +kernel
theorem dX7_weighAll_24 : decode cX7_weighAll 24 = .ok (.iload_n 3, 1) := by decide +kernel
theorem dX7_weighAll_25 : decode cX7_weighAll 25 = .ok (.if_icmp .ge 87, 3) := by decide +kernel
theorem dX7_weighAll_28 : decode cX7_weighAll 28 = .ok (.aload_n 0, 1) := by decide +kernel
theorem dX7_weighAll_29 : decode cX7_weighAll 29 = .ok (.getfield 29, 3) := by decide +kernel
theorem dX7_weighAll_32 : decode cX7_weighAll 32 = .ok (.iload 4, 2) := by decide +kernel
theorem dX7_weighAll_34 : decode cX7_weighAll 34 = .ok (.iaload, 1) := by decide +kernel
theorem dX7_weighAll_35 : decode cX7_weighAll 35 = .ok (.istore 5, 2) := by decide +kernel
theorem dX7_weighAll_37 : decode cX7_weighAll 37 = .ok (.iload 4, 2) := by decide +kernel
theorem dX7_weighAll_39 : decode cX7_weighAll 39 = .ok (.bipush 6, 2) := by decide +kernel
theorem dX7_weighAll_41 : decode cX7_weighAll 41 = .ok (.imul, 1) := by decide +kernel
theorem dX7_weighAll_42 : decode cX7_weighAll 42 = .ok (.istore 6, 2) := by decide +kernel
theorem dX7_weighAll_44 : decode cX7_weighAll 44 = .ok (.iload 6, 2) := by decide +kernel
theorem dX7_weighAll_46 : decode cX7_weighAll 46 = .ok (.aload_n 0, 1) := by decide +kernel
theorem dX7_weighAll_47 : decode cX7_weighAll 47 = .ok (.getfield 35, 3) := by decide +kernel
theorem dX7_weighAll_50 : decode cX7_weighAll 50 = .ok (.iload 4, 2) := by decide +kernel
theorem dX7_weighAll_52 : decode cX7_weighAll 52 = .ok (.iaload, 1) := by decide +kernel
theorem dX7_weighAll_53 : decode cX7_weighAll 53 = .ok (.iadd, 1) := by decide +kernel
theorem dX7_weighAll_54 : decode cX7_weighAll 54 = .ok (.iconst 1, 1) := by decide +kernel
theorem dX7_weighAll_55 : decode cX7_weighAll 55 = .ok (.isub, 1) := by decide +kernel
theorem dX7_weighAll_56 : decode cX7_weighAll 56 = .ok (.istore 7, 2) := by decide +kernel
theorem dX7_weighAll_58 : decode cX7_weighAll 58 = .ok (.iload 7, 2) := by decide +kernel
theorem dX7_weighAll_60 : decode cX7_weighAll 60 = .ok (.iload 6, 2) := by decide +kernel
theorem dX7_weighAll_62 : decode cX7_weighAll 62 = .ok (.if_icmp .lt 35, 3) := by decide +kernel
theorem dX7_weighAll_65 : decode cX7_weighAll 65 = .ok (.aload_n 0, 1) := by decide +kernel
theorem dX7_weighAll_66 : decode cX7_weighAll 66 = .ok (.getfield 9, 3) := by decide +kernel
theorem dX7_weighAll_69 : decode cX7_weighAll 69 = .ok (.aload_n 0, 1) := by decide +kernel
theorem dX7_weighAll_70 : decode cX7_weighAll 70 = .ok (.getfield 39, 3) := by decide +kernel
theorem dX7_weighAll_73 : decode cX7_weighAll 73 = .ok (.iload 7, 2) := by decide +kernel
theorem dX7_weighAll_75 : decode cX7_weighAll 75 = .ok (.iaload, 1) := by decide +kernel
theorem dX7_weighAll_76 : decode cX7_weighAll 76 = .ok (.iaload, 1) := by decide +kernel
theorem dX7_weighAll_77 : decode cX7_weighAll 77 = .ok (.ineg, 1) := by decide +kernel
theorem dX7_weighAll_78 : decode cX7_weighAll 78 = .ok (.istore 8, 2) := by decide +kernel
theorem dX7_weighAll_80 : decode cX7_weighAll 80 = .ok (.iload 8, 2) := by decide +kernel
theorem dX7_weighAll_82 : decode cX7_weighAll 82 = .ok (.iload 5, 2) := by decide +kernel
theorem dX7_weighAll_84 : decode cX7_weighAll 84 = .ok (.if_icmp .le 7, 3) := by decide +kernel
theorem dX7_weighAll_87 : decode cX7_weighAll 87 = .ok (.iload 8, 2) := by decide +kernel
theorem dX7_weighAll_89 : decode cX7_weighAll 89 = .ok (.istore 5, 2) := by decide +kernel
theorem dX7_weighAll_91 : decode cX7_weighAll 91 = .ok (.iinc 7 (-1), 3) := by decide +kernel
theorem dX7_weighAll_94 : decode cX7_weighAll 94 = .ok (.goto (-36), 3) := by decide +kernel
theorem dX7_weighAll_97 : decode cX7_weighAll 97 = .ok (.aload_n 0, 1) := by decide +kernel
theorem dX7_weighAll_98 : decode cX7_weighAll 98 = .ok (.getfield 32, 3) := by decide +kernel
theorem dX7_weighAll_101 : decode cX7_weighAll 101 = .ok (.iload 4, 2) := by decide +kernel
theorem dX7_weighAll_103 : decode cX7_weighAll 103 = .ok (.iload 5, 2) := by decide +kernel
theorem dX7_weighAll_105 : decode cX7_weighAll 105 = .ok (.iastore, 1) := by decide +kernel
theorem dX7_weighAll_106 : decode cX7_weighAll 106 = .ok (.iinc 4 1, 3) := by decide +kernel
theorem dX7_weighAll_109 : decode cX7_weighAll 109 = .ok (.goto (-87), 3) := by decide +kernel
theorem dX7_weighAll_112 : decode cX7_weighAll 112 = .ok (.return_, 1) := by decide +kernel
theorem dX7_settleAll_0 : decode cX7_settleAll 0 = .ok (.aload_n 0, 1) := by decide +kernel
theorem dX7_settleAll_1 : decode cX7_settleAll 1 = .ok (.getfield 46, 3) := by decide +kernel
theorem dX7_settleAll_4 : decode cX7_settleAll 4 = .ok (.iload_n 2, 1) := by decide +kernel
theorem dX7_settleAll_5 : decode cX7_settleAll 5 = .ok (.invokevirtual 69, 3) := by decide +kernel
theorem dX7_settleAll_8 : decode cX7_settleAll 8 = .ok (.istore 4, 2) := by decide +kernel
theorem dX7_settleAll_10 : decode cX7_settleAll 10 = .ok (.aload_n 0, 1) := by decide +kernel
theorem dX7_settleAll_11 : decode cX7_settleAll 11 = .ok (.iload_n 1, 1) := by decide +kernel
theorem dX7_settleAll_12 : decode cX7_settleAll 12 = .ok (.iload_n 2, 1) := by decide +kernel
theorem dX7_settleAll_13 : decode cX7_settleAll 13 = .ok (.iconst 0, 1) := by decide +kernel
theorem dX7_settleAll_14 : decode cX7_settleAll 14 = .ok (.invokevirtual 94, 3) := by decide +kernel
theorem dX7_settleAll_17 : decode cX7_settleAll 17 = .ok (.istore 5, 2) := by decide +kernel
theorem dX7_settleAll_19 : decode cX7_settleAll 19 = .ok (.iconst 0, 1) := by decide +kernel
theorem dX7_settleAll_20 : decode cX7_settleAll 20 = .ok (.istore 6, 2) := by decide +kernel
theorem dX7_settleAll_22 : decode cX7_settleAll 22 = .ok (.iconst 0, 1) := by decide +kernel
theorem dX7_settleAll_23 : decode cX7_settleAll 23 = .ok (.istore 7, 2) := by decide +kernel
theorem dX7_settleAll_25 : decode cX7_settleAll 25 = .ok (.iload 7, 2) := by decide +kernel
theorem dX7_settleAll_27 : decode cX7_settleAll 27 = .ok (.iload 4, 2) := by decide +kernel
theorem dX7_settleAll_29 : decode cX7_settleAll 29 = .ok (.if_icmp .ge 79, 3) := by decide +kernel
theorem dX7_settleAll_32 : decode cX7_settleAll 32 = .ok (.aload_n 0, 1) := by decide +kernel
theorem dX7_settleAll_33 : decode cX7_settleAll 33 = .ok (.getfield 32, 3) := by decide +kernel
theorem dX7_settleAll_36 : decode cX7_settleAll 36 = .ok (.iload_n 1, 1) := by decide +kernel
theorem dX7_settleAll_37 : decode cX7_settleAll 37 = .ok (.sipush 3003, 3) := by decide +kernel
theorem dX7_settleAll_40 : decode cX7_settleAll 40 = .ok (.imul, 1) := by decide +kernel
theorem dX7_settleAll_41 : decode cX7_settleAll 41 = .ok (.iload 7, 2) := by decide +kernel
theorem dX7_settleAll_43 : decode cX7_settleAll 43 = .ok (.iadd, 1) := by decide +kernel
theorem dX7_settleAll_44 : decode cX7_settleAll 44 = .ok (.iaload, 1) := by decide +kernel
theorem dX7_settleAll_45 : decode cX7_settleAll 45 = .ok (.istore 8, 2) := by decide +kernel
theorem dX7_settleAll_47 : decode cX7_settleAll 47 = .ok (.aload_n 0, 1) := by decide +kernel
theorem dX7_settleAll_48 : decode cX7_settleAll 48 = .ok (.getfield 15, 3) := by decide +kernel
theorem dX7_settleAll_51 : decode cX7_settleAll 51 = .ok (.iload 5, 2) := by decide +kernel
theorem dX7_settleAll_53 : decode cX7_settleAll 53 = .ok (.iload 7, 2) := by decide +kernel
theorem dX7_settleAll_55 : decode cX7_settleAll 55 = .ok (.iadd, 1) := by decide +kernel
theorem dX7_settleAll_56 : decode cX7_settleAll 56 = .ok (.iaload, 1) := by decide +kernel
theorem dX7_settleAll_57 : decode cX7_settleAll 57 = .ok (.iconst (-1), 1) := by decide +kernel
theorem dX7_settleAll_58 : decode cX7_settleAll 58 = .ok (.if_icmp .eq 44, 3) := by decide +kernel
theorem dX7_settleAll_61 : decode cX7_settleAll 61 = .ok (.aload_n 0, 1) := by decide +kernel
theorem dX7_settleAll_62 : decode cX7_settleAll 62 = .ok (.getfield 9, 3) := by decide +kernel
theorem dX7_settleAll_65 : decode cX7_settleAll 65 = .ok (.iload 5, 2) := by decide +kernel
theorem dX7_settleAll_67 : decode cX7_settleAll 67 = .ok (.iload 7, 2) := by decide +kernel
theorem dX7_settleAll_69 : decode cX7_settleAll 69 = .ok (.iadd, 1) := by decide +kernel
theorem dX7_settleAll_70 : decode cX7_settleAll 70 = .ok (.iaload, 1) := by decide +kernel
theorem dX7_settleAll_71 : decode cX7_settleAll 71 = .ok (.iload 8, 2) := by decide +kernel
theorem dX7_settleAll_73 : decode cX7_settleAll 73 = .ok (.if_icmp .eq 29, 3) := by decide +kernel
theorem dX7_settleAll_76 : decode cX7_settleAll 76 = .ok (.aload_n 0, 1) := by decide +kernel
theorem dX7_settleAll_77 : decode cX7_settleAll 77 = .ok (.getfield 9, 3) := by decide +kernel
theorem dX7_settleAll_80 : decode cX7_settleAll 80 = .ok (.iload 5, 2) := by decide +kernel
theorem dX7_settleAll_82 : decode cX7_settleAll 82 = .ok (.iload 7, 2) := by decide +kernel
theorem dX7_settleAll_84 : decode cX7_settleAll 84 = .ok (.iadd, 1) := by decide +kernel
theorem dX7_settleAll_85 : decode cX7_settleAll 85 = .ok (.iload 8, 2) := by decide +kernel
theorem dX7_settleAll_87 : decode cX7_settleAll 87 = .ok (.iastore, 1) := by decide +kernel
theorem dX7_settleAll_88 : decode cX7_settleAll 88 = .ok (.aload_n 0, 1) := by decide +kernel
theorem dX7_settleAll_89 : decode cX7_settleAll 89 = .ok (.getfield 15, 3) := by decide +kernel
theorem dX7_settleAll_92 : decode cX7_settleAll 92 = .ok (.iload 5, 2) := by decide +kernel
theorem dX7_settleAll_94 : decode cX7_settleAll 94 = .ok (.iload 7, 2) := by decide +kernel
theorem dX7_settleAll_96 : decode cX7_settleAll 96 = .ok (.iadd, 1) := by decide +kernel
theorem dX7_settleAll_97 : decode cX7_settleAll 97 = .ok (.iload_n 3, 1) := by decide +kernel
theorem dX7_settleAll_98 : decode cX7_settleAll 98 = .ok (.iastore, 1) := by decide +kernel
theorem dX7_settleAll_99 : decode cX7_settleAll 99 = .ok (.iconst 1, 1) := by decide +kernel
theorem dX7_settleAll_100 : decode cX7_settleAll 100 = .ok (.istore 6, 2) := by decide +kernel
theorem dX7_settleAll_102 : decode cX7_settleAll 102 = .ok (.iinc 7 1, 3) := by decide +kernel
theorem dX7_settleAll_105 : decode cX7_settleAll 105 = .ok (.goto (-80), 3) := by decide +kernel
theorem dX7_settleAll_108 : decode cX7_settleAll 108 = .ok (.iload 6, 2) := by decide +kernel
theorem dX7_settleAll_110 : decode cX7_settleAll 110 = .ok (.ireturn, 1) := by decide +kernel
theorem dX7_valueAt_0 : decode cX7_valueAt 0 = .ok (.aload_n 0, 1) := by decide +kernel
theorem dX7_valueAt_1 : decode cX7_valueAt 1 = .ok (.getfield 9, 3) := by decide +kernel
theorem dX7_valueAt_4 : decode cX7_valueAt 4 = .ok (.aload_n 0, 1) := by decide +kernel
theorem dX7_valueAt_5 : decode cX7_valueAt 5 = .ok (.aload_n 1, 1) := by decide +kernel
theorem dX7_valueAt_6 : decode cX7_valueAt 6 = .ok (.aload_n 1, 1) := by decide +kernel
theorem dX7_valueAt_7 : decode cX7_valueAt 7 = .ok (.invokevirtual 145, 3) := by decide +kernel
theorem dX7_valueAt_10 : decode cX7_valueAt 10 = .ok (.invokevirtual 137, 3) := by decide +kernel
theorem dX7_valueAt_13 : decode cX7_valueAt 13 = .ok (.iaload, 1) := by decide +kernel
theorem dX7_valueAt_14 : decode cX7_valueAt 14 = .ok (.ireturn, 1) := by decide +kernel
theorem dX7_markOf_0 : decode cX7_markOf 0 = .ok (.aload_n 1, 1) := by decide +kernel
theorem dX7_markOf_1 : decode cX7_markOf 1 = .ok (.invokevirtual 145, 3) := by decide +kernel
theorem dX7_markOf_4 : decode cX7_markOf 4 = .ok (.istore_n 2, 1) := by decide +kernel
theorem dX7_markOf_5 : decode cX7_markOf 5 = .ok (.iconst 2, 1) := by decide +kernel
theorem dX7_markOf_6 : decode cX7_markOf 6 = .ok (.aload_n 0, 1) := by decide +kernel
theorem dX7_markOf_7 : decode cX7_markOf 7 = .ok (.getfield 46, 3) := by decide +kernel
theorem dX7_markOf_10 : decode cX7_markOf 10 = .ok (.iload_n 2, 1) := by decide +kernel
theorem dX7_markOf_11 : decode cX7_markOf 11 = .ok (.iconst 1, 1) := by decide +kernel
theorem dX7_markOf_12 : decode cX7_markOf 12 = .ok (.isub, 1) := by decide +kernel
theorem dX7_markOf_13 : decode cX7_markOf 13 = .ok (.invokevirtual 54, 3) := by decide +kernel
theorem dX7_markOf_16 : decode cX7_markOf 16 = .ok (.aload_n 0, 1) := by decide +kernel
theorem dX7_markOf_17 : decode cX7_markOf 17 = .ok (.getfield 46, 3) := by decide +kernel
theorem dX7_markOf_20 : decode cX7_markOf 20 = .ok (.aload_n 1, 1) := by decide +kernel
theorem dX7_markOf_21 : decode cX7_markOf 21 = .ok (.iload_n 2, 1) := by decide +kernel
theorem dX7_markOf_22 : decode cX7_markOf 22 = .ok (.invokevirtual 90, 3) := by decide +kernel
theorem dX7_markOf_25 : decode cX7_markOf 25 = .ok (.iadd, 1) := by decide +kernel
theorem dX7_markOf_26 : decode cX7_markOf 26 = .ok (.imul, 1) := by decide +kernel
theorem dX7_markOf_27 : decode cX7_markOf 27 = .ok (.aload_n 1, 1) := by decide +kernel
theorem dX7_markOf_28 : decode cX7_markOf 28 = .ok (.getfield 87, 3) := by decide +kernel
theorem dX7_markOf_31 : decode cX7_markOf 31 = .ok (.iadd, 1) := by decide +kernel
theorem dX7_markOf_32 : decode cX7_markOf 32 = .ok (.ireturn, 1) := by decide +kernel
theorem dX7_isOfKind_0 : decode cX7_isOfKind 0 = .ok (.iload_n 2, 1) := by decide +kernel
theorem dX7_isOfKind_1 : decode cX7_isOfKind 1 = .ok (.tableswitch 72 0 2 #[27, 42, 57], 27) := by decide +kernel
theorem dX7_isOfKind_28 : decode cX7_isOfKind 28 = .ok (.aload_n 0, 1) := by decide +kernel
theorem dX7_isOfKind_29 : decode cX7_isOfKind 29 = .ok (.getfield 9, 3) := by decide +kernel
theorem dX7_isOfKind_32 : decode cX7_isOfKind 32 = .ok (.iload_n 1, 1) := by decide +kernel
theorem dX7_isOfKind_33 : decode cX7_isOfKind 33 = .ok (.iaload, 1) := by decide +kernel
theorem dX7_isOfKind_34 : decode cX7_isOfKind 34 = .ok (.ifCond .le 7, 3) := by decide +kernel
theorem dX7_isOfKind_37 : decode cX7_isOfKind 37 = .ok (.iconst 1, 1) := by decide +kernel
theorem dX7_isOfKind_38 : decode cX7_isOfKind 38 = .ok (.goto 4, 3) := by decide +kernel
theorem dX7_isOfKind_41 : decode cX7_isOfKind 41 = .ok (.iconst 0, 1) := by decide +kernel
theorem dX7_isOfKind_42 : decode cX7_isOfKind 42 = .ok (.ireturn, 1) := by decide +kernel
theorem dX7_isOfKind_43 : decode cX7_isOfKind 43 = .ok (.aload_n 0, 1) := by decide +kernel
theorem dX7_isOfKind_44 : decode cX7_isOfKind 44 = .ok (.getfield 9, 3) := by decide +kernel
theorem dX7_isOfKind_47 : decode cX7_isOfKind 47 = .ok (.iload_n 1, 1) := by decide +kernel
theorem dX7_isOfKind_48 : decode cX7_isOfKind 48 = .ok (.iaload, 1) := by decide +kernel
theorem dX7_isOfKind_49 : decode cX7_isOfKind 49 = .ok (.ifCond .ne 7, 3) := by decide +kernel
theorem dX7_isOfKind_52 : decode cX7_isOfKind 52 = .ok (.iconst 1, 1) := by decide +kernel
theorem dX7_isOfKind_53 : decode cX7_isOfKind 53 = .ok (.goto 4, 3) := by decide +kernel
theorem dX7_isOfKind_56 : decode cX7_isOfKind 56 = .ok (.iconst 0, 1) := by decide +kernel
theorem dX7_isOfKind_57 : decode cX7_isOfKind 57 = .ok (.ireturn, 1) := by decide +kernel
theorem dX7_isOfKind_58 : decode cX7_isOfKind 58 = .ok (.aload_n 0, 1) := by decide +kernel
theorem dX7_isOfKind_59 : decode cX7_isOfKind 59 = .ok (.getfield 9, 3) := by decide +kernel
theorem dX7_isOfKind_62 : decode cX7_isOfKind 62 = .ok (.iload_n 1, 1) := by decide +kernel
theorem dX7_isOfKind_63 : decode cX7_isOfKind 63 = .ok (.iaload, 1) := by decide +kernel
theorem dX7_isOfKind_64 : decode cX7_isOfKind 64 = .ok (.ifCond .ge 7, 3) := by decide +kernel
theorem dX7_isOfKind_67 : decode cX7_isOfKind 67 = .ok (.iconst 1, 1) := by decide +kernel
theorem dX7_isOfKind_68 : decode cX7_isOfKind 68 = .ok (.goto 4, 3) := by decide +kernel
theorem dX7_isOfKind_71 : decode cX7_isOfKind 71 = .ok (.iconst 0, 1) := by decide +kernel
theorem dX7_isOfKind_72 : decode cX7_isOfKind 72 = .ok (.ireturn, 1) := by decide +kernel
theorem dX7_isOfKind_73 : decode cX7_isOfKind 73 = .ok (.aload_n 0, 1) := by decide +kernel
theorem dX7_isOfKind_74 : decode cX7_isOfKind 74 = .ok (.getfield 15, 3) := by decide +kernel
theorem dX7_isOfKind_77 : decode cX7_isOfKind 77 = .ok (.iload_n 1, 1) := by decide +kernel
theorem dX7_isOfKind_78 : decode cX7_isOfKind 78 = .ok (.iaload, 1) := by decide +kernel
theorem dX7_isOfKind_79 : decode cX7_isOfKind 79 = .ok (.iconst (-1), 1) := by decide +kernel
theorem dX7_isOfKind_80 : decode cX7_isOfKind 80 = .ok (.if_icmp .ne 7, 3) := by decide +kernel
theorem dX7_isOfKind_83 : decode cX7_isOfKind 83 = .ok (.iconst 1, 1) := by decide +kernel
theorem dX7_isOfKind_84 : decode cX7_isOfKind 84 = .ok (.goto 4, 3) := by decide +kernel
theorem dX7_isOfKind_87 : decode cX7_isOfKind 87 = .ok (.iconst 0, 1) := by decide +kernel
theorem dX7_isOfKind_88 : decode cX7_isOfKind 88 = .ok (.ireturn, 1) := by decide +kernel
theorem dX8_isOwn_0 : decode cX8_isOwn 0 = .ok (.lload_n 2, 1) := by decide +kernel
theorem dX8_isOwn_1 : decode cX8_isOwn 1 = .ok (.aload_n 1, 1) := by decide +kernel
theorem dX8_isOwn_2 : decode cX8_isOwn 2 = .ok (.getfield 30, 3) := by decide +kernel
theorem dX8_isOwn_5 : decode cX8_isOwn 5 = .ok (.aload_n 0, 1) := by decide +kernel
theorem dX8_isOwn_6 : decode cX8_isOwn 6 = .ok (.getfield 21, 3) := by decide +kernel
theorem dX8_isOwn_9 : decode cX8_isOwn 9 = .ok (.getfield 34, 3) := by decide +kernel
theorem dX8_isOwn_12 : decode cX8_isOwn 12 = .ok (.imul, 1) := by decide +kernel
theorem dX8_isOwn_13 : decode cX8_isOwn 13 = .ok (.i2l, 1) := by decide +kernel
theorem dX8_isOwn_14 : decode cX8_isOwn 14 = .ok (.lsub, 1) := by decide +kernel
theorem dX8_isOwn_15 : decode cX8_isOwn 15 = .ok (.lstore 4, 2) := by decide +kernel
theorem dX8_isOwn_17 : decode cX8_isOwn 17 = .ok (.lload 4, 2) := by decide +kernel
theorem dX8_isOwn_19 : decode cX8_isOwn 19 = .ok (.lconst 0, 1) := by decide +kernel
theorem dX8_isOwn_20 : decode cX8_isOwn 20 = .ok (.lcmp, 1) := by decide +kernel
theorem dX8_isOwn_21 : decode cX8_isOwn 21 = .ok (.ifCond .lt 33, 3) := by decide +kernel
theorem dX8_isOwn_24 : decode cX8_isOwn 24 = .ok (.lload 4, 2) := by decide +kernel
theorem dX8_isOwn_26 : decode cX8_isOwn 26 = .ok (.aload_n 0, 1) := by decide +kernel
theorem dX8_isOwn_27 : decode cX8_isOwn 27 = .ok (.getfield 21, 3) := by decide +kernel
theorem dX8_isOwn_30 : decode cX8_isOwn 30 = .ok (.getfield 34, 3) := by decide +kernel
theorem dX8_isOwn_33 : decode cX8_isOwn 33 = .ok (.i2l, 1) := by decide +kernel
theorem dX8_isOwn_34 : decode cX8_isOwn 34 = .ok (.lcmp, 1) := by decide +kernel
theorem dX8_isOwn_35 : decode cX8_isOwn 35 = .ok (.ifCond .ge 19, 3) := by decide +kernel
theorem dX8_isOwn_38 : decode cX8_isOwn 38 = .ok (.aload_n 0, 1) := by decide +kernel
theorem dX8_isOwn_39 : decode cX8_isOwn 39 = .ok (.getfield 21, 3) := by decide +kernel
theorem dX8_isOwn_42 : decode cX8_isOwn 42 = .ok (.lload_n 2, 1) := by decide +kernel
theorem dX8_isOwn_43 : decode cX8_isOwn 43 = .ok (.l2i, 1) := by decide +kernel
theorem dX8_isOwn_44 : decode cX8_isOwn 44 = .ok (.invokevirtual 39, 3) := by decide +kernel
theorem dX8_isOwn_47 : decode cX8_isOwn 47 = .ok (.ifCond .ne 7, 3) := by decide +kernel
theorem dX8_isOwn_50 : decode cX8_isOwn 50 = .ok (.iconst 1, 1) := by decide +kernel
theorem dX8_isOwn_51 : decode cX8_isOwn 51 = .ok (.goto 4, 3) := by decide +kernel
theorem dX8_isOwn_54 : decode cX8_isOwn 54 = .ok (.iconst 0, 1) := by decide +kernel
theorem dX8_isOwn_55 : decode cX8_isOwn 55 = .ok (.ireturn, 1) := by decide +kernel
theorem dX8_scatter_0 : decode cX8_scatter 0 = .ok (.aload_n 1, 1) := by decide +kernel
theorem dX8_scatter_1 : decode cX8_scatter 1 = .ok (.getfield 43, 3) := by decide +kernel
theorem dX8_scatter_4 : decode cX8_scatter 4 = .ok (.astore_n 3, 1) := by decide +kernel
theorem dX8_scatter_5 : decode cX8_scatter 5 = .ok (.aload_n 0, 1) := by decide +kernel
theorem dX8_scatter_6 : decode cX8_scatter 6 = .ok (.getfield 25, 3) := by decide +kernel
theorem dX8_scatter_9 : decode cX8_scatter 9 = .ok (.getfield 53, 3) := by decide +kernel
theorem dX8_scatter_12 : decode cX8_scatter 12 = .ok (.astore 4, 2) := by decide +kernel
theorem dX8_scatter_14 : decode cX8_scatter 14 = .ok (.aload_n 1, 1) := by decide +kernel
theorem dX8_scatter_15 : decode cX8_scatter 15 = .ok (.getfield 30, 3) := by decide +kernel
theorem dX8_scatter_18 : decode cX8_scatter 18 = .ok (.bipush 14, 2) := by decide +kernel
theorem dX8_scatter_20 : decode cX8_scatter 20 = .ok (.imul, 1) := by decide +kernel
theorem dX8_scatter_21 : decode cX8_scatter 21 = .ok (.istore 5, 2) := by decide +kernel
theorem dX8_scatter_23 : decode cX8_scatter 23 = .ok (.iload_n 2, 1) := by decide +kernel
theorem dX8_scatter_24 : decode cX8_scatter 24 = .ok (.istore 6, 2) := by decide +kernel
theorem dX8_scatter_26 : decode cX8_scatter 26 = .ok (.aload_n 3, 1) := by decide +kernel
theorem dX8_scatter_27 : decode cX8_scatter 27 = .ok (.iload_n 2, 1) := by decide +kernel
theorem dX8_scatter_28 : decode cX8_scatter 28 = .ok (.iaload, 1) := by decide +kernel
theorem dX8_scatter_29 : decode cX8_scatter 29 = .ok (.istore 7, 2) := by decide +kernel
theorem dX8_scatter_31 : decode cX8_scatter 31 = .ok (.aload_n 3, 1) := by decide +kernel
theorem dX8_scatter_32 : decode cX8_scatter 32 = .ok (.iload_n 2, 1) := by decide +kernel
theorem dX8_scatter_33 : decode cX8_scatter 33 = .ok (.iconst 0, 1) := by decide +kernel
theorem dX8_scatter_34 : decode cX8_scatter 34 = .ok (.iastore, 1) := by decide +kernel
theorem dX8_scatter_35 : decode cX8_scatter 35 = .ok (.iload 7, 2) := by decide +kernel
theorem dX8_scatter_37 : decode cX8_scatter 37 = .ok (.ifCond .le 53, 3) := by decide +kernel
theorem dX8_scatter_40 : decode cX8_scatter 40 = .ok (.aload 4, 2) := by decide +kernel
theorem dX8_scatter_42 : decode cX8_scatter 42 = .ok (.iload 5, 2) := by decide +kernel
theorem dX8_scatter_44 : decode cX8_scatter 44 = .ok (.iload 6, 2) := by decide +kernel
theorem dX8_scatter_46 : decode cX8_scatter 46 = .ok (.iadd, 1) := by decide +kernel
theorem dX8_scatter_47 : decode cX8_scatter 47 = .ok (.iaload, 1) := by decide +kernel
theorem dX8_scatter_48 : decode cX8_scatter 48 = .ok (.istore 6, 2) := by decide +kernel
theorem dX8_scatter_50 : decode cX8_scatter 50 = .ok (.iload 6, 2) := by decide +kernel
theorem dX8_scatter_52 : decode cX8_scatter 52 = .ok (.iload_n 2, 1) := by decide +kernel
theorem dX8_scatter_53 : decode cX8_scatter 53 = .ok (.if_icmp .ne 23, 3) := by decide +kernel
theorem dX8_scatter_56 : decode cX8_scatter 56 = .ok (.aload_n 0, 1) := by decide +kernel
theorem dX8_scatter_57 : decode cX8_scatter 57 = .ok (.getfield 21, 3) := by decide +kernel
theorem dX8_scatter_60 : decode cX8_scatter 60 = .ok (.getfield 49, 3) := by decide +kernel
theorem dX8_scatter_63 : decode cX8_scatter 63 = .ok (.ifCond .eq 13, 3) := by decide +kernel
theorem dX8_scatter_66 : decode cX8_scatter 66 = .ok (.aload 4, 2) := by decide +kernel
theorem dX8_scatter_68 : decode cX8_scatter 68 = .ok (.iload 5, 2) := by decide +kernel
theorem dX8_scatter_70 : decode cX8_scatter 70 = .ok (.iload 6, 2) := by decide +kernel
theorem dX8_scatter_72 : decode cX8_scatter 72 = .ok (.iadd, 1) := by decide +kernel
theorem dX8_scatter_73 : decode cX8_scatter 73 = .ok (.iaload, 1) := by decide +kernel
theorem dX8_scatter_74 : decode cX8_scatter 74 = .ok (.istore 6, 2) := by decide +kernel
theorem dX8_scatter_76 : decode cX8_scatter 76 = .ok (.aload_n 3, 1) := by decide +kernel
theorem dX8_scatter_77 : decode cX8_scatter 77 = .ok (.iload 6, 2) := by decide +kernel
theorem dX8_scatter_79 : decode cX8_scatter 79 = .ok (.dup2, 1) := by decide +kernel
theorem dX8_scatter_80 : decode cX8_scatter 80 = .ok (.iaload, 1) := by decide +kernel
theorem dX8_scatter_81 : decode cX8_scatter 81 = .ok (.iconst 1, 1) := by decide +kernel
theorem dX8_scatter_82 : decode cX8_scatter 82 = .ok (.iadd, 1) := by decide +kernel
theorem dX8_scatter_83 : decode cX8_scatter 83 = .ok (.iastore, 1) := by decide +kernel
theorem dX8_scatter_84 : decode cX8_scatter 84 = .ok (.iinc 7 (-1), 3) := by decide +kernel
theorem dX8_scatter_87 : decode cX8_scatter 87 = .ok (.goto (-52), 3) := by decide +kernel
theorem dX8_scatter_90 : decode cX8_scatter 90 = .ok (.iload 6, 2) := by decide +kernel
theorem dX8_scatter_92 : decode cX8_scatter 92 = .ok (.ireturn, 1) := by decide +kernel
theorem dX8_takeOpposite_0 : decode cX8_takeOpposite 0 = .ok (.iconst 2, 1) := by decide +kernel
theorem dX8_takeOpposite_1 : decode cX8_takeOpposite 1 = .ok (.aload_n 0, 1) := by decide +kernel
theorem dX8_takeOpposite_2 : decode cX8_takeOpposite 2 = .ok (.getfield 21, 3) := by decide +kernel
theorem dX8_takeOpposite_5 : decode cX8_takeOpposite 5 = .ok (.getfield 34, 3) := by decide +kernel
theorem dX8_takeOpposite_8 : decode cX8_takeOpposite 8 = .ok (.imul, 1) := by decide +kernel
theorem dX8_takeOpposite_9 : decode cX8_takeOpposite 9 = .ok (.iconst 1, 1) := by decide +kernel
theorem dX8_takeOpposite_10 : decode cX8_takeOpposite 10 = .ok (.isub, 1) := by decide +kernel
theorem dX8_takeOpposite_11 : decode cX8_takeOpposite 11 = .ok (.aload_n 0, 1) := by decide +kernel
theorem dX8_takeOpposite_12 : decode cX8_takeOpposite 12 = .ok (.getfield 62, 3) := by decide +kernel
theorem dX8_takeOpposite_15 : decode cX8_takeOpposite 15 = .ok (.isub, 1) := by decide +kernel
theorem dX8_takeOpposite_16 : decode cX8_takeOpposite 16 = .ok (.istore_n 2, 1) := by decide +kernel
theorem dX8_takeOpposite_17 : decode cX8_takeOpposite 17 = .ok (.aload_n 0, 1) := by decide +kernel
theorem dX8_takeOpposite_18 : decode cX8_takeOpposite 18 = .ok (.getfield 21, 3) := by decide +kernel
theorem dX8_takeOpposite_21 : decode cX8_takeOpposite 21 = .ok (.getfield 88, 3) := by decide +kernel
theorem dX8_takeOpposite_24 : decode cX8_takeOpposite 24 = .ok (.iconst 1, 1) := by decide +kernel
theorem dX8_takeOpposite_25 : decode cX8_takeOpposite 25 = .ok (.if_icmp .ne 25, 3) := by decide +kernel
theorem dX8_takeOpposite_28 : decode cX8_takeOpposite 28 = .ok (.aload_n 1, 1) := by decide +kernel
theorem dX8_takeOpposite_29 : decode cX8_takeOpposite 29 = .ok (.getfield 43, 3) := by decide +kernel
theorem dX8_takeOpposite_32 : decode cX8_takeOpposite 32 = .ok (.aload_n 0, 1) := by decide +kernel
theorem dX8_takeOpposite_33 : decode cX8_takeOpposite 33 = .ok (.getfield 62, 3) := by decide +kernel
theorem dX8_takeOpposite_36 : decode cX8_takeOpposite 36 = .ok (.iaload, 1) := by decide +kernel
theorem dX8_takeOpposite_37 : decode cX8_takeOpposite 37 = .ok (.iconst 1, 1) := by decide +kernel
theorem dX8_takeOpposite_38 : decode cX8_takeOpposite 38 = .ok (.if_icmp .ne 12, 3) := by decide +kernel
theorem dX8_takeOpposite_41 : decode cX8_takeOpposite 41 = .ok (.aload_n 1, 1) := by decide +kernel
theorem dX8_takeOpposite_42 : decode cX8_takeOpposite 42 = .ok (.getfield 43, 3) := by decide +kernel
theorem dX8_takeOpposite_45 : decode cX8_takeOpposite 45 = .ok (.iload_n 2, 1) := by decide +kernel
theorem dX8_takeOpposite_46 : decode cX8_takeOpposite 46 = .ok (.iaload, 1) := by decide +kernel
theorem dX8_takeOpposite_47 : decode cX8_takeOpposite 47 = .ok (.ifCond .ne 5, 3) := by decide +kernel
theorem dX8_takeOpposite_50 : decode cX8_takeOpposite 50 = .ok (.iconst 0, 1) := by decide +kernel
theorem dX8_takeOpposite_51 : decode cX8_takeOpposite 51 = .ok (.ireturn, 1) := by decide +kernel
theorem dX8_takeOpposite_52 : decode cX8_takeOpposite 52 = .ok (.aload_n 1, 1) := by decide +kernel
theorem dX8_takeOpposite_53 : decode cX8_takeOpposite 53 = .ok (.getfield 43, 3) := by decide +kernel
theorem dX8_takeOpposite_56 : decode cX8_takeOpposite 56 = .ok (.iload_n 2, 1) := by decide +kernel
theorem dX8_takeOpposite_57 : decode cX8_takeOpposite 57 = .ok (.iaload, 1) := by decide +kernel
theorem dX8_takeOpposite_58 : decode cX8_takeOpposite 58 = .ok (.iconst 1, 1) := by decide +kernel
theorem dX8_takeOpposite_59 : decode cX8_takeOpposite 59 = .ok (.iadd, 1) := by decide +kernel
theorem dX8_takeOpposite_60 : decode cX8_takeOpposite 60 = .ok (.istore_n 3, 1) := by decide +kernel
theorem dX8_takeOpposite_61 : decode cX8_takeOpposite 61 = .ok (.aload_n 1, 1) := by decide +kernel
theorem dX8_takeOpposite_62 : decode cX8_takeOpposite 62 = .ok (.getfield 43, 3) := by decide +kernel
theorem dX8_takeOpposite_65 : decode cX8_takeOpposite 65 = .ok (.iload_n 2, 1) := by decide +kernel
theorem dX8_takeOpposite_66 : decode cX8_takeOpposite 66 = .ok (.iconst 0, 1) := by decide +kernel
theorem dX8_takeOpposite_67 : decode cX8_takeOpposite 67 = .ok (.iastore, 1) := by decide +kernel
theorem dX8_takeOpposite_68 : decode cX8_takeOpposite 68 = .ok (.aload_n 1, 1) := by decide +kernel
theorem dX8_takeOpposite_69 : decode cX8_takeOpposite 69 = .ok (.getfield 43, 3) := by decide +kernel
theorem dX8_takeOpposite_72 : decode cX8_takeOpposite 72 = .ok (.aload_n 0, 1) := by decide +kernel
theorem dX8_takeOpposite_73 : decode cX8_takeOpposite 73 = .ok (.getfield 62, 3) := by decide +kernel
theorem dX8_takeOpposite_76 : decode cX8_takeOpposite 76 = .ok (.iconst 0, 1) := by decide +kernel
theorem dX8_takeOpposite_77 : decode cX8_takeOpposite 77 = .ok (.iastore, 1) := by decide +kernel
theorem dX8_takeOpposite_78 : decode cX8_takeOpposite 78 = .ok (.aload_n 1, 1) := by decide +kernel
theorem dX8_takeOpposite_79 : decode cX8_takeOpposite 79 = .ok (.getfield 43, 3) := by decide +kernel
theorem dX8_takeOpposite_82 : decode cX8_takeOpposite 82 = .ok (.bipush 12, 2) := by decide +kernel
theorem dX8_takeOpposite_84 : decode cX8_takeOpposite 84 = .ok (.aload_n 1, 1) := by decide +kernel
theorem dX8_takeOpposite_85 : decode cX8_takeOpposite 85 = .ok (.getfield 30, 3) := by decide +kernel
theorem dX8_takeOpposite_88 : decode cX8_takeOpposite 88 = .ok (.iadd, 1) := by decide +kernel
theorem dX8_takeOpposite_89 : decode cX8_takeOpposite 89 = .ok (.dup2, 1) := by decide +kernel
theorem dX8_takeOpposite_90 : decode cX8_takeOpposite 90 = .ok (.iaload, 1) := by decide +kernel
theorem dX8_takeOpposite_91 : decode cX8_takeOpposite 91 = .ok (.iload_n 3, 1) := by decide +kernel
theorem dX8_takeOpposite_92 : decode cX8_takeOpposite 92 = .ok (.iadd, 1) := by decide +kernel
theorem dX8_takeOpposite_93 : decode cX8_takeOpposite 93 = .ok (.iastore, 1) := by decide +kernel
theorem dX8_takeOpposite_94 : decode cX8_takeOpposite 94 = .ok (.iload_n 3, 1) := by decide +kernel
theorem dX8_takeOpposite_95 : decode cX8_takeOpposite 95 = .ok (.ireturn, 1) := by decide +kernel
theorem dX8_takeGrand_0 : decode cX8_takeGrand 0 = .ok (.aload_n 0, 1) := by decide +kernel
theorem dX8_takeGrand_1 : decode cX8_takeGrand 1 = .ok (.getfield 21, 3) := by decide +kernel
theorem dX8_takeGrand_4 : decode cX8_takeGrand 4 = .ok (.getfield 88, 3) := by decide +kernel
theorem dX8_takeGrand_7 : decode cX8_takeGrand 7 = .ok (.iconst 2, 1) := by decide +kernel
theorem dX8_takeGrand_8 : decode cX8_takeGrand 8 = .ok (.if_icmp .eq 16, 3) := by decide +kernel
theorem dX8_takeGrand_11 : decode cX8_takeGrand 11 = .ok (.aload_n 0, 1) := by decide +kernel
theorem dX8_takeGrand_12 : decode cX8_takeGrand 12 = .ok (.getfield 21, 3) := by decide +kernel
theorem dX8_takeGrand_15 : decode cX8_takeGrand 15 = .ok (.getfield 88, 3) := by decide +kernel
theorem dX8_takeGrand_18 : decode cX8_takeGrand 18 = .ok (.iconst 3, 1) := by decide +kernel
theorem dX8_takeGrand_19 : decode cX8_takeGrand 19 = .ok (.if_icmp .eq 5, 3) := by decide +kernel
theorem dX8_takeGrand_22 : decode cX8_takeGrand 22 = .ok (.iconst 0, 1) := by decide +kernel
theorem dX8_takeGrand_23 : decode cX8_takeGrand 23 = .ok (.ireturn, 1) := by decide +kernel
theorem dX8_takeGrand_24 : decode cX8_takeGrand 24 = .ok (.iconst 1, 1) := by decide +kernel
theorem dX8_takeGrand_25 : decode cX8_takeGrand 25 = .ok (.aload_n 1, 1) := by decide +kernel
theorem dX8_takeGrand_26 : decode cX8_takeGrand 26 = .ok (.getfield 30, 3) := by decide +kernel
theorem dX8_takeGrand_29 : decode cX8_takeGrand 29 = .ok (.isub, 1) := by decide +kernel
theorem dX8_takeGrand_30 : decode cX8_takeGrand 30 = .ok (.aload_n 0, 1) := by decide +kernel
theorem dX8_takeGrand_31 : decode cX8_takeGrand 31 = .ok (.getfield 21, 3) := by decide +kernel
theorem dX8_takeGrand_34 : decode cX8_takeGrand 34 = .ok (.getfield 34, 3) := by decide +kernel
theorem dX8_takeGrand_37 : decode cX8_takeGrand 37 = .ok (.imul, 1) := by decide +kernel
theorem dX8_takeGrand_38 : decode cX8_takeGrand 38 = .ok (.istore_n 2, 1) := by decide +kernel
theorem dX8_takeGrand_39 : decode cX8_takeGrand 39 = .ok (.iconst 0, 1) := by decide +kernel
theorem dX8_takeGrand_40 : decode cX8_takeGrand 40 = .ok (.istore_n 3, 1) := by decide +kernel
theorem dX8_takeGrand_41 : decode cX8_takeGrand 41 = .ok (.aload_n 0, 1) := by decide +kernel
theorem dX8_takeGrand_42 : decode cX8_takeGrand 42 = .ok (.getfield 62, 3) := by decide +kernel
theorem dX8_takeGrand_45 : decode cX8_takeGrand 45 = .ok (.istore 4, 2) := by decide +kernel
theorem dX8_takeGrand_47 : decode cX8_takeGrand 47 = .ok (.iload 4, 2) := by decide +kernel
theorem dX8_takeGrand_49 : decode cX8_takeGrand 49 = .ok (.iload_n 2, 1) := by decide +kernel
theorem dX8_takeGrand_50 : decode cX8_takeGrand 50 = .ok (.if_icmp .lt 53, 3) := by decide +kernel
theorem dX8_takeGrand_53 : decode cX8_takeGrand 53 = .ok (.aload_n 0, 1) := by decide +kernel
theorem dX8_takeGrand_54 : decode cX8_takeGrand 54 = .ok (.getfield 21, 3) := by decide +kernel
theorem dX8_takeGrand_57 : decode cX8_takeGrand 57 = .ok (.iload 4, 2) := by decide +kernel
theorem dX8_takeGrand_59 : decode cX8_takeGrand 59 = .ok (.invokevirtual 39, 3) := by decide +kernel
theorem dX8_takeGrand_62 : decode cX8_takeGrand 62 = .ok (.ifCond .ne 25, 3) := by decide +kernel
theorem dX8_takeGrand_65 : decode cX8_takeGrand 65 = .ok (.aload_n 1, 1) := by decide +kernel
theorem dX8_takeGrand_66 : decode cX8_takeGrand 66 = .ok (.getfield 43, 3) := by decide +kernel
theorem dX8_takeGrand_69 : decode cX8_takeGrand 69 = .ok (.iload 4, 2) := by decide +kernel
theorem dX8_takeGrand_71 : decode cX8_takeGrand 71 = .ok (.iaload, 1) := by decide +kernel
theorem dX8_takeGrand_72 : decode cX8_takeGrand 72 = .ok (.iconst 2, 1) := by decide +kernel
theorem dX8_takeGrand_73 : decode cX8_takeGrand 73 = .ok (.if_icmp .eq 14, 3) := by decide +kernel
theorem dX8_takeGrand_76 : decode cX8_takeGrand 76 = .ok (.aload_n 1, 1) := by decide +kernel
theorem dX8_takeGrand_77 : decode cX8_takeGrand 77 = .ok (.getfield 43, 3) := by decide +kernel
theorem dX8_takeGrand_80 : decode cX8_takeGrand 80 = .ok (.iload 4, 2) := by decide +kernel
theorem dX8_takeGrand_82 : decode cX8_takeGrand 82 = .ok (.iaload, 1) := by decide +kernel
theorem dX8_takeGrand_83 : decode cX8_takeGrand 83 = .ok (.iconst 3, 1) := by decide +kernel
theorem dX8_takeGrand_84 : decode cX8_takeGrand 84 = .ok (.if_icmp .ne 19, 3) := by decide +kernel
theorem dX8_takeGrand_87 : decode cX8_takeGrand 87 = .ok (.iload_n 3, 1) := by decide +kernel
theorem dX8_takeGrand_88 : decode cX8_takeGrand 88 = .ok (.aload_n 1, 1) := by decide +kernel
theorem dX8_takeGrand_89 : decode cX8_takeGrand 89 = .ok (.getfield 43, 3) := by decide +kernel
theorem dX8_takeGrand_92 : decode cX8_takeGrand 92 = .ok (.iload 4, 2) := by decide +kernel
theorem dX8_takeGrand_94 : decode cX8_takeGrand 94 = .ok (.iaload, 1) := by decide +kernel
theorem dX8_takeGrand_95 : decode cX8_takeGrand 95 = .ok (.iadd, 1) := by decide +kernel
theorem dX8_takeGrand_96 : decode cX8_takeGrand 96 = .ok (.istore_n 3, 1) := by decide +kernel
theorem dX8_takeGrand_97 : decode cX8_takeGrand 97 = .ok (.iinc 4 (-1), 3) := by decide +kernel
theorem dX8_takeGrand_100 : decode cX8_takeGrand 100 = .ok (.goto (-53), 3) := by decide +kernel
theorem dX8_takeGrand_103 : decode cX8_takeGrand 103 = .ok (.aload_n 0, 1) := by decide +kernel
theorem dX8_takeGrand_104 : decode cX8_takeGrand 104 = .ok (.getfield 21, 3) := by decide +kernel
theorem dX8_takeGrand_107 : decode cX8_takeGrand 107 = .ok (.getfield 88, 3) := by decide +kernel
theorem dX8_takeGrand_110 : decode cX8_takeGrand 110 = .ok (.iconst 3, 1) := by decide +kernel
theorem dX8_takeGrand_111 : decode cX8_takeGrand 111 = .ok (.if_icmp .ne 26, 3) := by decide +kernel
theorem dX8_takeGrand_114 : decode cX8_takeGrand 114 = .ok (.iload_n 3, 1) := by decide +kernel
theorem dX8_takeGrand_115 : decode cX8_takeGrand 115 = .ok (.aload_n 1, 1) := by decide +kernel
theorem dX8_takeGrand_116 : decode cX8_takeGrand 116 = .ok (.iconst 1, 1) := by decide +kernel
theorem dX8_takeGrand_117 : decode cX8_takeGrand 117 = .ok (.aload_n 1, 1) := by decide +kernel
theorem dX8_takeGrand_118 : decode cX8_takeGrand 118 = .ok (.getfield 30, 3) := by decide +kernel
theorem dX8_takeGrand_121 : decode cX8_takeGrand 121 = .ok (.isub, 1) := by decide +kernel
theorem dX8_takeGrand_122 : decode cX8_takeGrand 122 = .ok (.aload_n 0, 1) := by decide +kernel
theorem dX8_takeGrand_123 : decode cX8_takeGrand 123 = .ok (.getfield 21, 3) := by decide +kernel
theorem dX8_takeGrand_126 : decode cX8_takeGrand 126 = .ok (.getfield 34, 3) := by decide +kernel
theorem dX8_takeGrand_129 : decode cX8_takeGrand 129 = .ok (.invokevirtual 91, 3) := by decide +kernel
theorem dX8_takeGrand_132 : decode cX8_takeGrand 132 = .ok (.if_icmp .ne 5, 3) := by decide +kernel
theorem dX8_takeGrand_135 : decode cX8_takeGrand 135 = .ok (.iconst 0, 1) := by decide +kernel
theorem dX8_takeGrand_136 : decode cX8_takeGrand 136 = .ok (.ireturn, 1) := by decide +kernel
theorem dX8_takeGrand_137 : decode cX8_takeGrand 137 = .ok (.iload 4, 2) := by decide +kernel
theorem dX8_takeGrand_139 : decode cX8_takeGrand 139 = .ok (.iconst 1, 1) := by decide +kernel
theorem dX8_takeGrand_140 : decode cX8_takeGrand 140 = .ok (.iadd, 1) := by decide +kernel
theorem dX8_takeGrand_141 : decode cX8_takeGrand 141 = .ok (.istore 5, 2) := by decide +kernel
theorem dX8_takeGrand_143 : decode cX8_takeGrand 143 = .ok (.iload 5, 2) := by decide +kernel
theorem dX8_takeGrand_145 : decode cX8_takeGrand 145 = .ok (.aload_n 0, 1) := by decide +kernel
theorem dX8_takeGrand_146 : decode cX8_takeGrand 146 = .ok (.getfield 62, 3) := by decide +kernel
theorem dX8_takeGrand_149 : decode cX8_takeGrand 149 = .ok (.if_icmp .gt 17, 3) := by decide +kernel
theorem dX8_takeGrand_152 : decode cX8_takeGrand 152 = .ok (.aload_n 1, 1) := by decide +kernel
theorem dX8_takeGrand_153 : decode cX8_takeGrand 153 = .ok (.getfield 43, 3) := by decide +kernel
theorem dX8_takeGrand_156 : decode cX8_takeGrand 156 = .ok (.iload 5, 2) := by decide +kernel
theorem dX8_takeGrand_158 : decode cX8_takeGrand 158 = .ok (.iconst 0, 1) := by decide +kernel
theorem dX8_takeGrand_159 : decode cX8_takeGrand 159 = .ok (.iastore, 1) := by decide +kernel
theorem dX8_takeGrand_160 : decode cX8_takeGrand 160 = .ok (.iinc 5 1, 3) := by decide +kernel
theorem dX8_takeGrand_163 : decode cX8_takeGrand 163 = .ok (.goto (-20), 3) := by decide +kernel
theorem dX8_takeGrand_166 : decode cX8_takeGrand 166 = .ok (.aload_n 1, 1) := by decide +kernel
theorem dX8_takeGrand_167 : decode cX8_takeGrand 167 = .ok (.getfield 43, 3) := by decide +kernel
theorem dX8_takeGrand_170 : decode cX8_takeGrand 170 = .ok (.bipush 12, 2) := by decide +kernel
theorem dX8_takeGrand_172 : decode cX8_takeGrand 172 = .ok (.aload_n 1, 1) := by decide +kernel
theorem dX8_takeGrand_173 : decode cX8_takeGrand 173 = .ok (.getfield 30, 3) := by decide +kernel
theorem dX8_takeGrand_176 : decode cX8_takeGrand 176 = .ok (.iadd, 1) := by decide +kernel
theorem dX8_takeGrand_177 : decode cX8_takeGrand 177 = .ok (.dup2, 1) := by decide +kernel
theorem dX8_takeGrand_178 : decode cX8_takeGrand 178 = .ok (.iaload, 1) := by decide +kernel
theorem dX8_takeGrand_179 : decode cX8_takeGrand 179 = .ok (.iload_n 3, 1) := by decide +kernel
theorem dX8_takeGrand_180 : decode cX8_takeGrand 180 = .ok (.iadd, 1) := by decide +kernel
theorem dX8_takeGrand_181 : decode cX8_takeGrand 181 = .ok (.iastore, 1) := by decide +kernel
theorem dX8_takeGrand_182 : decode cX8_takeGrand 182 = .ok (.iload_n 3, 1) := by decide +kernel
theorem dX8_takeGrand_183 : decode cX8_takeGrand 183 = .ok (.ireturn, 1) := by decide +kernel
theorem dX9_lay_0 : decode cX9_lay 0 = .ok (.aload_n 0, 1) := by decide +kernel
theorem dX9_lay_1 : decode cX9_lay 1 = .ok (.iload_n 1, 1) := by decide +kernel
theorem dX9_lay_2 : decode cX9_lay 2 = .ok (.putfield 15, 3) := by decide +kernel
theorem dX9_lay_5 : decode cX9_lay 5 = .ok (.aload_n 0, 1) := by decide +kernel
theorem dX9_lay_6 : decode cX9_lay 6 = .ok (.iload_n 2, 1) := by decide +kernel
theorem dX9_lay_7 : decode cX9_lay 7 = .ok (.putfield 19, 3) := by decide +kernel
theorem dX9_lay_10 : decode cX9_lay 10 = .ok (.iconst 0, 1) := by decide +kernel
theorem dX9_lay_11 : decode cX9_lay 11 = .ok (.istore_n 3, 1) := by decide +kernel
theorem dX9_lay_12 : decode cX9_lay 12 = .ok (.iload_n 3, 1) := by decide +kernel
theorem dX9_lay_13 : decode cX9_lay 13 = .ok (.bipush 40, 2) := by decide +kernel
theorem dX9_lay_15 : decode cX9_lay 15 = .ok (.if_icmp .ge 16, 3) := by decide +kernel
theorem dX9_lay_18 : decode cX9_lay 18 = .ok (.aload_n 0, 1) := by decide +kernel
theorem dX9_lay_19 : decode cX9_lay 19 = .ok (.getfield 9, 3) := by decide +kernel
theorem dX9_lay_22 : decode cX9_lay 22 = .ok (.iload_n 3, 1) := by decide +kernel
theorem dX9_lay_23 : decode cX9_lay 23 = .ok (.lconst 0, 1) := by decide +kernel
theorem dX9_lay_24 : decode cX9_lay 24 = .ok (.lastore, 1) := by decide +kernel
theorem dX9_lay_25 : decode cX9_lay 25 = .ok (.iinc 3 1, 3) := by decide +kernel
theorem dX9_lay_28 : decode cX9_lay 28 = .ok (.goto (-16), 3) := by decide +kernel
theorem dX9_lay_31 : decode cX9_lay 31 = .ok (.return_, 1) := by decide +kernel
theorem dX9_cut_0 : decode cX9_cut 0 = .ok (.aload_n 0, 1) := by decide +kernel
theorem dX9_cut_1 : decode cX9_cut 1 = .ok (.getfield 15, 3) := by decide +kernel
theorem dX9_cut_4 : decode cX9_cut 4 = .ok (.tableswitch 42 0 2 #[28, 33, 38], 28) := by decide +kernel
theorem dX9_cut_32 : decode cX9_cut 32 = .ok (.lload_n 1, 1) := by decide +kernel
theorem dX9_cut_33 : decode cX9_cut 33 = .ok (.l2i, 1) := by decide +kernel
theorem dX9_cut_34 : decode cX9_cut 34 = .ok (.i2b, 1) := by decide +kernel
theorem dX9_cut_35 : decode cX9_cut 35 = .ok (.i2l, 1) := by decide +kernel
theorem dX9_cut_36 : decode cX9_cut 36 = .ok (.lreturn, 1) := by decide +kernel
theorem dX9_cut_37 : decode cX9_cut 37 = .ok (.lload_n 1, 1) := by decide +kernel
theorem dX9_cut_38 : decode cX9_cut 38 = .ok (.l2i, 1) := by decide +kernel
theorem dX9_cut_39 : decode cX9_cut 39 = .ok (.i2s, 1) := by decide +kernel
theorem dX9_cut_40 : decode cX9_cut 40 = .ok (.i2l, 1) := by decide +kernel
theorem dX9_cut_41 : decode cX9_cut 41 = .ok (.lreturn, 1) := by decide +kernel
theorem dX9_cut_42 : decode cX9_cut 42 = .ok (.lload_n 1, 1) := by decide +kernel
theorem dX9_cut_43 : decode cX9_cut 43 = .ok (.l2i, 1) := by decide +kernel
theorem dX9_cut_44 : decode cX9_cut 44 = .ok (.i2l, 1) := by decide +kernel
theorem dX9_cut_45 : decode cX9_cut 45 = .ok (.lreturn, 1) := by decide +kernel
theorem dX9_cut_46 : decode cX9_cut 46 = .ok (.lload_n 1, 1) := by decide +kernel
theorem dX9_cut_47 : decode cX9_cut 47 = .ok (.lreturn, 1) := by decide +kernel
theorem dX10_begin_0 : decode cX10_begin 0 = .ok (.aload_n 0, 1) := by decide +kernel
theorem dX10_begin_1 : decode cX10_begin 1 = .ok (.getfield 12, 3) := by decide +kernel
theorem dX10_begin_4 : decode cX10_begin 4 = .ok (.aload_n 1, 1) := by decide +kernel
theorem dX10_begin_5 : decode cX10_begin 5 = .ok (.invokevirtual 33, 3) := by decide +kernel
theorem dX10_begin_8 : decode cX10_begin 8 = .ok (.aload_n 0, 1) := by decide +kernel
theorem dX10_begin_9 : decode cX10_begin 9 = .ok (.iconst 0, 1) := by decide +kernel
theorem dX10_begin_10 : decode cX10_begin 10 = .ok (.putfield 37, 3) := by decide +kernel
theorem dX10_begin_13 : decode cX10_begin 13 = .ok (.aload_n 0, 1) := by decide +kernel
theorem dX10_begin_14 : decode cX10_begin 14 = .ok (.iconst 0, 1) := by decide +kernel
theorem dX10_begin_15 : decode cX10_begin 15 = .ok (.putfield 41, 3) := by decide +kernel
theorem dX10_begin_18 : decode cX10_begin 18 = .ok (.return_, 1) := by decide +kernel
theorem dX10_isMarkedAgain_0 : decode cX10_isMarkedAgain 0 = .ok (.iconst 0, 1) := by decide +kernel
theorem dX10_isMarkedAgain_1 : decode cX10_isMarkedAgain 1 = .ok (.istore_n 1, 1) := by decide +kernel
theorem dX10_isMarkedAgain_2 : decode cX10_isMarkedAgain 2 = .ok (.iload_n 1, 1) := by decide +kernel
theorem dX10_isMarkedAgain_3 : decode cX10_isMarkedAgain 3 = .ok (.aload_n 0, 1) := by decide +kernel
theorem dX10_isMarkedAgain_4 : decode cX10_isMarkedAgain 4 = .ok (.getfield 37, 3) := by decide +kernel
theorem dX10_isMarkedAgain_7 : decode cX10_isMarkedAgain 7 = .ok (.if_icmp .ge 29, 3) := by decide +kernel
theorem dX10_isMarkedAgain_10 : decode cX10_isMarkedAgain 10 = .ok (.aload_n 0, 1) := by decide +kernel
theorem dX10_isMarkedAgain_11 : decode cX10_isMarkedAgain 11 = .ok (.getfield 22, 3) := by decide +kernel
theorem dX10_isMarkedAgain_14 : decode cX10_isMarkedAgain 14 = .ok (.iload_n 1, 1) := by decide +kernel
theorem dX10_isMarkedAgain_15 : decode cX10_isMarkedAgain 15 = .ok (.iaload, 1) := by decide +kernel
theorem dX10_isMarkedAgain_16 : decode cX10_isMarkedAgain 16 = .ok (.aload_n 0, 1) := by decide +kernel
theorem dX10_isMarkedAgain_17 : decode cX10_isMarkedAgain 17 = .ok (.getfield 22, 3) := by decide +kernel
theorem dX10_isMarkedAgain_20 : decode cX10_isMarkedAgain 20 = .ok (.aload_n 0, 1) := by decide +kernel
theorem dX10_isMarkedAgain_21 : decode cX10_isMarkedAgain 21 = .ok (.getfield 37, 3) := by decide +kernel
theorem dX10_isMarkedAgain_24 : decode cX10_isMarkedAgain 24 = .ok (.iaload, 1) := by decide +kernel
theorem dX10_isMarkedAgain_25 : decode cX10_isMarkedAgain 25 = .ok (.if_icmp .ne 5, 3) := by decide +kernel
theorem dX10_isMarkedAgain_28 : decode cX10_isMarkedAgain 28 = .ok (.iconst 1, 1) := by decide +kernel
theorem dX10_isMarkedAgain_29 : decode cX10_isMarkedAgain 29 = .ok (.ireturn, 1) := by decide +kernel
theorem dX10_isMarkedAgain_30 : decode cX10_isMarkedAgain 30 = .ok (.iinc 1 1, 3) := by decide +kernel
theorem dX10_isMarkedAgain_33 : decode cX10_isMarkedAgain 33 = .ok (.goto (-31), 3) := by decide +kernel
theorem dX10_isMarkedAgain_36 : decode cX10_isMarkedAgain 36 = .ok (.iconst 0, 1) := by decide +kernel
theorem dX10_isMarkedAgain_37 : decode cX10_isMarkedAgain 37 = .ok (.ireturn, 1) := by decide +kernel
theorem dX11_feed_0 : decode cX11_feed 0 = .ok (.aload_n 0, 1) := by decide +kernel
theorem dX11_feed_1 : decode cX11_feed 1 = .ok (.getfield 54, 3) := by decide +kernel
theorem dX11_feed_4 : decode cX11_feed 4 = .ok (.getfield 99, 3) := by decide +kernel
theorem dX11_feed_7 : decode cX11_feed 7 = .ok (.bipush 20, 2) := by decide +kernel
theorem dX11_feed_9 : decode cX11_feed 9 = .ok (.iadd, 1) := by decide +kernel
theorem dX11_feed_10 : decode cX11_feed 10 = .ok (.sipush 500, 3) := by decide +kernel
theorem dX11_feed_13 : decode cX11_feed 13 = .ok (.if_icmp .le 5, 3) := by decide +kernel
theorem dX11_feed_16 : decode cX11_feed 16 = .ok (.iconst (-1), 1) := by decide +kernel
theorem dX11_feed_17 : decode cX11_feed 17 = .ok (.ireturn, 1) := by decide +kernel
theorem dX11_feed_18 : decode cX11_feed 18 = .ok (.aload_n 0, 1) := by decide +kernel
theorem dX11_feed_19 : decode cX11_feed 19 = .ok (.getfield 54, 3) := by decide +kernel
theorem dX11_feed_22 : decode cX11_feed 22 = .ok (.iload_n 1, 1) := by decide +kernel
theorem dX11_feed_23 : decode cX11_feed 23 = .ok (.invokevirtual 103, 3) := by decide +kernel
theorem dX11_feed_26 : decode cX11_feed 26 = .ok (.aload_n 0, 1) := by decide +kernel
theorem dX11_feed_27 : decode cX11_feed 27 = .ok (.getfield 54, 3) := by decide +kernel
theorem dX11_feed_30 : decode cX11_feed 30 = .ok (.iload_n 2, 1) := by decide +kernel
theorem dX11_feed_31 : decode cX11_feed 31 = .ok (.invokevirtual 103, 3) := by decide +kernel
theorem dX11_feed_34 : decode cX11_feed 34 = .ok (.aload_n 0, 1) := by decide +kernel
theorem dX11_feed_35 : decode cX11_feed 35 = .ok (.getfield 54, 3) := by decide +kernel
theorem dX11_feed_38 : decode cX11_feed 38 = .ok (.iload_n 3, 1) := by decide +kernel
theorem dX11_feed_39 : decode cX11_feed 39 = .ok (.invokevirtual 103, 3) := by decide +kernel
theorem dX11_feed_42 : decode cX11_feed 42 = .ok (.aload_n 0, 1) := by decide +kernel
theorem dX11_feed_43 : decode cX11_feed 43 = .ok (.getfield 54, 3) := by decide +kernel
theorem dX11_feed_46 : decode cX11_feed 46 = .ok (.iload 4, 2) := by decide +kernel
theorem dX11_feed_48 : decode cX11_feed 48 = .ok (.invokevirtual 103, 3) := by decide +kernel
theorem dX11_feed_51 : decode cX11_feed 51 = .ok (.aload_n 0, 1) := by decide +kernel
theorem dX11_feed_52 : decode cX11_feed 52 = .ok (.getfield 54, 3) := by decide +kernel
theorem dX11_feed_55 : decode cX11_feed 55 = .ok (.iload 5, 2) := by decide +kernel
theorem dX11_feed_57 : decode cX11_feed 57 = .ok (.invokevirtual 103, 3) := by decide +kernel
theorem dX11_feed_60 : decode cX11_feed 60 = .ok (.aload_n 0, 1) := by decide +kernel
theorem dX11_feed_61 : decode cX11_feed 61 = .ok (.getfield 54, 3) := by decide +kernel
theorem dX11_feed_64 : decode cX11_feed 64 = .ok (.getfield 99, 3) := by decide +kernel
theorem dX11_feed_67 : decode cX11_feed 67 = .ok (.ireturn, 1) := by decide +kernel
theorem dX11_fault_0 : decode cX11_fault 0 = .ok (.iload_n 1, 1) := by decide +kernel
theorem dX11_fault_1 : decode cX11_fault 1 = .ok (.lookupswitch 43 #[(0, 27), (1, 35)], 27) := by decide +kernel
theorem dX11_fault_28 : decode cX11_fault 28 = .ok (.aload_n 0, 1) := by decide +kernel
theorem dX11_fault_29 : decode cX11_fault 29 = .ok (.getfield 54, 3) := by decide +kernel
theorem dX11_fault_32 : decode cX11_fault 32 = .ok (.getfield 117, 3) := by decide +kernel
theorem dX11_fault_35 : decode cX11_fault 35 = .ok (.ireturn, 1) := by decide +kernel
theorem dX11_fault_36 : decode cX11_fault 36 = .ok (.aload_n 0, 1) := by decide +kernel
theorem dX11_fault_37 : decode cX11_fault 37 = .ok (.getfield 54, 3) := by decide +kernel
theorem dX11_fault_40 : decode cX11_fault 40 = .ok (.getfield 131, 3) := by decide +kernel
theorem dX11_fault_43 : decode cX11_fault 43 = .ok (.ireturn, 1) := by decide +kernel
theorem dX11_fault_44 : decode cX11_fault 44 = .ok (.iconst (-1), 1) := by decide +kernel
theorem dX11_fault_45 : decode cX11_fault 45 = .ok (.ireturn, 1) := by decide +kernel
theorem dX11_mover_0 : decode cX11_mover 0 = .ok (.aload_n 0, 1) := by decide +kernel
theorem dX11_mover_1 : decode cX11_mover 1 = .ok (.getfield 37, 3) := by decide +kernel
theorem dX11_mover_4 : decode cX11_mover 4 = .ok (.getfield 153, 3) := by decide +kernel
theorem dX11_mover_7 : decode cX11_mover 7 = .ok (.ireturn, 1) := by decide +kernel
theorem dX11_place_0 : decode cX11_place 0 = .ok (.aload_n 0, 1) := by decide +kernel
theorem dX11_place_1 : decode cX11_place 1 = .ok (.getfield 37, 3) := by decide +kernel
theorem dX11_place_4 : decode cX11_place 4 = .ok (.invokevirtual 236, 3) := by decide +kernel
theorem dX11_place_7 : decode cX11_place 7 = .ok (.istore_n 1, 1) := by decide +kernel
theorem dX11_place_8 : decode cX11_place 8 = .ok (.aload_n 0, 1) := by decide +kernel
theorem dX11_place_9 : decode cX11_place 9 = .ok (.getfield 21, 3) := by decide +kernel
theorem dX11_place_12 : decode cX11_place 12 = .ok (.iload_n 1, 1) := by decide +kernel
theorem dX11_place_13 : decode cX11_place 13 = .ok (.invokevirtual 232, 3) := by decide +kernel
theorem dX11_place_16 : decode cX11_place 16 = .ok (.sipush 6000, 3) := by decide +kernel
theorem dX11_place_19 : decode cX11_place 19 = .ok (.if_icmp .le 9, 3) := by decide +kernel
theorem dX11_place_22 : decode cX11_place 22 = .ok (.sipush (-1000), 3) := by decide +kernel
theorem dX11_place_25 : decode cX11_place 25 = .ok (.goto 15, 3) := by decide +kernel
theorem dX11_place_28 : decode cX11_place 28 = .ok (.aload_n 0, 1) := by decide +kernel
theorem dX11_place_29 : decode cX11_place 29 = .ok (.getfield 21, 3) := by decide +kernel
theorem dX11_place_32 : decode cX11_place 32 = .ok (.aload_n 0, 1) := by decide +kernel
theorem dX11_place_33 : decode cX11_place 33 = .ok (.getfield 37, 3) := by decide +kernel
theorem dX11_place_36 : decode cX11_place 36 = .ok (.iload_n 1, 1) := by decide +kernel
theorem dX11_place_37 : decode cX11_place 37 = .ok (.invokevirtual 239, 3) := by decide +kernel
theorem dX11_place_40 : decode cX11_place 40 = .ok (.ireturn, 1) := by decide +kernel
theorem dX11_has_0 : decode cX11_has 0 = .ok (.iload_n 0, 1) := by decide +kernel
theorem dX11_has_1 : decode cX11_has 1 = .ok (.iload_n 1, 1) := by decide +kernel
theorem dX11_has_2 : decode cX11_has 2 = .ok (.iushr, 1) := by decide +kernel
theorem dX11_has_3 : decode cX11_has 3 = .ok (.iconst 1, 1) := by decide +kernel
theorem dX11_has_4 : decode cX11_has 4 = .ok (.iand, 1) := by decide +kernel
theorem dX11_has_5 : decode cX11_has 5 = .ok (.iconst 1, 1) := by decide +kernel
theorem dX11_has_6 : decode cX11_has 6 = .ok (.if_icmp .ne 7, 3) := by decide +kernel
theorem dX11_has_9 : decode cX11_has 9 = .ok (.iconst 1, 1) := by decide +kernel
theorem dX11_has_10 : decode cX11_has 10 = .ok (.goto 4, 3) := by decide +kernel
theorem dX11_has_13 : decode cX11_has 13 = .ok (.iconst 0, 1) := by decide +kernel
theorem dX11_has_14 : decode cX11_has 14 = .ok (.ireturn, 1) := by decide +kernel
theorem dX11_seedsOrLacking_0 : decode cX11_seedsOrLacking 0 = .ok (.aload_n 0, 1) := by decide +kernel
theorem dX11_seedsOrLacking_1 : decode cX11_seedsOrLacking 1 = .ok (.getfield 12, 3) := by decide +kernel
theorem dX11_seedsOrLacking_4 : decode cX11_seedsOrLacking 4 = .ok (.iload_n 2, 1) := by decide +kernel
theorem dX11_seedsOrLacking_5 : decode cX11_seedsOrLacking 5 = .ok (.invokevirtual 411, 3) := by decide +kernel
theorem dX11_seedsOrLacking_8 : decode cX11_seedsOrLacking 8 = .ok (.ifCond .eq 7, 3) := by decide +kernel
theorem dX11_seedsOrLacking_11 : decode cX11_seedsOrLacking 11 = .ok (.iconst (-1), 1) := by decide +kernel
theorem dX11_seedsOrLacking_12 : decode cX11_seedsOrLacking 12 = .ok (.goto 9, 3) := by decide +kernel
theorem dX11_seedsOrLacking_15 : decode cX11_seedsOrLacking 15 = .ok (.aload_n 1, 1) := by decide +kernel
theorem dX11_seedsOrLacking_16 : decode cX11_seedsOrLacking 16 = .ok (.getfield 149, 3) := by decide +kernel
theorem dX11_seedsOrLacking_19 : decode cX11_seedsOrLacking 19 = .ok (.iload_n 2, 1) := by decide +kernel
theorem dX11_seedsOrLacking_20 : decode cX11_seedsOrLacking 20 = .ok (.iaload, 1) := by decide +kernel
theorem dX11_seedsOrLacking_21 : decode cX11_seedsOrLacking 21 = .ok (.ireturn, 1) := by decide +kernel
theorem dX12_thrown_0 : decode cX12_thrown 0 = .ok (.aload_n 0, 1) := by decide +kernel
theorem dX12_thrown_1 : decode cX12_thrown 1 = .ok (.getfield 107, 3) := by decide +kernel
theorem dX12_thrown_4 : decode cX12_thrown 4 = .ok (.ireturn, 1) := by decide +kernel
theorem dX12_fails_0 : decode cX12_fails 0 = .ok (.aload_n 0, 1) := by decide +kernel
theorem dX12_fails_1 : decode cX12_fails 1 = .ok (.iload_n 1, 1) := by decide +kernel
theorem dX12_fails_2 : decode cX12_fails 2 = .ok (.putfield 107, 3) := by decide +kernel
theorem dX12_fails_5 : decode cX12_fails 5 = .ok (.iconst 0, 1) := by decide +kernel
theorem dX12_fails_6 : decode cX12_fails 6 = .ok (.ireturn, 1) := by decide +kernel
theorem dX12_within_0 : decode cX12_within 0 = .ok (.lload_n 0, 1) := by decide +kernel
theorem dX12_within_1 : decode cX12_within 1 = .ok (.lload_n 2, 1) := by decide +kernel
theorem dX12_within_2 : decode cX12_within 2 = .ok (.lcmp, 1) := by decide +kernel
theorem dX12_within_3 : decode cX12_within 3 = .ok (.ifCond .lt 14, 3) := by decide +kernel
theorem dX12_within_6 : decode cX12_within 6 = .ok (.lload_n 0, 1) := by decide +kernel
theorem dX12_within_7 : decode cX12_within 7 = .ok (.lload 4, 2) := by decide +kernel
theorem dX12_within_9 : decode cX12_within 9 = .ok (.lcmp, 1) := by decide +kernel
theorem dX12_within_10 : decode cX12_within 10 = .ok (.ifCond .gt 7, 3) := by decide +kernel
theorem dX12_within_13 : decode cX12_within 13 = .ok (.iconst 1, 1) := by decide +kernel
theorem dX12_within_14 : decode cX12_within 14 = .ok (.goto 4, 3) := by decide +kernel
theorem dX12_within_17 : decode cX12_within 17 = .ok (.iconst 0, 1) := by decide +kernel
theorem dX12_within_18 : decode cX12_within 18 = .ok (.ireturn, 1) := by decide +kernel
theorem dX12_copies_0 : decode cX12_copies 0 = .ok (.iconst 0, 1) := by decide +kernel
theorem dX12_copies_1 : decode cX12_copies 1 = .ok (.istore_n 2, 1) := by decide +kernel
theorem dX12_copies_2 : decode cX12_copies 2 = .ok (.iload_n 2, 1) := by decide +kernel
theorem dX12_copies_3 : decode cX12_copies 3 = .ok (.bipush 25, 2) := by decide +kernel
theorem dX12_copies_5 : decode cX12_copies 5 = .ok (.if_icmp .ge 15, 3) := by decide +kernel
theorem dX12_copies_8 : decode cX12_copies 8 = .ok (.aload_n 1, 1) := by decide +kernel
theorem dX12_copies_9 : decode cX12_copies 9 = .ok (.iload_n 2, 1) := by decide +kernel
theorem dX12_copies_10 : decode cX12_copies 10 = .ok (.aload_n 0, 1) := by decide +kernel
theorem dX12_copies_11 : decode cX12_copies 11 = .ok (.iload_n 2, 1) := by decide +kernel
theorem dX12_copies_12 : decode cX12_copies 12 = .ok (.iaload, 1) := by decide +kernel
theorem dX12_copies_13 : decode cX12_copies 13 = .ok (.iastore, 1) := by decide +kernel
theorem dX12_copies_14 : decode cX12_copies 14 = .ok (.iinc 2 1, 3) := by decide +kernel
theorem dX12_copies_17 : decode cX12_copies 17 = .ok (.goto (-15), 3) := by decide +kernel
theorem dX12_copies_20 : decode cX12_copies 20 = .ok (.return_, 1) := by decide +kernel
theorem dX12_feed_0 : decode cX12_feed 0 = .ok (.aload_n 0, 1) := by decide +kernel
theorem dX12_feed_1 : decode cX12_feed 1 = .ok (.iconst 0, 1) := by decide +kernel
theorem dX12_feed_2 : decode cX12_feed 2 = .ok (.putfield 107, 3) := by decide +kernel
theorem dX12_feed_5 : decode cX12_feed 5 = .ok (.aload_n 0, 1) := by decide +kernel
theorem dX12_feed_6 : decode cX12_feed 6 = .ok (.getfield 110, 3) := by decide +kernel
theorem dX12_feed_9 : decode cX12_feed 9 = .ok (.bipush 20, 2) := by decide +kernel
theorem dX12_feed_11 : decode cX12_feed 11 = .ok (.iadd, 1) := by decide +kernel
theorem dX12_feed_12 : decode cX12_feed 12 = .ok (.sipush 500, 3) := by decide +kernel
theorem dX12_feed_15 : decode cX12_feed 15 = .ok (.if_icmp .le 5, 3) := by decide +kernel
theorem dX12_feed_18 : decode cX12_feed 18 = .ok (.iconst (-1), 1) := by decide +kernel
theorem dX12_feed_19 : decode cX12_feed 19 = .ok (.ireturn, 1) := by decide +kernel
theorem dX12_feed_20 : decode cX12_feed 20 = .ok (.iconst 0, 1) := by decide +kernel
theorem dX12_feed_21 : decode cX12_feed 21 = .ok (.istore 6, 2) := by decide +kernel
theorem dX12_feed_23 : decode cX12_feed 23 = .ok (.iload 6, 2) := by decide +kernel
theorem dX12_feed_25 : decode cX12_feed 25 = .ok (.bipush 20, 2) := by decide +kernel
theorem dX12_feed_27 : decode cX12_feed 27 = .ok (.if_icmp .ge 93, 3) := by decide +kernel
theorem dX12_feed_30 : decode cX12_feed 30 = .ok (.iload 6, 2) := by decide +kernel
theorem dX12_feed_32 : decode cX12_feed 32 = .ok (.iconst 4, 1) := by decide +kernel
theorem dX12_feed_33 : decode cX12_feed 33 = .ok (.if_icmp .ge 7, 3) := by decide +kernel
theorem dX12_feed_36 : decode cX12_feed 36 = .ok (.iload_n 1, 1) := by decide +kernel
theorem dX12_feed_37 : decode cX12_feed 37 = .ok (.goto 39, 3) := by decide +kernel
theorem dX12_feed_40 : decode cX12_feed 40 = .ok (.iload 6, 2) := by decide +kernel
theorem dX12_feed_42 : decode cX12_feed 42 = .ok (.bipush 8, 2) := by decide +kernel
theorem dX12_feed_44 : decode cX12_feed 44 = .ok (.if_icmp .ge 7, 3) := by decide +kernel
theorem dX12_feed_47 : decode cX12_feed 47 = .ok (.iload_n 2, 1) := by decide +kernel
theorem dX12_feed_48 : decode cX12_feed 48 = .ok (.goto 28, 3) := by decide +kernel
theorem dX12_feed_51 : decode cX12_feed 51 = .ok (.iload 6, 2) := by decide +kernel
theorem dX12_feed_53 : decode cX12_feed 53 = .ok (.bipush 12, 2) := by decide +kernel
theorem dX12_feed_55 : decode cX12_feed 55 = .ok (.if_icmp .ge 7, 3) := by decide +kernel
theorem dX12_feed_58 : decode cX12_feed 58 = .ok (.iload_n 3, 1) := by decide +kernel
theorem dX12_feed_59 : decode cX12_feed 59 = .ok (.goto 17, 3) := by decide +kernel
theorem dX12_feed_62 : decode cX12_feed 62 = .ok (.iload 6, 2) := by decide +kernel
theorem dX12_feed_64 : decode cX12_feed 64 = .ok (.bipush 16, 2) := by decide +kernel
theorem dX12_feed_66 : decode cX12_feed 66 = .ok (.if_icmp .ge 8, 3) := by decide +kernel
theorem dX12_feed_69 : decode cX12_feed 69 = .ok (.iload 4, 2) := by decide +kernel
theorem dX12_feed_71 : decode cX12_feed 71 = .ok (.goto 5, 3) := by decide +kernel
theorem dX12_feed_74 : decode cX12_feed 74 = .ok (.iload 5, 2) := by decide +kernel
theorem dX12_feed_76 : decode cX12_feed 76 = .ok (.istore 7, 2) := by decide +kernel
theorem dX12_feed_78 : decode cX12_feed 78 = .ok (.aload_n 0, 1) := by decide +kernel
theorem dX12_feed_79 : decode cX12_feed 79 = .ok (.getfield 26, 3) := by decide +kernel
theorem dX12_feed_82 : decode cX12_feed 82 = .ok (.aload_n 0, 1) := by decide +kernel
theorem dX12_feed_83 : decode cX12_feed 83 = .ok (.getfield 110, 3) := by decide +kernel
theorem dX12_feed_86 : decode cX12_feed 86 = .ok (.iload 7, 2) := by decide +kernel
theorem dX12_feed_88 : decode cX12_feed 88 = .ok (.bipush 24, 2) := by decide +kernel
theorem dX12_feed_90 : decode cX12_feed 90 = .ok (.bipush 8, 2) := by decide +kernel
theorem dX12_feed_92 : decode cX12_feed 92 = .ok (.iload 6, 2) := by decide +kernel
theorem dX12_feed_94 : decode cX12_feed 94 = .ok (.iconst 3, 1) := by decide +kernel
theorem dX12_feed_95 : decode cX12_feed 95 = .ok (.iand, 1) := by decide +kernel
theorem dX12_feed_96 : decode cX12_feed 96 = .ok (.imul, 1) := by decide +kernel
theorem dX12_feed_97 : decode cX12_feed 97 = .ok (.isub, 1) := by decide +kernel
theorem dX12_feed_98 : decode cX12_feed 98 = .ok (.iushr, 1) := by decide +kernel
theorem dX12_feed_99 : decode cX12_feed 99 = .ok (.sipush 255, 3) := by decide +kernel
theorem dX12_feed_102 : decode cX12_feed 102 = .ok (.iand, 1) := by decide +kernel
theorem dX12_feed_103 : decode cX12_feed 103 = .ok (.iastore, 1) := by decide +kernel
theorem dX12_feed_104 : decode cX12_feed 104 = .ok (.aload_n 0, 1) := by decide +kernel
theorem dX12_feed_105 : decode cX12_feed 105 = .ok (.dup, 1) := by decide +kernel
theorem dX12_feed_106 : decode cX12_feed 106 = .ok (.getfield 110, 3) := by decide +kernel
theorem dX12_feed_109 : decode cX12_feed 109 = .ok (.iconst 1, 1) := by decide +kernel
theorem dX12_feed_110 : decode cX12_feed 110 = .ok (.iadd, 1) := by decide +kernel
theorem dX12_feed_111 : decode cX12_feed 111 = .ok (.putfield 110, 3) := by decide +kernel
theorem dX12_feed_114 : decode cX12_feed 114 = .ok (.iinc 6 1, 3) := by decide +kernel
theorem dX12_feed_117 : decode cX12_feed 117 = .ok (.goto (-94), 3) := by decide +kernel
theorem dX12_feed_120 : decode cX12_feed 120 = .ok (.aload_n 0, 1) := by decide +kernel
theorem dX12_feed_121 : decode cX12_feed 121 = .ok (.getfield 110, 3) := by decide +kernel
theorem dX12_feed_124 : decode cX12_feed 124 = .ok (.ireturn, 1) := by decide +kernel
theorem dX12_see_0 : decode cX12_see 0 = .ok (.iload_n 1, 1) := by decide +kernel
theorem dX12_see_1 : decode cX12_see 1 = .ok (.aload_n 0, 1) := by decide +kernel
theorem dX12_see_2 : decode cX12_see 2 = .ok (.getfield 113, 3) := by decide +kernel
theorem dX12_see_5 : decode cX12_see 5 = .ok (.if_icmp .ge 12, 3) := by decide +kernel
theorem dX12_see_8 : decode cX12_see 8 = .ok (.aload_n 0, 1) := by decide +kernel
theorem dX12_see_9 : decode cX12_see 9 = .ok (.getfield 26, 3) := by decide +kernel
theorem dX12_see_12 : decode cX12_see 12 = .ok (.iload_n 1, 1) := by decide +kernel
theorem dX12_see_13 : decode cX12_see 13 = .ok (.iaload, 1) := by decide +kernel
theorem dX12_see_14 : decode cX12_see 14 = .ok (.goto 4, 3) := by decide +kernel
theorem dX12_see_17 : decode cX12_see 17 = .ok (.iconst 0, 1) := by decide +kernel
theorem dX12_see_18 : decode cX12_see 18 = .ok (.ireturn, 1) := by decide +kernel
theorem dX12_isLetter_0 : decode cX12_isLetter 0 = .ok (.iload_n 0, 1) := by decide +kernel
theorem dX12_isLetter_1 : decode cX12_isLetter 1 = .ok (.bipush 97, 2) := by decide +kernel
theorem dX12_isLetter_3 : decode cX12_isLetter 3 = .ok (.if_icmp .lt 13, 3) := by decide +kernel
theorem dX12_isLetter_6 : decode cX12_isLetter 6 = .ok (.iload_n 0, 1) := by decide +kernel
theorem dX12_isLetter_7 : decode cX12_isLetter 7 = .ok (.bipush 122, 2) := by decide +kernel
theorem dX12_isLetter_9 : decode cX12_isLetter 9 = .ok (.if_icmp .gt 7, 3) := by decide +kernel
theorem dX12_isLetter_12 : decode cX12_isLetter 12 = .ok (.iconst 1, 1) := by decide +kernel
theorem dX12_isLetter_13 : decode cX12_isLetter 13 = .ok (.goto 4, 3) := by decide +kernel
theorem dX12_isLetter_16 : decode cX12_isLetter 16 = .ok (.iconst 0, 1) := by decide +kernel
theorem dX12_isLetter_17 : decode cX12_isLetter 17 = .ok (.ireturn, 1) := by decide +kernel
theorem dX12_isDigit_0 : decode cX12_isDigit 0 = .ok (.iload_n 0, 1) := by decide +kernel
theorem dX12_isDigit_1 : decode cX12_isDigit 1 = .ok (.bipush 48, 2) := by decide +kernel
theorem dX12_isDigit_3 : decode cX12_isDigit 3 = .ok (.if_icmp .lt 13, 3) := by decide +kernel
theorem dX12_isDigit_6 : decode cX12_isDigit 6 = .ok (.iload_n 0, 1) := by decide +kernel
theorem dX12_isDigit_7 : decode cX12_isDigit 7 = .ok (.bipush 57, 2) := by decide +kernel
theorem dX12_isDigit_9 : decode cX12_isDigit 9 = .ok (.if_icmp .gt 7, 3) := by decide +kernel
theorem dX12_isDigit_12 : decode cX12_isDigit 12 = .ok (.iconst 1, 1) := by decide +kernel
theorem dX12_isDigit_13 : decode cX12_isDigit 13 = .ok (.goto 4, 3) := by decide +kernel
theorem dX12_isDigit_16 : decode cX12_isDigit 16 = .ok (.iconst 0, 1) := by decide +kernel
theorem dX12_isDigit_17 : decode cX12_isDigit 17 = .ok (.ireturn, 1) := by decide +kernel
theorem dX12_reads_0 : decode cX12_reads 0 = .ok (.aload_n 0, 1) := by decide +kernel
theorem dX12_reads_1 : decode cX12_reads 1 = .ok (.getfield 116, 3) := by decide +kernel
theorem dX12_reads_4 : decode cX12_reads 4 = .ok (.aload_n 0, 1) := by decide +kernel
theorem dX12_reads_5 : decode cX12_reads 5 = .ok (.getfield 113, 3) := by decide +kernel
theorem dX12_reads_8 : decode cX12_reads 8 = .ok (.if_icmp .ge 44, 3) := by decide +kernel
theorem dX12_reads_11 : decode cX12_reads 11 = .ok (.aload_n 0, 1) := by decide +kernel
theorem dX12_reads_12 : decode cX12_reads 12 = .ok (.getfield 26, 3) := by decide +kernel
theorem dX12_reads_15 : decode cX12_reads 15 = .ok (.aload_n 0, 1) := by decide +kernel
theorem dX12_reads_16 : decode cX12_reads 16 = .ok (.getfield 116, 3) := by decide +kernel
theorem dX12_reads_19 : decode cX12_reads 19 = .ok (.iaload, 1) := by decide +kernel
theorem dX12_reads_20 : decode cX12_reads 20 = .ok (.bipush 32, 2) := by decide +kernel
theorem dX12_reads_22 : decode cX12_reads 22 = .ok (.if_icmp .eq 17, 3) := by decide +kernel
theorem dX12_reads_25 : decode cX12_reads 25 = .ok (.aload_n 0, 1) := by decide +kernel
theorem dX12_reads_26 : decode cX12_reads 26 = .ok (.getfield 26, 3) := by decide +kernel
theorem dX12_reads_29 : decode cX12_reads 29 = .ok (.aload_n 0, 1) := by decide +kernel
theorem dX12_reads_30 : decode cX12_reads 30 = .ok (.getfield 116, 3) := by decide +kernel
theorem dX12_reads_33 : decode cX12_reads 33 = .ok (.iaload, 1) := by decide +kernel
theorem dX12_reads_34 : decode cX12_reads 34 = .ok (.bipush 10, 2) := by decide +kernel
theorem dX12_reads_36 : decode cX12_reads 36 = .ok (.if_icmp .ne 16, 3) := by decide +kernel
theorem dX12_reads_39 : decode cX12_reads 39 = .ok (.aload_n 0, 1) := by decide +kernel
theorem dX12_reads_40 : decode cX12_reads 40 = .ok (.dup, 1) := by decide +kernel
theorem dX12_reads_41 : decode cX12_reads 41 = .ok (.getfield 116, 3) := by decide +kernel
theorem dX12_reads_44 : decode cX12_reads 44 = .ok (.iconst 1, 1) := by decide +kernel
theorem dX12_reads_45 : decode cX12_reads 45 = .ok (.iadd, 1) := by decide +kernel
theorem dX12_reads_46 : decode cX12_reads 46 = .ok (.putfield 116, 3) := by decide +kernel
theorem dX12_reads_49 : decode cX12_reads 49 = .ok (.goto (-49), 3) := by decide +kernel
theorem dX12_reads_52 : decode cX12_reads 52 = .ok (.aload_n 0, 1) := by decide +kernel
theorem dX12_reads_53 : decode cX12_reads 53 = .ok (.aload_n 0, 1) := by decide +kernel
theorem dX12_reads_54 : decode cX12_reads 54 = .ok (.getfield 116, 3) := by decide +kernel
theorem dX12_reads_57 : decode cX12_reads 57 = .ok (.putfield 119, 3) := by decide +kernel
theorem dX12_reads_60 : decode cX12_reads 60 = .ok (.aload_n 0, 1) := by decide +kernel
theorem dX12_reads_61 : decode cX12_reads 61 = .ok (.getfield 116, 3) := by decide +kernel
theorem dX12_reads_64 : decode cX12_reads 64 = .ok (.aload_n 0, 1) := by decide +kernel
theorem dX12_reads_65 : decode cX12_reads 65 = .ok (.getfield 113, 3) := by decide +kernel
theorem dX12_reads_68 : decode cX12_reads 68 = .ok (.if_icmp .lt 9, 3) := by decide +kernel
theorem dX12_reads_71 : decode cX12_reads 71 = .ok (.aload_n 0, 1) := by decide +kernel
theorem dX12_reads_72 : decode cX12_reads 72 = .ok (.iconst 0, 1) := by decide +kernel
theorem dX12_reads_73 : decode cX12_reads 73 = .ok (.putfield 122, 3) := by decide +kernel
theorem dX12_reads_76 : decode cX12_reads 76 = .ok (.return_, 1) := by decide +kernel
theorem dX12_reads_77 : decode cX12_reads 77 = .ok (.aload_n 0, 1) := by decide +kernel
theorem dX12_reads_78 : decode cX12_reads 78 = .ok (.getfield 26, 3) := by decide +kernel
theorem dX12_reads_81 : decode cX12_reads 81 = .ok (.aload_n 0, 1) := by decide +kernel
theorem dX12_reads_82 : decode cX12_reads 82 = .ok (.getfield 116, 3) := by decide +kernel
theorem dX12_reads_85 : decode cX12_reads 85 = .ok (.iaload, 1) := by decide +kernel
theorem dX12_reads_86 : decode cX12_reads 86 = .ok (.istore_n 1, 1) := by decide +kernel
theorem dX12_reads_87 : decode cX12_reads 87 = .ok (.iload_n 1, 1) := by decide +kernel
theorem dX12_reads_88 : decode cX12_reads 88 = .ok (.invokestatic 125, 3) := by decide +kernel
theorem dX12_reads_91 : decode cX12_reads 91 = .ok (.ifCond .eq 38, 3) := by decide +kernel
theorem dX12_reads_94 : decode cX12_reads 94 = .ok (.aload_n 0, 1) := by decide +kernel
theorem dX12_reads_95 : decode cX12_reads 95 = .ok (.aload_n 0, 1) := by decide +kernel
theorem dX12_reads_96 : decode cX12_reads 96 = .ok (.getfield 116, 3) := by decide +kernel
theorem dX12_reads_99 : decode cX12_reads 99 = .ok (.invokevirtual 129, 3) := by decide +kernel
theorem dX12_reads_102 : decode cX12_reads 102 = .ok (.invokestatic 125, 3) := by decide +kernel
theorem dX12_reads_105 : decode cX12_reads 105 = .ok (.ifCond .eq 16, 3) := by decide +kernel
theorem dX12_reads_108 : decode cX12_reads 108 = .ok (.aload_n 0, 1) := by decide +kernel
theorem dX12_reads_109 : decode cX12_reads 109 = .ok (.dup, 1) := by decide +kernel
theorem dX12_reads_110 : decode cX12_reads 110 = .ok (.getfield 116, 3) := by decide +kernel
theorem dX12_reads_113 : decode cX12_reads 113 = .ok (.iconst 1, 1) := by decide +kernel
theorem dX12_reads_114 : decode cX12_reads 114 = .ok (.iadd, 1) := by decide +kernel
theorem dX12_reads_115 : decode cX12_reads 115 = .ok (.putfield 116, 3) := by decide +kernel
theorem dX12_reads_118 : decode cX12_reads 118 = .ok (.goto (-24), 3) := by decide +kernel
theorem dX12_reads_121 : decode cX12_reads 121 = .ok (.aload_n 0, 1) := by decide +kernel
theorem dX12_reads_122 : decode cX12_reads 122 = .ok (.iconst 1, 1) := by decide +kernel
theorem dX12_reads_123 : decode cX12_reads 123 = .ok (.putfield 122, 3) := by decide +kernel
theorem dX12_reads_126 : decode cX12_reads 126 = .ok (.goto 136, 3) := by decide +kernel
theorem dX12_reads_129 : decode cX12_reads 129 = .ok (.iload_n 1, 1) := by decide +kernel
theorem dX12_reads_130 : decode cX12_reads 130 = .ok (.invokestatic 133, 3) := by decide +kernel
theorem dX12_reads_133 : decode cX12_reads 133 = .ok (.ifCond .eq 104, 3) := by decide +kernel
theorem dX12_reads_136 : decode cX12_reads 136 = .ok (.aload_n 0, 1) := by decide +kernel
theorem dX12_reads_137 : decode cX12_reads 137 = .ok (.iconst 0, 1) := by decide +kernel
theorem dX12_reads_138 : decode cX12_reads 138 = .ok (.putfield 136, 3) := by decide +kernel
theorem dX12_reads_141 : decode cX12_reads 141 = .ok (.aload_n 0, 1) := by decide +kernel
theorem dX12_reads_142 : decode cX12_reads 142 = .ok (.aload_n 0, 1) := by decide +kernel
theorem dX12_reads_143 : decode cX12_reads 143 = .ok (.getfield 116, 3) := by decide +kernel
theorem dX12_reads_146 : decode cX12_reads 146 = .ok (.invokevirtual 129, 3) := by decide +kernel
theorem dX12_reads_149 : decode cX12_reads 149 = .ok (.invokestatic 133, 3) := by decide +kernel
theorem dX12_reads_152 : decode cX12_reads 152 = .ok (.ifCond .eq 60, 3) := by decide +kernel
theorem dX12_reads_155 : decode cX12_reads 155 = .ok (.aload_n 0, 1) := by decide +kernel
theorem dX12_reads_156 : decode cX12_reads 156 = .ok (.aload_n 0, 1) := by decide +kernel
theorem dX12_reads_157 : decode cX12_reads 157 = .ok (.getfield 116, 3) := by decide +kernel
theorem dX12_reads_160 : decode cX12_reads 160 = .ok (.aload_n 0, 1) := by decide +kernel
theorem dX12_reads_161 : decode cX12_reads 161 = .ok (.getfield 119, 3) := by decide +kernel
theorem dX12_reads_164 : decode cX12_reads 164 = .ok (.isub, 1) := by decide +kernel
theorem dX12_reads_165 : decode cX12_reads 165 = .ok (.iconst 3, 1) := by decide +kernel
theorem dX12_reads_166 : decode cX12_reads 166 = .ok (.if_icmp .ge 26, 3) := by decide +kernel
theorem dX12_reads_169 : decode cX12_reads 169 = .ok (.bipush 10, 2) := by decide +kernel
theorem dX12_reads_171 : decode cX12_reads 171 = .ok (.aload_n 0, 1) := by decide +kernel
theorem dX12_reads_172 : decode cX12_reads 172 = .ok (.getfield 136, 3) := by decide +kernel
theorem dX12_reads_175 : decode cX12_reads 175 = .ok (.imul, 1) := by decide +kernel
theorem dX12_reads_176 : decode cX12_reads 176 = .ok (.aload_n 0, 1) := by decide +kernel
theorem dX12_reads_177 : decode cX12_reads 177 = .ok (.getfield 26, 3) := by decide +kernel
theorem dX12_reads_180 : decode cX12_reads 180 = .ok (.aload_n 0, 1) := by decide +kernel
theorem dX12_reads_181 : decode cX12_reads 181 = .ok (.getfield 116, 3) := by decide +kernel
theorem dX12_reads_184 : decode cX12_reads 184 = .ok (.iaload, 1) := by decide +kernel
theorem dX12_reads_185 : decode cX12_reads 185 = .ok (.iadd, 1) := by decide +kernel
theorem dX12_reads_186 : decode cX12_reads 186 = .ok (.bipush 48, 2) := by decide +kernel
theorem dX12_reads_188 : decode cX12_reads 188 = .ok (.isub, 1) := by decide +kernel
theorem dX12_reads_189 : decode cX12_reads 189 = .ok (.goto 7, 3) := by decide +kernel
theorem dX12_reads_192 : decode cX12_reads 192 = .ok (.aload_n 0, 1) := by decide +kernel
theorem dX12_reads_193 : decode cX12_reads 193 = .ok (.getfield 136, 3) := by decide +kernel
theorem dX12_reads_196 : decode cX12_reads 196 = .ok (.putfield 136, 3) := by decide +kernel
theorem dX12_reads_199 : decode cX12_reads 199 = .ok (.aload_n 0, 1) := by decide +kernel
theorem dX12_reads_200 : decode cX12_reads 200 = .ok (.dup, 1) := by decide +kernel
theorem dX12_reads_201 : decode cX12_reads 201 = .ok (.getfield 116, 3) := by decide +kernel
theorem dX12_reads_204 : decode cX12_reads 204 = .ok (.iconst 1, 1) := by decide +kernel
theorem dX12_reads_205 : decode cX12_reads 205 = .ok (.iadd, 1) := by decide +kernel
theorem dX12_reads_206 : decode cX12_reads 206 = .ok (.putfield 116, 3) := by decide +kernel
theorem dX12_reads_209 : decode cX12_reads 209 = .ok (.goto (-68), 3) := by decide +kernel
theorem dX12_reads_212 : decode cX12_reads 212 = .ok (.aload_n 0, 1) := by decide +kernel
theorem dX12_reads_213 : decode cX12_reads 213 = .ok (.aload_n 0, 1) := by decide +kernel
theorem dX12_reads_214 : decode cX12_reads 214 = .ok (.getfield 116, 3) := by decide +kernel
theorem dX12_reads_217 : decode cX12_reads 217 = .ok (.aload_n 0, 1) := by decide +kernel
theorem dX12_reads_218 : decode cX12_reads 218 = .ok (.getfield 119, 3) := by decide +kernel
theorem dX12_reads_221 : decode cX12_reads 221 = .ok (.isub, 1) := by decide +kernel
theorem dX12_reads_222 : decode cX12_reads 222 = .ok (.iconst 3, 1) := by decide +kernel
theorem dX12_reads_223 : decode cX12_reads 223 = .ok (.if_icmp .le 7, 3) := by decide +kernel
theorem dX12_reads_226 : decode cX12_reads 226 = .ok (.iconst 4, 1) := by decide +kernel
theorem dX12_reads_227 : decode cX12_reads 227 = .ok (.goto 4, 3) := by decide +kernel
theorem dX12_reads_230 : decode cX12_reads 230 = .ok (.iconst 2, 1) := by decide +kernel
theorem dX12_reads_231 : decode cX12_reads 231 = .ok (.putfield 122, 3) := by decide +kernel
theorem dX12_reads_234 : decode cX12_reads 234 = .ok (.goto 28, 3) := by decide +kernel
theorem dX12_reads_237 : decode cX12_reads 237 = .ok (.aload_n 0, 1) := by decide +kernel
theorem dX12_reads_238 : decode cX12_reads 238 = .ok (.iload_n 1, 1) := by decide +kernel
theorem dX12_reads_239 : decode cX12_reads 239 = .ok (.bipush 59, 2) := by decide +kernel
theorem dX12_reads_241 : decode cX12_reads 241 = .ok (.if_icmp .ne 7, 3) := by decide +kernel
theorem dX12_reads_244 : decode cX12_reads 244 = .ok (.iconst 3, 1) := by decide +kernel
theorem dX12_reads_245 : decode cX12_reads 245 = .ok (.goto 4, 3) := by decide +kernel
theorem dX12_reads_248 : decode cX12_reads 248 = .ok (.iconst 4, 1) := by decide +kernel
theorem dX12_reads_249 : decode cX12_reads 249 = .ok (.putfield 122, 3) := by decide +kernel
theorem dX12_reads_252 : decode cX12_reads 252 = .ok (.aload_n 0, 1) := by decide +kernel
theorem dX12_reads_253 : decode cX12_reads 253 = .ok (.dup, 1) := by decide +kernel
theorem dX12_reads_254 : decode cX12_reads 254 = .ok (.getfield 116, 3) := by decide +kernel
theorem dX12_reads_257 : decode cX12_reads 257 = .ok (.iconst 1, 1) := by decide +kernel
theorem dX12_reads_258 : decode cX12_reads 258 = .ok (.iadd, 1) := by decide +kernel
theorem dX12_reads_259 : decode cX12_reads 259 = .ok (.putfield 116, 3) := by decide +kernel
theorem dX12_reads_262 : decode cX12_reads 262 = .ok (.return_, 1) := by decide +kernel
theorem dX12_blames_0 : decode cX12_blames 0 = .ok (.aload_n 0, 1) := by decide +kernel
theorem dX12_blames_1 : decode cX12_blames 1 = .ok (.getfield 139, 3) := by decide +kernel
theorem dX12_blames_4 : decode cX12_blames 4 = .ok (.ifCond .eq 4, 3) := by decide +kernel
theorem dX12_blames_7 : decode cX12_blames 7 = .ok (.return_, 1) := by decide +kernel
theorem dX12_blames_8 : decode cX12_blames 8 = .ok (.aload_n 0, 1) := by decide +kernel
theorem dX12_blames_9 : decode cX12_blames 9 = .ok (.aload_n 0, 1) := by decide +kernel
theorem dX12_blames_10 : decode cX12_blames 10 = .ok (.getfield 122, 3) := by decide +kernel
theorem dX12_blames_13 : decode cX12_blames 13 = .ok (.iconst 4, 1) := by decide +kernel
theorem dX12_blames_14 : decode cX12_blames 14 = .ok (.if_icmp .ne 7, 3) := by decide +kernel
theorem dX12_blames_17 : decode cX12_blames 17 = .ok (.iconst 1, 1) := by decide +kernel
theorem dX12_blames_18 : decode cX12_blames 18 = .ok (.goto 4, 3) := by decide +kernel
theorem dX12_blames_21 : decode cX12_blames 21 = .ok (.iload_n 1, 1) := by decide +kernel
theorem dX12_blames_22 : decode cX12_blames 22 = .ok (.putfield 139, 3) := by decide +kernel
theorem dX12_blames_25 : decode cX12_blames 25 = .ok (.aload_n 0, 1) := by decide +kernel
theorem dX12_blames_26 : decode cX12_blames 26 = .ok (.aload_n 0, 1) := by decide +kernel
theorem dX12_blames_27 : decode cX12_blames 27 = .ok (.getfield 119, 3) := by decide +kernel
theorem dX12_blames_30 : decode cX12_blames 30 = .ok (.putfield 142, 3) := by decide +kernel
theorem dX12_blames_33 : decode cX12_blames 33 = .ok (.return_, 1) := by decide +kernel
theorem dX12_number_0 : decode cX12_number 0 = .ok (.aload_n 0, 1) := by decide +kernel
theorem dX12_number_1 : decode cX12_number 1 = .ok (.getfield 122, 3) := by decide +kernel
theorem dX12_number_4 : decode cX12_number 4 = .ok (.iconst 2, 1) := by decide +kernel
theorem dX12_number_5 : decode cX12_number 5 = .ok (.if_icmp .eq 11, 3) := by decide +kernel
theorem dX12_number_8 : decode cX12_number 8 = .ok (.aload_n 0, 1) := by decide +kernel
theorem dX12_number_9 : decode cX12_number 9 = .ok (.iconst 2, 1) := by decide +kernel
theorem dX12_number_10 : decode cX12_number 10 = .ok (.invokevirtual 162, 3) := by decide +kernel
theorem dX12_number_13 : decode cX12_number 13 = .ok (.goto 23, 3) := by decide +kernel
theorem dX12_number_16 : decode cX12_number 16 = .ok (.aload_n 0, 1) := by decide +kernel
theorem dX12_number_17 : decode cX12_number 17 = .ok (.getfield 136, 3) := by decide +kernel
theorem dX12_number_20 : decode cX12_number 20 = .ok (.i2l, 1) := by decide +kernel
theorem dX12_number_21 : decode cX12_number 21 = .ok (.iload_n 1, 1) := by decide +kernel
theorem dX12_number_22 : decode cX12_number 22 = .ok (.i2l, 1) := by decide +kernel
theorem dX12_number_23 : decode cX12_number 23 = .ok (.iload_n 2, 1) := by decide +kernel
theorem dX12_number_24 : decode cX12_number 24 = .ok (.i2l, 1) := by decide +kernel
theorem dX12_number_25 : decode cX12_number 25 = .ok (.invokestatic 166, 3) := by decide +kernel
theorem dX12_number_28 : decode cX12_number 28 = .ok (.ifCond .ne 8, 3) := by decide +kernel
theorem dX12_number_31 : decode cX12_number 31 = .ok (.aload_n 0, 1) := by decide +kernel
theorem dX12_number_32 : decode cX12_number 32 = .ok (.iconst 3, 1) := by decide +kernel
theorem dX12_number_33 : decode cX12_number 33 = .ok (.invokevirtual 162, 3) := by decide +kernel
theorem dX12_number_36 : decode cX12_number 36 = .ok (.aload_n 0, 1) := by decide +kernel
theorem dX12_number_37 : decode cX12_number 37 = .ok (.getfield 136, 3) := by decide +kernel
theorem dX12_number_40 : decode cX12_number 40 = .ok (.istore_n 3, 1) := by decide +kernel
theorem dX12_number_41 : decode cX12_number 41 = .ok (.aload_n 0, 1) := by decide +kernel
theorem dX12_number_42 : decode cX12_number 42 = .ok (.getfield 139, 3) := by decide +kernel
theorem dX12_number_45 : decode cX12_number 45 = .ok (.ifCond .ne 7, 3) := by decide +kernel
theorem dX12_number_48 : decode cX12_number 48 = .ok (.aload_n 0, 1) := by decide +kernel
theorem dX12_number_49 : decode cX12_number 49 = .ok (.invokevirtual 159, 3) := by decide +kernel
theorem dX12_number_52 : decode cX12_number 52 = .ok (.aload_n 0, 1) := by decide +kernel
theorem dX12_number_53 : decode cX12_number 53 = .ok (.getfield 139, 3) := by decide +kernel
theorem dX12_number_56 : decode cX12_number 56 = .ok (.ifCond .ne 7, 3) := by decide +kernel
theorem dX12_number_59 : decode cX12_number 59 = .ok (.iload_n 3, 1) := by decide +kernel
theorem dX12_number_60 : decode cX12_number 60 = .ok (.goto 4, 3) := by decide +kernel
theorem dX12_number_63 : decode cX12_number 63 = .ok (.iload_n 1, 1) := by decide +kernel
theorem dX12_number_64 : decode cX12_number 64 = .ok (.ireturn, 1) := by decide +kernel
