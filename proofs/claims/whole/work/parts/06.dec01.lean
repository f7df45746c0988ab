theorem dX12_readLay_0 : decode cX12_readLay 0 = .ok (.iconst 0, 1) := by decide +kernel
theorem dX12_readLay_1 : decode cX12_readLay 1 = .ok (.istore_n 1, 1) := by decide +kernel
theorem dX12_readLay_2 : decode cX12_readLay 2 = .ok (.iload_n 1, 1) := by decide +kernel
theorem dX12_readLay_3 : decode cX12_readLay 3 = .ok (.iconst 2, 1) := by decide +kernel
theorem dX12_readLay_4 : decode cX12_readLay 4 = .ok (.aload_n 0, 1) := by decide +kernel
theorem dX12_readLay_5 : decode cX12_readLay 5 = .ok (.getfield 13, 3) := by decide +kernel
theorem dX12_readLay_8 : decode cX12_readLay 8 = .ok (.iconst 1, 1) := by decide +kernel
theorem dX12_readLay_9 : decode cX12_readLay 9 = .ok (.iaload, 1) := by decide +kernel
theorem dX12_readLay_10 : decode cX12_readLay 10 = .ok (.imul, 1) := by decide +kernel
theorem dX12_readLay_11 : decode cX12_readLay 11 = .ok (.if_icmp .ne 31, 3) := by decide +kernel
theorem dX12_readLay_14 : decode cX12_readLay 14 = .ok (.aload_n 0, 1) := by decide +kernel
theorem dX12_readLay_15 : decode cX12_readLay 15 = .ok (.getfield 122, 3) := by decide +kernel
theorem dX12_readLay_18 : decode cX12_readLay 18 = .ok (.iconst 2, 1) := by decide +kernel
theorem dX12_readLay_19 : decode cX12_readLay 19 = .ok (.if_icmp .ne 23, 3) := by decide +kernel
theorem dX12_readLay_22 : decode cX12_readLay 22 = .ok (.aload_n 0, 1) := by decide +kernel
theorem dX12_readLay_23 : decode cX12_readLay 23 = .ok (.getfield 136, 3) := by decide +kernel
theorem dX12_readLay_26 : decode cX12_readLay 26 = .ok (.i2l, 1) := by decide +kernel
theorem dX12_readLay_27 : decode cX12_readLay 27 = .ok (.lconst 0, 1) := by decide +kernel
theorem dX12_readLay_28 : decode cX12_readLay 28 = .ok (.ldc2_w 170, 3) := by decide +kernel
theorem dX12_readLay_31 : decode cX12_readLay 31 = .ok (.invokestatic 166, 3) := by decide +kernel
theorem dX12_readLay_34 : decode cX12_readLay 34 = .ok (.ifCond .eq 8, 3) := by decide +kernel
theorem dX12_readLay_37 : decode cX12_readLay 37 = .ok (.aload_n 0, 1) := by decide +kernel
theorem dX12_readLay_38 : decode cX12_readLay 38 = .ok (.iconst 4, 1) := by decide +kernel
theorem dX12_readLay_39 : decode cX12_readLay 39 = .ok (.invokevirtual 162, 3) := by decide +kernel
theorem dX12_readLay_42 : decode cX12_readLay 42 = .ok (.aload_n 0, 1) := by decide +kernel
theorem dX12_readLay_43 : decode cX12_readLay 43 = .ok (.iconst 0, 1) := by decide +kernel
theorem dX12_readLay_44 : decode cX12_readLay 44 = .ok (.bipush 20, 2) := by decide +kernel
theorem dX12_readLay_46 : decode cX12_readLay 46 = .ok (.invokevirtual 172, 3) := by decide +kernel
theorem dX12_readLay_49 : decode cX12_readLay 49 = .ok (.istore_n 2, 1) := by decide +kernel
theorem dX12_readLay_50 : decode cX12_readLay 50 = .ok (.aload_n 0, 1) := by decide +kernel
theorem dX12_readLay_51 : decode cX12_readLay 51 = .ok (.getfield 139, 3) := by decide +kernel
theorem dX12_readLay_54 : decode cX12_readLay 54 = .ok (.ifCond .eq 4, 3) := by decide +kernel
theorem dX12_readLay_57 : decode cX12_readLay 57 = .ok (.return_, 1) := by decide +kernel
theorem dX12_readLay_58 : decode cX12_readLay 58 = .ok (.aload_n 0, 1) := by decide +kernel
theorem dX12_readLay_59 : decode cX12_readLay 59 = .ok (.getfield 13, 3) := by decide +kernel
theorem dX12_readLay_62 : decode cX12_readLay 62 = .ok (.bipush 13, 2) := by decide +kernel
theorem dX12_readLay_64 : decode cX12_readLay 64 = .ok (.iload_n 1, 1) := by decide +kernel
theorem dX12_readLay_65 : decode cX12_readLay 65 = .ok (.iadd, 1) := by decide +kernel
theorem dX12_readLay_66 : decode cX12_readLay 66 = .ok (.iload_n 2, 1) := by decide +kernel
theorem dX12_readLay_67 : decode cX12_readLay 67 = .ok (.iastore, 1) := by decide +kernel
theorem dX12_readLay_68 : decode cX12_readLay 68 = .ok (.iinc 1 1, 3) := by decide +kernel
theorem dX12_readLay_71 : decode cX12_readLay 71 = .ok (.aload_n 0, 1) := by decide +kernel
theorem dX12_readLay_72 : decode cX12_readLay 72 = .ok (.getfield 122, 3) := by decide +kernel
theorem dX12_readLay_75 : decode cX12_readLay 75 = .ok (.iconst 2, 1) := by decide +kernel
theorem dX12_readLay_76 : decode cX12_readLay 76 = .ok (.if_icmp .eq (-74), 3) := by decide +kernel
theorem dX12_readLay_79 : decode cX12_readLay 79 = .ok (.return_, 1) := by decide +kernel
theorem dX12_readStored_0 : decode cX12_readStored 0 = .ok (.aload_n 0, 1) := by decide +kernel
theorem dX12_readStored_1 : decode cX12_readStored 1 = .ok (.iconst 0, 1) := by decide +kernel
theorem dX12_readStored_2 : decode cX12_readStored 2 = .ok (.bipush 99, 2) := by decide +kernel
theorem dX12_readStored_4 : decode cX12_readStored 4 = .ok (.invokevirtual 172, 3) := by decide +kernel
theorem dX12_readStored_7 : decode cX12_readStored 7 = .ok (.istore_n 1, 1) := by decide +kernel
theorem dX12_readStored_8 : decode cX12_readStored 8 = .ok (.aload_n 0, 1) := by decide +kernel
theorem dX12_readStored_9 : decode cX12_readStored 9 = .ok (.iconst 0, 1) := by decide +kernel
theorem dX12_readStored_10 : decode cX12_readStored 10 = .ok (.bipush 99, 2) := by decide +kernel
theorem dX12_readStored_12 : decode cX12_readStored 12 = .ok (.invokevirtual 172, 3) := by decide +kernel
theorem dX12_readStored_15 : decode cX12_readStored 15 = .ok (.istore_n 2, 1) := by decide +kernel
theorem dX12_readStored_16 : decode cX12_readStored 16 = .ok (.aload_n 0, 1) := by decide +kernel
theorem dX12_readStored_17 : decode cX12_readStored 17 = .ok (.getfield 13, 3) := by decide +kernel
theorem dX12_readStored_20 : decode cX12_readStored 20 = .ok (.bipush 11, 2) := by decide +kernel
theorem dX12_readStored_22 : decode cX12_readStored 22 = .ok (.iload_n 1, 1) := by decide +kernel
theorem dX12_readStored_23 : decode cX12_readStored 23 = .ok (.iastore, 1) := by decide +kernel
theorem dX12_readStored_24 : decode cX12_readStored 24 = .ok (.aload_n 0, 1) := by decide +kernel
theorem dX12_readStored_25 : decode cX12_readStored 25 = .ok (.getfield 13, 3) := by decide +kernel
theorem dX12_readStored_28 : decode cX12_readStored 28 = .ok (.bipush 12, 2) := by decide +kernel
theorem dX12_readStored_30 : decode cX12_readStored 30 = .ok (.iload_n 2, 1) := by decide +kernel
theorem dX12_readStored_31 : decode cX12_readStored 31 = .ok (.iastore, 1) := by decide +kernel
theorem dX12_readStored_32 : decode cX12_readStored 32 = .ok (.return_, 1) := by decide +kernel
theorem dX12_lacks_0 : decode cX12_lacks 0 = .ok (.aload_n 0, 1) := by decide +kernel
theorem dX12_lacks_1 : decode cX12_lacks 1 = .ok (.getfield 139, 3) := by decide +kernel
theorem dX12_lacks_4 : decode cX12_lacks 4 = .ok (.ifCond .ne 15, 3) := by decide +kernel
theorem dX12_lacks_7 : decode cX12_lacks 7 = .ok (.aload_n 0, 1) := by decide +kernel
theorem dX12_lacks_8 : decode cX12_lacks 8 = .ok (.getfield 13, 3) := by decide +kernel
theorem dX12_lacks_11 : decode cX12_lacks 11 = .ok (.iconst 3, 1) := by decide +kernel
theorem dX12_lacks_12 : decode cX12_lacks 12 = .ok (.dup2, 1) := by decide +kernel
theorem dX12_lacks_13 : decode cX12_lacks 13 = .ok (.iaload, 1) := by decide +kernel
theorem dX12_lacks_14 : decode cX12_lacks 14 = .ok (.iconst 1, 1) := by decide +kernel
theorem dX12_lacks_15 : decode cX12_lacks 15 = .ok (.iload_n 1, 1) := by decide +kernel
theorem dX12_lacks_16 : decode cX12_lacks 16 = .ok (.ishl, 1) := by decide +kernel
theorem dX12_lacks_17 : decode cX12_lacks 17 = .ok (.ior, 1) := by decide +kernel
theorem dX12_lacks_18 : decode cX12_lacks 18 = .ok (.iastore, 1) := by decide +kernel
theorem dX12_lacks_19 : decode cX12_lacks 19 = .ok (.return_, 1) := by decide +kernel
theorem dX12_isWrong_0 : decode cX12_isWrong 0 = .ok (.iconst 0, 1) := by decide +kernel
theorem dX12_isWrong_1 : decode cX12_isWrong 1 = .ok (.istore_n 1, 1) := by decide +kernel
theorem dX12_isWrong_2 : decode cX12_isWrong 2 = .ok (.iconst 0, 1) := by decide +kernel
theorem dX12_isWrong_3 : decode cX12_isWrong 3 = .ok (.istore_n 2, 1) := by decide +kernel
theorem dX12_isWrong_4 : decode cX12_isWrong 4 = .ok (.iconst 0, 1) := by decide +kernel
theorem dX12_isWrong_5 : decode cX12_isWrong 5 = .ok (.istore_n 3, 1) := by decide +kernel
theorem dX12_isWrong_6 : decode cX12_isWrong 6 = .ok (.iload_n 3, 1) := by decide +kernel
theorem dX12_isWrong_7 : decode cX12_isWrong 7 = .ok (.iconst 2, 1) := by decide +kernel
theorem dX12_isWrong_8 : decode cX12_isWrong 8 = .ok (.aload_n 0, 1) := by decide +kernel
theorem dX12_isWrong_9 : decode cX12_isWrong 9 = .ok (.getfield 13, 3) := by decide +kernel
theorem dX12_isWrong_12 : decode cX12_isWrong 12 = .ok (.iconst 1, 1) := by decide +kernel
theorem dX12_isWrong_13 : decode cX12_isWrong 13 = .ok (.iaload, 1) := by decide +kernel
theorem dX12_isWrong_14 : decode cX12_isWrong 14 = .ok (.imul, 1) := by decide +kernel
theorem dX12_isWrong_15 : decode cX12_isWrong 15 = .ok (.if_icmp .ge 57, 3) := by decide +kernel
theorem dX12_isWrong_18 : decode cX12_isWrong 18 = .ok (.iload_n 1, 1) := by decide +kernel
theorem dX12_isWrong_19 : decode cX12_isWrong 19 = .ok (.aload_n 0, 1) := by decide +kernel
theorem dX12_isWrong_20 : decode cX12_isWrong 20 = .ok (.getfield 13, 3) := by decide +kernel
theorem dX12_isWrong_23 : decode cX12_isWrong 23 = .ok (.bipush 13, 2) := by decide +kernel
theorem dX12_isWrong_25 : decode cX12_isWrong 25 = .ok (.iload_n 3, 1) := by decide +kernel
theorem dX12_isWrong_26 : decode cX12_isWrong 26 = .ok (.iadd, 1) := by decide +kernel
theorem dX12_isWrong_27 : decode cX12_isWrong 27 = .ok (.iaload, 1) := by decide +kernel
theorem dX12_isWrong_28 : decode cX12_isWrong 28 = .ok (.iadd, 1) := by decide +kernel
theorem dX12_isWrong_29 : decode cX12_isWrong 29 = .ok (.istore_n 1, 1) := by decide +kernel
theorem dX12_isWrong_30 : decode cX12_isWrong 30 = .ok (.iload_n 2, 1) := by decide +kernel
theorem dX12_isWrong_31 : decode cX12_isWrong 31 = .ok (.ifCond .ne 29, 3) := by decide +kernel
theorem dX12_isWrong_34 : decode cX12_isWrong 34 = .ok (.aload_n 0, 1) := by decide +kernel
theorem dX12_isWrong_35 : decode cX12_isWrong 35 = .ok (.getfield 13, 3) := by decide +kernel
theorem dX12_isWrong_38 : decode cX12_isWrong 38 = .ok (.bipush 13, 2) := by decide +kernel
theorem dX12_isWrong_40 : decode cX12_isWrong 40 = .ok (.iload_n 3, 1) := by decide +kernel
theorem dX12_isWrong_41 : decode cX12_isWrong 41 = .ok (.iadd, 1) := by decide +kernel
theorem dX12_isWrong_42 : decode cX12_isWrong 42 = .ok (.iaload, 1) := by decide +kernel
theorem dX12_isWrong_43 : decode cX12_isWrong 43 = .ok (.ifCond .le 21, 3) := by decide +kernel
theorem dX12_isWrong_46 : decode cX12_isWrong 46 = .ok (.aload_n 0, 1) := by decide +kernel
theorem dX12_isWrong_47 : decode cX12_isWrong 47 = .ok (.getfield 13, 3) := by decide +kernel
theorem dX12_isWrong_50 : decode cX12_isWrong 50 = .ok (.iconst 3, 1) := by decide +kernel
theorem dX12_isWrong_51 : decode cX12_isWrong 51 = .ok (.iaload, 1) := by decide +kernel
theorem dX12_isWrong_52 : decode cX12_isWrong 52 = .ok (.iload_n 3, 1) := by decide +kernel
theorem dX12_isWrong_53 : decode cX12_isWrong 53 = .ok (.ishr, 1) := by decide +kernel
theorem dX12_isWrong_54 : decode cX12_isWrong 54 = .ok (.iconst 1, 1) := by decide +kernel
theorem dX12_isWrong_55 : decode cX12_isWrong 55 = .ok (.iand, 1) := by decide +kernel
theorem dX12_isWrong_56 : decode cX12_isWrong 56 = .ok (.iconst 1, 1) := by decide +kernel
theorem dX12_isWrong_57 : decode cX12_isWrong 57 = .ok (.if_icmp .ne 7, 3) := by decide +kernel
theorem dX12_isWrong_60 : decode cX12_isWrong 60 = .ok (.iconst 1, 1) := by decide +kernel
theorem dX12_isWrong_61 : decode cX12_isWrong 61 = .ok (.goto 4, 3) := by decide +kernel
theorem dX12_isWrong_64 : decode cX12_isWrong 64 = .ok (.iconst 0, 1) := by decide +kernel
theorem dX12_isWrong_65 : decode cX12_isWrong 65 = .ok (.istore_n 2, 1) := by decide +kernel
theorem dX12_isWrong_66 : decode cX12_isWrong 66 = .ok (.iinc 3 1, 3) := by decide +kernel
theorem dX12_isWrong_69 : decode cX12_isWrong 69 = .ok (.goto (-63), 3) := by decide +kernel
theorem dX12_isWrong_72 : decode cX12_isWrong 72 = .ok (.iload_n 2, 1) := by decide +kernel
theorem dX12_isWrong_73 : decode cX12_isWrong 73 = .ok (.ifCond .ne 9, 3) := by decide +kernel
theorem dX12_isWrong_76 : decode cX12_isWrong 76 = .ok (.iload_n 1, 1) := by decide +kernel
theorem dX12_isWrong_77 : decode cX12_isWrong 77 = .ok (.bipush 40, 2) := by decide +kernel
theorem dX12_isWrong_79 : decode cX12_isWrong 79 = .ok (.if_icmp .le 7, 3) := by decide +kernel
theorem dX12_isWrong_82 : decode cX12_isWrong 82 = .ok (.iconst 1, 1) := by decide +kernel
theorem dX12_isWrong_83 : decode cX12_isWrong 83 = .ok (.goto 4, 3) := by decide +kernel
theorem dX12_isWrong_86 : decode cX12_isWrong 86 = .ok (.iconst 0, 1) := by decide +kernel
theorem dX12_isWrong_87 : decode cX12_isWrong 87 = .ok (.ireturn, 1) := by decide +kernel
theorem dX12_fault_0 : decode cX12_fault 0 = .ok (.aload_n 0, 1) := by decide +kernel
theorem dX12_fault_1 : decode cX12_fault 1 = .ok (.iconst 0, 1) := by decide +kernel
theorem dX12_fault_2 : decode cX12_fault 2 = .ok (.putfield 107, 3) := by decide +kernel
theorem dX12_fault_5 : decode cX12_fault 5 = .ok (.iload_n 1, 1) := by decide +kernel
theorem dX12_fault_6 : decode cX12_fault 6 = .ok (.ifCond .ne 10, 3) := by decide +kernel
theorem dX12_fault_9 : decode cX12_fault 9 = .ok (.aload_n 0, 1) := by decide +kernel
theorem dX12_fault_10 : decode cX12_fault 10 = .ok (.getfield 232, 3) := by decide +kernel
theorem dX12_fault_13 : decode cX12_fault 13 = .ok (.goto 16, 3) := by decide +kernel
theorem dX12_fault_16 : decode cX12_fault 16 = .ok (.iload_n 1, 1) := by decide +kernel
theorem dX12_fault_17 : decode cX12_fault 17 = .ok (.iconst 1, 1) := by decide +kernel
theorem dX12_fault_18 : decode cX12_fault 18 = .ok (.if_icmp .ne 10, 3) := by decide +kernel
theorem dX12_fault_21 : decode cX12_fault 21 = .ok (.aload_n 0, 1) := by decide +kernel
theorem dX12_fault_22 : decode cX12_fault 22 = .ok (.getfield 29, 3) := by decide +kernel
theorem dX12_fault_25 : decode cX12_fault 25 = .ok (.goto 4, 3) := by decide +kernel
theorem dX12_fault_28 : decode cX12_fault 28 = .ok (.iconst (-1), 1) := by decide +kernel
theorem dX12_fault_29 : decode cX12_fault 29 = .ok (.ireturn, 1) := by decide +kernel
theorem dX12_pitMany_0 : decode cX12_pitMany 0 = .ok (.iconst 2, 1) := by decide +kernel
theorem dX12_pitMany_1 : decode cX12_pitMany 1 = .ok (.aload_n 0, 1) := by decide +kernel
theorem dX12_pitMany_2 : decode cX12_pitMany 2 = .ok (.getfield 9, 3) := by decide +kernel
theorem dX12_pitMany_5 : decode cX12_pitMany 5 = .ok (.iconst 1, 1) := by decide +kernel
theorem dX12_pitMany_6 : decode cX12_pitMany 6 = .ok (.iaload, 1) := by decide +kernel
theorem dX12_pitMany_7 : decode cX12_pitMany 7 = .ok (.imul, 1) := by decide +kernel
theorem dX12_pitMany_8 : decode cX12_pitMany 8 = .ok (.ireturn, 1) := by decide +kernel
theorem dX12_isPit_0 : decode cX12_isPit 0 = .ok (.iload_n 1, 1) := by decide +kernel
theorem dX12_isPit_1 : decode cX12_isPit 1 = .ok (.i2l, 1) := by decide +kernel
theorem dX12_isPit_2 : decode cX12_isPit 2 = .ok (.lconst 0, 1) := by decide +kernel
theorem dX12_isPit_3 : decode cX12_isPit 3 = .ok (.aload_n 0, 1) := by decide +kernel
theorem dX12_isPit_4 : decode cX12_isPit 4 = .ok (.invokevirtual 245, 3) := by decide +kernel
theorem dX12_isPit_7 : decode cX12_isPit 7 = .ok (.iconst 1, 1) := by decide +kernel
theorem dX12_isPit_8 : decode cX12_isPit 8 = .ok (.isub, 1) := by decide +kernel
theorem dX12_isPit_9 : decode cX12_isPit 9 = .ok (.i2l, 1) := by decide +kernel
theorem dX12_isPit_10 : decode cX12_isPit 10 = .ok (.invokestatic 166, 3) := by decide +kernel
theorem dX12_isPit_13 : decode cX12_isPit 13 = .ok (.ireturn, 1) := by decide +kernel
theorem dX12_isLacking_0 : decode cX12_isLacking 0 = .ok (.aload_n 0, 1) := by decide +kernel
theorem dX12_isLacking_1 : decode cX12_isLacking 1 = .ok (.getfield 9, 3) := by decide +kernel
theorem dX12_isLacking_4 : decode cX12_isLacking 4 = .ok (.iconst 3, 1) := by decide +kernel
theorem dX12_isLacking_5 : decode cX12_isLacking 5 = .ok (.iaload, 1) := by decide +kernel
theorem dX12_isLacking_6 : decode cX12_isLacking 6 = .ok (.iload_n 1, 1) := by decide +kernel
theorem dX12_isLacking_7 : decode cX12_isLacking 7 = .ok (.ishr, 1) := by decide +kernel
theorem dX12_isLacking_8 : decode cX12_isLacking 8 = .ok (.iconst 1, 1) := by decide +kernel
theorem dX12_isLacking_9 : decode cX12_isLacking 9 = .ok (.iand, 1) := by decide +kernel
theorem dX12_isLacking_10 : decode cX12_isLacking 10 = .ok (.iconst 1, 1) := by decide +kernel
theorem dX12_isLacking_11 : decode cX12_isLacking 11 = .ok (.if_icmp .ne 7, 3) := by decide +kernel
theorem dX12_isLacking_14 : decode cX12_isLacking 14 = .ok (.iconst 1, 1) := by decide +kernel
theorem dX12_isLacking_15 : decode cX12_isLacking 15 = .ok (.goto 4, 3) := by decide +kernel
theorem dX12_isLacking_18 : decode cX12_isLacking 18 = .ok (.iconst 0, 1) := by decide +kernel
theorem dX12_isLacking_19 : decode cX12_isLacking 19 = .ok (.ireturn, 1) := by decide +kernel
theorem dX12_sideOf_0 : decode cX12_sideOf 0 = .ok (.iload_n 1, 1) := by decide +kernel
theorem dX12_sideOf_1 : decode cX12_sideOf 1 = .ok (.aload_n 0, 1) := by decide +kernel
theorem dX12_sideOf_2 : decode cX12_sideOf 2 = .ok (.getfield 9, 3) := by decide +kernel
theorem dX12_sideOf_5 : decode cX12_sideOf 5 = .ok (.iconst 1, 1) := by decide +kernel
theorem dX12_sideOf_6 : decode cX12_sideOf 6 = .ok (.iaload, 1) := by decide +kernel
theorem dX12_sideOf_7 : decode cX12_sideOf 7 = .ok (.if_icmp .ge 7, 3) := by decide +kernel
theorem dX12_sideOf_10 : decode cX12_sideOf 10 = .ok (.iconst 0, 1) := by decide +kernel
theorem dX12_sideOf_11 : decode cX12_sideOf 11 = .ok (.goto 4, 3) := by decide +kernel
theorem dX12_sideOf_14 : decode cX12_sideOf 14 = .ok (.iconst 1, 1) := by decide +kernel
theorem dX12_sideOf_15 : decode cX12_sideOf 15 = .ok (.ireturn, 1) := by decide +kernel
theorem dX12_pit_0 : decode cX12_pit 0 = .ok (.aload_n 0, 1) := by decide +kernel
theorem dX12_pit_1 : decode cX12_pit 1 = .ok (.iconst 0, 1) := by decide +kernel
theorem dX12_pit_2 : decode cX12_pit 2 = .ok (.putfield 107, 3) := by decide +kernel
theorem dX12_pit_5 : decode cX12_pit 5 = .ok (.aload_n 0, 1) := by decide +kernel
theorem dX12_pit_6 : decode cX12_pit 6 = .ok (.iload_n 1, 1) := by decide +kernel
theorem dX12_pit_7 : decode cX12_pit 7 = .ok (.invokevirtual 248, 3) := by decide +kernel
theorem dX12_pit_10 : decode cX12_pit 10 = .ok (.ifCond .ne 9, 3) := by decide +kernel
theorem dX12_pit_13 : decode cX12_pit 13 = .ok (.aload_n 0, 1) := by decide +kernel
theorem dX12_pit_14 : decode cX12_pit 14 = .ok (.iconst 1, 1) := by decide +kernel
theorem dX12_pit_15 : decode cX12_pit 15 = .ok (.invokevirtual 221, 3) := by decide +kernel
theorem dX12_pit_18 : decode cX12_pit 18 = .ok (.ireturn, 1) := by decide +kernel
theorem dX12_pit_19 : decode cX12_pit 19 = .ok (.aload_n 0, 1) := by decide +kernel
theorem dX12_pit_20 : decode cX12_pit 20 = .ok (.iload_n 1, 1) := by decide +kernel
theorem dX12_pit_21 : decode cX12_pit 21 = .ok (.invokevirtual 251, 3) := by decide +kernel
theorem dX12_pit_24 : decode cX12_pit 24 = .ok (.ifCond .eq 7, 3) := by decide +kernel
theorem dX12_pit_27 : decode cX12_pit 27 = .ok (.iconst (-1), 1) := by decide +kernel
theorem dX12_pit_28 : decode cX12_pit 28 = .ok (.goto 12, 3) := by decide +kernel
theorem dX12_pit_31 : decode cX12_pit 31 = .ok (.aload_n 0, 1) := by decide +kernel
theorem dX12_pit_32 : decode cX12_pit 32 = .ok (.getfield 9, 3) := by decide +kernel
theorem dX12_pit_35 : decode cX12_pit 35 = .ok (.bipush 13, 2) := by decide +kernel
theorem dX12_pit_37 : decode cX12_pit 37 = .ok (.iload_n 1, 1) := by decide +kernel
theorem dX12_pit_38 : decode cX12_pit 38 = .ok (.iadd, 1) := by decide +kernel
theorem dX12_pit_39 : decode cX12_pit 39 = .ok (.iaload, 1) := by decide +kernel
theorem dX12_pit_40 : decode cX12_pit 40 = .ok (.ireturn, 1) := by decide +kernel
theorem dX12_isSide_0 : decode cX12_isSide 0 = .ok (.iload_n 0, 1) := by decide +kernel
theorem dX12_isSide_1 : decode cX12_isSide 1 = .ok (.i2l, 1) := by decide +kernel
theorem dX12_isSide_2 : decode cX12_isSide 2 = .ok (.lconst 0, 1) := by decide +kernel
theorem dX12_isSide_3 : decode cX12_isSide 3 = .ok (.lconst 1, 1) := by decide +kernel
theorem dX12_isSide_4 : decode cX12_isSide 4 = .ok (.invokestatic 166, 3) := by decide +kernel
theorem dX12_isSide_7 : decode cX12_isSide 7 = .ok (.ireturn, 1) := by decide +kernel
theorem dX12_store_0 : decode cX12_store 0 = .ok (.aload_n 0, 1) := by decide +kernel
theorem dX12_store_1 : decode cX12_store 1 = .ok (.iconst 0, 1) := by decide +kernel
theorem dX12_store_2 : decode cX12_store 2 = .ok (.putfield 107, 3) := by decide +kernel
theorem dX12_store_5 : decode cX12_store 5 = .ok (.iload_n 1, 1) := by decide +kernel
theorem dX12_store_6 : decode cX12_store 6 = .ok (.invokestatic 254, 3) := by decide +kernel
theorem dX12_store_9 : decode cX12_store 9 = .ok (.ifCond .eq 15, 3) := by decide +kernel
theorem dX12_store_12 : decode cX12_store 12 = .ok (.aload_n 0, 1) := by decide +kernel
theorem dX12_store_13 : decode cX12_store 13 = .ok (.getfield 9, 3) := by decide +kernel
theorem dX12_store_16 : decode cX12_store 16 = .ok (.bipush 11, 2) := by decide +kernel
theorem dX12_store_18 : decode cX12_store 18 = .ok (.iload_n 1, 1) := by decide +kernel
theorem dX12_store_19 : decode cX12_store 19 = .ok (.iadd, 1) := by decide +kernel
theorem dX12_store_20 : decode cX12_store 20 = .ok (.iaload, 1) := by decide +kernel
theorem dX12_store_21 : decode cX12_store 21 = .ok (.goto 8, 3) := by decide +kernel
theorem dX12_store_24 : decode cX12_store 24 = .ok (.aload_n 0, 1) := by decide +kernel
theorem dX12_store_25 : decode cX12_store 25 = .ok (.iconst 1, 1) := by decide +kernel
theorem dX12_store_26 : decode cX12_store 26 = .ok (.invokevirtual 221, 3) := by decide +kernel
theorem dX12_store_29 : decode cX12_store 29 = .ok (.ireturn, 1) := by decide +kernel
theorem dX12_mover_0 : decode cX12_mover 0 = .ok (.aload_n 0, 1) := by decide +kernel
theorem dX12_mover_1 : decode cX12_mover 1 = .ok (.iconst 0, 1) := by decide +kernel
theorem dX12_mover_2 : decode cX12_mover 2 = .ok (.putfield 107, 3) := by decide +kernel
theorem dX12_mover_5 : decode cX12_mover 5 = .ok (.aload_n 0, 1) := by decide +kernel
theorem dX12_mover_6 : decode cX12_mover 6 = .ok (.getfield 9, 3) := by decide +kernel
theorem dX12_mover_9 : decode cX12_mover 9 = .ok (.iconst 2, 1) := by decide +kernel
theorem dX12_mover_10 : decode cX12_mover 10 = .ok (.iaload, 1) := by decide +kernel
theorem dX12_mover_11 : decode cX12_mover 11 = .ok (.ireturn, 1) := by decide +kernel
theorem dX12_takesUp_0 : decode cX12_takesUp 0 = .ok (.iconst 0, 1) := by decide +kernel
theorem dX12_takesUp_1 : decode cX12_takesUp 1 = .ok (.istore_n 1, 1) := by decide +kernel
theorem dX12_takesUp_2 : decode cX12_takesUp 2 = .ok (.iload_n 1, 1) := by decide +kernel
theorem dX12_takesUp_3 : decode cX12_takesUp 3 = .ok (.aload_n 0, 1) := by decide +kernel
theorem dX12_takesUp_4 : decode cX12_takesUp 4 = .ok (.invokevirtual 245, 3) := by decide +kernel
theorem dX12_takesUp_7 : decode cX12_takesUp 7 = .ok (.if_icmp .ge 24, 3) := by decide +kernel
theorem dX12_takesUp_10 : decode cX12_takesUp 10 = .ok (.aload_n 0, 1) := by decide +kernel
theorem dX12_takesUp_11 : decode cX12_takesUp 11 = .ok (.getfield 33, 3) := by decide +kernel
theorem dX12_takesUp_14 : decode cX12_takesUp 14 = .ok (.iload_n 1, 1) := by decide +kernel
theorem dX12_takesUp_15 : decode cX12_takesUp 15 = .ok (.aload_n 0, 1) := by decide +kernel
theorem dX12_takesUp_16 : decode cX12_takesUp 16 = .ok (.getfield 9, 3) := by decide +kernel
theorem dX12_takesUp_19 : decode cX12_takesUp 19 = .ok (.bipush 13, 2) := by decide +kernel
theorem dX12_takesUp_21 : decode cX12_takesUp 21 = .ok (.iload_n 1, 1) := by decide +kernel
theorem dX12_takesUp_22 : decode cX12_takesUp 22 = .ok (.iadd, 1) := by decide +kernel
theorem dX12_takesUp_23 : decode cX12_takesUp 23 = .ok (.iaload, 1) := by decide +kernel
theorem dX12_takesUp_24 : decode cX12_takesUp 24 = .ok (.iastore, 1) := by decide +kernel
theorem dX12_takesUp_25 : decode cX12_takesUp 25 = .ok (.iinc 1 1, 3) := by decide +kernel
theorem dX12_takesUp_28 : decode cX12_takesUp 28 = .ok (.goto (-26), 3) := by decide +kernel
theorem dX12_takesUp_31 : decode cX12_takesUp 31 = .ok (.return_, 1) := by decide +kernel
theorem dX12_next_0 : decode cX12_next 0 = .ok (.iload_n 2, 1) := by decide +kernel
theorem dX12_next_1 : decode cX12_next 1 = .ok (.istore 4, 2) := by decide +kernel
theorem dX12_next_3 : decode cX12_next 3 = .ok (.iconst 0, 1) := by decide +kernel
theorem dX12_next_4 : decode cX12_next 4 = .ok (.istore 5, 2) := by decide +kernel
theorem dX12_next_6 : decode cX12_next 6 = .ok (.iload 5, 2) := by decide +kernel
theorem dX12_next_8 : decode cX12_next 8 = .ok (.bipush 36, 2) := by decide +kernel
theorem dX12_next_10 : decode cX12_next 10 = .ok (.if_icmp .ge 153, 3) := by decide +kernel
theorem dX12_next_13 : decode cX12_next 13 = .ok (.iload 4, 2) := by decide +kernel
theorem dX12_next_15 : decode cX12_next 15 = .ok (.bipush 100, 2) := by decide +kernel
theorem dX12_next_17 : decode cX12_next 17 = .ok (.if_icmp .ne 14, 3) := by decide +kernel
theorem dX12_next_20 : decode cX12_next 20 = .ok (.aload_n 0, 1) := by decide +kernel
theorem dX12_next_21 : decode cX12_next 21 = .ok (.getfield 9, 3) := by decide +kernel
theorem dX12_next_24 : decode cX12_next 24 = .ok (.iconst 1, 1) := by decide +kernel
theorem dX12_next_25 : decode cX12_next 25 = .ok (.iaload, 1) := by decide +kernel
theorem dX12_next_26 : decode cX12_next 26 = .ok (.iconst 1, 1) := by decide +kernel
theorem dX12_next_27 : decode cX12_next 27 = .ok (.isub, 1) := by decide +kernel
theorem dX12_next_28 : decode cX12_next 28 = .ok (.goto 25, 3) := by decide +kernel
theorem dX12_next_31 : decode cX12_next 31 = .ok (.iload 4, 2) := by decide +kernel
theorem dX12_next_33 : decode cX12_next 33 = .ok (.iload_n 1, 1) := by decide +kernel
theorem dX12_next_34 : decode cX12_next 34 = .ok (.ifCond .ne 7, 3) := by decide +kernel
theorem dX12_next_37 : decode cX12_next 37 = .ok (.iconst 0, 1) := by decide +kernel
theorem dX12_next_38 : decode cX12_next 38 = .ok (.goto 9, 3) := by decide +kernel
theorem dX12_next_41 : decode cX12_next 41 = .ok (.aload_n 0, 1) := by decide +kernel
theorem dX12_next_42 : decode cX12_next 42 = .ok (.getfield 9, 3) := by decide +kernel
theorem dX12_next_45 : decode cX12_next 45 = .ok (.iconst 1, 1) := by decide +kernel
theorem dX12_next_46 : decode cX12_next 46 = .ok (.iaload, 1) := by decide +kernel
theorem dX12_next_47 : decode cX12_next 47 = .ok (.iadd, 1) := by decide +kernel
theorem dX12_next_48 : decode cX12_next 48 = .ok (.aload_n 0, 1) := by decide +kernel
theorem dX12_next_49 : decode cX12_next 49 = .ok (.invokevirtual 245, 3) := by decide +kernel
theorem dX12_next_52 : decode cX12_next 52 = .ok (.irem, 1) := by decide +kernel
theorem dX12_next_53 : decode cX12_next 53 = .ok (.istore 6, 2) := by decide +kernel
theorem dX12_next_55 : decode cX12_next 55 = .ok (.iload 4, 2) := by decide +kernel
theorem dX12_next_57 : decode cX12_next 57 = .ok (.bipush 100, 2) := by decide +kernel
theorem dX12_next_59 : decode cX12_next 59 = .ok (.if_icmp .eq 20, 3) := by decide +kernel
theorem dX12_next_62 : decode cX12_next 62 = .ok (.iload 6, 2) := by decide +kernel
theorem dX12_next_64 : decode cX12_next 64 = .ok (.aload_n 0, 1) := by decide +kernel
theorem dX12_next_65 : decode cX12_next 65 = .ok (.getfield 9, 3) := by decide +kernel
theorem dX12_next_68 : decode cX12_next 68 = .ok (.iconst 1, 1) := by decide +kernel
theorem dX12_next_69 : decode cX12_next 69 = .ok (.iaload, 1) := by decide +kernel
theorem dX12_next_70 : decode cX12_next 70 = .ok (.iconst 1, 1) := by decide +kernel
theorem dX12_next_71 : decode cX12_next 71 = .ok (.isub, 1) := by decide +kernel
theorem dX12_next_72 : decode cX12_next 72 = .ok (.if_icmp .ne 7, 3) := by decide +kernel
theorem dX12_next_75 : decode cX12_next 75 = .ok (.iconst 1, 1) := by decide +kernel
theorem dX12_next_76 : decode cX12_next 76 = .ok (.goto 4, 3) := by decide +kernel
theorem dX12_next_79 : decode cX12_next 79 = .ok (.iconst 0, 1) := by decide +kernel
theorem dX12_next_80 : decode cX12_next 80 = .ok (.istore 7, 2) := by decide +kernel
theorem dX12_next_82 : decode cX12_next 82 = .ok (.iload 7, 2) := by decide +kernel
theorem dX12_next_84 : decode cX12_next 84 = .ok (.ifCond .eq 20, 3) := by decide +kernel
theorem dX12_next_87 : decode cX12_next 87 = .ok (.aload_n 0, 1) := by decide +kernel
theorem dX12_next_88 : decode cX12_next 88 = .ok (.getfield 9, 3) := by decide +kernel
theorem dX12_next_91 : decode cX12_next 91 = .ok (.iconst 4, 1) := by decide +kernel
theorem dX12_next_92 : decode cX12_next 92 = .ok (.iaload, 1) := by decide +kernel
theorem dX12_next_93 : decode cX12_next 93 = .ok (.iconst 1, 1) := by decide +kernel
theorem dX12_next_94 : decode cX12_next 94 = .ok (.if_icmp .ne 10, 3) := by decide +kernel
theorem dX12_next_97 : decode cX12_next 97 = .ok (.bipush 100, 2) := by decide +kernel
theorem dX12_next_99 : decode cX12_next 99 = .ok (.istore 4, 2) := by decide +kernel
theorem dX12_next_101 : decode cX12_next 101 = .ok (.iload 4, 2) := by decide +kernel
theorem dX12_next_103 : decode cX12_next 103 = .ok (.ireturn, 1) := by decide +kernel
theorem dX12_next_104 : decode cX12_next 104 = .ok (.iload 6, 2) := by decide +kernel
theorem dX12_next_106 : decode cX12_next 106 = .ok (.iconst 1, 1) := by decide +kernel
theorem dX12_next_107 : decode cX12_next 107 = .ok (.iadd, 1) := by decide +kernel
theorem dX12_next_108 : decode cX12_next 108 = .ok (.aload_n 0, 1) := by decide +kernel
theorem dX12_next_109 : decode cX12_next 109 = .ok (.invokevirtual 245, 3) := by decide +kernel
theorem dX12_next_112 : decode cX12_next 112 = .ok (.irem, 1) := by decide +kernel
theorem dX12_next_113 : decode cX12_next 113 = .ok (.istore 6, 2) := by decide +kernel
theorem dX12_next_115 : decode cX12_next 115 = .ok (.iload 6, 2) := by decide +kernel
theorem dX12_next_117 : decode cX12_next 117 = .ok (.iload_n 1, 1) := by decide +kernel
theorem dX12_next_118 : decode cX12_next 118 = .ok (.ifCond .ne 7, 3) := by decide +kernel
theorem dX12_next_121 : decode cX12_next 121 = .ok (.iconst 0, 1) := by decide +kernel
theorem dX12_next_122 : decode cX12_next 122 = .ok (.goto 9, 3) := by decide +kernel
theorem dX12_next_125 : decode cX12_next 125 = .ok (.aload_n 0, 1) := by decide +kernel
theorem dX12_next_126 : decode cX12_next 126 = .ok (.getfield 9, 3) := by decide +kernel
theorem dX12_next_129 : decode cX12_next 129 = .ok (.iconst 1, 1) := by decide +kernel
theorem dX12_next_130 : decode cX12_next 130 = .ok (.iaload, 1) := by decide +kernel
theorem dX12_next_131 : decode cX12_next 131 = .ok (.iadd, 1) := by decide +kernel
theorem dX12_next_132 : decode cX12_next 132 = .ok (.aload_n 0, 1) := by decide +kernel
theorem dX12_next_133 : decode cX12_next 133 = .ok (.invokevirtual 245, 3) := by decide +kernel
theorem dX12_next_136 : decode cX12_next 136 = .ok (.irem, 1) := by decide +kernel
theorem dX12_next_137 : decode cX12_next 137 = .ok (.istore 4, 2) := by decide +kernel
theorem dX12_next_139 : decode cX12_next 139 = .ok (.aload_n 0, 1) := by decide +kernel
theorem dX12_next_140 : decode cX12_next 140 = .ok (.iload 4, 2) := by decide +kernel
theorem dX12_next_142 : decode cX12_next 142 = .ok (.invokevirtual 251, 3) := by decide +kernel
theorem dX12_next_145 : decode cX12_next 145 = .ok (.ifCond .ne 12, 3) := by decide +kernel
theorem dX12_next_148 : decode cX12_next 148 = .ok (.iload 4, 2) := by decide +kernel
theorem dX12_next_150 : decode cX12_next 150 = .ok (.iload_n 3, 1) := by decide +kernel
theorem dX12_next_151 : decode cX12_next 151 = .ok (.if_icmp .eq 6, 3) := by decide +kernel
theorem dX12_next_154 : decode cX12_next 154 = .ok (.iload 4, 2) := by decide +kernel
theorem dX12_next_156 : decode cX12_next 156 = .ok (.ireturn, 1) := by decide +kernel
theorem dX12_next_157 : decode cX12_next 157 = .ok (.iinc 5 1, 3) := by decide +kernel
theorem dX12_next_160 : decode cX12_next 160 = .ok (.goto (-154), 3) := by decide +kernel
theorem dX12_next_163 : decode cX12_next 163 = .ok (.iconst (-1), 1) := by decide +kernel
theorem dX12_next_164 : decode cX12_next 164 = .ok (.ireturn, 1) := by decide +kernel
theorem dX12_sum_0 : decode cX12_sum 0 = .ok (.iconst 0, 1) := by decide +kernel
theorem dX12_sum_1 : decode cX12_sum 1 = .ok (.istore_n 2, 1) := by decide +kernel
theorem dX12_sum_2 : decode cX12_sum 2 = .ok (.iconst 0, 1) := by decide +kernel
theorem dX12_sum_3 : decode cX12_sum 3 = .ok (.istore_n 3, 1) := by decide +kernel
theorem dX12_sum_4 : decode cX12_sum 4 = .ok (.iload_n 3, 1) := by decide +kernel
theorem dX12_sum_5 : decode cX12_sum 5 = .ok (.aload_n 0, 1) := by decide +kernel
theorem dX12_sum_6 : decode cX12_sum 6 = .ok (.invokevirtual 245, 3) := by decide +kernel
theorem dX12_sum_9 : decode cX12_sum 9 = .ok (.if_icmp .ge 31, 3) := by decide +kernel
theorem dX12_sum_12 : decode cX12_sum 12 = .ok (.iload_n 2, 1) := by decide +kernel
theorem dX12_sum_13 : decode cX12_sum 13 = .ok (.aload_n 0, 1) := by decide +kernel
theorem dX12_sum_14 : decode cX12_sum 14 = .ok (.iload_n 3, 1) := by decide +kernel
theorem dX12_sum_15 : decode cX12_sum 15 = .ok (.invokevirtual 257, 3) := by decide +kernel
theorem dX12_sum_18 : decode cX12_sum 18 = .ok (.iload_n 1, 1) := by decide +kernel
theorem dX12_sum_19 : decode cX12_sum 19 = .ok (.if_icmp .ne 12, 3) := by decide +kernel
theorem dX12_sum_22 : decode cX12_sum 22 = .ok (.aload_n 0, 1) := by decide +kernel
theorem dX12_sum_23 : decode cX12_sum 23 = .ok (.getfield 33, 3) := by decide +kernel
theorem dX12_sum_26 : decode cX12_sum 26 = .ok (.iload_n 3, 1) := by decide +kernel
theorem dX12_sum_27 : decode cX12_sum 27 = .ok (.iaload, 1) := by decide +kernel
theorem dX12_sum_28 : decode cX12_sum 28 = .ok (.goto 4, 3) := by decide +kernel
theorem dX12_sum_31 : decode cX12_sum 31 = .ok (.iconst 0, 1) := by decide +kernel
theorem dX12_sum_32 : decode cX12_sum 32 = .ok (.iadd, 1) := by decide +kernel
theorem dX12_sum_33 : decode cX12_sum 33 = .ok (.istore_n 2, 1) := by decide +kernel
theorem dX12_sum_34 : decode cX12_sum 34 = .ok (.iinc 3 1, 3) := by decide +kernel
theorem dX12_sum_37 : decode cX12_sum 37 = .ok (.goto (-33), 3) := by decide +kernel
theorem dX12_sum_40 : decode cX12_sum 40 = .ok (.iload_n 2, 1) := by decide +kernel
theorem dX12_sum_41 : decode cX12_sum 41 = .ok (.ireturn, 1) := by decide +kernel
theorem dX12_ahead_0 : decode cX12_ahead 0 = .ok (.iload_n 1, 1) := by decide +kernel
theorem dX12_ahead_1 : decode cX12_ahead 1 = .ok (.iconst 1, 1) := by decide +kernel
theorem dX12_ahead_2 : decode cX12_ahead 2 = .ok (.isub, 1) := by decide +kernel
theorem dX12_ahead_3 : decode cX12_ahead 3 = .ok (.istore_n 2, 1) := by decide +kernel
theorem dX12_ahead_4 : decode cX12_ahead 4 = .ok (.iload_n 2, 1) := by decide +kernel
theorem dX12_ahead_5 : decode cX12_ahead 5 = .ok (.ifCond .lt 30, 3) := by decide +kernel
theorem dX12_ahead_8 : decode cX12_ahead 8 = .ok (.aload_n 0, 1) := by decide +kernel
theorem dX12_ahead_9 : decode cX12_ahead 9 = .ok (.iload_n 2, 1) := by decide +kernel
theorem dX12_ahead_10 : decode cX12_ahead 10 = .ok (.invokevirtual 257, 3) := by decide +kernel
theorem dX12_ahead_13 : decode cX12_ahead 13 = .ok (.aload_n 0, 1) := by decide +kernel
theorem dX12_ahead_14 : decode cX12_ahead 14 = .ok (.iload_n 1, 1) := by decide +kernel
theorem dX12_ahead_15 : decode cX12_ahead 15 = .ok (.invokevirtual 257, 3) := by decide +kernel
theorem dX12_ahead_18 : decode cX12_ahead 18 = .ok (.if_icmp .ne 17, 3) := by decide +kernel
theorem dX12_ahead_21 : decode cX12_ahead 21 = .ok (.aload_n 0, 1) := by decide +kernel
theorem dX12_ahead_22 : decode cX12_ahead 22 = .ok (.iload_n 2, 1) := by decide +kernel
theorem dX12_ahead_23 : decode cX12_ahead 23 = .ok (.invokevirtual 251, 3) := by decide +kernel
theorem dX12_ahead_26 : decode cX12_ahead 26 = .ok (.ifCond .eq 9, 3) := by decide +kernel
theorem dX12_ahead_29 : decode cX12_ahead 29 = .ok (.iinc 2 (-1), 3) := by decide +kernel
theorem dX12_ahead_32 : decode cX12_ahead 32 = .ok (.goto (-28), 3) := by decide +kernel
theorem dX12_ahead_35 : decode cX12_ahead 35 = .ok (.iload_n 2, 1) := by decide +kernel
theorem dX12_ahead_36 : decode cX12_ahead 36 = .ok (.ifCond .lt 20, 3) := by decide +kernel
theorem dX12_ahead_39 : decode cX12_ahead 39 = .ok (.aload_n 0, 1) := by decide +kernel
theorem dX12_ahead_40 : decode cX12_ahead 40 = .ok (.iload_n 2, 1) := by decide +kernel
theorem dX12_ahead_41 : decode cX12_ahead 41 = .ok (.invokevirtual 257, 3) := by decide +kernel
theorem dX12_ahead_44 : decode cX12_ahead 44 = .ok (.aload_n 0, 1) := by decide +kernel
theorem dX12_ahead_45 : decode cX12_ahead 45 = .ok (.iload_n 1, 1) := by decide +kernel
theorem dX12_ahead_46 : decode cX12_ahead 46 = .ok (.invokevirtual 257, 3) := by decide +kernel
theorem dX12_ahead_49 : decode cX12_ahead 49 = .ok (.if_icmp .ne 7, 3) := by decide +kernel
theorem dX12_ahead_52 : decode cX12_ahead 52 = .ok (.iload_n 2, 1) := by decide +kernel
theorem dX12_ahead_53 : decode cX12_ahead 53 = .ok (.goto 4, 3) := by decide +kernel
theorem dX12_ahead_56 : decode cX12_ahead 56 = .ok (.iconst (-1), 1) := by decide +kernel
theorem dX12_ahead_57 : decode cX12_ahead 57 = .ok (.ireturn, 1) := by decide +kernel
theorem dX12_isFull_0 : decode cX12_isFull 0 = .ok (.aload_n 0, 1) := by decide +kernel
theorem dX12_isFull_1 : decode cX12_isFull 1 = .ok (.iload_n 1, 1) := by decide +kernel
theorem dX12_isFull_2 : decode cX12_isFull 2 = .ok (.invokevirtual 248, 3) := by decide +kernel
theorem dX12_isFull_5 : decode cX12_isFull 5 = .ok (.ifCond .eq 41, 3) := by decide +kernel
theorem dX12_isFull_8 : decode cX12_isFull 8 = .ok (.aload_n 0, 1) := by decide +kernel
theorem dX12_isFull_9 : decode cX12_isFull 9 = .ok (.iload_n 1, 1) := by decide +kernel
theorem dX12_isFull_10 : decode cX12_isFull 10 = .ok (.invokevirtual 257, 3) := by decide +kernel
theorem dX12_isFull_13 : decode cX12_isFull 13 = .ok (.aload_n 0, 1) := by decide +kernel
theorem dX12_isFull_14 : decode cX12_isFull 14 = .ok (.getfield 9, 3) := by decide +kernel
theorem dX12_isFull_17 : decode cX12_isFull 17 = .ok (.iconst 2, 1) := by decide +kernel
theorem dX12_isFull_18 : decode cX12_isFull 18 = .ok (.iaload, 1) := by decide +kernel
theorem dX12_isFull_19 : decode cX12_isFull 19 = .ok (.if_icmp .ne 27, 3) := by decide +kernel
theorem dX12_isFull_22 : decode cX12_isFull 22 = .ok (.aload_n 0, 1) := by decide +kernel
theorem dX12_isFull_23 : decode cX12_isFull 23 = .ok (.iload_n 1, 1) := by decide +kernel
theorem dX12_isFull_24 : decode cX12_isFull 24 = .ok (.invokevirtual 251, 3) := by decide +kernel
theorem dX12_isFull_27 : decode cX12_isFull 27 = .ok (.ifCond .ne 19, 3) := by decide +kernel
theorem dX12_isFull_30 : decode cX12_isFull 30 = .ok (.aload_n 0, 1) := by decide +kernel
theorem dX12_isFull_31 : decode cX12_isFull 31 = .ok (.getfield 9, 3) := by decide +kernel
theorem dX12_isFull_34 : decode cX12_isFull 34 = .ok (.bipush 13, 2) := by decide +kernel
theorem dX12_isFull_36 : decode cX12_isFull 36 = .ok (.iload_n 1, 1) := by decide +kernel
theorem dX12_isFull_37 : decode cX12_isFull 37 = .ok (.iadd, 1) := by decide +kernel
theorem dX12_isFull_38 : decode cX12_isFull 38 = .ok (.iaload, 1) := by decide +kernel
theorem dX12_isFull_39 : decode cX12_isFull 39 = .ok (.ifCond .le 7, 3) := by decide +kernel
theorem dX12_isFull_42 : decode cX12_isFull 42 = .ok (.iconst 1, 1) := by decide +kernel
theorem dX12_isFull_43 : decode cX12_isFull 43 = .ok (.goto 4, 3) := by decide +kernel
theorem dX12_isFull_46 : decode cX12_isFull 46 = .ok (.iconst 0, 1) := by decide +kernel
theorem dX12_isFull_47 : decode cX12_isFull 47 = .ok (.ireturn, 1) := by decide +kernel
theorem dX12_puts_0 : decode cX12_puts 0 = .ok (.iconst 0, 1) := by decide +kernel
theorem dX12_puts_1 : decode cX12_puts 1 = .ok (.istore_n 3, 1) := by decide +kernel
theorem dX12_puts_2 : decode cX12_puts 2 = .ok (.iload_n 3, 1) := by decide +kernel
theorem dX12_puts_3 : decode cX12_puts 3 = .ok (.bipush 25, 2) := by decide +kernel
theorem dX12_puts_5 : decode cX12_puts 5 = .ok (.if_icmp .ge 20, 3) := by decide +kernel
theorem dX12_puts_8 : decode cX12_puts 8 = .ok (.aload_n 0, 1) := by decide +kernel
theorem dX12_puts_9 : decode cX12_puts 9 = .ok (.bipush 25, 2) := by decide +kernel
theorem dX12_puts_11 : decode cX12_puts 11 = .ok (.iload_n 1, 1) := by decide +kernel
theorem dX12_puts_12 : decode cX12_puts 12 = .ok (.imul, 1) := by decide +kernel
theorem dX12_puts_13 : decode cX12_puts 13 = .ok (.iload_n 3, 1) := by decide +kernel
theorem dX12_puts_14 : decode cX12_puts 14 = .ok (.iadd, 1) := by decide +kernel
theorem dX12_puts_15 : decode cX12_puts 15 = .ok (.aload_n 2, 1) := by decide +kernel
theorem dX12_puts_16 : decode cX12_puts 16 = .ok (.iload_n 3, 1) := by decide +kernel
theorem dX12_puts_17 : decode cX12_puts 17 = .ok (.iaload, 1) := by decide +kernel
theorem dX12_puts_18 : decode cX12_puts 18 = .ok (.iastore, 1) := by decide +kernel
theorem dX12_puts_19 : decode cX12_puts 19 = .ok (.iinc 3 1, 3) := by decide +kernel
theorem dX12_puts_22 : decode cX12_puts 22 = .ok (.goto (-20), 3) := by decide +kernel
theorem dX12_puts_25 : decode cX12_puts 25 = .ok (.return_, 1) := by decide +kernel
theorem dX12_gets_0 : decode cX12_gets 0 = .ok (.iconst 0, 1) := by decide +kernel
theorem dX12_gets_1 : decode cX12_gets 1 = .ok (.istore_n 3, 1) := by decide +kernel
theorem dX12_gets_2 : decode cX12_gets 2 = .ok (.iload_n 3, 1) := by decide +kernel
theorem dX12_gets_3 : decode cX12_gets 3 = .ok (.bipush 25, 2) := by decide +kernel
theorem dX12_gets_5 : decode cX12_gets 5 = .ok (.if_icmp .ge 20, 3) := by decide +kernel
theorem dX12_gets_8 : decode cX12_gets 8 = .ok (.aload_n 2, 1) := by decide +kernel
theorem dX12_gets_9 : decode cX12_gets 9 = .ok (.iload_n 3, 1) := by decide +kernel
theorem dX12_gets_10 : decode cX12_gets 10 = .ok (.aload_n 0, 1) := by decide +kernel
theorem dX12_gets_11 : decode cX12_gets 11 = .ok (.bipush 25, 2) := by decide +kernel
theorem dX12_gets_13 : decode cX12_gets 13 = .ok (.iload_n 1, 1) := by decide +kernel
theorem dX12_gets_14 : decode cX12_gets 14 = .ok (.imul, 1) := by decide +kernel
theorem dX12_gets_15 : decode cX12_gets 15 = .ok (.iload_n 3, 1) := by decide +kernel
theorem dX12_gets_16 : decode cX12_gets 16 = .ok (.iadd, 1) := by decide +kernel
theorem dX12_gets_17 : decode cX12_gets 17 = .ok (.iaload, 1) := by decide +kernel
theorem dX12_gets_18 : decode cX12_gets 18 = .ok (.iastore, 1) := by decide +kernel
theorem dX12_gets_19 : decode cX12_gets 19 = .ok (.iinc 3 1, 3) := by decide +kernel
theorem dX12_gets_22 : decode cX12_gets 22 = .ok (.goto (-20), 3) := by decide +kernel
theorem dX12_gets_25 : decode cX12_gets 25 = .ok (.return_, 1) := by decide +kernel
theorem dX12_keeps_0 : decode cX12_keeps 0 = .ok (.aload_n 0, 1) := by decide +kernel
theorem dX12_keeps_1 : decode cX12_keeps 1 = .ok (.getfield 239, 3) := by decide +kernel
theorem dX12_keeps_4 : decode cX12_keeps 4 = .ok (.bipush 40, 2) := by decide +kernel
theorem dX12_keeps_6 : decode cX12_keeps 6 = .ok (.if_icmp .ne 72, 3) := by decide +kernel
theorem dX12_keeps_9 : decode cX12_keeps 9 = .ok (.bipush 25, 2) := by decide +kernel
theorem dX12_keeps_11 : decode cX12_keeps 11 = .ok (.istore_n 2, 1) := by decide +kernel
theorem dX12_keeps_12 : decode cX12_keeps 12 = .ok (.iload_n 2, 1) := by decide +kernel
theorem dX12_keeps_13 : decode cX12_keeps 13 = .ok (.sipush 1000, 3) := by decide +kernel
theorem dX12_keeps_16 : decode cX12_keeps 16 = .ok (.if_icmp .ge 24, 3) := by decide +kernel
theorem dX12_keeps_19 : decode cX12_keeps 19 = .ok (.aload_n 0, 1) := by decide +kernel
theorem dX12_keeps_20 : decode cX12_keeps 20 = .ok (.getfield 36, 3) := by decide +kernel
theorem dX12_keeps_23 : decode cX12_keeps 23 = .ok (.iload_n 2, 1) := by decide +kernel
theorem dX12_keeps_24 : decode cX12_keeps 24 = .ok (.bipush 25, 2) := by decide +kernel
theorem dX12_keeps_26 : decode cX12_keeps 26 = .ok (.isub, 1) := by decide +kernel
theorem dX12_keeps_27 : decode cX12_keeps 27 = .ok (.aload_n 0, 1) := by decide +kernel
theorem dX12_keeps_28 : decode cX12_keeps 28 = .ok (.getfield 36, 3) := by decide +kernel
theorem dX12_keeps_31 : decode cX12_keeps 31 = .ok (.iload_n 2, 1) := by decide +kernel
theorem dX12_keeps_32 : decode cX12_keeps 32 = .ok (.iaload, 1) := by decide +kernel
theorem dX12_keeps_33 : decode cX12_keeps 33 = .ok (.iastore, 1) := by decide +kernel
theorem dX12_keeps_34 : decode cX12_keeps 34 = .ok (.iinc 2 1, 3) := by decide +kernel
theorem dX12_keeps_37 : decode cX12_keeps 37 = .ok (.goto (-25), 3) := by decide +kernel
theorem dX12_keeps_40 : decode cX12_keeps 40 = .ok (.iconst 1, 1) := by decide +kernel
theorem dX12_keeps_41 : decode cX12_keeps 41 = .ok (.istore_n 2, 1) := by decide +kernel
theorem dX12_keeps_42 : decode cX12_keeps 42 = .ok (.iload_n 2, 1) := by decide +kernel
theorem dX12_keeps_43 : decode cX12_keeps 43 = .ok (.bipush 40, 2) := by decide +kernel
theorem dX12_keeps_45 : decode cX12_keeps 45 = .ok (.if_icmp .ge 23, 3) := by decide +kernel
theorem dX12_keeps_48 : decode cX12_keeps 48 = .ok (.aload_n 0, 1) := by decide +kernel
theorem dX12_keeps_49 : decode cX12_keeps 49 = .ok (.getfield 39, 3) := by decide +kernel
theorem dX12_keeps_52 : decode cX12_keeps 52 = .ok (.iload_n 2, 1) := by decide +kernel
theorem dX12_keeps_53 : decode cX12_keeps 53 = .ok (.iconst 1, 1) := by decide +kernel
theorem dX12_keeps_54 : decode cX12_keeps 54 = .ok (.isub, 1) := by decide +kernel
theorem dX12_keeps_55 : decode cX12_keeps 55 = .ok (.aload_n 0, 1) := by decide +kernel
theorem dX12_keeps_56 : decode cX12_keeps 56 = .ok (.getfield 39, 3) := by decide +kernel
theorem dX12_keeps_59 : decode cX12_keeps 59 = .ok (.iload_n 2, 1) := by decide +kernel
theorem dX12_keeps_60 : decode cX12_keeps 60 = .ok (.iaload, 1) := by decide +kernel
theorem dX12_keeps_61 : decode cX12_keeps 61 = .ok (.iastore, 1) := by decide +kernel
theorem dX12_keeps_62 : decode cX12_keeps 62 = .ok (.iinc 2 1, 3) := by decide +kernel
theorem dX12_keeps_65 : decode cX12_keeps 65 = .ok (.goto (-23), 3) := by decide +kernel
theorem dX12_keeps_68 : decode cX12_keeps 68 = .ok (.aload_n 0, 1) := by decide +kernel
theorem dX12_keeps_69 : decode cX12_keeps 69 = .ok (.dup, 1) := by decide +kernel
theorem dX12_keeps_70 : decode cX12_keeps 70 = .ok (.getfield 239, 3) := by decide +kernel
theorem dX12_keeps_73 : decode cX12_keeps 73 = .ok (.iconst 1, 1) := by decide +kernel
theorem dX12_keeps_74 : decode cX12_keeps 74 = .ok (.isub, 1) := by decide +kernel
theorem dX12_keeps_75 : decode cX12_keeps 75 = .ok (.putfield 239, 3) := by decide +kernel
theorem dX12_keeps_78 : decode cX12_keeps 78 = .ok (.aload_n 0, 1) := by decide +kernel
theorem dX12_keeps_79 : decode cX12_keeps 79 = .ok (.getfield 36, 3) := by decide +kernel
theorem dX12_keeps_82 : decode cX12_keeps 82 = .ok (.aload_n 0, 1) := by decide +kernel
theorem dX12_keeps_83 : decode cX12_keeps 83 = .ok (.getfield 239, 3) := by decide +kernel
theorem dX12_keeps_86 : decode cX12_keeps 86 = .ok (.aload_n 0, 1) := by decide +kernel
theorem dX12_keeps_87 : decode cX12_keeps 87 = .ok (.getfield 9, 3) := by decide +kernel
theorem dX12_keeps_90 : decode cX12_keeps 90 = .ok (.invokestatic 319, 3) := by decide +kernel
theorem dX12_keeps_93 : decode cX12_keeps 93 = .ok (.aload_n 0, 1) := by decide +kernel
theorem dX12_keeps_94 : decode cX12_keeps 94 = .ok (.getfield 39, 3) := by decide +kernel
theorem dX12_keeps_97 : decode cX12_keeps 97 = .ok (.aload_n 0, 1) := by decide +kernel
theorem dX12_keeps_98 : decode cX12_keeps 98 = .ok (.getfield 239, 3) := by decide +kernel
theorem dX12_keeps_101 : decode cX12_keeps 101 = .ok (.iload_n 1, 1) := by decide +kernel
theorem dX12_keeps_102 : decode cX12_keeps 102 = .ok (.iastore, 1) := by decide +kernel
theorem dX12_keeps_103 : decode cX12_keeps 103 = .ok (.aload_n 0, 1) := by decide +kernel
theorem dX12_keeps_104 : decode cX12_keeps 104 = .ok (.dup, 1) := by decide +kernel
theorem dX12_keeps_105 : decode cX12_keeps 105 = .ok (.getfield 239, 3) := by decide +kernel
theorem dX12_keeps_108 : decode cX12_keeps 108 = .ok (.iconst 1, 1) := by decide +kernel
theorem dX12_keeps_109 : decode cX12_keeps 109 = .ok (.iadd, 1) := by decide +kernel
theorem dX12_keeps_110 : decode cX12_keeps 110 = .ok (.putfield 239, 3) := by decide +kernel
theorem dX12_keeps_113 : decode cX12_keeps 113 = .ok (.return_, 1) := by decide +kernel
theorem dX12_undo_0 : decode cX12_undo 0 = .ok (.aload_n 0, 1) := by decide +kernel
theorem dX12_undo_1 : decode cX12_undo 1 = .ok (.iconst 0, 1) := by decide +kernel
theorem dX12_undo_2 : decode cX12_undo 2 = .ok (.putfield 107, 3) := by decide +kernel
theorem dX12_undo_5 : decode cX12_undo 5 = .ok (.aload_n 0, 1) := by decide +kernel
theorem dX12_undo_6 : decode cX12_undo 6 = .ok (.getfield 239, 3) := by decide +kernel
theorem dX12_undo_9 : decode cX12_undo 9 = .ok (.ifCond .ne 5, 3) := by decide +kernel
theorem dX12_undo_12 : decode cX12_undo 12 = .ok (.iconst 0, 1) := by decide +kernel
theorem dX12_undo_13 : decode cX12_undo 13 = .ok (.ireturn, 1) := by decide +kernel
theorem dX12_undo_14 : decode cX12_undo 14 = .ok (.aload_n 0, 1) := by decide +kernel
theorem dX12_undo_15 : decode cX12_undo 15 = .ok (.dup, 1) := by decide +kernel
theorem dX12_undo_16 : decode cX12_undo 16 = .ok (.getfield 239, 3) := by decide +kernel
theorem dX12_undo_19 : decode cX12_undo 19 = .ok (.iconst 1, 1) := by decide +kernel
theorem dX12_undo_20 : decode cX12_undo 20 = .ok (.isub, 1) := by decide +kernel
theorem dX12_undo_21 : decode cX12_undo 21 = .ok (.putfield 239, 3) := by decide +kernel
theorem dX12_undo_24 : decode cX12_undo 24 = .ok (.aload_n 0, 1) := by decide +kernel
theorem dX12_undo_25 : decode cX12_undo 25 = .ok (.getfield 42, 3) := by decide +kernel
theorem dX12_undo_28 : decode cX12_undo 28 = .ok (.aload_n 0, 1) := by decide +kernel
theorem dX12_undo_29 : decode cX12_undo 29 = .ok (.getfield 242, 3) := by decide +kernel
theorem dX12_undo_32 : decode cX12_undo 32 = .ok (.aload_n 0, 1) := by decide +kernel
theorem dX12_undo_33 : decode cX12_undo 33 = .ok (.getfield 9, 3) := by decide +kernel
theorem dX12_undo_36 : decode cX12_undo 36 = .ok (.invokestatic 319, 3) := by decide +kernel
theorem dX12_undo_39 : decode cX12_undo 39 = .ok (.aload_n 0, 1) := by decide +kernel
theorem dX12_undo_40 : decode cX12_undo 40 = .ok (.getfield 45, 3) := by decide +kernel
theorem dX12_undo_43 : decode cX12_undo 43 = .ok (.aload_n 0, 1) := by decide +kernel
theorem dX12_undo_44 : decode cX12_undo 44 = .ok (.getfield 242, 3) := by decide +kernel
theorem dX12_undo_47 : decode cX12_undo 47 = .ok (.aload_n 0, 1) := by decide +kernel
theorem dX12_undo_48 : decode cX12_undo 48 = .ok (.getfield 39, 3) := by decide +kernel
theorem dX12_undo_51 : decode cX12_undo 51 = .ok (.aload_n 0, 1) := by decide +kernel
theorem dX12_undo_52 : decode cX12_undo 52 = .ok (.getfield 239, 3) := by decide +kernel
theorem dX12_undo_55 : decode cX12_undo 55 = .ok (.iaload, 1) := by decide +kernel
theorem dX12_undo_56 : decode cX12_undo 56 = .ok (.iastore, 1) := by decide +kernel
theorem dX12_undo_57 : decode cX12_undo 57 = .ok (.aload_n 0, 1) := by decide +kernel
theorem dX12_undo_58 : decode cX12_undo 58 = .ok (.dup, 1) := by decide +kernel
theorem dX12_undo_59 : decode cX12_undo 59 = .ok (.getfield 242, 3) := by decide +kernel
theorem dX12_undo_62 : decode cX12_undo 62 = .ok (.iconst 1, 1) := by decide +kernel
theorem dX12_undo_63 : decode cX12_undo 63 = .ok (.iadd, 1) := by decide +kernel
theorem dX12_undo_64 : decode cX12_undo 64 = .ok (.putfield 242, 3) := by decide +kernel
theorem dX12_undo_67 : decode cX12_undo 67 = .ok (.aload_n 0, 1) := by decide +kernel
theorem dX12_undo_68 : decode cX12_undo 68 = .ok (.getfield 36, 3) := by decide +kernel
theorem dX12_undo_71 : decode cX12_undo 71 = .ok (.aload_n 0, 1) := by decide +kernel
theorem dX12_undo_72 : decode cX12_undo 72 = .ok (.getfield 239, 3) := by decide +kernel
theorem dX12_undo_75 : decode cX12_undo 75 = .ok (.aload_n 0, 1) := by decide +kernel
theorem dX12_undo_76 : decode cX12_undo 76 = .ok (.getfield 9, 3) := by decide +kernel
theorem dX12_undo_79 : decode cX12_undo 79 = .ok (.invokestatic 332, 3) := by decide +kernel
theorem dX12_undo_82 : decode cX12_undo 82 = .ok (.iconst 1, 1) := by decide +kernel
theorem dX12_undo_83 : decode cX12_undo 83 = .ok (.ireturn, 1) := by decide +kernel
theorem dX12_redo_0 : decode cX12_redo 0 = .ok (.aload_n 0, 1) := by decide +kernel
theorem dX12_redo_1 : decode cX12_redo 1 = .ok (.iconst 0, 1) := by decide +kernel
theorem dX12_redo_2 : decode cX12_redo 2 = .ok (.putfield 107, 3) := by decide +kernel
theorem dX12_redo_5 : decode cX12_redo 5 = .ok (.aload_n 0, 1) := by decide +kernel
theorem dX12_redo_6 : decode cX12_redo 6 = .ok (.getfield 242, 3) := by decide +kernel
theorem dX12_redo_9 : decode cX12_redo 9 = .ok (.ifCond .ne 5, 3) := by decide +kernel
theorem dX12_redo_12 : decode cX12_redo 12 = .ok (.iconst 0, 1) := by decide +kernel
theorem dX12_redo_13 : decode cX12_redo 13 = .ok (.ireturn, 1) := by decide +kernel
theorem dX12_redo_14 : decode cX12_redo 14 = .ok (.aload_n 0, 1) := by decide +kernel
theorem dX12_redo_15 : decode cX12_redo 15 = .ok (.dup, 1) := by decide +kernel
theorem dX12_redo_16 : decode cX12_redo 16 = .ok (.getfield 242, 3) := by decide +kernel
theorem dX12_redo_19 : decode cX12_redo 19 = .ok (.iconst 1, 1) := by decide +kernel
theorem dX12_redo_20 : decode cX12_redo 20 = .ok (.isub, 1) := by decide +kernel
theorem dX12_redo_21 : decode cX12_redo 21 = .ok (.putfield 242, 3) := by decide +kernel
theorem dX12_redo_24 : decode cX12_redo 24 = .ok (.aload_n 0, 1) := by decide +kernel
theorem dX12_redo_25 : decode cX12_redo 25 = .ok (.aload_n 0, 1) := by decide +kernel
theorem dX12_redo_26 : decode cX12_redo 26 = .ok (.getfield 45, 3) := by decide +kernel
theorem dX12_redo_29 : decode cX12_redo 29 = .ok (.aload_n 0, 1) := by decide +kernel
theorem dX12_redo_30 : decode cX12_redo 30 = .ok (.getfield 242, 3) := by decide +kernel
theorem dX12_redo_33 : decode cX12_redo 33 = .ok (.iaload, 1) := by decide +kernel
theorem dX12_redo_34 : decode cX12_redo 34 = .ok (.invokevirtual 323, 3) := by decide +kernel
theorem dX12_redo_37 : decode cX12_redo 37 = .ok (.aload_n 0, 1) := by decide +kernel
theorem dX12_redo_38 : decode cX12_redo 38 = .ok (.getfield 42, 3) := by decide +kernel
theorem dX12_redo_41 : decode cX12_redo 41 = .ok (.aload_n 0, 1) := by decide +kernel
theorem dX12_redo_42 : decode cX12_redo 42 = .ok (.getfield 242, 3) := by decide +kernel
theorem dX12_redo_45 : decode cX12_redo 45 = .ok (.aload_n 0, 1) := by decide +kernel
theorem dX12_redo_46 : decode cX12_redo 46 = .ok (.getfield 9, 3) := by decide +kernel
theorem dX12_redo_49 : decode cX12_redo 49 = .ok (.invokestatic 332, 3) := by decide +kernel
theorem dX12_redo_52 : decode cX12_redo 52 = .ok (.iconst 1, 1) := by decide +kernel
theorem dX12_redo_53 : decode cX12_redo 53 = .ok (.ireturn, 1) := by decide +kernel
theorem dX12_sees_0 : decode cX12_sees 0 = .ok (.aload_n 0, 1) := by decide +kernel
theorem dX12_sees_1 : decode cX12_sees 1 = .ok (.iconst 0, 1) := by decide +kernel
theorem dX12_sees_2 : decode cX12_sees 2 = .ok (.putfield 347, 3) := by decide +kernel
theorem dX12_sees_5 : decode cX12_sees 5 = .ok (.iconst 0, 1) := by decide +kernel
theorem dX12_sees_6 : decode cX12_sees 6 = .ok (.istore_n 2, 1) := by decide +kernel
theorem dX12_sees_7 : decode cX12_sees 7 = .ok (.iload_n 2, 1) := by decide +kernel
theorem dX12_sees_8 : decode cX12_sees 8 = .ok (.aload_n 0, 1) := by decide +kernel
theorem dX12_sees_9 : decode cX12_sees 9 = .ok (.invokevirtual 245, 3) := by decide +kernel
theorem dX12_sees_12 : decode cX12_sees 12 = .ok (.if_icmp .ge 62, 3) := by decide +kernel
theorem dX12_sees_15 : decode cX12_sees 15 = .ok (.iload_n 2, 1) := by decide +kernel
theorem dX12_sees_16 : decode cX12_sees 16 = .ok (.iload_n 1, 1) := by decide +kernel
theorem dX12_sees_17 : decode cX12_sees 17 = .ok (.ifCond .ne 7, 3) := by decide +kernel
theorem dX12_sees_20 : decode cX12_sees 20 = .ok (.iconst 0, 1) := by decide +kernel
theorem dX12_sees_21 : decode cX12_sees 21 = .ok (.goto 9, 3) := by decide +kernel
theorem dX12_sees_24 : decode cX12_sees 24 = .ok (.aload_n 0, 1) := by decide +kernel
theorem dX12_sees_25 : decode cX12_sees 25 = .ok (.getfield 9, 3) := by decide +kernel
theorem dX12_sees_28 : decode cX12_sees 28 = .ok (.iconst 1, 1) := by decide +kernel
theorem dX12_sees_29 : decode cX12_sees 29 = .ok (.iaload, 1) := by decide +kernel
theorem dX12_sees_30 : decode cX12_sees 30 = .ok (.iadd, 1) := by decide +kernel
theorem dX12_sees_31 : decode cX12_sees 31 = .ok (.aload_n 0, 1) := by decide +kernel
theorem dX12_sees_32 : decode cX12_sees 32 = .ok (.invokevirtual 245, 3) := by decide +kernel
theorem dX12_sees_35 : decode cX12_sees 35 = .ok (.irem, 1) := by decide +kernel
theorem dX12_sees_36 : decode cX12_sees 36 = .ok (.istore_n 3, 1) := by decide +kernel
theorem dX12_sees_37 : decode cX12_sees 37 = .ok (.aload_n 0, 1) := by decide +kernel
theorem dX12_sees_38 : decode cX12_sees 38 = .ok (.iload_n 3, 1) := by decide +kernel
theorem dX12_sees_39 : decode cX12_sees 39 = .ok (.invokevirtual 251, 3) := by decide +kernel
theorem dX12_sees_42 : decode cX12_sees 42 = .ok (.ifCond .eq 6, 3) := by decide +kernel
theorem dX12_sees_45 : decode cX12_sees 45 = .ok (.goto 23, 3) := by decide +kernel
theorem dX12_sees_48 : decode cX12_sees 48 = .ok (.aload_n 0, 1) := by decide +kernel
theorem dX12_sees_49 : decode cX12_sees 49 = .ok (.getfield 48, 3) := by decide +kernel
theorem dX12_sees_52 : decode cX12_sees 52 = .ok (.aload_n 0, 1) := by decide +kernel
theorem dX12_sees_53 : decode cX12_sees 53 = .ok (.getfield 347, 3) := by decide +kernel
theorem dX12_sees_56 : decode cX12_sees 56 = .ok (.iload_n 3, 1) := by decide +kernel
theorem dX12_sees_57 : decode cX12_sees 57 = .ok (.iastore, 1) := by decide +kernel
theorem dX12_sees_58 : decode cX12_sees 58 = .ok (.aload_n 0, 1) := by decide +kernel
theorem dX12_sees_59 : decode cX12_sees 59 = .ok (.dup, 1) := by decide +kernel
theorem dX12_sees_60 : decode cX12_sees 60 = .ok (.getfield 347, 3) := by decide +kernel
theorem dX12_sees_63 : decode cX12_sees 63 = .ok (.iconst 1, 1) := by decide +kernel
theorem dX12_sees_64 : decode cX12_sees 64 = .ok (.iadd, 1) := by decide +kernel
theorem dX12_sees_65 : decode cX12_sees 65 = .ok (.putfield 347, 3) := by decide +kernel
theorem dX12_sees_68 : decode cX12_sees 68 = .ok (.iinc 2 1, 3) := by decide +kernel
theorem dX12_sees_71 : decode cX12_sees 71 = .ok (.goto (-64), 3) := by decide +kernel
theorem dX12_sees_74 : decode cX12_sees 74 = .ok (.return_, 1) := by decide +kernel
theorem dX12_ways_0 : decode cX12_ways 0 = .ok (.iload_n 1, 1) := by decide +kernel
theorem dX12_ways_1 : decode cX12_ways 1 = .ok (.ifCond .ne 13, 3) := by decide +kernel
theorem dX12_ways_4 : decode cX12_ways 4 = .ok (.iload_n 0, 1) := by decide +kernel
theorem dX12_ways_5 : decode cX12_ways 5 = .ok (.ifCond .ne 7, 3) := by decide +kernel
theorem dX12_ways_8 : decode cX12_ways 8 = .ok (.lconst 1, 1) := by decide +kernel
theorem dX12_ways_9 : decode cX12_ways 9 = .ok (.goto 4, 3) := by decide +kernel
theorem dX12_ways_12 : decode cX12_ways 12 = .ok (.lconst 0, 1) := by decide +kernel
theorem dX12_ways_13 : decode cX12_ways 13 = .ok (.lreturn, 1) := by decide +kernel
theorem dX12_ways_14 : decode cX12_ways 14 = .ok (.lconst 1, 1) := by decide +kernel
theorem dX12_ways_15 : decode cX12_ways 15 = .ok (.lstore_n 2, 1) := by decide +kernel
theorem dX12_ways_16 : decode cX12_ways 16 = .ok (.iconst 1, 1) := by decide +kernel
theorem dX12_ways_17 : decode cX12_ways 17 = .ok (.istore 4, 2) := by decide +kernel
theorem dX12_ways_19 : decode cX12_ways 19 = .ok (.iload 4, 2) := by decide +kernel
theorem dX12_ways_21 : decode cX12_ways 21 = .ok (.iload_n 1, 1) := by decide +kernel
theorem dX12_ways_22 : decode cX12_ways 22 = .ok (.if_icmp .ge 21, 3) := by decide +kernel
theorem dX12_ways_25 : decode cX12_ways 25 = .ok (.lload_n 2, 1) := by decide +kernel
theorem dX12_ways_26 : decode cX12_ways 26 = .ok (.iload_n 0, 1) := by decide +kernel
theorem dX12_ways_27 : decode cX12_ways 27 = .ok (.iload 4, 2) := by decide +kernel
theorem dX12_ways_29 : decode cX12_ways 29 = .ok (.iadd, 1) := by decide +kernel
theorem dX12_ways_30 : decode cX12_ways 30 = .ok (.i2l, 1) := by decide +kernel
theorem dX12_ways_31 : decode cX12_ways 31 = .ok (.lmul, 1) := by decide +kernel
theorem dX12_ways_32 : decode cX12_ways 32 = .ok (.iload 4, 2) := by decide +kernel
theorem dX12_ways_34 : decode cX12_ways 34 = .ok (.i2l, 1) := by decide +kernel
theorem dX12_ways_35 : decode cX12_ways 35 = .ok (.ldiv, 1) := by decide +kernel
theorem dX12_ways_36 : decode cX12_ways 36 = .ok (.lstore_n 2, 1) := by decide +kernel
theorem dX12_ways_37 : decode cX12_ways 37 = .ok (.iinc 4 1, 3) := by decide +kernel
theorem dX12_ways_40 : decode cX12_ways 40 = .ok (.goto (-21), 3) := by decide +kernel
theorem dX12_ways_43 : decode cX12_ways 43 = .ok (.lload_n 2, 1) := by decide +kernel
theorem dX12_ways_44 : decode cX12_ways 44 = .ok (.lreturn, 1) := by decide +kernel
theorem dX12_positionsOf_0 : decode cX12_positionsOf 0 = .ok (.aload_n 0, 1) := by decide +kernel
theorem dX12_positionsOf_1 : decode cX12_positionsOf 1 = .ok (.iconst 0, 1) := by decide +kernel
theorem dX12_positionsOf_2 : decode cX12_positionsOf 2 = .ok (.invokevirtual 350, 3) := by decide +kernel
theorem dX12_positionsOf_5 : decode cX12_positionsOf 5 = .ok (.iload_n 1, 1) := by decide +kernel
theorem dX12_positionsOf_6 : decode cX12_positionsOf 6 = .ok (.aload_n 0, 1) := by decide +kernel
theorem dX12_positionsOf_7 : decode cX12_positionsOf 7 = .ok (.getfield 347, 3) := by decide +kernel
theorem dX12_positionsOf_10 : decode cX12_positionsOf 10 = .ok (.invokestatic 353, 3) := by decide +kernel
theorem dX12_positionsOf_13 : decode cX12_positionsOf 13 = .ok (.lreturn, 1) := by decide +kernel
theorem dX12_numberOf_0 : decode cX12_numberOf 0 = .ok (.aload_n 0, 1) := by decide +kernel
theorem dX12_numberOf_1 : decode cX12_numberOf 1 = .ok (.iload_n 1, 1) := by decide +kernel
theorem dX12_numberOf_2 : decode cX12_numberOf 2 = .ok (.invokevirtual 350, 3) := by decide +kernel
theorem dX12_numberOf_5 : decode cX12_numberOf 5 = .ok (.iconst 0, 1) := by decide +kernel
theorem dX12_numberOf_6 : decode cX12_numberOf 6 = .ok (.istore_n 2, 1) := by decide +kernel
theorem dX12_numberOf_7 : decode cX12_numberOf 7 = .ok (.iconst 0, 1) := by decide +kernel
theorem dX12_numberOf_8 : decode cX12_numberOf 8 = .ok (.istore_n 3, 1) := by decide +kernel
theorem dX12_numberOf_9 : decode cX12_numberOf 9 = .ok (.iload_n 3, 1) := by decide +kernel
theorem dX12_numberOf_10 : decode cX12_numberOf 10 = .ok (.aload_n 0, 1) := by decide +kernel
theorem dX12_numberOf_11 : decode cX12_numberOf 11 = .ok (.getfield 347, 3) := by decide +kernel
theorem dX12_numberOf_14 : decode cX12_numberOf 14 = .ok (.if_icmp .ge 23, 3) := by decide +kernel
theorem dX12_numberOf_17 : decode cX12_numberOf 17 = .ok (.iload_n 2, 1) := by decide +kernel
theorem dX12_numberOf_18 : decode cX12_numberOf 18 = .ok (.aload_n 0, 1) := by decide +kernel
theorem dX12_numberOf_19 : decode cX12_numberOf 19 = .ok (.getfield 33, 3) := by decide +kernel
theorem dX12_numberOf_22 : decode cX12_numberOf 22 = .ok (.aload_n 0, 1) := by decide +kernel
theorem dX12_numberOf_23 : decode cX12_numberOf 23 = .ok (.getfield 48, 3) := by decide +kernel
theorem dX12_numberOf_26 : decode cX12_numberOf 26 = .ok (.iload_n 3, 1) := by decide +kernel
theorem dX12_numberOf_27 : decode cX12_numberOf 27 = .ok (.iaload, 1) := by decide +kernel
theorem dX12_numberOf_28 : decode cX12_numberOf 28 = .ok (.iaload, 1) := by decide +kernel
theorem dX12_numberOf_29 : decode cX12_numberOf 29 = .ok (.iadd, 1) := by decide +kernel
theorem dX12_numberOf_30 : decode cX12_numberOf 30 = .ok (.istore_n 2, 1) := by decide +kernel
theorem dX12_numberOf_31 : decode cX12_numberOf 31 = .ok (.iinc 3 1, 3) := by decide +kernel
theorem dX12_numberOf_34 : decode cX12_numberOf 34 = .ok (.goto (-25), 3) := by decide +kernel
theorem dX12_numberOf_37 : decode cX12_numberOf 37 = .ok (.lconst 0, 1) := by decide +kernel
theorem dX12_numberOf_38 : decode cX12_numberOf 38 = .ok (.lstore_n 3, 1) := by decide +kernel
theorem dX12_numberOf_39 : decode cX12_numberOf 39 = .ok (.iconst 0, 1) := by decide +kernel
theorem dX12_numberOf_40 : decode cX12_numberOf 40 = .ok (.istore 5, 2) := by decide +kernel
theorem dX12_numberOf_42 : decode cX12_numberOf 42 = .ok (.iload 5, 2) := by decide +kernel
theorem dX12_numberOf_44 : decode cX12_numberOf 44 = .ok (.aload_n 0, 1) := by decide +kernel
theorem dX12_numberOf_45 : decode cX12_numberOf 45 = .ok (.getfield 347, 3) := by decide +kernel
theorem dX12_numberOf_48 : decode cX12_numberOf 48 = .ok (.if_icmp .ge 69, 3) := by decide +kernel
theorem dX12_numberOf_51 : decode cX12_numberOf 51 = .ok (.iload_n 2, 1) := by decide +kernel
theorem dX12_numberOf_52 : decode cX12_numberOf 52 = .ok (.istore 6, 2) := by decide +kernel
theorem dX12_numberOf_54 : decode cX12_numberOf 54 = .ok (.iload 6, 2) := by decide +kernel
theorem dX12_numberOf_56 : decode cX12_numberOf 56 = .ok (.aload_n 0, 1) := by decide +kernel
theorem dX12_numberOf_57 : decode cX12_numberOf 57 = .ok (.getfield 33, 3) := by decide +kernel
theorem dX12_numberOf_60 : decode cX12_numberOf 60 = .ok (.aload_n 0, 1) := by decide +kernel
theorem dX12_numberOf_61 : decode cX12_numberOf 61 = .ok (.getfield 48, 3) := by decide +kernel
theorem dX12_numberOf_64 : decode cX12_numberOf 64 = .ok (.iload 5, 2) := by decide +kernel
theorem dX12_numberOf_66 : decode cX12_numberOf 66 = .ok (.iaload, 1) := by decide +kernel
theorem dX12_numberOf_67 : decode cX12_numberOf 67 = .ok (.iaload, 1) := by decide +kernel
theorem dX12_numberOf_68 : decode cX12_numberOf 68 = .ok (.if_icmp .le 28, 3) := by decide +kernel
theorem dX12_numberOf_71 : decode cX12_numberOf 71 = .ok (.lload_n 3, 1) := by decide +kernel
theorem dX12_numberOf_72 : decode cX12_numberOf 72 = .ok (.iload_n 2, 1) := by decide +kernel
theorem dX12_numberOf_73 : decode cX12_numberOf 73 = .ok (.iload 6, 2) := by decide +kernel
theorem dX12_numberOf_75 : decode cX12_numberOf 75 = .ok (.isub, 1) := by decide +kernel
theorem dX12_numberOf_76 : decode cX12_numberOf 76 = .ok (.aload_n 0, 1) := by decide +kernel
theorem dX12_numberOf_77 : decode cX12_numberOf 77 = .ok (.getfield 347, 3) := by decide +kernel
theorem dX12_numberOf_80 : decode cX12_numberOf 80 = .ok (.iload 5, 2) := by decide +kernel
theorem dX12_numberOf_82 : decode cX12_numberOf 82 = .ok (.isub, 1) := by decide +kernel
theorem dX12_numberOf_83 : decode cX12_numberOf 83 = .ok (.iconst 1, 1) := by decide +kernel
theorem dX12_numberOf_84 : decode cX12_numberOf 84 = .ok (.isub, 1) := by decide +kernel
theorem dX12_numberOf_85 : decode cX12_numberOf 85 = .ok (.invokestatic 353, 3) := by decide +kernel
theorem dX12_numberOf_88 : decode cX12_numberOf 88 = .ok (.ladd, 1) := by decide +kernel
theorem dX12_numberOf_89 : decode cX12_numberOf 89 = .ok (.lstore_n 3, 1) := by decide +kernel
theorem dX12_numberOf_90 : decode cX12_numberOf 90 = .ok (.iinc 6 (-1), 3) := by decide +kernel
theorem dX12_numberOf_93 : decode cX12_numberOf 93 = .ok (.goto (-39), 3) := by decide +kernel
theorem dX12_numberOf_96 : decode cX12_numberOf 96 = .ok (.iload_n 2, 1) := by decide +kernel
theorem dX12_numberOf_97 : decode cX12_numberOf 97 = .ok (.aload_n 0, 1) := by decide +kernel
theorem dX12_numberOf_98 : decode cX12_numberOf 98 = .ok (.getfield 33, 3) := by decide +kernel
theorem dX12_numberOf_101 : decode cX12_numberOf 101 = .ok (.aload_n 0, 1) := by decide +kernel
theorem dX12_numberOf_102 : decode cX12_numberOf 102 = .ok (.getfield 48, 3) := by decide +kernel
theorem dX12_numberOf_105 : decode cX12_numberOf 105 = .ok (.iload 5, 2) := by decide +kernel
theorem dX12_numberOf_107 : decode cX12_numberOf 107 = .ok (.iaload, 1) := by decide +kernel
theorem dX12_numberOf_108 : decode cX12_numberOf 108 = .ok (.iaload, 1) := by decide +kernel
theorem dX12_numberOf_109 : decode cX12_numberOf 109 = .ok (.isub, 1) := by decide +kernel
theorem dX12_numberOf_110 : decode cX12_numberOf 110 = .ok (.istore_n 2, 1) := by decide +kernel
theorem dX12_numberOf_111 : decode cX12_numberOf 111 = .ok (.iinc 5 1, 3) := by decide +kernel
theorem dX12_numberOf_114 : decode cX12_numberOf 114 = .ok (.goto (-72), 3) := by decide +kernel
theorem dX12_numberOf_117 : decode cX12_numberOf 117 = .ok (.lload_n 3, 1) := by decide +kernel
theorem dX12_numberOf_118 : decode cX12_numberOf 118 = .ok (.l2i, 1) := by decide +kernel
theorem dX12_numberOf_119 : decode cX12_numberOf 119 = .ok (.ireturn, 1) := by decide +kernel
theorem dX12_lays_0 : decode cX12_lays 0 = .ok (.aload_n 0, 1) := by decide +kernel
theorem dX12_lays_1 : decode cX12_lays 1 = .ok (.iload_n 1, 1) := by decide +kernel
theorem dX12_lays_2 : decode cX12_lays 2 = .ok (.invokevirtual 350, 3) := by decide +kernel
theorem dX12_lays_5 : decode cX12_lays 5 = .ok (.iconst 0, 1) := by decide +kernel
theorem dX12_lays_6 : decode cX12_lays 6 = .ok (.istore 4, 2) := by decide +kernel
theorem dX12_lays_8 : decode cX12_lays 8 = .ok (.iload 4, 2) := by decide +kernel
theorem dX12_lays_10 : decode cX12_lays 10 = .ok (.bipush 12, 2) := by decide +kernel
theorem dX12_lays_12 : decode cX12_lays 12 = .ok (.if_icmp .ge 17, 3) := by decide +kernel
theorem dX12_lays_15 : decode cX12_lays 15 = .ok (.aload_n 0, 1) := by decide +kernel
theorem dX12_lays_16 : decode cX12_lays 16 = .ok (.getfield 33, 3) := by decide +kernel
theorem dX12_lays_19 : decode cX12_lays 19 = .ok (.iload 4, 2) := by decide +kernel
theorem dX12_lays_21 : decode cX12_lays 21 = .ok (.iconst 0, 1) := by decide +kernel
theorem dX12_lays_22 : decode cX12_lays 22 = .ok (.iastore, 1) := by decide +kernel
theorem dX12_lays_23 : decode cX12_lays 23 = .ok (.iinc 4 1, 3) := by decide +kernel
theorem dX12_lays_26 : decode cX12_lays 26 = .ok (.goto (-18), 3) := by decide +kernel
theorem dX12_lays_29 : decode cX12_lays 29 = .ok (.iload_n 2, 1) := by decide +kernel
theorem dX12_lays_30 : decode cX12_lays 30 = .ok (.istore 4, 2) := by decide +kernel
theorem dX12_lays_32 : decode cX12_lays 32 = .ok (.iload_n 3, 1) := by decide +kernel
theorem dX12_lays_33 : decode cX12_lays 33 = .ok (.i2l, 1) := by decide +kernel
theorem dX12_lays_34 : decode cX12_lays 34 = .ok (.lstore 5, 2) := by decide +kernel
theorem dX12_lays_36 : decode cX12_lays 36 = .ok (.iconst 0, 1) := by decide +kernel
theorem dX12_lays_37 : decode cX12_lays 37 = .ok (.istore 7, 2) := by decide +kernel
theorem dX12_lays_39 : decode cX12_lays 39 = .ok (.iload 7, 2) := by decide +kernel
theorem dX12_lays_41 : decode cX12_lays 41 = .ok (.aload_n 0, 1) := by decide +kernel
theorem dX12_lays_42 : decode cX12_lays 42 = .ok (.getfield 347, 3) := by decide +kernel
theorem dX12_lays_45 : decode cX12_lays 45 = .ok (.if_icmp .ge 85, 3) := by decide +kernel
theorem dX12_lays_48 : decode cX12_lays 48 = .ok (.iload 4, 2) := by decide +kernel
theorem dX12_lays_50 : decode cX12_lays 50 = .ok (.istore 8, 2) := by decide +kernel
theorem dX12_lays_52 : decode cX12_lays 52 = .ok (.lload 5, 2) := by decide +kernel
theorem dX12_lays_54 : decode cX12_lays 54 = .ok (.iload 4, 2) := by decide +kernel
theorem dX12_lays_56 : decode cX12_lays 56 = .ok (.iload 8, 2) := by decide +kernel
theorem dX12_lays_58 : decode cX12_lays 58 = .ok (.isub, 1) := by decide +kernel
theorem dX12_lays_59 : decode cX12_lays 59 = .ok (.aload_n 0, 1) := by decide +kernel
theorem dX12_lays_60 : decode cX12_lays 60 = .ok (.getfield 347, 3) := by decide +kernel
theorem dX12_lays_63 : decode cX12_lays 63 = .ok (.iload 7, 2) := by decide +kernel
theorem dX12_lays_65 : decode cX12_lays 65 = .ok (.isub, 1) := by decide +kernel
theorem dX12_lays_66 : decode cX12_lays 66 = .ok (.iconst 1, 1) := by decide +kernel
theorem dX12_lays_67 : decode cX12_lays 67 = .ok (.isub, 1) := by decide +kernel
theorem dX12_lays_68 : decode cX12_lays 68 = .ok (.invokestatic 353, 3) := by decide +kernel
theorem dX12_lays_71 : decode cX12_lays 71 = .ok (.lcmp, 1) := by decide +kernel
theorem dX12_lays_72 : decode cX12_lays 72 = .ok (.ifCond .lt 31, 3) := by decide +kernel
theorem dX12_lays_75 : decode cX12_lays 75 = .ok (.lload 5, 2) := by decide +kernel
theorem dX12_lays_77 : decode cX12_lays 77 = .ok (.iload 4, 2) := by decide +kernel
theorem dX12_lays_79 : decode cX12_lays 79 = .ok (.iload 8, 2) := by decide +kernel
theorem dX12_lays_81 : decode cX12_lays 81 = .ok (.isub, 1) := by decide +kernel
theorem dX12_lays_82 : decode cX12_lays 82 = .ok (.aload_n 0, 1) := by decide +kernel
theorem dX12_lays_83 : decode cX12_lays 83 = .ok (.getfield 347, 3) := by decide +kernel
theorem dX12_lays_86 : decode cX12_lays 86 = .ok (.iload 7, 2) := by decide +kernel
theorem dX12_lays_88 : decode cX12_lays 88 = .ok (.isub, 1) := by decide +kernel
theorem dX12_lays_89 : decode cX12_lays 89 = .ok (.iconst 1, 1) := by decide +kernel
theorem dX12_lays_90 : decode cX12_lays 90 = .ok (.isub, 1) := by decide +kernel
theorem dX12_lays_91 : decode cX12_lays 91 = .ok (.invokestatic 353, 3) := by decide +kernel
theorem dX12_lays_94 : decode cX12_lays 94 = .ok (.lsub, 1) := by decide +kernel
theorem dX12_lays_95 : decode cX12_lays 95 = .ok (.lstore 5, 2) := by decide +kernel
theorem dX12_lays_97 : decode cX12_lays 97 = .ok (.iinc 8 (-1), 3) := by decide +kernel
theorem dX12_lays_100 : decode cX12_lays 100 = .ok (.goto (-48), 3) := by decide +kernel
theorem dX12_lays_103 : decode cX12_lays 103 = .ok (.aload_n 0, 1) := by decide +kernel
theorem dX12_lays_104 : decode cX12_lays 104 = .ok (.getfield 33, 3) := by decide +kernel
theorem dX12_lays_107 : decode cX12_lays 107 = .ok (.aload_n 0, 1) := by decide +kernel
theorem dX12_lays_108 : decode cX12_lays 108 = .ok (.getfield 48, 3) := by decide +kernel
theorem dX12_lays_111 : decode cX12_lays 111 = .ok (.iload 7, 2) := by decide +kernel
theorem dX12_lays_113 : decode cX12_lays 113 = .ok (.iaload, 1) := by decide +kernel
theorem dX12_lays_114 : decode cX12_lays 114 = .ok (.iload 8, 2) := by decide +kernel
theorem dX12_lays_116 : decode cX12_lays 116 = .ok (.iastore, 1) := by decide +kernel
theorem dX12_lays_117 : decode cX12_lays 117 = .ok (.iload 4, 2) := by decide +kernel
theorem dX12_lays_119 : decode cX12_lays 119 = .ok (.iload 8, 2) := by decide +kernel
theorem dX12_lays_121 : decode cX12_lays 121 = .ok (.isub, 1) := by decide +kernel
theorem dX12_lays_122 : decode cX12_lays 122 = .ok (.istore 4, 2) := by decide +kernel
theorem dX12_lays_124 : decode cX12_lays 124 = .ok (.iinc 7 1, 3) := by decide +kernel
theorem dX12_lays_127 : decode cX12_lays 127 = .ok (.goto (-88), 3) := by decide +kernel
theorem dX12_lays_130 : decode cX12_lays 130 = .ok (.return_, 1) := by decide +kernel
theorem dX12_seedsNow_0 : decode cX12_seedsNow 0 = .ok (.iconst 0, 1) := by decide +kernel
theorem dX12_seedsNow_1 : decode cX12_seedsNow 1 = .ok (.istore_n 1, 1) := by decide +kernel
theorem dX12_seedsNow_2 : decode cX12_seedsNow 2 = .ok (.iconst 0, 1) := by decide +kernel
theorem dX12_seedsNow_3 : decode cX12_seedsNow 3 = .ok (.istore_n 2, 1) := by decide +kernel
theorem dX12_seedsNow_4 : decode cX12_seedsNow 4 = .ok (.iload_n 2, 1) := by decide +kernel
theorem dX12_seedsNow_5 : decode cX12_seedsNow 5 = .ok (.aload_n 0, 1) := by decide +kernel
theorem dX12_seedsNow_6 : decode cX12_seedsNow 6 = .ok (.invokevirtual 245, 3) := by decide +kernel
theorem dX12_seedsNow_9 : decode cX12_seedsNow 9 = .ok (.if_icmp .ge 21, 3) := by decide +kernel
theorem dX12_seedsNow_12 : decode cX12_seedsNow 12 = .ok (.iload_n 1, 1) := by decide +kernel
theorem dX12_seedsNow_13 : decode cX12_seedsNow 13 = .ok (.aload_n 0, 1) := by decide +kernel
theorem dX12_seedsNow_14 : decode cX12_seedsNow 14 = .ok (.getfield 9, 3) := by decide +kernel
theorem dX12_seedsNow_17 : decode cX12_seedsNow 17 = .ok (.bipush 13, 2) := by decide +kernel
theorem dX12_seedsNow_19 : decode cX12_seedsNow 19 = .ok (.iload_n 2, 1) := by decide +kernel
theorem dX12_seedsNow_20 : decode cX12_seedsNow 20 = .ok (.iadd, 1) := by decide +kernel
theorem dX12_seedsNow_21 : decode cX12_seedsNow 21 = .ok (.iaload, 1) := by decide +kernel
theorem dX12_seedsNow_22 : decode cX12_seedsNow 22 = .ok (.iadd, 1) := by decide +kernel
theorem dX12_seedsNow_23 : decode cX12_seedsNow 23 = .ok (.istore_n 1, 1) := by decide +kernel
theorem dX12_seedsNow_24 : decode cX12_seedsNow 24 = .ok (.iinc 2 1, 3) := by decide +kernel
theorem dX12_seedsNow_27 : decode cX12_seedsNow 27 = .ok (.goto (-23), 3) := by decide +kernel
theorem dX12_seedsNow_30 : decode cX12_seedsNow 30 = .ok (.iload_n 1, 1) := by decide +kernel
theorem dX12_seedsNow_31 : decode cX12_seedsNow 31 = .ok (.ireturn, 1) := by decide +kernel
theorem dX12_positions_0 : decode cX12_positions 0 = .ok (.aload_n 0, 1) := by decide +kernel
theorem dX12_positions_1 : decode cX12_positions 1 = .ok (.iload_n 1, 1) := by decide +kernel
theorem dX12_positions_2 : decode cX12_positions 2 = .ok (.invokestatic 254, 3) := by decide +kernel
theorem dX12_positions_5 : decode cX12_positions 5 = .ok (.ifCond .ne 7, 3) := by decide +kernel
theorem dX12_positions_8 : decode cX12_positions 8 = .ok (.iconst 1, 1) := by decide +kernel
theorem dX12_positions_9 : decode cX12_positions 9 = .ok (.goto 20, 3) := by decide +kernel
theorem dX12_positions_12 : decode cX12_positions 12 = .ok (.iload_n 2, 1) := by decide +kernel
theorem dX12_positions_13 : decode cX12_positions 13 = .ok (.i2l, 1) := by decide +kernel
theorem dX12_positions_14 : decode cX12_positions 14 = .ok (.lconst 0, 1) := by decide +kernel
theorem dX12_positions_15 : decode cX12_positions 15 = .ok (.ldc2_w 357, 3) := by decide +kernel
theorem dX12_positions_18 : decode cX12_positions 18 = .ok (.invokestatic 166, 3) := by decide +kernel
theorem dX12_positions_21 : decode cX12_positions 21 = .ok (.ifCond .eq 7, 3) := by decide +kernel
theorem dX12_positions_24 : decode cX12_positions 24 = .ok (.iconst 0, 1) := by decide +kernel
theorem dX12_positions_25 : decode cX12_positions 25 = .ok (.goto 4, 3) := by decide +kernel
theorem dX12_positions_28 : decode cX12_positions 28 = .ok (.iconst 2, 1) := by decide +kernel
theorem dX12_positions_29 : decode cX12_positions 29 = .ok (.putfield 107, 3) := by decide +kernel
theorem dX12_positions_32 : decode cX12_positions 32 = .ok (.aload_n 0, 1) := by decide +kernel
theorem dX12_positions_33 : decode cX12_positions 33 = .ok (.getfield 107, 3) := by decide +kernel
theorem dX12_positions_36 : decode cX12_positions 36 = .ok (.ifCond .le 5, 3) := by decide +kernel
theorem dX12_positions_39 : decode cX12_positions 39 = .ok (.iconst 0, 1) := by decide +kernel
theorem dX12_positions_40 : decode cX12_positions 40 = .ok (.ireturn, 1) := by decide +kernel
theorem dX12_positions_41 : decode cX12_positions 41 = .ok (.aload_n 0, 1) := by decide +kernel
theorem dX12_positions_42 : decode cX12_positions 42 = .ok (.iload_n 2, 1) := by decide +kernel
theorem dX12_positions_43 : decode cX12_positions 43 = .ok (.invokevirtual 359, 3) := by decide +kernel
theorem dX12_positions_46 : decode cX12_positions 46 = .ok (.lstore_n 3, 1) := by decide +kernel
theorem dX12_positions_47 : decode cX12_positions 47 = .ok (.lload_n 3, 1) := by decide +kernel
theorem dX12_positions_48 : decode cX12_positions 48 = .ok (.ldc2_w 363, 3) := by decide +kernel
theorem dX12_positions_51 : decode cX12_positions 51 = .ok (.lcmp, 1) := by decide +kernel
theorem dX12_positions_52 : decode cX12_positions 52 = .ok (.ifCond .le 9, 3) := by decide +kernel
theorem dX12_positions_55 : decode cX12_positions 55 = .ok (.sipush (-1000), 3) := by decide +kernel
theorem dX12_positions_58 : decode cX12_positions 58 = .ok (.goto 5, 3) := by decide +kernel
theorem dX12_positions_61 : decode cX12_positions 61 = .ok (.lload_n 3, 1) := by decide +kernel
theorem dX12_positions_62 : decode cX12_positions 62 = .ok (.l2i, 1) := by decide +kernel
theorem dX12_positions_63 : decode cX12_positions 63 = .ok (.ireturn, 1) := by decide +kernel
theorem dX12_place_0 : decode cX12_place 0 = .ok (.aload_n 0, 1) := by decide +kernel
theorem dX12_place_1 : decode cX12_place 1 = .ok (.iconst 0, 1) := by decide +kernel
theorem dX12_place_2 : decode cX12_place 2 = .ok (.putfield 107, 3) := by decide +kernel
theorem dX12_place_5 : decode cX12_place 5 = .ok (.aload_n 0, 1) := by decide +kernel
theorem dX12_place_6 : decode cX12_place 6 = .ok (.aload_n 0, 1) := by decide +kernel
theorem dX12_place_7 : decode cX12_place 7 = .ok (.invokevirtual 365, 3) := by decide +kernel
theorem dX12_place_10 : decode cX12_place 10 = .ok (.invokevirtual 359, 3) := by decide +kernel
theorem dX12_place_13 : decode cX12_place 13 = .ok (.ldc2_w 363, 3) := by decide +kernel
theorem dX12_place_16 : decode cX12_place 16 = .ok (.lcmp, 1) := by decide +kernel
theorem dX12_place_17 : decode cX12_place 17 = .ok (.ifCond .le 7, 3) := by decide +kernel
theorem dX12_place_20 : decode cX12_place 20 = .ok (.sipush (-1000), 3) := by decide +kernel
theorem dX12_place_23 : decode cX12_place 23 = .ok (.ireturn, 1) := by decide +kernel
theorem dX12_place_24 : decode cX12_place 24 = .ok (.aload_n 0, 1) := by decide +kernel
theorem dX12_place_25 : decode cX12_place 25 = .ok (.invokevirtual 293, 3) := by decide +kernel
theorem dX12_place_28 : decode cX12_place 28 = .ok (.aload_n 0, 1) := by decide +kernel
theorem dX12_place_29 : decode cX12_place 29 = .ok (.aload_n 0, 1) := by decide +kernel
theorem dX12_place_30 : decode cX12_place 30 = .ok (.getfield 9, 3) := by decide +kernel
theorem dX12_place_33 : decode cX12_place 33 = .ok (.iconst 2, 1) := by decide +kernel
theorem dX12_place_34 : decode cX12_place 34 = .ok (.iaload, 1) := by decide +kernel
theorem dX12_place_35 : decode cX12_place 35 = .ok (.invokevirtual 368, 3) := by decide +kernel
theorem dX12_place_38 : decode cX12_place 38 = .ok (.ireturn, 1) := by decide +kernel
theorem dX12_ofPlace_0 : decode cX12_ofPlace 0 = .ok (.aload_n 0, 1) := by decide +kernel
theorem dX12_ofPlace_1 : decode cX12_ofPlace 1 = .ok (.iload_n 1, 1) := by decide +kernel
theorem dX12_ofPlace_2 : decode cX12_ofPlace 2 = .ok (.invokestatic 254, 3) := by decide +kernel
theorem dX12_ofPlace_5 : decode cX12_ofPlace 5 = .ok (.ifCond .ne 7, 3) := by decide +kernel
theorem dX12_ofPlace_8 : decode cX12_ofPlace 8 = .ok (.iconst 1, 1) := by decide +kernel
theorem dX12_ofPlace_9 : decode cX12_ofPlace 9 = .ok (.goto 56, 3) := by decide +kernel
theorem dX12_ofPlace_12 : decode cX12_ofPlace 12 = .ok (.iload_n 2, 1) := by decide +kernel
theorem dX12_ofPlace_13 : decode cX12_ofPlace 13 = .ok (.i2l, 1) := by decide +kernel
theorem dX12_ofPlace_14 : decode cX12_ofPlace 14 = .ok (.lconst 0, 1) := by decide +kernel
theorem dX12_ofPlace_15 : decode cX12_ofPlace 15 = .ok (.ldc2_w 357, 3) := by decide +kernel
theorem dX12_ofPlace_18 : decode cX12_ofPlace 18 = .ok (.invokestatic 166, 3) := by decide +kernel
theorem dX12_ofPlace_21 : decode cX12_ofPlace 21 = .ok (.ifCond .ne 7, 3) := by decide +kernel
theorem dX12_ofPlace_24 : decode cX12_ofPlace 24 = .ok (.iconst 2, 1) := by decide +kernel
theorem dX12_ofPlace_25 : decode cX12_ofPlace 25 = .ok (.goto 40, 3) := by decide +kernel
theorem dX12_ofPlace_28 : decode cX12_ofPlace 28 = .ok (.aload_n 0, 1) := by decide +kernel
theorem dX12_ofPlace_29 : decode cX12_ofPlace 29 = .ok (.iload_n 2, 1) := by decide +kernel
theorem dX12_ofPlace_30 : decode cX12_ofPlace 30 = .ok (.invokevirtual 359, 3) := by decide +kernel
theorem dX12_ofPlace_33 : decode cX12_ofPlace 33 = .ok (.ldc2_w 363, 3) := by decide +kernel
theorem dX12_ofPlace_36 : decode cX12_ofPlace 36 = .ok (.lcmp, 1) := by decide +kernel
theorem dX12_ofPlace_37 : decode cX12_ofPlace 37 = .ok (.ifCond .le 7, 3) := by decide +kernel
theorem dX12_ofPlace_40 : decode cX12_ofPlace 40 = .ok (.iconst 3, 1) := by decide +kernel
theorem dX12_ofPlace_41 : decode cX12_ofPlace 41 = .ok (.goto 24, 3) := by decide +kernel
theorem dX12_ofPlace_44 : decode cX12_ofPlace 44 = .ok (.iload_n 3, 1) := by decide +kernel
theorem dX12_ofPlace_45 : decode cX12_ofPlace 45 = .ok (.i2l, 1) := by decide +kernel
theorem dX12_ofPlace_46 : decode cX12_ofPlace 46 = .ok (.lconst 0, 1) := by decide +kernel
theorem dX12_ofPlace_47 : decode cX12_ofPlace 47 = .ok (.aload_n 0, 1) := by decide +kernel
theorem dX12_ofPlace_48 : decode cX12_ofPlace 48 = .ok (.iload_n 2, 1) := by decide +kernel
theorem dX12_ofPlace_49 : decode cX12_ofPlace 49 = .ok (.invokevirtual 359, 3) := by decide +kernel
theorem dX12_ofPlace_52 : decode cX12_ofPlace 52 = .ok (.lconst 1, 1) := by decide +kernel
theorem dX12_ofPlace_53 : decode cX12_ofPlace 53 = .ok (.lsub, 1) := by decide +kernel
theorem dX12_ofPlace_54 : decode cX12_ofPlace 54 = .ok (.invokestatic 166, 3) := by decide +kernel
theorem dX12_ofPlace_57 : decode cX12_ofPlace 57 = .ok (.ifCond .eq 7, 3) := by decide +kernel
theorem dX12_ofPlace_60 : decode cX12_ofPlace 60 = .ok (.iconst 0, 1) := by decide +kernel
theorem dX12_ofPlace_61 : decode cX12_ofPlace 61 = .ok (.goto 4, 3) := by decide +kernel
theorem dX12_ofPlace_64 : decode cX12_ofPlace 64 = .ok (.iconst 1, 1) := by decide +kernel
theorem dX12_ofPlace_65 : decode cX12_ofPlace 65 = .ok (.putfield 107, 3) := by decide +kernel
theorem dX12_ofPlace_68 : decode cX12_ofPlace 68 = .ok (.aload_n 0, 1) := by decide +kernel
theorem dX12_ofPlace_69 : decode cX12_ofPlace 69 = .ok (.getfield 107, 3) := by decide +kernel
theorem dX12_ofPlace_72 : decode cX12_ofPlace 72 = .ok (.ifCond .ne 25, 3) := by decide +kernel
theorem dX12_ofPlace_75 : decode cX12_ofPlace 75 = .ok (.iload 4, 2) := by decide +kernel
theorem dX12_ofPlace_77 : decode cX12_ofPlace 77 = .ok (.i2l, 1) := by decide +kernel
theorem dX12_ofPlace_78 : decode cX12_ofPlace 78 = .ok (.lconst 0, 1) := by decide +kernel
theorem dX12_ofPlace_79 : decode cX12_ofPlace 79 = .ok (.aload_n 0, 1) := by decide +kernel
theorem dX12_ofPlace_80 : decode cX12_ofPlace 80 = .ok (.invokevirtual 245, 3) := by decide +kernel
theorem dX12_ofPlace_83 : decode cX12_ofPlace 83 = .ok (.iconst 1, 1) := by decide +kernel
theorem dX12_ofPlace_84 : decode cX12_ofPlace 84 = .ok (.isub, 1) := by decide +kernel
theorem dX12_ofPlace_85 : decode cX12_ofPlace 85 = .ok (.i2l, 1) := by decide +kernel
theorem dX12_ofPlace_86 : decode cX12_ofPlace 86 = .ok (.invokestatic 166, 3) := by decide +kernel
theorem dX12_ofPlace_89 : decode cX12_ofPlace 89 = .ok (.ifCond .ne 8, 3) := by decide +kernel
theorem dX12_ofPlace_92 : decode cX12_ofPlace 92 = .ok (.aload_n 0, 1) := by decide +kernel
theorem dX12_ofPlace_93 : decode cX12_ofPlace 93 = .ok (.iconst 4, 1) := by decide +kernel
theorem dX12_ofPlace_94 : decode cX12_ofPlace 94 = .ok (.putfield 107, 3) := by decide +kernel
theorem dX12_ofPlace_97 : decode cX12_ofPlace 97 = .ok (.aload_n 0, 1) := by decide +kernel
theorem dX12_ofPlace_98 : decode cX12_ofPlace 98 = .ok (.getfield 107, 3) := by decide +kernel
theorem dX12_ofPlace_101 : decode cX12_ofPlace 101 = .ok (.ifCond .le 5, 3) := by decide +kernel
theorem dX12_ofPlace_104 : decode cX12_ofPlace 104 = .ok (.iconst 0, 1) := by decide +kernel
theorem dX12_ofPlace_105 : decode cX12_ofPlace 105 = .ok (.ireturn, 1) := by decide +kernel
theorem dX12_ofPlace_106 : decode cX12_ofPlace 106 = .ok (.aload_n 0, 1) := by decide +kernel
theorem dX12_ofPlace_107 : decode cX12_ofPlace 107 = .ok (.iload_n 1, 1) := by decide +kernel
theorem dX12_ofPlace_108 : decode cX12_ofPlace 108 = .ok (.iload_n 2, 1) := by decide +kernel
theorem dX12_ofPlace_109 : decode cX12_ofPlace 109 = .ok (.iload_n 3, 1) := by decide +kernel
theorem dX12_ofPlace_110 : decode cX12_ofPlace 110 = .ok (.invokevirtual 371, 3) := by decide +kernel
theorem dX12_ofPlace_113 : decode cX12_ofPlace 113 = .ok (.iload 4, 2) := by decide +kernel
theorem dX12_ofPlace_115 : decode cX12_ofPlace 115 = .ok (.iload_n 1, 1) := by decide +kernel
theorem dX12_ofPlace_116 : decode cX12_ofPlace 116 = .ok (.ifCond .ne 7, 3) := by decide +kernel
theorem dX12_ofPlace_119 : decode cX12_ofPlace 119 = .ok (.iconst 0, 1) := by decide +kernel
theorem dX12_ofPlace_120 : decode cX12_ofPlace 120 = .ok (.goto 9, 3) := by decide +kernel
theorem dX12_ofPlace_123 : decode cX12_ofPlace 123 = .ok (.aload_n 0, 1) := by decide +kernel
theorem dX12_ofPlace_124 : decode cX12_ofPlace 124 = .ok (.getfield 9, 3) := by decide +kernel
theorem dX12_ofPlace_127 : decode cX12_ofPlace 127 = .ok (.iconst 1, 1) := by decide +kernel
theorem dX12_ofPlace_128 : decode cX12_ofPlace 128 = .ok (.iaload, 1) := by decide +kernel
theorem dX12_ofPlace_129 : decode cX12_ofPlace 129 = .ok (.iadd, 1) := by decide +kernel
theorem dX12_ofPlace_130 : decode cX12_ofPlace 130 = .ok (.aload_n 0, 1) := by decide +kernel
theorem dX12_ofPlace_131 : decode cX12_ofPlace 131 = .ok (.invokevirtual 245, 3) := by decide +kernel
theorem dX12_ofPlace_134 : decode cX12_ofPlace 134 = .ok (.irem, 1) := by decide +kernel
theorem dX12_ofPlace_135 : decode cX12_ofPlace 135 = .ok (.istore 5, 2) := by decide +kernel
theorem dX12_ofPlace_137 : decode cX12_ofPlace 137 = .ok (.aload_n 0, 1) := by decide +kernel
theorem dX12_ofPlace_138 : decode cX12_ofPlace 138 = .ok (.iload 5, 2) := by decide +kernel
theorem dX12_ofPlace_140 : decode cX12_ofPlace 140 = .ok (.invokevirtual 251, 3) := by decide +kernel
theorem dX12_ofPlace_143 : decode cX12_ofPlace 143 = .ok (.ifCond .eq 7, 3) := by decide +kernel
theorem dX12_ofPlace_146 : decode cX12_ofPlace 146 = .ok (.iconst (-1), 1) := by decide +kernel
theorem dX12_ofPlace_147 : decode cX12_ofPlace 147 = .ok (.goto 10, 3) := by decide +kernel
theorem dX12_ofPlace_150 : decode cX12_ofPlace 150 = .ok (.aload_n 0, 1) := by decide +kernel
theorem dX12_ofPlace_151 : decode cX12_ofPlace 151 = .ok (.getfield 33, 3) := by decide +kernel
theorem dX12_ofPlace_154 : decode cX12_ofPlace 154 = .ok (.iload 5, 2) := by decide +kernel
theorem dX12_ofPlace_156 : decode cX12_ofPlace 156 = .ok (.iaload, 1) := by decide +kernel
theorem dX12_ofPlace_157 : decode cX12_ofPlace 157 = .ok (.ireturn, 1) := by decide +kernel
theorem dX12_areRules_0 : decode cX12_areRules 0 = .ok (.iconst 1, 1) := by decide +kernel
theorem dX12_areRules_1 : decode cX12_areRules 1 = .ok (.istore_n 1, 1) := by decide +kernel
theorem dX12_areRules_2 : decode cX12_areRules 2 = .ok (.iconst 1, 1) := by decide +kernel
theorem dX12_areRules_3 : decode cX12_areRules 3 = .ok (.istore_n 2, 1) := by decide +kernel
theorem dX12_areRules_4 : decode cX12_areRules 4 = .ok (.iload_n 2, 1) := by decide +kernel
theorem dX12_areRules_5 : decode cX12_areRules 5 = .ok (.bipush 10, 2) := by decide +kernel
theorem dX12_areRules_7 : decode cX12_areRules 7 = .ok (.if_icmp .gt 39, 3) := by decide +kernel
theorem dX12_areRules_10 : decode cX12_areRules 10 = .ok (.iload_n 1, 1) := by decide +kernel
theorem dX12_areRules_11 : decode cX12_areRules 11 = .ok (.ifCond .eq 27, 3) := by decide +kernel
theorem dX12_areRules_14 : decode cX12_areRules 14 = .ok (.iload_n 2, 1) := by decide +kernel
theorem dX12_areRules_15 : decode cX12_areRules 15 = .ok (.iconst 2, 1) := by decide +kernel
theorem dX12_areRules_16 : decode cX12_areRules 16 = .ok (.if_icmp .eq 18, 3) := by decide +kernel
theorem dX12_areRules_19 : decode cX12_areRules 19 = .ok (.aload_n 0, 1) := by decide +kernel
theorem dX12_areRules_20 : decode cX12_areRules 20 = .ok (.getfield 73, 3) := by decide +kernel
theorem dX12_areRules_23 : decode cX12_areRules 23 = .ok (.iload_n 2, 1) := by decide +kernel
theorem dX12_areRules_24 : decode cX12_areRules 24 = .ok (.iaload, 1) := by decide +kernel
theorem dX12_areRules_25 : decode cX12_areRules 25 = .ok (.aload_n 0, 1) := by decide +kernel
theorem dX12_areRules_26 : decode cX12_areRules 26 = .ok (.getfield 9, 3) := by decide +kernel
theorem dX12_areRules_29 : decode cX12_areRules 29 = .ok (.iload_n 2, 1) := by decide +kernel
theorem dX12_areRules_30 : decode cX12_areRules 30 = .ok (.iaload, 1) := by decide +kernel
theorem dX12_areRules_31 : decode cX12_areRules 31 = .ok (.if_icmp .ne 7, 3) := by decide +kernel
theorem dX12_areRules_34 : decode cX12_areRules 34 = .ok (.iconst 1, 1) := by decide +kernel
theorem dX12_areRules_35 : decode cX12_areRules 35 = .ok (.goto 4, 3) := by decide +kernel
theorem dX12_areRules_38 : decode cX12_areRules 38 = .ok (.iconst 0, 1) := by decide +kernel
theorem dX12_areRules_39 : decode cX12_areRules 39 = .ok (.istore_n 1, 1) := by decide +kernel
theorem dX12_areRules_40 : decode cX12_areRules 40 = .ok (.iinc 2 1, 3) := by decide +kernel
theorem dX12_areRules_43 : decode cX12_areRules 43 = .ok (.goto (-39), 3) := by decide +kernel
theorem dX12_areRules_46 : decode cX12_areRules 46 = .ok (.iload_n 1, 1) := by decide +kernel
theorem dX12_areRules_47 : decode cX12_areRules 47 = .ok (.ireturn, 1) := by decide +kernel
theorem dX12_seat_0 : decode cX12_seat 0 = .ok (.sipush 6000, 3) := by decide +kernel
theorem dX12_seat_3 : decode cX12_seat 3 = .ok (.iload_n 1, 1) := by decide +kernel
theorem dX12_seat_4 : decode cX12_seat 4 = .ok (.imul, 1) := by decide +kernel
theorem dX12_seat_5 : decode cX12_seat 5 = .ok (.aload_n 0, 1) := by decide +kernel
theorem dX12_seat_6 : decode cX12_seat 6 = .ok (.getfield 67, 3) := by decide +kernel
theorem dX12_seat_9 : decode cX12_seat 9 = .ok (.iload_n 2, 1) := by decide +kernel
theorem dX12_seat_10 : decode cX12_seat 10 = .ok (.iaload, 1) := by decide +kernel
theorem dX12_seat_11 : decode cX12_seat 11 = .ok (.iadd, 1) := by decide +kernel
theorem dX12_seat_12 : decode cX12_seat 12 = .ok (.iload_n 3, 1) := by decide +kernel
theorem dX12_seat_13 : decode cX12_seat 13 = .ok (.iadd, 1) := by decide +kernel
theorem dX12_seat_14 : decode cX12_seat 14 = .ok (.ireturn, 1) := by decide +kernel
theorem dX12_worthOf_0 : decode cX12_worthOf 0 = .ok (.aload_n 0, 1) := by decide +kernel
theorem dX12_worthOf_1 : decode cX12_worthOf 1 = .ok (.getfield 61, 3) := by decide +kernel
theorem dX12_worthOf_4 : decode cX12_worthOf 4 = .ok (.bipush 6, 2) := by decide +kernel
theorem dX12_worthOf_6 : decode cX12_worthOf 6 = .ok (.iload_n 1, 1) := by decide +kernel
theorem dX12_worthOf_7 : decode cX12_worthOf 7 = .ok (.imul, 1) := by decide +kernel
theorem dX12_worthOf_8 : decode cX12_worthOf 8 = .ok (.iload_n 2, 1) := by decide +kernel
theorem dX12_worthOf_9 : decode cX12_worthOf 9 = .ok (.iadd, 1) := by decide +kernel
theorem dX12_worthOf_10 : decode cX12_worthOf 10 = .ok (.iaload, 1) := by decide +kernel
theorem dX12_worthOf_11 : decode cX12_worthOf 11 = .ok (.istore 4, 2) := by decide +kernel
theorem dX12_worthOf_13 : decode cX12_worthOf 13 = .ok (.aload_n 0, 1) := by decide +kernel
theorem dX12_worthOf_14 : decode cX12_worthOf 14 = .ok (.getfield 64, 3) := by decide +kernel
theorem dX12_worthOf_17 : decode cX12_worthOf 17 = .ok (.bipush 6, 2) := by decide +kernel
theorem dX12_worthOf_19 : decode cX12_worthOf 19 = .ok (.iload_n 1, 1) := by decide +kernel
theorem dX12_worthOf_20 : decode cX12_worthOf 20 = .ok (.imul, 1) := by decide +kernel
theorem dX12_worthOf_21 : decode cX12_worthOf 21 = .ok (.iload_n 2, 1) := by decide +kernel
theorem dX12_worthOf_22 : decode cX12_worthOf 22 = .ok (.iadd, 1) := by decide +kernel
theorem dX12_worthOf_23 : decode cX12_worthOf 23 = .ok (.iaload, 1) := by decide +kernel
theorem dX12_worthOf_24 : decode cX12_worthOf 24 = .ok (.iload 4, 2) := by decide +kernel
theorem dX12_worthOf_26 : decode cX12_worthOf 26 = .ok (.sipush 6000, 3) := by decide +kernel
theorem dX12_worthOf_29 : decode cX12_worthOf 29 = .ok (.idiv, 1) := by decide +kernel
theorem dX12_worthOf_30 : decode cX12_worthOf 30 = .ok (.iload_n 1, 1) := by decide +kernel
theorem dX12_worthOf_31 : decode cX12_worthOf 31 = .ok (.sipush 6000, 3) := by decide +kernel
theorem dX12_worthOf_34 : decode cX12_worthOf 34 = .ok (.idiv, 1) := by decide +kernel
theorem dX12_worthOf_35 : decode cX12_worthOf 35 = .ok (.if_icmp .ne 10, 3) := by decide +kernel
theorem dX12_worthOf_38 : decode cX12_worthOf 38 = .ok (.aload_n 3, 1) := by decide +kernel
theorem dX12_worthOf_39 : decode cX12_worthOf 39 = .ok (.iload 4, 2) := by decide +kernel
theorem dX12_worthOf_41 : decode cX12_worthOf 41 = .ok (.iaload, 1) := by decide +kernel
theorem dX12_worthOf_42 : decode cX12_worthOf 42 = .ok (.goto 8, 3) := by decide +kernel
theorem dX12_worthOf_45 : decode cX12_worthOf 45 = .ok (.aload_n 3, 1) := by decide +kernel
theorem dX12_worthOf_46 : decode cX12_worthOf 46 = .ok (.iload 4, 2) := by decide +kernel
theorem dX12_worthOf_48 : decode cX12_worthOf 48 = .ok (.iaload, 1) := by decide +kernel
theorem dX12_worthOf_49 : decode cX12_worthOf 49 = .ok (.ineg, 1) := by decide +kernel
theorem dX12_worthOf_50 : decode cX12_worthOf 50 = .ok (.iadd, 1) := by decide +kernel
theorem dX12_worthOf_51 : decode cX12_worthOf 51 = .ok (.ireturn, 1) := by decide +kernel
theorem dX12_ownLess_0 : decode cX12_ownLess 0 = .ok (.aload_n 0, 1) := by decide +kernel
theorem dX12_ownLess_1 : decode cX12_ownLess 1 = .ok (.iload_n 1, 1) := by decide +kernel
theorem dX12_ownLess_2 : decode cX12_ownLess 2 = .ok (.iload_n 2, 1) := by decide +kernel
theorem dX12_ownLess_3 : decode cX12_ownLess 3 = .ok (.iload_n 3, 1) := by decide +kernel
theorem dX12_ownLess_4 : decode cX12_ownLess 4 = .ok (.invokevirtual 371, 3) := by decide +kernel
theorem dX12_ownLess_7 : decode cX12_ownLess 7 = .ok (.aload_n 0, 1) := by decide +kernel
theorem dX12_ownLess_8 : decode cX12_ownLess 8 = .ok (.iload_n 1, 1) := by decide +kernel
theorem dX12_ownLess_9 : decode cX12_ownLess 9 = .ok (.invokevirtual 290, 3) := by decide +kernel
theorem dX12_ownLess_12 : decode cX12_ownLess 12 = .ok (.aload_n 0, 1) := by decide +kernel
theorem dX12_ownLess_13 : decode cX12_ownLess 13 = .ok (.iconst 1, 1) := by decide +kernel
theorem dX12_ownLess_14 : decode cX12_ownLess 14 = .ok (.iload_n 1, 1) := by decide +kernel
theorem dX12_ownLess_15 : decode cX12_ownLess 15 = .ok (.isub, 1) := by decide +kernel
theorem dX12_ownLess_16 : decode cX12_ownLess 16 = .ok (.invokevirtual 290, 3) := by decide +kernel
theorem dX12_ownLess_19 : decode cX12_ownLess 19 = .ok (.isub, 1) := by decide +kernel
theorem dX12_ownLess_20 : decode cX12_ownLess 20 = .ok (.ireturn, 1) := by decide +kernel
theorem dX12_seatNow_0 : decode cX12_seatNow 0 = .ok (.aload_n 0, 1) := by decide +kernel
theorem dX12_seatNow_1 : decode cX12_seatNow 1 = .ok (.invokevirtual 293, 3) := by decide +kernel
theorem dX12_seatNow_4 : decode cX12_seatNow 4 = .ok (.aload_n 0, 1) := by decide +kernel
theorem dX12_seatNow_5 : decode cX12_seatNow 5 = .ok (.aload_n 0, 1) := by decide +kernel
theorem dX12_seatNow_6 : decode cX12_seatNow 6 = .ok (.getfield 9, 3) := by decide +kernel
theorem dX12_seatNow_9 : decode cX12_seatNow 9 = .ok (.iconst 2, 1) := by decide +kernel
theorem dX12_seatNow_10 : decode cX12_seatNow 10 = .ok (.iaload, 1) := by decide +kernel
theorem dX12_seatNow_11 : decode cX12_seatNow 11 = .ok (.aload_n 0, 1) := by decide +kernel
theorem dX12_seatNow_12 : decode cX12_seatNow 12 = .ok (.invokevirtual 365, 3) := by decide +kernel
theorem dX12_seatNow_15 : decode cX12_seatNow 15 = .ok (.aload_n 0, 1) := by decide +kernel
theorem dX12_seatNow_16 : decode cX12_seatNow 16 = .ok (.aload_n 0, 1) := by decide +kernel
theorem dX12_seatNow_17 : decode cX12_seatNow 17 = .ok (.getfield 9, 3) := by decide +kernel
theorem dX12_seatNow_20 : decode cX12_seatNow 20 = .ok (.iconst 2, 1) := by decide +kernel
theorem dX12_seatNow_21 : decode cX12_seatNow 21 = .ok (.iaload, 1) := by decide +kernel
theorem dX12_seatNow_22 : decode cX12_seatNow 22 = .ok (.invokevirtual 368, 3) := by decide +kernel
theorem dX12_seatNow_25 : decode cX12_seatNow 25 = .ok (.invokevirtual 384, 3) := by decide +kernel
theorem dX12_seatNow_28 : decode cX12_seatNow 28 = .ok (.ireturn, 1) := by decide +kernel
theorem dX12_bestAt_0 : decode cX12_bestAt 0 = .ok (.iconst (-1), 1) := by decide +kernel
theorem dX12_bestAt_1 : decode cX12_bestAt 1 = .ok (.istore_n 2, 1) := by decide +kernel
theorem dX12_bestAt_2 : decode cX12_bestAt 2 = .ok (.iconst 0, 1) := by decide +kernel
theorem dX12_bestAt_3 : decode cX12_bestAt 3 = .ok (.istore_n 3, 1) := by decide +kernel
theorem dX12_bestAt_4 : decode cX12_bestAt 4 = .ok (.iconst 0, 1) := by decide +kernel
theorem dX12_bestAt_5 : decode cX12_bestAt 5 = .ok (.istore 4, 2) := by decide +kernel
theorem dX12_bestAt_7 : decode cX12_bestAt 7 = .ok (.iload 4, 2) := by decide +kernel
theorem dX12_bestAt_9 : decode cX12_bestAt 9 = .ok (.aload_n 0, 1) := by decide +kernel
theorem dX12_bestAt_10 : decode cX12_bestAt 10 = .ok (.getfield 9, 3) := by decide +kernel
theorem dX12_bestAt_13 : decode cX12_bestAt 13 = .ok (.iconst 1, 1) := by decide +kernel
theorem dX12_bestAt_14 : decode cX12_bestAt 14 = .ok (.iaload, 1) := by decide +kernel
theorem dX12_bestAt_15 : decode cX12_bestAt 15 = .ok (.if_icmp .ge 109, 3) := by decide +kernel
theorem dX12_bestAt_18 : decode cX12_bestAt 18 = .ok (.aload_n 0, 1) := by decide +kernel
theorem dX12_bestAt_19 : decode cX12_bestAt 19 = .ok (.getfield 70, 3) := by decide +kernel
theorem dX12_bestAt_22 : decode cX12_bestAt 22 = .ok (.iload_n 1, 1) := by decide +kernel
theorem dX12_bestAt_23 : decode cX12_bestAt 23 = .ok (.baload, 1) := by decide +kernel
theorem dX12_bestAt_24 : decode cX12_bestAt 24 = .ok (.ifCond .ne 100, 3) := by decide +kernel
theorem dX12_bestAt_27 : decode cX12_bestAt 27 = .ok (.aload_n 0, 1) := by decide +kernel
theorem dX12_bestAt_28 : decode cX12_bestAt 28 = .ok (.getfield 61, 3) := by decide +kernel
theorem dX12_bestAt_31 : decode cX12_bestAt 31 = .ok (.bipush 6, 2) := by decide +kernel
theorem dX12_bestAt_33 : decode cX12_bestAt 33 = .ok (.iload_n 1, 1) := by decide +kernel
theorem dX12_bestAt_34 : decode cX12_bestAt 34 = .ok (.imul, 1) := by decide +kernel
theorem dX12_bestAt_35 : decode cX12_bestAt 35 = .ok (.iload 4, 2) := by decide +kernel
theorem dX12_bestAt_37 : decode cX12_bestAt 37 = .ok (.iadd, 1) := by decide +kernel
theorem dX12_bestAt_38 : decode cX12_bestAt 38 = .ok (.iaload, 1) := by decide +kernel
theorem dX12_bestAt_39 : decode cX12_bestAt 39 = .ok (.istore 5, 2) := by decide +kernel
theorem dX12_bestAt_41 : decode cX12_bestAt 41 = .ok (.iload 5, 2) := by decide +kernel
theorem dX12_bestAt_43 : decode cX12_bestAt 43 = .ok (.iconst (-1), 1) := by decide +kernel
theorem dX12_bestAt_44 : decode cX12_bestAt 44 = .ok (.if_icmp .eq 74, 3) := by decide +kernel
theorem dX12_bestAt_47 : decode cX12_bestAt 47 = .ok (.aload_n 0, 1) := by decide +kernel
theorem dX12_bestAt_48 : decode cX12_bestAt 48 = .ok (.iload_n 1, 1) := by decide +kernel
theorem dX12_bestAt_49 : decode cX12_bestAt 49 = .ok (.iload 4, 2) := by decide +kernel
theorem dX12_bestAt_51 : decode cX12_bestAt 51 = .ok (.aload_n 0, 1) := by decide +kernel
theorem dX12_bestAt_52 : decode cX12_bestAt 52 = .ok (.getfield 51, 3) := by decide +kernel
theorem dX12_bestAt_55 : decode cX12_bestAt 55 = .ok (.invokevirtual 398, 3) := by decide +kernel
theorem dX12_bestAt_58 : decode cX12_bestAt 58 = .ok (.aload_n 0, 1) := by decide +kernel
theorem dX12_bestAt_59 : decode cX12_bestAt 59 = .ok (.getfield 51, 3) := by decide +kernel
theorem dX12_bestAt_62 : decode cX12_bestAt 62 = .ok (.iload_n 1, 1) := by decide +kernel
theorem dX12_bestAt_63 : decode cX12_bestAt 63 = .ok (.iaload, 1) := by decide +kernel
theorem dX12_bestAt_64 : decode cX12_bestAt 64 = .ok (.if_icmp .eq 6, 3) := by decide +kernel
theorem dX12_bestAt_67 : decode cX12_bestAt 67 = .ok (.goto 51, 3) := by decide +kernel
theorem dX12_bestAt_70 : decode cX12_bestAt 70 = .ok (.aload_n 0, 1) := by decide +kernel
theorem dX12_bestAt_71 : decode cX12_bestAt 71 = .ok (.getfield 64, 3) := by decide +kernel
theorem dX12_bestAt_74 : decode cX12_bestAt 74 = .ok (.bipush 6, 2) := by decide +kernel
theorem dX12_bestAt_76 : decode cX12_bestAt 76 = .ok (.iload_n 1, 1) := by decide +kernel
theorem dX12_bestAt_77 : decode cX12_bestAt 77 = .ok (.imul, 1) := by decide +kernel
theorem dX12_bestAt_78 : decode cX12_bestAt 78 = .ok (.iload 4, 2) := by decide +kernel
theorem dX12_bestAt_80 : decode cX12_bestAt 80 = .ok (.iadd, 1) := by decide +kernel
theorem dX12_bestAt_81 : decode cX12_bestAt 81 = .ok (.iaload, 1) := by decide +kernel
theorem dX12_bestAt_82 : decode cX12_bestAt 82 = .ok (.ifCond .le 7, 3) := by decide +kernel
theorem dX12_bestAt_85 : decode cX12_bestAt 85 = .ok (.iconst 0, 1) := by decide +kernel
theorem dX12_bestAt_86 : decode cX12_bestAt 86 = .ok (.goto 10, 3) := by decide +kernel
theorem dX12_bestAt_89 : decode cX12_bestAt 89 = .ok (.aload_n 0, 1) := by decide +kernel
theorem dX12_bestAt_90 : decode cX12_bestAt 90 = .ok (.getfield 54, 3) := by decide +kernel
theorem dX12_bestAt_93 : decode cX12_bestAt 93 = .ok (.iload 5, 2) := by decide +kernel
theorem dX12_bestAt_95 : decode cX12_bestAt 95 = .ok (.iaload, 1) := by decide +kernel
theorem dX12_bestAt_96 : decode cX12_bestAt 96 = .ok (.istore 6, 2) := by decide +kernel
theorem dX12_bestAt_98 : decode cX12_bestAt 98 = .ok (.iload_n 2, 1) := by decide +kernel
theorem dX12_bestAt_99 : decode cX12_bestAt 99 = .ok (.iconst (-1), 1) := by decide +kernel
theorem dX12_bestAt_100 : decode cX12_bestAt 100 = .ok (.if_icmp .eq 12, 3) := by decide +kernel
theorem dX12_bestAt_103 : decode cX12_bestAt 103 = .ok (.iload 6, 2) := by decide +kernel
theorem dX12_bestAt_105 : decode cX12_bestAt 105 = .ok (.iload_n 3, 1) := by decide +kernel
theorem dX12_bestAt_106 : decode cX12_bestAt 106 = .ok (.if_icmp .lt 6, 3) := by decide +kernel
theorem dX12_bestAt_109 : decode cX12_bestAt 109 = .ok (.goto 9, 3) := by decide +kernel
theorem dX12_bestAt_112 : decode cX12_bestAt 112 = .ok (.iload 4, 2) := by decide +kernel
theorem dX12_bestAt_114 : decode cX12_bestAt 114 = .ok (.istore_n 2, 1) := by decide +kernel
theorem dX12_bestAt_115 : decode cX12_bestAt 115 = .ok (.iload 6, 2) := by decide +kernel
theorem dX12_bestAt_117 : decode cX12_bestAt 117 = .ok (.istore_n 3, 1) := by decide +kernel
theorem dX12_bestAt_118 : decode cX12_bestAt 118 = .ok (.iinc 4 1, 3) := by decide +kernel
theorem dX12_bestAt_121 : decode cX12_bestAt 121 = .ok (.goto (-114), 3) := by decide +kernel
theorem dX12_bestAt_124 : decode cX12_bestAt 124 = .ok (.iload_n 2, 1) := by decide +kernel
theorem dX12_bestAt_125 : decode cX12_bestAt 125 = .ok (.ireturn, 1) := by decide +kernel
theorem dX12_bestNow_0 : decode cX12_bestNow 0 = .ok (.aload_n 0, 1) := by decide +kernel
theorem dX12_bestNow_1 : decode cX12_bestNow 1 = .ok (.aload_n 0, 1) := by decide +kernel
theorem dX12_bestNow_2 : decode cX12_bestNow 2 = .ok (.invokevirtual 410, 3) := by decide +kernel
theorem dX12_bestNow_5 : decode cX12_bestNow 5 = .ok (.invokevirtual 413, 3) := by decide +kernel
theorem dX12_bestNow_8 : decode cX12_bestNow 8 = .ok (.istore_n 1, 1) := by decide +kernel
theorem dX12_bestNow_9 : decode cX12_bestNow 9 = .ok (.iload_n 1, 1) := by decide +kernel
theorem dX12_bestNow_10 : decode cX12_bestNow 10 = .ok (.iconst (-1), 1) := by decide +kernel
theorem dX12_bestNow_11 : decode cX12_bestNow 11 = .ok (.if_icmp .ne 7, 3) := by decide +kernel
theorem dX12_bestNow_14 : decode cX12_bestNow 14 = .ok (.iconst (-1), 1) := by decide +kernel
theorem dX12_bestNow_15 : decode cX12_bestNow 15 = .ok (.goto 24, 3) := by decide +kernel
theorem dX12_bestNow_18 : decode cX12_bestNow 18 = .ok (.iload_n 1, 1) := by decide +kernel
theorem dX12_bestNow_19 : decode cX12_bestNow 19 = .ok (.aload_n 0, 1) := by decide +kernel
theorem dX12_bestNow_20 : decode cX12_bestNow 20 = .ok (.getfield 9, 3) := by decide +kernel
theorem dX12_bestNow_23 : decode cX12_bestNow 23 = .ok (.iconst 2, 1) := by decide +kernel
theorem dX12_bestNow_24 : decode cX12_bestNow 24 = .ok (.iaload, 1) := by decide +kernel
theorem dX12_bestNow_25 : decode cX12_bestNow 25 = .ok (.ifCond .ne 7, 3) := by decide +kernel
theorem dX12_bestNow_28 : decode cX12_bestNow 28 = .ok (.iconst 0, 1) := by decide +kernel
theorem dX12_bestNow_29 : decode cX12_bestNow 29 = .ok (.goto 9, 3) := by decide +kernel
theorem dX12_bestNow_32 : decode cX12_bestNow 32 = .ok (.aload_n 0, 1) := by decide +kernel
theorem dX12_bestNow_33 : decode cX12_bestNow 33 = .ok (.getfield 9, 3) := by decide +kernel
theorem dX12_bestNow_36 : decode cX12_bestNow 36 = .ok (.iconst 1, 1) := by decide +kernel
theorem dX12_bestNow_37 : decode cX12_bestNow 37 = .ok (.iaload, 1) := by decide +kernel
theorem dX12_bestNow_38 : decode cX12_bestNow 38 = .ok (.iadd, 1) := by decide +kernel
theorem dX12_bestNow_39 : decode cX12_bestNow 39 = .ok (.ireturn, 1) := by decide +kernel
theorem dX12_canAt_0 : decode cX12_canAt 0 = .ok (.iconst 0, 1) := by decide +kernel
theorem dX12_canAt_1 : decode cX12_canAt 1 = .ok (.istore_n 3, 1) := by decide +kernel
theorem dX12_canAt_2 : decode cX12_canAt 2 = .ok (.iconst 0, 1) := by decide +kernel
theorem dX12_canAt_3 : decode cX12_canAt 3 = .ok (.istore 4, 2) := by decide +kernel
theorem dX12_canAt_5 : decode cX12_canAt 5 = .ok (.iload 4, 2) := by decide +kernel
theorem dX12_canAt_7 : decode cX12_canAt 7 = .ok (.aload_n 0, 1) := by decide +kernel
theorem dX12_canAt_8 : decode cX12_canAt 8 = .ok (.getfield 9, 3) := by decide +kernel
theorem dX12_canAt_11 : decode cX12_canAt 11 = .ok (.iconst 1, 1) := by decide +kernel
theorem dX12_canAt_12 : decode cX12_canAt 12 = .ok (.iaload, 1) := by decide +kernel
theorem dX12_canAt_13 : decode cX12_canAt 13 = .ok (.if_icmp .ge 57, 3) := by decide +kernel
theorem dX12_canAt_16 : decode cX12_canAt 16 = .ok (.iload_n 3, 1) := by decide +kernel
theorem dX12_canAt_17 : decode cX12_canAt 17 = .ok (.aload_n 0, 1) := by decide +kernel
theorem dX12_canAt_18 : decode cX12_canAt 18 = .ok (.getfield 61, 3) := by decide +kernel
theorem dX12_canAt_21 : decode cX12_canAt 21 = .ok (.bipush 6, 2) := by decide +kernel
theorem dX12_canAt_23 : decode cX12_canAt 23 = .ok (.iload_n 1, 1) := by decide +kernel
theorem dX12_canAt_24 : decode cX12_canAt 24 = .ok (.imul, 1) := by decide +kernel
theorem dX12_canAt_25 : decode cX12_canAt 25 = .ok (.iload 4, 2) := by decide +kernel
theorem dX12_canAt_27 : decode cX12_canAt 27 = .ok (.iadd, 1) := by decide +kernel
theorem dX12_canAt_28 : decode cX12_canAt 28 = .ok (.iaload, 1) := by decide +kernel
theorem dX12_canAt_29 : decode cX12_canAt 29 = .ok (.iconst (-1), 1) := by decide +kernel
theorem dX12_canAt_30 : decode cX12_canAt 30 = .ok (.if_icmp .eq 31, 3) := by decide +kernel
theorem dX12_canAt_33 : decode cX12_canAt 33 = .ok (.iload_n 2, 1) := by decide +kernel
theorem dX12_canAt_34 : decode cX12_canAt 34 = .ok (.ifCond .eq 23, 3) := by decide +kernel
theorem dX12_canAt_37 : decode cX12_canAt 37 = .ok (.aload_n 0, 1) := by decide +kernel
theorem dX12_canAt_38 : decode cX12_canAt 38 = .ok (.iload_n 1, 1) := by decide +kernel
theorem dX12_canAt_39 : decode cX12_canAt 39 = .ok (.iload 4, 2) := by decide +kernel
theorem dX12_canAt_41 : decode cX12_canAt 41 = .ok (.aload_n 0, 1) := by decide +kernel
theorem dX12_canAt_42 : decode cX12_canAt 42 = .ok (.getfield 51, 3) := by decide +kernel
theorem dX12_canAt_45 : decode cX12_canAt 45 = .ok (.invokevirtual 398, 3) := by decide +kernel
theorem dX12_canAt_48 : decode cX12_canAt 48 = .ok (.aload_n 0, 1) := by decide +kernel
theorem dX12_canAt_49 : decode cX12_canAt 49 = .ok (.getfield 51, 3) := by decide +kernel
theorem dX12_canAt_52 : decode cX12_canAt 52 = .ok (.iload_n 1, 1) := by decide +kernel
theorem dX12_canAt_53 : decode cX12_canAt 53 = .ok (.iaload, 1) := by decide +kernel
theorem dX12_canAt_54 : decode cX12_canAt 54 = .ok (.if_icmp .ne 7, 3) := by decide +kernel
theorem dX12_canAt_57 : decode cX12_canAt 57 = .ok (.iconst 1, 1) := by decide +kernel
theorem dX12_canAt_58 : decode cX12_canAt 58 = .ok (.goto 4, 3) := by decide +kernel
theorem dX12_canAt_61 : decode cX12_canAt 61 = .ok (.iconst 0, 1) := by decide +kernel
theorem dX12_canAt_62 : decode cX12_canAt 62 = .ok (.iadd, 1) := by decide +kernel
theorem dX12_canAt_63 : decode cX12_canAt 63 = .ok (.istore_n 3, 1) := by decide +kernel
theorem dX12_canAt_64 : decode cX12_canAt 64 = .ok (.iinc 4 1, 3) := by decide +kernel
theorem dX12_canAt_67 : decode cX12_canAt 67 = .ok (.goto (-62), 3) := by decide +kernel
theorem dX12_canAt_70 : decode cX12_canAt 70 = .ok (.iload_n 3, 1) := by decide +kernel
theorem dX12_canAt_71 : decode cX12_canAt 71 = .ok (.ireturn, 1) := by decide +kernel
theorem dX12_isBoard_0 : decode cX12_isBoard 0 = .ok (.iconst 0, 1) := by decide +kernel
theorem dX12_isBoard_1 : decode cX12_isBoard 1 = .ok (.istore_n 2, 1) := by decide +kernel
theorem dX12_isBoard_2 : decode cX12_isBoard 2 = .ok (.iload_n 2, 1) := by decide +kernel
theorem dX12_isBoard_3 : decode cX12_isBoard 3 = .ok (.bipush 25, 2) := by decide +kernel
theorem dX12_isBoard_5 : decode cX12_isBoard 5 = .ok (.if_icmp .ge 31, 3) := by decide +kernel
theorem dX12_isBoard_8 : decode cX12_isBoard 8 = .ok (.aload_n 0, 1) := by decide +kernel
theorem dX12_isBoard_9 : decode cX12_isBoard 9 = .ok (.getfield 91, 3) := by decide +kernel
theorem dX12_isBoard_12 : decode cX12_isBoard 12 = .ok (.bipush 25, 2) := by decide +kernel
theorem dX12_isBoard_14 : decode cX12_isBoard 14 = .ok (.iload_n 1, 1) := by decide +kernel
theorem dX12_isBoard_15 : decode cX12_isBoard 15 = .ok (.imul, 1) := by decide +kernel
theorem dX12_isBoard_16 : decode cX12_isBoard 16 = .ok (.iload_n 2, 1) := by decide +kernel
theorem dX12_isBoard_17 : decode cX12_isBoard 17 = .ok (.iadd, 1) := by decide +kernel
theorem dX12_isBoard_18 : decode cX12_isBoard 18 = .ok (.iaload, 1) := by decide +kernel
theorem dX12_isBoard_19 : decode cX12_isBoard 19 = .ok (.aload_n 0, 1) := by decide +kernel
theorem dX12_isBoard_20 : decode cX12_isBoard 20 = .ok (.getfield 9, 3) := by decide +kernel
theorem dX12_isBoard_23 : decode cX12_isBoard 23 = .ok (.iload_n 2, 1) := by decide +kernel
theorem dX12_isBoard_24 : decode cX12_isBoard 24 = .ok (.iaload, 1) := by decide +kernel
theorem dX12_isBoard_25 : decode cX12_isBoard 25 = .ok (.if_icmp .eq 5, 3) := by decide +kernel
theorem dX12_isBoard_28 : decode cX12_isBoard 28 = .ok (.iconst 0, 1) := by decide +kernel
theorem dX12_isBoard_29 : decode cX12_isBoard 29 = .ok (.ireturn, 1) := by decide +kernel
theorem dX12_isBoard_30 : decode cX12_isBoard 30 = .ok (.iinc 2 1, 3) := by decide +kernel
theorem dX12_isBoard_33 : decode cX12_isBoard 33 = .ok (.goto (-31), 3) := by decide +kernel
theorem dX12_isBoard_36 : decode cX12_isBoard 36 = .ok (.iconst 1, 1) := by decide +kernel
theorem dX12_isBoard_37 : decode cX12_isBoard 37 = .ok (.ireturn, 1) := by decide +kernel
theorem dX12_draw_0 : decode cX12_draw 0 = .ok (.aload_n 0, 1) := by decide +kernel
theorem dX12_draw_1 : decode cX12_draw 1 = .ok (.ldc_w 458, 3) := by decide +kernel
theorem dX12_draw_4 : decode cX12_draw 4 = .ok (.aload_n 0, 1) := by decide +kernel
theorem dX12_draw_5 : decode cX12_draw 5 = .ok (.getfield 459, 3) := by decide +kernel
theorem dX12_draw_8 : decode cX12_draw 8 = .ok (.imul, 1) := by decide +kernel
theorem dX12_draw_9 : decode cX12_draw 9 = .ok (.sipush 12345, 3) := by decide +kernel
theorem dX12_draw_12 : decode cX12_draw 12 = .ok (.iadd, 1) := by decide +kernel
theorem dX12_draw_13 : decode cX12_draw 13 = .ok (.putfield 459, 3) := by decide +kernel
theorem dX12_draw_16 : decode cX12_draw 16 = .ok (.aload_n 0, 1) := by decide +kernel
theorem dX12_draw_17 : decode cX12_draw 17 = .ok (.getfield 459, 3) := by decide +kernel
theorem dX12_draw_20 : decode cX12_draw 20 = .ok (.bipush 16, 2) := by decide +kernel
theorem dX12_draw_22 : decode cX12_draw 22 = .ok (.iushr, 1) := by decide +kernel
theorem dX12_draw_23 : decode cX12_draw 23 = .ok (.iload_n 1, 1) := by decide +kernel
theorem dX12_draw_24 : decode cX12_draw 24 = .ok (.irem, 1) := by decide +kernel
theorem dX12_draw_25 : decode cX12_draw 25 = .ok (.ireturn, 1) := by decide +kernel
theorem dX12_isTray_0 : decode cX12_isTray 0 = .ok (.iload_n 0, 1) := by decide +kernel
theorem dX12_isTray_1 : decode cX12_isTray 1 = .ok (.i2l, 1) := by decide +kernel
theorem dX12_isTray_2 : decode cX12_isTray 2 = .ok (.lconst 0, 1) := by decide +kernel
theorem dX12_isTray_3 : decode cX12_isTray 3 = .ok (.ldc2_w 314, 3) := by decide +kernel
theorem dX12_isTray_6 : decode cX12_isTray 6 = .ok (.invokestatic 166, 3) := by decide +kernel
theorem dX12_isTray_9 : decode cX12_isTray 9 = .ok (.ireturn, 1) := by decide +kernel
theorem dX12_tray_0 : decode cX12_tray 0 = .ok (.aload_n 0, 1) := by decide +kernel
theorem dX12_tray_1 : decode cX12_tray 1 = .ok (.iload_n 1, 1) := by decide +kernel
theorem dX12_tray_2 : decode cX12_tray 2 = .ok (.invokestatic 335, 3) := by decide +kernel
theorem dX12_tray_5 : decode cX12_tray 5 = .ok (.ifCond .ne 7, 3) := by decide +kernel
theorem dX12_tray_8 : decode cX12_tray 8 = .ok (.iconst 1, 1) := by decide +kernel
theorem dX12_tray_9 : decode cX12_tray 9 = .ok (.goto 32, 3) := by decide +kernel
theorem dX12_tray_12 : decode cX12_tray 12 = .ok (.iload_n 2, 1) := by decide +kernel
theorem dX12_tray_13 : decode cX12_tray 13 = .ok (.i2l, 1) := by decide +kernel
theorem dX12_tray_14 : decode cX12_tray 14 = .ok (.lconst 0, 1) := by decide +kernel
theorem dX12_tray_15 : decode cX12_tray 15 = .ok (.ldc2_w 314, 3) := by decide +kernel
theorem dX12_tray_18 : decode cX12_tray 18 = .ok (.invokestatic 166, 3) := by decide +kernel
theorem dX12_tray_21 : decode cX12_tray 21 = .ok (.ifCond .eq 15, 3) := by decide +kernel
theorem dX12_tray_24 : decode cX12_tray 24 = .ok (.iload_n 3, 1) := by decide +kernel
theorem dX12_tray_25 : decode cX12_tray 25 = .ok (.i2l, 1) := by decide +kernel
theorem dX12_tray_26 : decode cX12_tray 26 = .ok (.lconst 0, 1) := by decide +kernel
theorem dX12_tray_27 : decode cX12_tray 27 = .ok (.ldc2_w 357, 3) := by decide +kernel
theorem dX12_tray_30 : decode cX12_tray 30 = .ok (.invokestatic 166, 3) := by decide +kernel
theorem dX12_tray_33 : decode cX12_tray 33 = .ok (.ifCond .ne 7, 3) := by decide +kernel
theorem dX12_tray_36 : decode cX12_tray 36 = .ok (.iconst 2, 1) := by decide +kernel
theorem dX12_tray_37 : decode cX12_tray 37 = .ok (.goto 4, 3) := by decide +kernel
theorem dX12_tray_40 : decode cX12_tray 40 = .ok (.iconst 0, 1) := by decide +kernel
theorem dX12_tray_41 : decode cX12_tray 41 = .ok (.putfield 107, 3) := by decide +kernel
theorem dX12_tray_44 : decode cX12_tray 44 = .ok (.aload_n 0, 1) := by decide +kernel
theorem dX12_tray_45 : decode cX12_tray 45 = .ok (.getfield 107, 3) := by decide +kernel
theorem dX12_tray_48 : decode cX12_tray 48 = .ok (.ifCond .le 4, 3) := by decide +kernel
theorem dX12_tray_51 : decode cX12_tray 51 = .ok (.return_, 1) := by decide +kernel
theorem dX12_tray_52 : decode cX12_tray 52 = .ok (.aload_n 0, 1) := by decide +kernel
theorem dX12_tray_53 : decode cX12_tray 53 = .ok (.getfield 97, 3) := by decide +kernel
theorem dX12_tray_56 : decode cX12_tray 56 = .ok (.iload_n 1, 1) := by decide +kernel
theorem dX12_tray_57 : decode cX12_tray 57 = .ok (.iload_n 2, 1) := by decide +kernel
theorem dX12_tray_58 : decode cX12_tray 58 = .ok (.iastore, 1) := by decide +kernel
theorem dX12_tray_59 : decode cX12_tray 59 = .ok (.aload_n 0, 1) := by decide +kernel
theorem dX12_tray_60 : decode cX12_tray 60 = .ok (.getfield 100, 3) := by decide +kernel
theorem dX12_tray_63 : decode cX12_tray 63 = .ok (.iload_n 1, 1) := by decide +kernel
theorem dX12_tray_64 : decode cX12_tray 64 = .ok (.iload_n 3, 1) := by decide +kernel
theorem dX12_tray_65 : decode cX12_tray 65 = .ok (.iastore, 1) := by decide +kernel
theorem dX12_tray_66 : decode cX12_tray 66 = .ok (.iconst 0, 1) := by decide +kernel
theorem dX12_tray_67 : decode cX12_tray 67 = .ok (.istore 4, 2) := by decide +kernel
theorem dX12_tray_69 : decode cX12_tray 69 = .ok (.iload 4, 2) := by decide +kernel
theorem dX12_tray_71 : decode cX12_tray 71 = .ok (.bipush 40, 2) := by decide +kernel
theorem dX12_tray_73 : decode cX12_tray 73 = .ok (.if_icmp .ge 22, 3) := by decide +kernel
theorem dX12_tray_76 : decode cX12_tray 76 = .ok (.aload_n 0, 1) := by decide +kernel
theorem dX12_tray_77 : decode cX12_tray 77 = .ok (.getfield 103, 3) := by decide +kernel
theorem dX12_tray_80 : decode cX12_tray 80 = .ok (.bipush 40, 2) := by decide +kernel
theorem dX12_tray_82 : decode cX12_tray 82 = .ok (.iload_n 1, 1) := by decide +kernel
theorem dX12_tray_83 : decode cX12_tray 83 = .ok (.imul, 1) := by decide +kernel
theorem dX12_tray_84 : decode cX12_tray 84 = .ok (.iload 4, 2) := by decide +kernel
theorem dX12_tray_86 : decode cX12_tray 86 = .ok (.iadd, 1) := by decide +kernel
theorem dX12_tray_87 : decode cX12_tray 87 = .ok (.lconst 0, 1) := by decide +kernel
theorem dX12_tray_88 : decode cX12_tray 88 = .ok (.lastore, 1) := by decide +kernel
theorem dX12_tray_89 : decode cX12_tray 89 = .ok (.iinc 4 1, 3) := by decide +kernel
theorem dX12_tray_92 : decode cX12_tray 92 = .ok (.goto (-23), 3) := by decide +kernel
theorem dX12_tray_95 : decode cX12_tray 95 = .ok (.return_, 1) := by decide +kernel
theorem dX12_cut_0 : decode cX12_cut 0 = .ok (.bipush 64, 2) := by decide +kernel
theorem dX12_cut_2 : decode cX12_cut 2 = .ok (.bipush 8, 2) := by decide +kernel
theorem dX12_cut_4 : decode cX12_cut 4 = .ok (.aload_n 0, 1) := by decide +kernel
theorem dX12_cut_5 : decode cX12_cut 5 = .ok (.getfield 97, 3) := by decide +kernel
theorem dX12_cut_8 : decode cX12_cut 8 = .ok (.iload_n 1, 1) := by decide +kernel
theorem dX12_cut_9 : decode cX12_cut 9 = .ok (.iaload, 1) := by decide +kernel
theorem dX12_cut_10 : decode cX12_cut 10 = .ok (.ishl, 1) := by decide +kernel
theorem dX12_cut_11 : decode cX12_cut 11 = .ok (.isub, 1) := by decide +kernel
theorem dX12_cut_12 : decode cX12_cut 12 = .ok (.istore 5, 2) := by decide +kernel
theorem dX12_cut_14 : decode cX12_cut 14 = .ok (.aload_n 0, 1) := by decide +kernel
theorem dX12_cut_15 : decode cX12_cut 15 = .ok (.getfield 103, 3) := by decide +kernel
theorem dX12_cut_18 : decode cX12_cut 18 = .ok (.bipush 40, 2) := by decide +kernel
theorem dX12_cut_20 : decode cX12_cut 20 = .ok (.iload_n 1, 1) := by decide +kernel
theorem dX12_cut_21 : decode cX12_cut 21 = .ok (.imul, 1) := by decide +kernel
theorem dX12_cut_22 : decode cX12_cut 22 = .ok (.iload_n 2, 1) := by decide +kernel
theorem dX12_cut_23 : decode cX12_cut 23 = .ok (.iadd, 1) := by decide +kernel
theorem dX12_cut_24 : decode cX12_cut 24 = .ok (.lload_n 3, 1) := by decide +kernel
theorem dX12_cut_25 : decode cX12_cut 25 = .ok (.iload 5, 2) := by decide +kernel
theorem dX12_cut_27 : decode cX12_cut 27 = .ok (.lshl, 1) := by decide +kernel
theorem dX12_cut_28 : decode cX12_cut 28 = .ok (.iload 5, 2) := by decide +kernel
theorem dX12_cut_30 : decode cX12_cut 30 = .ok (.lshr, 1) := by decide +kernel
theorem dX12_cut_31 : decode cX12_cut 31 = .ok (.lastore, 1) := by decide +kernel
theorem dX12_cut_32 : decode cX12_cut 32 = .ok (.aload_n 0, 1) := by decide +kernel
theorem dX12_cut_33 : decode cX12_cut 33 = .ok (.getfield 103, 3) := by decide +kernel
theorem dX12_cut_36 : decode cX12_cut 36 = .ok (.bipush 40, 2) := by decide +kernel
theorem dX12_cut_38 : decode cX12_cut 38 = .ok (.iload_n 1, 1) := by decide +kernel
theorem dX12_cut_39 : decode cX12_cut 39 = .ok (.imul, 1) := by decide +kernel
theorem dX12_cut_40 : decode cX12_cut 40 = .ok (.iload_n 2, 1) := by decide +kernel
theorem dX12_cut_41 : decode cX12_cut 41 = .ok (.iadd, 1) := by decide +kernel
theorem dX12_cut_42 : decode cX12_cut 42 = .ok (.laload, 1) := by decide +kernel
theorem dX12_cut_43 : decode cX12_cut 43 = .ok (.lreturn, 1) := by decide +kernel
theorem dX12_image_0 : decode cX12_image 0 = .ok (.aload_n 0, 1) := by decide +kernel
theorem dX12_image_1 : decode cX12_image 1 = .ok (.iload_n 1, 1) := by decide +kernel
theorem dX12_image_2 : decode cX12_image 2 = .ok (.i2l, 1) := by decide +kernel
theorem dX12_image_3 : decode cX12_image 3 = .ok (.lconst 0, 1) := by decide +kernel
theorem dX12_image_4 : decode cX12_image 4 = .ok (.ldc2_w 453, 3) := by decide +kernel
theorem dX12_image_7 : decode cX12_image 7 = .ok (.invokestatic 166, 3) := by decide +kernel
theorem dX12_image_10 : decode cX12_image 10 = .ok (.ifCond .eq 7, 3) := by decide +kernel
theorem dX12_image_13 : decode cX12_image 13 = .ok (.iconst 0, 1) := by decide +kernel
theorem dX12_image_14 : decode cX12_image 14 = .ok (.goto 4, 3) := by decide +kernel
theorem dX12_image_17 : decode cX12_image 17 = .ok (.iconst 1, 1) := by decide +kernel
theorem dX12_image_18 : decode cX12_image 18 = .ok (.putfield 107, 3) := by decide +kernel
theorem dX12_image_21 : decode cX12_image 21 = .ok (.aload_n 0, 1) := by decide +kernel
theorem dX12_image_22 : decode cX12_image 22 = .ok (.getfield 107, 3) := by decide +kernel
theorem dX12_image_25 : decode cX12_image 25 = .ok (.ifCond .le 4, 3) := by decide +kernel
theorem dX12_image_28 : decode cX12_image 28 = .ok (.return_, 1) := by decide +kernel
theorem dX12_image_29 : decode cX12_image 29 = .ok (.aload_n 0, 1) := by decide +kernel
theorem dX12_image_30 : decode cX12_image 30 = .ok (.getfield 22, 3) := by decide +kernel
theorem dX12_image_33 : decode cX12_image 33 = .ok (.iload_n 1, 1) := by decide +kernel
theorem dX12_image_34 : decode cX12_image 34 = .ok (.iconst 1, 1) := by decide +kernel
theorem dX12_image_35 : decode cX12_image 35 = .ok (.bastore, 1) := by decide +kernel
theorem dX12_image_36 : decode cX12_image 36 = .ok (.aload_n 0, 1) := by decide +kernel
theorem dX12_image_37 : decode cX12_image 37 = .ok (.getfield 16, 3) := by decide +kernel
theorem dX12_image_40 : decode cX12_image 40 = .ok (.iload_n 1, 1) := by decide +kernel
theorem dX12_image_41 : decode cX12_image 41 = .ok (.aload_n 0, 1) := by decide +kernel
theorem dX12_image_42 : decode cX12_image 42 = .ok (.getfield 9, 3) := by decide +kernel
theorem dX12_image_45 : decode cX12_image 45 = .ok (.invokestatic 319, 3) := by decide +kernel
theorem dX12_image_48 : decode cX12_image 48 = .ok (.return_, 1) := by decide +kernel
theorem dX12_restore_0 : decode cX12_restore 0 = .ok (.aload_n 0, 1) := by decide +kernel
theorem dX12_restore_1 : decode cX12_restore 1 = .ok (.iload_n 1, 1) := by decide +kernel
theorem dX12_restore_2 : decode cX12_restore 2 = .ok (.i2l, 1) := by decide +kernel
theorem dX12_restore_3 : decode cX12_restore 3 = .ok (.lconst 0, 1) := by decide +kernel
theorem dX12_restore_4 : decode cX12_restore 4 = .ok (.ldc2_w 453, 3) := by decide +kernel
theorem dX12_restore_7 : decode cX12_restore 7 = .ok (.invokestatic 166, 3) := by decide +kernel
theorem dX12_restore_10 : decode cX12_restore 10 = .ok (.ifCond .ne 7, 3) := by decide +kernel
theorem dX12_restore_13 : decode cX12_restore 13 = .ok (.iconst 1, 1) := by decide +kernel
theorem dX12_restore_14 : decode cX12_restore 14 = .ok (.goto 17, 3) := by decide +kernel
theorem dX12_restore_17 : decode cX12_restore 17 = .ok (.aload_n 0, 1) := by decide +kernel
theorem dX12_restore_18 : decode cX12_restore 18 = .ok (.getfield 22, 3) := by decide +kernel
theorem dX12_restore_21 : decode cX12_restore 21 = .ok (.iload_n 1, 1) := by decide +kernel
theorem dX12_restore_22 : decode cX12_restore 22 = .ok (.baload, 1) := by decide +kernel
theorem dX12_restore_23 : decode cX12_restore 23 = .ok (.ifCond .ne 7, 3) := by decide +kernel
theorem dX12_restore_26 : decode cX12_restore 26 = .ok (.iconst 2, 1) := by decide +kernel
theorem dX12_restore_27 : decode cX12_restore 27 = .ok (.goto 4, 3) := by decide +kernel
theorem dX12_restore_30 : decode cX12_restore 30 = .ok (.iconst 0, 1) := by decide +kernel
theorem dX12_restore_31 : decode cX12_restore 31 = .ok (.putfield 107, 3) := by decide +kernel
theorem dX12_restore_34 : decode cX12_restore 34 = .ok (.aload_n 0, 1) := by decide +kernel
theorem dX12_restore_35 : decode cX12_restore 35 = .ok (.getfield 107, 3) := by decide +kernel
theorem dX12_restore_38 : decode cX12_restore 38 = .ok (.ifCond .le 4, 3) := by decide +kernel
theorem dX12_restore_41 : decode cX12_restore 41 = .ok (.return_, 1) := by decide +kernel
theorem dX12_restore_42 : decode cX12_restore 42 = .ok (.aload_n 0, 1) := by decide +kernel
theorem dX12_restore_43 : decode cX12_restore 43 = .ok (.getfield 16, 3) := by decide +kernel
theorem dX12_restore_46 : decode cX12_restore 46 = .ok (.iload_n 1, 1) := by decide +kernel
theorem dX12_restore_47 : decode cX12_restore 47 = .ok (.aload_n 0, 1) := by decide +kernel
theorem dX12_restore_48 : decode cX12_restore 48 = .ok (.getfield 9, 3) := by decide +kernel
theorem dX12_restore_51 : decode cX12_restore 51 = .ok (.invokestatic 332, 3) := by decide +kernel
theorem dX12_restore_54 : decode cX12_restore 54 = .ok (.aload_n 0, 1) := by decide +kernel
theorem dX12_restore_55 : decode cX12_restore 55 = .ok (.iconst 0, 1) := by decide +kernel
theorem dX12_restore_56 : decode cX12_restore 56 = .ok (.putfield 239, 3) := by decide +kernel
theorem dX12_restore_59 : decode cX12_restore 59 = .ok (.aload_n 0, 1) := by decide +kernel
theorem dX12_restore_60 : decode cX12_restore 60 = .ok (.iconst 0, 1) := by decide +kernel
theorem dX12_restore_61 : decode cX12_restore 61 = .ok (.putfield 242, 3) := by decide +kernel
theorem dX12_restore_64 : decode cX12_restore 64 = .ok (.return_, 1) := by decide +kernel
theorem dX12_count_0 : decode cX12_count 0 = .ok (.aload_n 0, 1) := by decide +kernel
theorem dX12_count_1 : decode cX12_count 1 = .ok (.iconst 0, 1) := by decide +kernel
theorem dX12_count_2 : decode cX12_count 2 = .ok (.putfield 107, 3) := by decide +kernel
theorem dX12_count_5 : decode cX12_count 5 = .ok (.iconst 0, 1) := by decide +kernel
theorem dX12_count_6 : decode cX12_count 6 = .ok (.istore_n 2, 1) := by decide +kernel
theorem dX12_count_7 : decode cX12_count 7 = .ok (.iconst 0, 1) := by decide +kernel
theorem dX12_count_8 : decode cX12_count 8 = .ok (.istore_n 3, 1) := by decide +kernel
theorem dX12_count_9 : decode cX12_count 9 = .ok (.iload_n 3, 1) := by decide +kernel
theorem dX12_count_10 : decode cX12_count 10 = .ok (.aload_n 0, 1) := by decide +kernel
theorem dX12_count_11 : decode cX12_count 11 = .ok (.invokevirtual 245, 3) := by decide +kernel
theorem dX12_count_14 : decode cX12_count 14 = .ok (.if_icmp .ge 25, 3) := by decide +kernel
theorem dX12_count_17 : decode cX12_count 17 = .ok (.iload_n 2, 1) := by decide +kernel
theorem dX12_count_18 : decode cX12_count 18 = .ok (.aload_n 0, 1) := by decide +kernel
theorem dX12_count_19 : decode cX12_count 19 = .ok (.iload_n 3, 1) := by decide +kernel
theorem dX12_count_20 : decode cX12_count 20 = .ok (.invokevirtual 251, 3) := by decide +kernel
theorem dX12_count_23 : decode cX12_count 23 = .ok (.ifCond .eq 7, 3) := by decide +kernel
theorem dX12_count_26 : decode cX12_count 26 = .ok (.iconst 1, 1) := by decide +kernel
theorem dX12_count_27 : decode cX12_count 27 = .ok (.goto 4, 3) := by decide +kernel
theorem dX12_count_30 : decode cX12_count 30 = .ok (.iconst 0, 1) := by decide +kernel
theorem dX12_count_31 : decode cX12_count 31 = .ok (.iadd, 1) := by decide +kernel
theorem dX12_count_32 : decode cX12_count 32 = .ok (.istore_n 2, 1) := by decide +kernel
theorem dX12_count_33 : decode cX12_count 33 = .ok (.iinc 3 1, 3) := by decide +kernel
theorem dX12_count_36 : decode cX12_count 36 = .ok (.goto (-27), 3) := by decide +kernel
theorem dX12_count_39 : decode cX12_count 39 = .ok (.iload_n 1, 1) := by decide +kernel
theorem dX12_count_40 : decode cX12_count 40 = .ok (.tableswitch 80 0 6 #[44, 51, 58, 63, 65, 70, 75], 44) := by decide +kernel
theorem dX12_count_84 : decode cX12_count 84 = .ok (.aload_n 0, 1) := by decide +kernel
theorem dX12_count_85 : decode cX12_count 85 = .ok (.getfield 9, 3) := by decide +kernel
theorem dX12_count_88 : decode cX12_count 88 = .ok (.iconst 0, 1) := by decide +kernel
theorem dX12_count_89 : decode cX12_count 89 = .ok (.iaload, 1) := by decide +kernel
theorem dX12_count_90 : decode cX12_count 90 = .ok (.ireturn, 1) := by decide +kernel
theorem dX12_count_91 : decode cX12_count 91 = .ok (.aload_n 0, 1) := by decide +kernel
theorem dX12_count_92 : decode cX12_count 92 = .ok (.getfield 9, 3) := by decide +kernel
theorem dX12_count_95 : decode cX12_count 95 = .ok (.iconst 1, 1) := by decide +kernel
theorem dX12_count_96 : decode cX12_count 96 = .ok (.iaload, 1) := by decide +kernel
theorem dX12_count_97 : decode cX12_count 97 = .ok (.ireturn, 1) := by decide +kernel
theorem dX12_count_98 : decode cX12_count 98 = .ok (.aload_n 0, 1) := by decide +kernel
theorem dX12_count_99 : decode cX12_count 99 = .ok (.invokevirtual 365, 3) := by decide +kernel
theorem dX12_count_102 : decode cX12_count 102 = .ok (.ireturn, 1) := by decide +kernel
theorem dX12_count_103 : decode cX12_count 103 = .ok (.iload_n 2, 1) := by decide +kernel
theorem dX12_count_104 : decode cX12_count 104 = .ok (.ireturn, 1) := by decide +kernel
theorem dX12_count_105 : decode cX12_count 105 = .ok (.aload_n 0, 1) := by decide +kernel
theorem dX12_count_106 : decode cX12_count 106 = .ok (.getfield 239, 3) := by decide +kernel
theorem dX12_count_109 : decode cX12_count 109 = .ok (.ireturn, 1) := by decide +kernel
theorem dX12_count_110 : decode cX12_count 110 = .ok (.aload_n 0, 1) := by decide +kernel
theorem dX12_count_111 : decode cX12_count 111 = .ok (.getfield 242, 3) := by decide +kernel
theorem dX12_count_114 : decode cX12_count 114 = .ok (.ireturn, 1) := by decide +kernel
theorem dX12_count_115 : decode cX12_count 115 = .ok (.aload_n 0, 1) := by decide +kernel
theorem dX12_count_116 : decode cX12_count 116 = .ok (.getfield 110, 3) := by decide +kernel
theorem dX12_count_119 : decode cX12_count 119 = .ok (.ireturn, 1) := by decide +kernel
theorem dX12_count_120 : decode cX12_count 120 = .ok (.iconst (-1), 1) := by decide +kernel
theorem dX12_count_121 : decode cX12_count 121 = .ok (.ireturn, 1) := by decide +kernel
