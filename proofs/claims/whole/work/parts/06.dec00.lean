theorem dX0_init_0 : decode cX0_init 0 = .ok (.aload_n 0, 1) := by decide +kernel
theorem dX0_init_1 : decode cX0_init 1 = .ok (.invokespecial 3, 3) := by decide +kernel
theorem dX0_init_4 : decode cX0_init 4 = .ok (.aload_n 0, 1) := by decide +kernel
theorem dX0_init_5 : decode cX0_init 5 = .ok (.bipush 6, 2) := by decide +kernel
theorem dX0_init_7 : decode cX0_init 7 = .ok (.newarray .int, 2) := by decide +kernel
theorem dX0_init_9 : decode cX0_init 9 = .ok (.putfield 9, 3) := by decide +kernel
theorem dX0_init_12 : decode cX0_init 12 = .ok (.aload_n 0, 1) := by decide +kernel
theorem dX0_init_13 : decode cX0_init 13 = .ok (.bipush 7, 2) := by decide +kernel
theorem dX0_init_15 : decode cX0_init 15 = .ok (.anewarray 15, 3) := by decide +kernel
theorem dX0_init_18 : decode cX0_init 18 = .ok (.putfield 17, 3) := by decide +kernel
theorem dX0_init_21 : decode cX0_init 21 = .ok (.aload_n 0, 1) := by decide +kernel
theorem dX0_init_22 : decode cX0_init 22 = .ok (.new 15, 3) := by decide +kernel
theorem dX0_init_25 : decode cX0_init 25 = .ok (.dup, 1) := by decide +kernel
theorem dX0_init_26 : decode cX0_init 26 = .ok (.invokespecial 21, 3) := by decide +kernel
theorem dX0_init_29 : decode cX0_init 29 = .ok (.putfield 22, 3) := by decide +kernel
theorem dX0_init_32 : decode cX0_init 32 = .ok (.aload_n 0, 1) := by decide +kernel
theorem dX0_init_33 : decode cX0_init 33 = .ok (.sipush 1296, 3) := by decide +kernel
theorem dX0_init_36 : decode cX0_init 36 = .ok (.newarray .long, 2) := by decide +kernel
theorem dX0_init_38 : decode cX0_init 38 = .ok (.putfield 26, 3) := by decide +kernel
theorem dX0_init_41 : decode cX0_init 41 = .ok (.aload_n 0, 1) := by decide +kernel
theorem dX0_init_42 : decode cX0_init 42 = .ok (.sipush 1296, 3) := by decide +kernel
theorem dX0_init_45 : decode cX0_init 45 = .ok (.newarray .long, 2) := by decide +kernel
theorem dX0_init_47 : decode cX0_init 47 = .ok (.putfield 30, 3) := by decide +kernel
theorem dX0_init_50 : decode cX0_init 50 = .ok (.aload_n 0, 1) := by decide +kernel
theorem dX0_init_51 : decode cX0_init 51 = .ok (.sipush 4096, 3) := by decide +kernel
theorem dX0_init_54 : decode cX0_init 54 = .ok (.newarray .int, 2) := by decide +kernel
theorem dX0_init_56 : decode cX0_init 56 = .ok (.putfield 33, 3) := by decide +kernel
theorem dX0_init_59 : decode cX0_init 59 = .ok (.aload_n 0, 1) := by decide +kernel
theorem dX0_init_60 : decode cX0_init 60 = .ok (.aload_n 1, 1) := by decide +kernel
theorem dX0_init_61 : decode cX0_init 61 = .ok (.putfield 36, 3) := by decide +kernel
theorem dX0_init_64 : decode cX0_init 64 = .ok (.aload_n 0, 1) := by decide +kernel
theorem dX0_init_65 : decode cX0_init 65 = .ok (.aload_n 2, 1) := by decide +kernel
theorem dX0_init_66 : decode cX0_init 66 = .ok (.putfield 40, 3) := by decide +kernel
theorem dX0_init_69 : decode cX0_init 69 = .ok (.iconst 0, 1) := by decide +kernel
theorem dX0_init_70 : decode cX0_init 70 = .ok (.istore_n 3, 1) := by decide +kernel
theorem dX0_init_71 : decode cX0_init 71 = .ok (.iload_n 3, 1) := by decide +kernel
theorem dX0_init_72 : decode cX0_init 72 = .ok (.bipush 6, 2) := by decide +kernel
theorem dX0_init_74 : decode cX0_init 74 = .ok (.if_icmp .gt 22, 3) := by decide +kernel
theorem dX0_init_77 : decode cX0_init 77 = .ok (.aload_n 0, 1) := by decide +kernel
theorem dX0_init_78 : decode cX0_init 78 = .ok (.getfield 17, 3) := by decide +kernel
theorem dX0_init_81 : decode cX0_init 81 = .ok (.iload_n 3, 1) := by decide +kernel
theorem dX0_init_82 : decode cX0_init 82 = .ok (.new 15, 3) := by decide +kernel
theorem dX0_init_85 : decode cX0_init 85 = .ok (.dup, 1) := by decide +kernel
theorem dX0_init_86 : decode cX0_init 86 = .ok (.invokespecial 21, 3) := by decide +kernel
theorem dX0_init_89 : decode cX0_init 89 = .ok (.aastore, 1) := by decide +kernel
theorem dX0_init_90 : decode cX0_init 90 = .ok (.iinc 3 1, 3) := by decide +kernel
theorem dX0_init_93 : decode cX0_init 93 = .ok (.goto (-22), 3) := by decide +kernel
theorem dX0_init_96 : decode cX0_init 96 = .ok (.return_, 1) := by decide +kernel
theorem dX0_goDown_0 : decode cX0_goDown 0 = .ok (.aload_n 0, 1) := by decide +kernel
theorem dX0_goDown_1 : decode cX0_goDown 1 = .ok (.getfield 17, 3) := by decide +kernel
theorem dX0_goDown_4 : decode cX0_goDown 4 = .ok (.iload_n 1, 1) := by decide +kernel
theorem dX0_goDown_5 : decode cX0_goDown 5 = .ok (.iconst 1, 1) := by decide +kernel
theorem dX0_goDown_6 : decode cX0_goDown 6 = .ok (.iadd, 1) := by decide +kernel
theorem dX0_goDown_7 : decode cX0_goDown 7 = .ok (.aaload, 1) := by decide +kernel
theorem dX0_goDown_8 : decode cX0_goDown 8 = .ok (.aload_n 0, 1) := by decide +kernel
theorem dX0_goDown_9 : decode cX0_goDown 9 = .ok (.getfield 17, 3) := by decide +kernel
theorem dX0_goDown_12 : decode cX0_goDown 12 = .ok (.iload_n 1, 1) := by decide +kernel
theorem dX0_goDown_13 : decode cX0_goDown 13 = .ok (.aaload, 1) := by decide +kernel
theorem dX0_goDown_14 : decode cX0_goDown 14 = .ok (.invokevirtual 44, 3) := by decide +kernel
theorem dX0_goDown_17 : decode cX0_goDown 17 = .ok (.aload_n 0, 1) := by decide +kernel
theorem dX0_goDown_18 : decode cX0_goDown 18 = .ok (.getfield 40, 3) := by decide +kernel
theorem dX0_goDown_21 : decode cX0_goDown 21 = .ok (.aload_n 0, 1) := by decide +kernel
theorem dX0_goDown_22 : decode cX0_goDown 22 = .ok (.getfield 17, 3) := by decide +kernel
theorem dX0_goDown_25 : decode cX0_goDown 25 = .ok (.iload_n 1, 1) := by decide +kernel
theorem dX0_goDown_26 : decode cX0_goDown 26 = .ok (.iconst 1, 1) := by decide +kernel
theorem dX0_goDown_27 : decode cX0_goDown 27 = .ok (.iadd, 1) := by decide +kernel
theorem dX0_goDown_28 : decode cX0_goDown 28 = .ok (.aaload, 1) := by decide +kernel
theorem dX0_goDown_29 : decode cX0_goDown 29 = .ok (.iload_n 2, 1) := by decide +kernel
theorem dX0_goDown_30 : decode cX0_goDown 30 = .ok (.invokevirtual 48, 3) := by decide +kernel
theorem dX0_goDown_33 : decode cX0_goDown 33 = .ok (.pop, 1) := by decide +kernel
theorem dX0_goDown_34 : decode cX0_goDown 34 = .ok (.return_, 1) := by decide +kernel
theorem dX0_countFrom_0 : decode cX0_countFrom 0 = .ok (.aload_n 0, 1) := by decide +kernel
theorem dX0_countFrom_1 : decode cX0_countFrom 1 = .ok (.getfield 17, 3) := by decide +kernel
theorem dX0_countFrom_4 : decode cX0_countFrom 4 = .ok (.iconst 0, 1) := by decide +kernel
theorem dX0_countFrom_5 : decode cX0_countFrom 5 = .ok (.aaload, 1) := by decide +kernel
theorem dX0_countFrom_6 : decode cX0_countFrom 6 = .ok (.aload_n 1, 1) := by decide +kernel
theorem dX0_countFrom_7 : decode cX0_countFrom 7 = .ok (.invokevirtual 44, 3) := by decide +kernel
theorem dX0_countFrom_10 : decode cX0_countFrom 10 = .ok (.aload_n 0, 1) := by decide +kernel
theorem dX0_countFrom_11 : decode cX0_countFrom 11 = .ok (.iconst 0, 1) := by decide +kernel
theorem dX0_countFrom_12 : decode cX0_countFrom 12 = .ok (.iload_n 2, 1) := by decide +kernel
theorem dX0_countFrom_13 : decode cX0_countFrom 13 = .ok (.invokevirtual 54, 3) := by decide +kernel
theorem dX0_countFrom_16 : decode cX0_countFrom 16 = .ok (.ireturn, 1) := by decide +kernel
theorem dX0_countRows_0 : decode cX0_countRows 0 = .ok (.iload_n 1, 1) := by decide +kernel
theorem dX0_countRows_1 : decode cX0_countRows 1 = .ok (.iload_n 2, 1) := by decide +kernel
theorem dX0_countRows_2 : decode cX0_countRows 2 = .ok (.if_icmp .ge 9, 3) := by decide +kernel
theorem dX0_countRows_5 : decode cX0_countRows 5 = .ok (.iload_n 1, 1) := by decide +kernel
theorem dX0_countRows_6 : decode cX0_countRows 6 = .ok (.bipush 6, 2) := by decide +kernel
theorem dX0_countRows_8 : decode cX0_countRows 8 = .ok (.if_icmp .lt 5, 3) := by decide +kernel
theorem dX0_countRows_11 : decode cX0_countRows 11 = .ok (.iconst 1, 1) := by decide +kernel
theorem dX0_countRows_12 : decode cX0_countRows 12 = .ok (.ireturn, 1) := by decide +kernel
theorem dX0_countRows_13 : decode cX0_countRows 13 = .ok (.aload_n 0, 1) := by decide +kernel
theorem dX0_countRows_14 : decode cX0_countRows 14 = .ok (.getfield 40, 3) := by decide +kernel
theorem dX0_countRows_17 : decode cX0_countRows 17 = .ok (.aload_n 0, 1) := by decide +kernel
theorem dX0_countRows_18 : decode cX0_countRows 18 = .ok (.getfield 17, 3) := by decide +kernel
theorem dX0_countRows_21 : decode cX0_countRows 21 = .ok (.iload_n 1, 1) := by decide +kernel
theorem dX0_countRows_22 : decode cX0_countRows 22 = .ok (.aaload, 1) := by decide +kernel
theorem dX0_countRows_23 : decode cX0_countRows 23 = .ok (.invokevirtual 58, 3) := by decide +kernel
theorem dX0_countRows_26 : decode cX0_countRows 26 = .ok (.istore_n 3, 1) := by decide +kernel
theorem dX0_countRows_27 : decode cX0_countRows 27 = .ok (.iload_n 1, 1) := by decide +kernel
theorem dX0_countRows_28 : decode cX0_countRows 28 = .ok (.iload_n 2, 1) := by decide +kernel
theorem dX0_countRows_29 : decode cX0_countRows 29 = .ok (.iconst 1, 1) := by decide +kernel
theorem dX0_countRows_30 : decode cX0_countRows 30 = .ok (.isub, 1) := by decide +kernel
theorem dX0_countRows_31 : decode cX0_countRows 31 = .ok (.if_icmp .ne 8, 3) := by decide +kernel
theorem dX0_countRows_34 : decode cX0_countRows 34 = .ok (.iload_n 3, 1) := by decide +kernel
theorem dX0_countRows_35 : decode cX0_countRows 35 = .ok (.invokestatic 62, 3) := by decide +kernel
theorem dX0_countRows_38 : decode cX0_countRows 38 = .ok (.ireturn, 1) := by decide +kernel
theorem dX0_countRows_39 : decode cX0_countRows 39 = .ok (.iconst 0, 1) := by decide +kernel
theorem dX0_countRows_40 : decode cX0_countRows 40 = .ok (.istore 4, 2) := by decide +kernel
theorem dX0_countRows_42 : decode cX0_countRows 42 = .ok (.iconst 0, 1) := by decide +kernel
theorem dX0_countRows_43 : decode cX0_countRows 43 = .ok (.istore 5, 2) := by decide +kernel
theorem dX0_countRows_45 : decode cX0_countRows 45 = .ok (.iload 5, 2) := by decide +kernel
theorem dX0_countRows_47 : decode cX0_countRows 47 = .ok (.bipush 12, 2) := by decide +kernel
theorem dX0_countRows_49 : decode cX0_countRows 49 = .ok (.if_icmp .ge 38, 3) := by decide +kernel
theorem dX0_countRows_52 : decode cX0_countRows 52 = .ok (.iload_n 3, 1) := by decide +kernel
theorem dX0_countRows_53 : decode cX0_countRows 53 = .ok (.iload 5, 2) := by decide +kernel
theorem dX0_countRows_55 : decode cX0_countRows 55 = .ok (.invokestatic 68, 3) := by decide +kernel
theorem dX0_countRows_58 : decode cX0_countRows 58 = .ok (.ifCond .eq 23, 3) := by decide +kernel
theorem dX0_countRows_61 : decode cX0_countRows 61 = .ok (.aload_n 0, 1) := by decide +kernel
theorem dX0_countRows_62 : decode cX0_countRows 62 = .ok (.iload_n 1, 1) := by decide +kernel
theorem dX0_countRows_63 : decode cX0_countRows 63 = .ok (.iload 5, 2) := by decide +kernel
theorem dX0_countRows_65 : decode cX0_countRows 65 = .ok (.invokevirtual 72, 3) := by decide +kernel
theorem dX0_countRows_68 : decode cX0_countRows 68 = .ok (.iload 4, 2) := by decide +kernel
theorem dX0_countRows_70 : decode cX0_countRows 70 = .ok (.aload_n 0, 1) := by decide +kernel
theorem dX0_countRows_71 : decode cX0_countRows 71 = .ok (.iload_n 1, 1) := by decide +kernel
theorem dX0_countRows_72 : decode cX0_countRows 72 = .ok (.iconst 1, 1) := by decide +kernel
theorem dX0_countRows_73 : decode cX0_countRows 73 = .ok (.iadd, 1) := by decide +kernel
theorem dX0_countRows_74 : decode cX0_countRows 74 = .ok (.iload_n 2, 1) := by decide +kernel
theorem dX0_countRows_75 : decode cX0_countRows 75 = .ok (.invokevirtual 54, 3) := by decide +kernel
theorem dX0_countRows_78 : decode cX0_countRows 78 = .ok (.iadd, 1) := by decide +kernel
theorem dX0_countRows_79 : decode cX0_countRows 79 = .ok (.istore 4, 2) := by decide +kernel
theorem dX0_countRows_81 : decode cX0_countRows 81 = .ok (.iinc 5 1, 3) := by decide +kernel
theorem dX0_countRows_84 : decode cX0_countRows 84 = .ok (.goto (-39), 3) := by decide +kernel
theorem dX0_countRows_87 : decode cX0_countRows 87 = .ok (.iload 4, 2) := by decide +kernel
theorem dX0_countRows_89 : decode cX0_countRows 89 = .ok (.ireturn, 1) := by decide +kernel
theorem dX0_countUnlike_0 : decode cX0_countUnlike 0 = .ok (.aload_n 0, 1) := by decide +kernel
theorem dX0_countUnlike_1 : decode cX0_countUnlike 1 = .ok (.getfield 17, 3) := by decide +kernel
theorem dX0_countUnlike_4 : decode cX0_countUnlike 4 = .ok (.iconst 0, 1) := by decide +kernel
theorem dX0_countUnlike_5 : decode cX0_countUnlike 5 = .ok (.aaload, 1) := by decide +kernel
theorem dX0_countUnlike_6 : decode cX0_countUnlike 6 = .ok (.aload_n 1, 1) := by decide +kernel
theorem dX0_countUnlike_7 : decode cX0_countUnlike 7 = .ok (.invokevirtual 44, 3) := by decide +kernel
theorem dX0_countUnlike_10 : decode cX0_countUnlike 10 = .ok (.aload_n 0, 1) := by decide +kernel
theorem dX0_countUnlike_11 : decode cX0_countUnlike 11 = .ok (.iconst 0, 1) := by decide +kernel
theorem dX0_countUnlike_12 : decode cX0_countUnlike 12 = .ok (.putfield 76, 3) := by decide +kernel
theorem dX0_countUnlike_15 : decode cX0_countUnlike 15 = .ok (.iconst 0, 1) := by decide +kernel
theorem dX0_countUnlike_16 : decode cX0_countUnlike 16 = .ok (.istore_n 3, 1) := by decide +kernel
theorem dX0_countUnlike_17 : decode cX0_countUnlike 17 = .ok (.iload_n 3, 1) := by decide +kernel
theorem dX0_countUnlike_18 : decode cX0_countUnlike 18 = .ok (.sipush 4096, 3) := by decide +kernel
theorem dX0_countUnlike_21 : decode cX0_countUnlike 21 = .ok (.if_icmp .ge 16, 3) := by decide +kernel
theorem dX0_countUnlike_24 : decode cX0_countUnlike 24 = .ok (.aload_n 0, 1) := by decide +kernel
theorem dX0_countUnlike_25 : decode cX0_countUnlike 25 = .ok (.getfield 33, 3) := by decide +kernel
theorem dX0_countUnlike_28 : decode cX0_countUnlike 28 = .ok (.iload_n 3, 1) := by decide +kernel
theorem dX0_countUnlike_29 : decode cX0_countUnlike 29 = .ok (.iconst 0, 1) := by decide +kernel
theorem dX0_countUnlike_30 : decode cX0_countUnlike 30 = .ok (.iastore, 1) := by decide +kernel
theorem dX0_countUnlike_31 : decode cX0_countUnlike 31 = .ok (.iinc 3 1, 3) := by decide +kernel
theorem dX0_countUnlike_34 : decode cX0_countUnlike 34 = .ok (.goto (-17), 3) := by decide +kernel
theorem dX0_countUnlike_37 : decode cX0_countUnlike 37 = .ok (.aload_n 0, 1) := by decide +kernel
theorem dX0_countUnlike_38 : decode cX0_countUnlike 38 = .ok (.iconst 0, 1) := by decide +kernel
theorem dX0_countUnlike_39 : decode cX0_countUnlike 39 = .ok (.iload_n 2, 1) := by decide +kernel
theorem dX0_countUnlike_40 : decode cX0_countUnlike 40 = .ok (.invokevirtual 80, 3) := by decide +kernel
theorem dX0_countUnlike_43 : decode cX0_countUnlike 43 = .ok (.aload_n 0, 1) := by decide +kernel
theorem dX0_countUnlike_44 : decode cX0_countUnlike 44 = .ok (.getfield 76, 3) := by decide +kernel
theorem dX0_countUnlike_47 : decode cX0_countUnlike 47 = .ok (.ireturn, 1) := by decide +kernel
theorem dX0_gather_0 : decode cX0_gather 0 = .ok (.iload_n 1, 1) := by decide +kernel
theorem dX0_gather_1 : decode cX0_gather 1 = .ok (.iload_n 2, 1) := by decide +kernel
theorem dX0_gather_2 : decode cX0_gather 2 = .ok (.if_icmp .ge 9, 3) := by decide +kernel
theorem dX0_gather_5 : decode cX0_gather 5 = .ok (.iload_n 1, 1) := by decide +kernel
theorem dX0_gather_6 : decode cX0_gather 6 = .ok (.bipush 6, 2) := by decide +kernel
theorem dX0_gather_8 : decode cX0_gather 8 = .ok (.if_icmp .lt 14, 3) := by decide +kernel
theorem dX0_gather_11 : decode cX0_gather 11 = .ok (.aload_n 0, 1) := by decide +kernel
theorem dX0_gather_12 : decode cX0_gather 12 = .ok (.aload_n 0, 1) := by decide +kernel
theorem dX0_gather_13 : decode cX0_gather 13 = .ok (.getfield 17, 3) := by decide +kernel
theorem dX0_gather_16 : decode cX0_gather 16 = .ok (.iload_n 1, 1) := by decide +kernel
theorem dX0_gather_17 : decode cX0_gather 17 = .ok (.aaload, 1) := by decide +kernel
theorem dX0_gather_18 : decode cX0_gather 18 = .ok (.invokevirtual 83, 3) := by decide +kernel
theorem dX0_gather_21 : decode cX0_gather 21 = .ok (.return_, 1) := by decide +kernel
theorem dX0_gather_22 : decode cX0_gather 22 = .ok (.aload_n 0, 1) := by decide +kernel
theorem dX0_gather_23 : decode cX0_gather 23 = .ok (.getfield 40, 3) := by decide +kernel
theorem dX0_gather_26 : decode cX0_gather 26 = .ok (.aload_n 0, 1) := by decide +kernel
theorem dX0_gather_27 : decode cX0_gather 27 = .ok (.getfield 17, 3) := by decide +kernel
theorem dX0_gather_30 : decode cX0_gather 30 = .ok (.iload_n 1, 1) := by decide +kernel
theorem dX0_gather_31 : decode cX0_gather 31 = .ok (.aaload, 1) := by decide +kernel
theorem dX0_gather_32 : decode cX0_gather 32 = .ok (.invokevirtual 58, 3) := by decide +kernel
theorem dX0_gather_35 : decode cX0_gather 35 = .ok (.istore_n 3, 1) := by decide +kernel
theorem dX0_gather_36 : decode cX0_gather 36 = .ok (.iconst 0, 1) := by decide +kernel
theorem dX0_gather_37 : decode cX0_gather 37 = .ok (.istore 4, 2) := by decide +kernel
theorem dX0_gather_39 : decode cX0_gather 39 = .ok (.iload 4, 2) := by decide +kernel
theorem dX0_gather_41 : decode cX0_gather 41 = .ok (.bipush 12, 2) := by decide +kernel
theorem dX0_gather_43 : decode cX0_gather 43 = .ok (.if_icmp .ge 33, 3) := by decide +kernel
theorem dX0_gather_46 : decode cX0_gather 46 = .ok (.iload_n 3, 1) := by decide +kernel
theorem dX0_gather_47 : decode cX0_gather 47 = .ok (.iload 4, 2) := by decide +kernel
theorem dX0_gather_49 : decode cX0_gather 49 = .ok (.invokestatic 68, 3) := by decide +kernel
theorem dX0_gather_52 : decode cX0_gather 52 = .ok (.ifCond .eq 18, 3) := by decide +kernel
theorem dX0_gather_55 : decode cX0_gather 55 = .ok (.aload_n 0, 1) := by decide +kernel
theorem dX0_gather_56 : decode cX0_gather 56 = .ok (.iload_n 1, 1) := by decide +kernel
theorem dX0_gather_57 : decode cX0_gather 57 = .ok (.iload 4, 2) := by decide +kernel
theorem dX0_gather_59 : decode cX0_gather 59 = .ok (.invokevirtual 72, 3) := by decide +kernel
theorem dX0_gather_62 : decode cX0_gather 62 = .ok (.aload_n 0, 1) := by decide +kernel
theorem dX0_gather_63 : decode cX0_gather 63 = .ok (.iload_n 1, 1) := by decide +kernel
theorem dX0_gather_64 : decode cX0_gather 64 = .ok (.iconst 1, 1) := by decide +kernel
theorem dX0_gather_65 : decode cX0_gather 65 = .ok (.iadd, 1) := by decide +kernel
theorem dX0_gather_66 : decode cX0_gather 66 = .ok (.iload_n 2, 1) := by decide +kernel
theorem dX0_gather_67 : decode cX0_gather 67 = .ok (.invokevirtual 80, 3) := by decide +kernel
theorem dX0_gather_70 : decode cX0_gather 70 = .ok (.iinc 4 1, 3) := by decide +kernel
theorem dX0_gather_73 : decode cX0_gather 73 = .ok (.goto (-34), 3) := by decide +kernel
theorem dX0_gather_76 : decode cX0_gather 76 = .ok (.return_, 1) := by decide +kernel
theorem dX0_note_0 : decode cX0_note 0 = .ok (.aload_n 1, 1) := by decide +kernel
theorem dX0_note_1 : decode cX0_note 1 = .ok (.getfield 86, 3) := by decide +kernel
theorem dX0_note_4 : decode cX0_note 4 = .ok (.iconst 0, 1) := by decide +kernel
theorem dX0_note_5 : decode cX0_note 5 = .ok (.bipush 7, 2) := by decide +kernel
theorem dX0_note_7 : decode cX0_note 7 = .ok (.invokestatic 89, 3) := by decide +kernel
theorem dX0_note_10 : decode cX0_note 10 = .ok (.lstore_n 2, 1) := by decide +kernel
theorem dX0_note_11 : decode cX0_note 11 = .ok (.aload_n 1, 1) := by decide +kernel
theorem dX0_note_12 : decode cX0_note 12 = .ok (.getfield 86, 3) := by decide +kernel
theorem dX0_note_15 : decode cX0_note 15 = .ok (.bipush 7, 2) := by decide +kernel
theorem dX0_note_17 : decode cX0_note 17 = .ok (.bipush 14, 2) := by decide +kernel
theorem dX0_note_19 : decode cX0_note 19 = .ok (.invokestatic 89, 3) := by decide +kernel
theorem dX0_note_22 : decode cX0_note 22 = .ok (.ldc2_w 93, 3) := by decide +kernel
theorem dX0_note_25 : decode cX0_note 25 = .ok (.lmul, 1) := by decide +kernel
theorem dX0_note_26 : decode cX0_note 26 = .ok (.aload_n 1, 1) := by decide +kernel
theorem dX0_note_27 : decode cX0_note 27 = .ok (.getfield 95, 3) := by decide +kernel
theorem dX0_note_30 : decode cX0_note 30 = .ok (.i2l, 1) := by decide +kernel
theorem dX0_note_31 : decode cX0_note 31 = .ok (.ladd, 1) := by decide +kernel
theorem dX0_note_32 : decode cX0_note 32 = .ok (.lstore 4, 2) := by decide +kernel
theorem dX0_note_34 : decode cX0_note 34 = .ok (.lload_n 2, 1) := by decide +kernel
theorem dX0_note_35 : decode cX0_note 35 = .ok (.ldc2_w 98, 3) := by decide +kernel
theorem dX0_note_38 : decode cX0_note 38 = .ok (.lmul, 1) := by decide +kernel
theorem dX0_note_39 : decode cX0_note 39 = .ok (.lload 4, 2) := by decide +kernel
theorem dX0_note_41 : decode cX0_note 41 = .ok (.ladd, 1) := by decide +kernel
theorem dX0_note_42 : decode cX0_note 42 = .ok (.ldc2_w 100, 3) := by decide +kernel
theorem dX0_note_45 : decode cX0_note 45 = .ok (.lmul, 1) := by decide +kernel
theorem dX0_note_46 : decode cX0_note 46 = .ok (.lstore 6, 2) := by decide +kernel
theorem dX0_note_48 : decode cX0_note 48 = .ok (.lload 6, 2) := by decide +kernel
theorem dX0_note_50 : decode cX0_note 50 = .ok (.bipush 52, 2) := by decide +kernel
theorem dX0_note_52 : decode cX0_note 52 = .ok (.lushr, 1) := by decide +kernel
theorem dX0_note_53 : decode cX0_note 53 = .ok (.l2i, 1) := by decide +kernel
theorem dX0_note_54 : decode cX0_note 54 = .ok (.istore 8, 2) := by decide +kernel
theorem dX0_note_56 : decode cX0_note 56 = .ok (.iconst 0, 1) := by decide +kernel
theorem dX0_note_57 : decode cX0_note 57 = .ok (.istore 9, 2) := by decide +kernel
theorem dX0_note_59 : decode cX0_note 59 = .ok (.iload 9, 2) := by decide +kernel
theorem dX0_note_61 : decode cX0_note 61 = .ok (.sipush 4096, 3) := by decide +kernel
theorem dX0_note_64 : decode cX0_note 64 = .ok (.if_icmp .ge 116, 3) := by decide +kernel
theorem dX0_note_67 : decode cX0_note 67 = .ok (.aload_n 0, 1) := by decide +kernel
theorem dX0_note_68 : decode cX0_note 68 = .ok (.getfield 76, 3) := by decide +kernel
theorem dX0_note_71 : decode cX0_note 71 = .ok (.sipush 1296, 3) := by decide +kernel
theorem dX0_note_74 : decode cX0_note 74 = .ok (.if_icmp .ge 106, 3) := by decide +kernel
theorem dX0_note_77 : decode cX0_note 77 = .ok (.aload_n 0, 1) := by decide +kernel
theorem dX0_note_78 : decode cX0_note 78 = .ok (.getfield 33, 3) := by decide +kernel
theorem dX0_note_81 : decode cX0_note 81 = .ok (.iload 8, 2) := by decide +kernel
theorem dX0_note_83 : decode cX0_note 83 = .ok (.iaload, 1) := by decide +kernel
theorem dX0_note_84 : decode cX0_note 84 = .ok (.istore 10, 2) := by decide +kernel
theorem dX0_note_86 : decode cX0_note 86 = .ok (.iload 10, 2) := by decide +kernel
theorem dX0_note_88 : decode cX0_note 88 = .ok (.ifCond .ne 46, 3) := by decide +kernel
theorem dX0_note_91 : decode cX0_note 91 = .ok (.aload_n 0, 1) := by decide +kernel
theorem dX0_note_92 : decode cX0_note 92 = .ok (.getfield 26, 3) := by decide +kernel
theorem dX0_note_95 : decode cX0_note 95 = .ok (.aload_n 0, 1) := by decide +kernel
theorem dX0_note_96 : decode cX0_note 96 = .ok (.getfield 76, 3) := by decide +kernel
theorem dX0_note_99 : decode cX0_note 99 = .ok (.lload_n 2, 1) := by decide +kernel
theorem dX0_note_100 : decode cX0_note 100 = .ok (.lastore, 1) := by decide +kernel
theorem dX0_note_101 : decode cX0_note 101 = .ok (.aload_n 0, 1) := by decide +kernel
theorem dX0_note_102 : decode cX0_note 102 = .ok (.getfield 30, 3) := by decide +kernel
theorem dX0_note_105 : decode cX0_note 105 = .ok (.aload_n 0, 1) := by decide +kernel
theorem dX0_note_106 : decode cX0_note 106 = .ok (.getfield 76, 3) := by decide +kernel
theorem dX0_note_109 : decode cX0_note 109 = .ok (.lload 4, 2) := by decide +kernel
theorem dX0_note_111 : decode cX0_note 111 = .ok (.lastore, 1) := by decide +kernel
theorem dX0_note_112 : decode cX0_note 112 = .ok (.aload_n 0, 1) := by decide +kernel
theorem dX0_note_113 : decode cX0_note 113 = .ok (.dup, 1) := by decide +kernel
theorem dX0_note_114 : decode cX0_note 114 = .ok (.getfield 76, 3) := by decide +kernel
theorem dX0_note_117 : decode cX0_note 117 = .ok (.iconst 1, 1) := by decide +kernel
theorem dX0_note_118 : decode cX0_note 118 = .ok (.iadd, 1) := by decide +kernel
theorem dX0_note_119 : decode cX0_note 119 = .ok (.putfield 76, 3) := by decide +kernel
theorem dX0_note_122 : decode cX0_note 122 = .ok (.aload_n 0, 1) := by decide +kernel
theorem dX0_note_123 : decode cX0_note 123 = .ok (.getfield 33, 3) := by decide +kernel
theorem dX0_note_126 : decode cX0_note 126 = .ok (.iload 8, 2) := by decide +kernel
theorem dX0_note_128 : decode cX0_note 128 = .ok (.aload_n 0, 1) := by decide +kernel
theorem dX0_note_129 : decode cX0_note 129 = .ok (.getfield 76, 3) := by decide +kernel
theorem dX0_note_132 : decode cX0_note 132 = .ok (.iastore, 1) := by decide +kernel
theorem dX0_note_133 : decode cX0_note 133 = .ok (.return_, 1) := by decide +kernel
theorem dX0_note_134 : decode cX0_note 134 = .ok (.aload_n 0, 1) := by decide +kernel
theorem dX0_note_135 : decode cX0_note 135 = .ok (.getfield 26, 3) := by decide +kernel
theorem dX0_note_138 : decode cX0_note 138 = .ok (.iload 10, 2) := by decide +kernel
theorem dX0_note_140 : decode cX0_note 140 = .ok (.iconst 1, 1) := by decide +kernel
theorem dX0_note_141 : decode cX0_note 141 = .ok (.isub, 1) := by decide +kernel
theorem dX0_note_142 : decode cX0_note 142 = .ok (.laload, 1) := by decide +kernel
theorem dX0_note_143 : decode cX0_note 143 = .ok (.lload_n 2, 1) := by decide +kernel
theorem dX0_note_144 : decode cX0_note 144 = .ok (.lcmp, 1) := by decide +kernel
theorem dX0_note_145 : decode cX0_note 145 = .ok (.ifCond .ne 19, 3) := by decide +kernel
theorem dX0_note_148 : decode cX0_note 148 = .ok (.aload_n 0, 1) := by decide +kernel
theorem dX0_note_149 : decode cX0_note 149 = .ok (.getfield 30, 3) := by decide +kernel
theorem dX0_note_152 : decode cX0_note 152 = .ok (.iload 10, 2) := by decide +kernel
theorem dX0_note_154 : decode cX0_note 154 = .ok (.iconst 1, 1) := by decide +kernel
theorem dX0_note_155 : decode cX0_note 155 = .ok (.isub, 1) := by decide +kernel
theorem dX0_note_156 : decode cX0_note 156 = .ok (.laload, 1) := by decide +kernel
theorem dX0_note_157 : decode cX0_note 157 = .ok (.lload 4, 2) := by decide +kernel
theorem dX0_note_159 : decode cX0_note 159 = .ok (.lcmp, 1) := by decide +kernel
theorem dX0_note_160 : decode cX0_note 160 = .ok (.ifCond .ne 4, 3) := by decide +kernel
theorem dX0_note_163 : decode cX0_note 163 = .ok (.return_, 1) := by decide +kernel
theorem dX0_note_164 : decode cX0_note 164 = .ok (.iload 8, 2) := by decide +kernel
theorem dX0_note_166 : decode cX0_note 166 = .ok (.iconst 1, 1) := by decide +kernel
theorem dX0_note_167 : decode cX0_note 167 = .ok (.iadd, 1) := by decide +kernel
theorem dX0_note_168 : decode cX0_note 168 = .ok (.sipush 4095, 3) := by decide +kernel
theorem dX0_note_171 : decode cX0_note 171 = .ok (.iand, 1) := by decide +kernel
theorem dX0_note_172 : decode cX0_note 172 = .ok (.istore 8, 2) := by decide +kernel
theorem dX0_note_174 : decode cX0_note 174 = .ok (.iinc 9 1, 3) := by decide +kernel
theorem dX0_note_177 : decode cX0_note 177 = .ok (.goto (-118), 3) := by decide +kernel
theorem dX0_note_180 : decode cX0_note 180 = .ok (.return_, 1) := by decide +kernel
theorem dX0_packed_0 : decode cX0_packed 0 = .ok (.lconst 0, 1) := by decide +kernel
theorem dX0_packed_1 : decode cX0_packed 1 = .ok (.lstore_n 3, 1) := by decide +kernel
theorem dX0_packed_2 : decode cX0_packed 2 = .ok (.iload_n 1, 1) := by decide +kernel
theorem dX0_packed_3 : decode cX0_packed 3 = .ok (.istore 5, 2) := by decide +kernel
theorem dX0_packed_5 : decode cX0_packed 5 = .ok (.iload 5, 2) := by decide +kernel
theorem dX0_packed_7 : decode cX0_packed 7 = .ok (.iload_n 2, 1) := by decide +kernel
theorem dX0_packed_8 : decode cX0_packed 8 = .ok (.if_icmp .ge 20, 3) := by decide +kernel
theorem dX0_packed_11 : decode cX0_packed 11 = .ok (.lload_n 3, 1) := by decide +kernel
theorem dX0_packed_12 : decode cX0_packed 12 = .ok (.bipush 8, 2) := by decide +kernel
theorem dX0_packed_14 : decode cX0_packed 14 = .ok (.lshl, 1) := by decide +kernel
theorem dX0_packed_15 : decode cX0_packed 15 = .ok (.aload_n 0, 1) := by decide +kernel
theorem dX0_packed_16 : decode cX0_packed 16 = .ok (.iload 5, 2) := by decide +kernel
theorem dX0_packed_18 : decode cX0_packed 18 = .ok (.iaload, 1) := by decide +kernel
theorem dX0_packed_19 : decode cX0_packed 19 = .ok (.i2l, 1) := by decide +kernel
theorem dX0_packed_20 : decode cX0_packed 20 = .ok (.lor, 1) := by decide +kernel
theorem dX0_packed_21 : decode cX0_packed 21 = .ok (.lstore_n 3, 1) := by decide +kernel
theorem dX0_packed_22 : decode cX0_packed 22 = .ok (.iinc 5 1, 3) := by decide +kernel
theorem dX0_packed_25 : decode cX0_packed 25 = .ok (.goto (-20), 3) := by decide +kernel
theorem dX0_packed_28 : decode cX0_packed 28 = .ok (.lload_n 3, 1) := by decide +kernel
theorem dX0_packed_29 : decode cX0_packed 29 = .ok (.lreturn, 1) := by decide +kernel
theorem dX0_seekEnd_0 : decode cX0_seekEnd 0 = .ok (.aload_n 0, 1) := by decide +kernel
theorem dX0_seekEnd_1 : decode cX0_seekEnd 1 = .ok (.getfield 102, 3) := by decide +kernel
theorem dX0_seekEnd_4 : decode cX0_seekEnd 4 = .ok (.ifCond .eq 33, 3) := by decide +kernel
theorem dX0_seekEnd_7 : decode cX0_seekEnd 7 = .ok (.aload_n 0, 1) := by decide +kernel
theorem dX0_seekEnd_8 : decode cX0_seekEnd 8 = .ok (.getfield 106, 3) := by decide +kernel
theorem dX0_seekEnd_11 : decode cX0_seekEnd 11 = .ok (.aload_n 0, 1) := by decide +kernel
theorem dX0_seekEnd_12 : decode cX0_seekEnd 12 = .ok (.getfield 36, 3) := by decide +kernel
theorem dX0_seekEnd_15 : decode cX0_seekEnd 15 = .ok (.invokevirtual 109, 3) := by decide +kernel
theorem dX0_seekEnd_18 : decode cX0_seekEnd 18 = .ok (.if_icmp .ne 19, 3) := by decide +kernel
theorem dX0_seekEnd_21 : decode cX0_seekEnd 21 = .ok (.aload_n 0, 1) := by decide +kernel
theorem dX0_seekEnd_22 : decode cX0_seekEnd 22 = .ok (.getfield 22, 3) := by decide +kernel
theorem dX0_seekEnd_25 : decode cX0_seekEnd 25 = .ok (.aload_n 1, 1) := by decide +kernel
theorem dX0_seekEnd_26 : decode cX0_seekEnd 26 = .ok (.invokevirtual 115, 3) := by decide +kernel
theorem dX0_seekEnd_29 : decode cX0_seekEnd 29 = .ok (.ifCond .eq 8, 3) := by decide +kernel
theorem dX0_seekEnd_32 : decode cX0_seekEnd 32 = .ok (.aload_n 0, 1) := by decide +kernel
theorem dX0_seekEnd_33 : decode cX0_seekEnd 33 = .ok (.getfield 119, 3) := by decide +kernel
theorem dX0_seekEnd_36 : decode cX0_seekEnd 36 = .ok (.ireturn, 1) := by decide +kernel
theorem dX0_seekEnd_37 : decode cX0_seekEnd 37 = .ok (.aload_n 0, 1) := by decide +kernel
theorem dX0_seekEnd_38 : decode cX0_seekEnd 38 = .ok (.iconst 1, 1) := by decide +kernel
theorem dX0_seekEnd_39 : decode cX0_seekEnd 39 = .ok (.putfield 102, 3) := by decide +kernel
theorem dX0_seekEnd_42 : decode cX0_seekEnd 42 = .ok (.aload_n 0, 1) := by decide +kernel
theorem dX0_seekEnd_43 : decode cX0_seekEnd 43 = .ok (.aload_n 0, 1) := by decide +kernel
theorem dX0_seekEnd_44 : decode cX0_seekEnd 44 = .ok (.getfield 36, 3) := by decide +kernel
theorem dX0_seekEnd_47 : decode cX0_seekEnd 47 = .ok (.invokevirtual 109, 3) := by decide +kernel
theorem dX0_seekEnd_50 : decode cX0_seekEnd 50 = .ok (.putfield 106, 3) := by decide +kernel
theorem dX0_seekEnd_53 : decode cX0_seekEnd 53 = .ok (.aload_n 0, 1) := by decide +kernel
theorem dX0_seekEnd_54 : decode cX0_seekEnd 54 = .ok (.getfield 22, 3) := by decide +kernel
theorem dX0_seekEnd_57 : decode cX0_seekEnd 57 = .ok (.aload_n 1, 1) := by decide +kernel
theorem dX0_seekEnd_58 : decode cX0_seekEnd 58 = .ok (.invokevirtual 44, 3) := by decide +kernel
theorem dX0_seekEnd_61 : decode cX0_seekEnd 61 = .ok (.aload_n 0, 1) := by decide +kernel
theorem dX0_seekEnd_62 : decode cX0_seekEnd 62 = .ok (.getfield 17, 3) := by decide +kernel
theorem dX0_seekEnd_65 : decode cX0_seekEnd 65 = .ok (.iconst 0, 1) := by decide +kernel
theorem dX0_seekEnd_66 : decode cX0_seekEnd 66 = .ok (.aaload, 1) := by decide +kernel
theorem dX0_seekEnd_67 : decode cX0_seekEnd 67 = .ok (.aload_n 1, 1) := by decide +kernel
theorem dX0_seekEnd_68 : decode cX0_seekEnd 68 = .ok (.invokevirtual 44, 3) := by decide +kernel
theorem dX0_seekEnd_71 : decode cX0_seekEnd 71 = .ok (.aload_n 0, 1) := by decide +kernel
theorem dX0_seekEnd_72 : decode cX0_seekEnd 72 = .ok (.iconst (-1), 1) := by decide +kernel
theorem dX0_seekEnd_73 : decode cX0_seekEnd 73 = .ok (.putfield 119, 3) := by decide +kernel
theorem dX0_seekEnd_76 : decode cX0_seekEnd 76 = .ok (.iconst 0, 1) := by decide +kernel
theorem dX0_seekEnd_77 : decode cX0_seekEnd 77 = .ok (.istore_n 2, 1) := by decide +kernel
theorem dX0_seekEnd_78 : decode cX0_seekEnd 78 = .ok (.iload_n 2, 1) := by decide +kernel
theorem dX0_seekEnd_79 : decode cX0_seekEnd 79 = .ok (.bipush 6, 2) := by decide +kernel
theorem dX0_seekEnd_81 : decode cX0_seekEnd 81 = .ok (.if_icmp .gt 31, 3) := by decide +kernel
theorem dX0_seekEnd_84 : decode cX0_seekEnd 84 = .ok (.aload_n 0, 1) := by decide +kernel
theorem dX0_seekEnd_85 : decode cX0_seekEnd 85 = .ok (.getfield 119, 3) := by decide +kernel
theorem dX0_seekEnd_88 : decode cX0_seekEnd 88 = .ok (.iconst (-1), 1) := by decide +kernel
theorem dX0_seekEnd_89 : decode cX0_seekEnd 89 = .ok (.if_icmp .ne 23, 3) := by decide +kernel
theorem dX0_seekEnd_92 : decode cX0_seekEnd 92 = .ok (.aload_n 0, 1) := by decide +kernel
theorem dX0_seekEnd_93 : decode cX0_seekEnd 93 = .ok (.iconst 0, 1) := by decide +kernel
theorem dX0_seekEnd_94 : decode cX0_seekEnd 94 = .ok (.iload_n 2, 1) := by decide +kernel
theorem dX0_seekEnd_95 : decode cX0_seekEnd 95 = .ok (.invokevirtual 122, 3) := by decide +kernel
theorem dX0_seekEnd_98 : decode cX0_seekEnd 98 = .ok (.ifCond .eq 8, 3) := by decide +kernel
theorem dX0_seekEnd_101 : decode cX0_seekEnd 101 = .ok (.aload_n 0, 1) := by decide +kernel
theorem dX0_seekEnd_102 : decode cX0_seekEnd 102 = .ok (.iload_n 2, 1) := by decide +kernel
theorem dX0_seekEnd_103 : decode cX0_seekEnd 103 = .ok (.putfield 119, 3) := by decide +kernel
theorem dX0_seekEnd_106 : decode cX0_seekEnd 106 = .ok (.iinc 2 1, 3) := by decide +kernel
theorem dX0_seekEnd_109 : decode cX0_seekEnd 109 = .ok (.goto (-31), 3) := by decide +kernel
theorem dX0_seekEnd_112 : decode cX0_seekEnd 112 = .ok (.aload_n 0, 1) := by decide +kernel
theorem dX0_seekEnd_113 : decode cX0_seekEnd 113 = .ok (.getfield 119, 3) := by decide +kernel
theorem dX0_seekEnd_116 : decode cX0_seekEnd 116 = .ok (.ireturn, 1) := by decide +kernel
theorem dX0_endsWithin_0 : decode cX0_endsWithin 0 = .ok (.iload_n 1, 1) := by decide +kernel
theorem dX0_endsWithin_1 : decode cX0_endsWithin 1 = .ok (.iload_n 2, 1) := by decide +kernel
theorem dX0_endsWithin_2 : decode cX0_endsWithin 2 = .ok (.if_icmp .ge 9, 3) := by decide +kernel
theorem dX0_endsWithin_5 : decode cX0_endsWithin 5 = .ok (.iload_n 1, 1) := by decide +kernel
theorem dX0_endsWithin_6 : decode cX0_endsWithin 6 = .ok (.bipush 6, 2) := by decide +kernel
theorem dX0_endsWithin_8 : decode cX0_endsWithin 8 = .ok (.if_icmp .lt 17, 3) := by decide +kernel
theorem dX0_endsWithin_11 : decode cX0_endsWithin 11 = .ok (.aload_n 0, 1) := by decide +kernel
theorem dX0_endsWithin_12 : decode cX0_endsWithin 12 = .ok (.getfield 40, 3) := by decide +kernel
theorem dX0_endsWithin_15 : decode cX0_endsWithin 15 = .ok (.aload_n 0, 1) := by decide +kernel
theorem dX0_endsWithin_16 : decode cX0_endsWithin 16 = .ok (.getfield 17, 3) := by decide +kernel
theorem dX0_endsWithin_19 : decode cX0_endsWithin 19 = .ok (.iload_n 1, 1) := by decide +kernel
theorem dX0_endsWithin_20 : decode cX0_endsWithin 20 = .ok (.aaload, 1) := by decide +kernel
theorem dX0_endsWithin_21 : decode cX0_endsWithin 21 = .ok (.invokevirtual 125, 3) := by decide +kernel
theorem dX0_endsWithin_24 : decode cX0_endsWithin 24 = .ok (.ireturn, 1) := by decide +kernel
theorem dX0_endsWithin_25 : decode cX0_endsWithin 25 = .ok (.aload_n 0, 1) := by decide +kernel
theorem dX0_endsWithin_26 : decode cX0_endsWithin 26 = .ok (.getfield 40, 3) := by decide +kernel
theorem dX0_endsWithin_29 : decode cX0_endsWithin 29 = .ok (.aload_n 0, 1) := by decide +kernel
theorem dX0_endsWithin_30 : decode cX0_endsWithin 30 = .ok (.getfield 17, 3) := by decide +kernel
theorem dX0_endsWithin_33 : decode cX0_endsWithin 33 = .ok (.iload_n 1, 1) := by decide +kernel
theorem dX0_endsWithin_34 : decode cX0_endsWithin 34 = .ok (.aaload, 1) := by decide +kernel
theorem dX0_endsWithin_35 : decode cX0_endsWithin 35 = .ok (.invokevirtual 58, 3) := by decide +kernel
theorem dX0_endsWithin_38 : decode cX0_endsWithin 38 = .ok (.istore_n 3, 1) := by decide +kernel
theorem dX0_endsWithin_39 : decode cX0_endsWithin 39 = .ok (.iconst 0, 1) := by decide +kernel
theorem dX0_endsWithin_40 : decode cX0_endsWithin 40 = .ok (.istore 4, 2) := by decide +kernel
theorem dX0_endsWithin_42 : decode cX0_endsWithin 42 = .ok (.iload 4, 2) := by decide +kernel
theorem dX0_endsWithin_44 : decode cX0_endsWithin 44 = .ok (.bipush 12, 2) := by decide +kernel
theorem dX0_endsWithin_46 : decode cX0_endsWithin 46 = .ok (.if_icmp .ge 46, 3) := by decide +kernel
theorem dX0_endsWithin_49 : decode cX0_endsWithin 49 = .ok (.iload_n 3, 1) := by decide +kernel
theorem dX0_endsWithin_50 : decode cX0_endsWithin 50 = .ok (.iload 4, 2) := by decide +kernel
theorem dX0_endsWithin_52 : decode cX0_endsWithin 52 = .ok (.invokestatic 68, 3) := by decide +kernel
theorem dX0_endsWithin_55 : decode cX0_endsWithin 55 = .ok (.ifCond .eq 31, 3) := by decide +kernel
theorem dX0_endsWithin_58 : decode cX0_endsWithin 58 = .ok (.aload_n 0, 1) := by decide +kernel
theorem dX0_endsWithin_59 : decode cX0_endsWithin 59 = .ok (.getfield 9, 3) := by decide +kernel
theorem dX0_endsWithin_62 : decode cX0_endsWithin 62 = .ok (.iload_n 1, 1) := by decide +kernel
theorem dX0_endsWithin_63 : decode cX0_endsWithin 63 = .ok (.iload 4, 2) := by decide +kernel
theorem dX0_endsWithin_65 : decode cX0_endsWithin 65 = .ok (.iastore, 1) := by decide +kernel
theorem dX0_endsWithin_66 : decode cX0_endsWithin 66 = .ok (.aload_n 0, 1) := by decide +kernel
theorem dX0_endsWithin_67 : decode cX0_endsWithin 67 = .ok (.iload_n 1, 1) := by decide +kernel
theorem dX0_endsWithin_68 : decode cX0_endsWithin 68 = .ok (.iload 4, 2) := by decide +kernel
theorem dX0_endsWithin_70 : decode cX0_endsWithin 70 = .ok (.invokevirtual 72, 3) := by decide +kernel
theorem dX0_endsWithin_73 : decode cX0_endsWithin 73 = .ok (.aload_n 0, 1) := by decide +kernel
theorem dX0_endsWithin_74 : decode cX0_endsWithin 74 = .ok (.iload_n 1, 1) := by decide +kernel
theorem dX0_endsWithin_75 : decode cX0_endsWithin 75 = .ok (.iconst 1, 1) := by decide +kernel
theorem dX0_endsWithin_76 : decode cX0_endsWithin 76 = .ok (.iadd, 1) := by decide +kernel
theorem dX0_endsWithin_77 : decode cX0_endsWithin 77 = .ok (.iload_n 2, 1) := by decide +kernel
theorem dX0_endsWithin_78 : decode cX0_endsWithin 78 = .ok (.invokevirtual 122, 3) := by decide +kernel
theorem dX0_endsWithin_81 : decode cX0_endsWithin 81 = .ok (.ifCond .eq 5, 3) := by decide +kernel
theorem dX0_endsWithin_84 : decode cX0_endsWithin 84 = .ok (.iconst 1, 1) := by decide +kernel
theorem dX0_endsWithin_85 : decode cX0_endsWithin 85 = .ok (.ireturn, 1) := by decide +kernel
theorem dX0_endsWithin_86 : decode cX0_endsWithin 86 = .ok (.iinc 4 1, 3) := by decide +kernel
theorem dX0_endsWithin_89 : decode cX0_endsWithin 89 = .ok (.goto (-47), 3) := by decide +kernel
theorem dX0_endsWithin_92 : decode cX0_endsWithin 92 = .ok (.iconst 0, 1) := by decide +kernel
theorem dX0_endsWithin_93 : decode cX0_endsWithin 93 = .ok (.ireturn, 1) := by decide +kernel
theorem dX1_init_0 : decode cX1_init 0 = .ok (.aload_n 0, 1) := by decide +kernel
theorem dX1_init_1 : decode cX1_init 1 = .ok (.invokespecial 3, 3) := by decide +kernel
theorem dX1_init_4 : decode cX1_init 4 = .ok (.aload_n 0, 1) := by decide +kernel
theorem dX1_init_5 : decode cX1_init 5 = .ok (.bipush 28, 2) := by decide +kernel
theorem dX1_init_7 : decode cX1_init 7 = .ok (.newarray .int, 2) := by decide +kernel
theorem dX1_init_9 : decode cX1_init 9 = .ok (.putfield 9, 3) := by decide +kernel
theorem dX1_init_12 : decode cX1_init 12 = .ok (.aload_n 0, 1) := by decide +kernel
theorem dX1_init_13 : decode cX1_init 13 = .ok (.bipush 24, 2) := by decide +kernel
theorem dX1_init_15 : decode cX1_init 15 = .ok (.newarray .int, 2) := by decide +kernel
theorem dX1_init_17 : decode cX1_init 17 = .ok (.putfield 15, 3) := by decide +kernel
theorem dX1_init_20 : decode cX1_init 20 = .ok (.aload_n 0, 1) := by decide +kernel
theorem dX1_init_21 : decode cX1_init 21 = .ok (.sipush 574, 3) := by decide +kernel
theorem dX1_init_24 : decode cX1_init 24 = .ok (.newarray .int, 2) := by decide +kernel
theorem dX1_init_26 : decode cX1_init 26 = .ok (.putfield 18, 3) := by decide +kernel
theorem dX1_init_29 : decode cX1_init 29 = .ok (.aload_n 0, 1) := by decide +kernel
theorem dX1_init_30 : decode cX1_init 30 = .ok (.aload_n 1, 1) := by decide +kernel
theorem dX1_init_31 : decode cX1_init 31 = .ok (.putfield 21, 3) := by decide +kernel
theorem dX1_init_34 : decode cX1_init 34 = .ok (.aload_n 0, 1) := by decide +kernel
theorem dX1_init_35 : decode cX1_init 35 = .ok (.invokevirtual 25, 3) := by decide +kernel
theorem dX1_init_38 : decode cX1_init 38 = .ok (.aload_n 0, 1) := by decide +kernel
theorem dX1_init_39 : decode cX1_init 39 = .ok (.invokevirtual 28, 3) := by decide +kernel
theorem dX1_init_42 : decode cX1_init 42 = .ok (.return_, 1) := by decide +kernel
theorem dX1_countWays_0 : decode cX1_countWays 0 = .ok (.aload_n 0, 1) := by decide +kernel
theorem dX1_countWays_1 : decode cX1_countWays 1 = .ok (.getfield 18, 3) := by decide +kernel
theorem dX1_countWays_4 : decode cX1_countWays 4 = .ok (.iconst 0, 1) := by decide +kernel
theorem dX1_countWays_5 : decode cX1_countWays 5 = .ok (.iconst 1, 1) := by decide +kernel
theorem dX1_countWays_6 : decode cX1_countWays 6 = .ok (.iastore, 1) := by decide +kernel
theorem dX1_countWays_7 : decode cX1_countWays 7 = .ok (.iconst 1, 1) := by decide +kernel
theorem dX1_countWays_8 : decode cX1_countWays 8 = .ok (.istore_n 1, 1) := by decide +kernel
theorem dX1_countWays_9 : decode cX1_countWays 9 = .ok (.iload_n 1, 1) := by decide +kernel
theorem dX1_countWays_10 : decode cX1_countWays 10 = .ok (.bipush 14, 2) := by decide +kernel
theorem dX1_countWays_12 : decode cX1_countWays 12 = .ok (.if_icmp .ge 81, 3) := by decide +kernel
theorem dX1_countWays_15 : decode cX1_countWays 15 = .ok (.iconst 0, 1) := by decide +kernel
theorem dX1_countWays_16 : decode cX1_countWays 16 = .ok (.istore_n 2, 1) := by decide +kernel
theorem dX1_countWays_17 : decode cX1_countWays 17 = .ok (.iload_n 2, 1) := by decide +kernel
theorem dX1_countWays_18 : decode cX1_countWays 18 = .ok (.bipush 40, 2) := by decide +kernel
theorem dX1_countWays_20 : decode cX1_countWays 20 = .ok (.if_icmp .gt 67, 3) := by decide +kernel
theorem dX1_countWays_23 : decode cX1_countWays 23 = .ok (.aload_n 0, 1) := by decide +kernel
theorem dX1_countWays_24 : decode cX1_countWays 24 = .ok (.getfield 18, 3) := by decide +kernel
theorem dX1_countWays_27 : decode cX1_countWays 27 = .ok (.iload_n 1, 1) := by decide +kernel
theorem dX1_countWays_28 : decode cX1_countWays 28 = .ok (.iconst 1, 1) := by decide +kernel
theorem dX1_countWays_29 : decode cX1_countWays 29 = .ok (.isub, 1) := by decide +kernel
theorem dX1_countWays_30 : decode cX1_countWays 30 = .ok (.bipush 41, 2) := by decide +kernel
theorem dX1_countWays_32 : decode cX1_countWays 32 = .ok (.imul, 1) := by decide +kernel
theorem dX1_countWays_33 : decode cX1_countWays 33 = .ok (.iload_n 2, 1) := by decide +kernel
theorem dX1_countWays_34 : decode cX1_countWays 34 = .ok (.iadd, 1) := by decide +kernel
theorem dX1_countWays_35 : decode cX1_countWays 35 = .ok (.iaload, 1) := by decide +kernel
theorem dX1_countWays_36 : decode cX1_countWays 36 = .ok (.istore_n 3, 1) := by decide +kernel
theorem dX1_countWays_37 : decode cX1_countWays 37 = .ok (.iload_n 2, 1) := by decide +kernel
theorem dX1_countWays_38 : decode cX1_countWays 38 = .ok (.ifCond .ne 7, 3) := by decide +kernel
theorem dX1_countWays_41 : decode cX1_countWays 41 = .ok (.iconst 0, 1) := by decide +kernel
theorem dX1_countWays_42 : decode cX1_countWays 42 = .ok (.goto 16, 3) := by decide +kernel
theorem dX1_countWays_45 : decode cX1_countWays 45 = .ok (.aload_n 0, 1) := by decide +kernel
theorem dX1_countWays_46 : decode cX1_countWays 46 = .ok (.getfield 18, 3) := by decide +kernel
theorem dX1_countWays_49 : decode cX1_countWays 49 = .ok (.iload_n 1, 1) := by decide +kernel
theorem dX1_countWays_50 : decode cX1_countWays 50 = .ok (.bipush 41, 2) := by decide +kernel
theorem dX1_countWays_52 : decode cX1_countWays 52 = .ok (.imul, 1) := by decide +kernel
theorem dX1_countWays_53 : decode cX1_countWays 53 = .ok (.iload_n 2, 1) := by decide +kernel
theorem dX1_countWays_54 : decode cX1_countWays 54 = .ok (.iadd, 1) := by decide +kernel
theorem dX1_countWays_55 : decode cX1_countWays 55 = .ok (.iconst 1, 1) := by decide +kernel
theorem dX1_countWays_56 : decode cX1_countWays 56 = .ok (.isub, 1) := by decide +kernel
theorem dX1_countWays_57 : decode cX1_countWays 57 = .ok (.iaload, 1) := by decide +kernel
theorem dX1_countWays_58 : decode cX1_countWays 58 = .ok (.istore 4, 2) := by decide +kernel
theorem dX1_countWays_60 : decode cX1_countWays 60 = .ok (.aload_n 0, 1) := by decide +kernel
theorem dX1_countWays_61 : decode cX1_countWays 61 = .ok (.getfield 18, 3) := by decide +kernel
theorem dX1_countWays_64 : decode cX1_countWays 64 = .ok (.iload_n 1, 1) := by decide +kernel
theorem dX1_countWays_65 : decode cX1_countWays 65 = .ok (.bipush 41, 2) := by decide +kernel
theorem dX1_countWays_67 : decode cX1_countWays 67 = .ok (.imul, 1) := by decide +kernel
theorem dX1_countWays_68 : decode cX1_countWays 68 = .ok (.iload_n 2, 1) := by decide +kernel
theorem dX1_countWays_69 : decode cX1_countWays 69 = .ok (.iadd, 1) := by decide +kernel
theorem dX1_countWays_70 : decode cX1_countWays 70 = .ok (.sipush 6001, 3) := by decide +kernel
theorem dX1_countWays_73 : decode cX1_countWays 73 = .ok (.iload_n 3, 1) := by decide +kernel
theorem dX1_countWays_74 : decode cX1_countWays 74 = .ok (.iload 4, 2) := by decide +kernel
theorem dX1_countWays_76 : decode cX1_countWays 76 = .ok (.iadd, 1) := by decide +kernel
theorem dX1_countWays_77 : decode cX1_countWays 77 = .ok (.invokestatic 31, 3) := by decide +kernel
theorem dX1_countWays_80 : decode cX1_countWays 80 = .ok (.iastore, 1) := by decide +kernel
theorem dX1_countWays_81 : decode cX1_countWays 81 = .ok (.iinc 2 1, 3) := by decide +kernel
theorem dX1_countWays_84 : decode cX1_countWays 84 = .ok (.goto (-67), 3) := by decide +kernel
theorem dX1_countWays_87 : decode cX1_countWays 87 = .ok (.iinc 1 1, 3) := by decide +kernel
theorem dX1_countWays_90 : decode cX1_countWays 90 = .ok (.goto (-81), 3) := by decide +kernel
theorem dX1_countWays_93 : decode cX1_countWays 93 = .ok (.return_, 1) := by decide +kernel
theorem dX1_build_0 : decode cX1_build 0 = .ok (.aload_n 0, 1) := by decide +kernel
theorem dX1_build_1 : decode cX1_build 1 = .ok (.iconst 1, 1) := by decide +kernel
theorem dX1_build_2 : decode cX1_build 2 = .ok (.putfield 37, 3) := by decide +kernel
theorem dX1_build_5 : decode cX1_build 5 = .ok (.iconst 0, 1) := by decide +kernel
theorem dX1_build_6 : decode cX1_build 6 = .ok (.istore_n 1, 1) := by decide +kernel
theorem dX1_build_7 : decode cX1_build 7 = .ok (.iload_n 1, 1) := by decide +kernel
theorem dX1_build_8 : decode cX1_build 8 = .ok (.iconst 2, 1) := by decide +kernel
theorem dX1_build_9 : decode cX1_build 9 = .ok (.if_icmp .ge 19, 3) := by decide +kernel
theorem dX1_build_12 : decode cX1_build 12 = .ok (.aload_n 0, 1) := by decide +kernel
theorem dX1_build_13 : decode cX1_build 13 = .ok (.iload_n 1, 1) := by decide +kernel
theorem dX1_build_14 : decode cX1_build 14 = .ok (.invokevirtual 41, 3) := by decide +kernel
theorem dX1_build_17 : decode cX1_build 17 = .ok (.aload_n 0, 1) := by decide +kernel
theorem dX1_build_18 : decode cX1_build 18 = .ok (.iload_n 1, 1) := by decide +kernel
theorem dX1_build_19 : decode cX1_build 19 = .ok (.invokevirtual 45, 3) := by decide +kernel
theorem dX1_build_22 : decode cX1_build 22 = .ok (.iinc 1 1, 3) := by decide +kernel
theorem dX1_build_25 : decode cX1_build 25 = .ok (.goto (-18), 3) := by decide +kernel
theorem dX1_build_28 : decode cX1_build 28 = .ok (.aload_n 0, 1) := by decide +kernel
theorem dX1_build_29 : decode cX1_build 29 = .ok (.aload_n 0, 1) := by decide +kernel
theorem dX1_build_30 : decode cX1_build 30 = .ok (.getfield 21, 3) := by decide +kernel
theorem dX1_build_33 : decode cX1_build 33 = .ok (.getfield 48, 3) := by decide +kernel
theorem dX1_build_36 : decode cX1_build 36 = .ok (.ifCond .gt 31, 3) := by decide +kernel
theorem dX1_build_39 : decode cX1_build 39 = .ok (.aload_n 0, 1) := by decide +kernel
theorem dX1_build_40 : decode cX1_build 40 = .ok (.getfield 21, 3) := by decide +kernel
theorem dX1_build_43 : decode cX1_build 43 = .ok (.getfield 54, 3) := by decide +kernel
theorem dX1_build_46 : decode cX1_build 46 = .ok (.ifCond .eq 25, 3) := by decide +kernel
theorem dX1_build_49 : decode cX1_build 49 = .ok (.aload_n 0, 1) := by decide +kernel
theorem dX1_build_50 : decode cX1_build 50 = .ok (.getfield 21, 3) := by decide +kernel
theorem dX1_build_53 : decode cX1_build 53 = .ok (.getfield 57, 3) := by decide +kernel
theorem dX1_build_56 : decode cX1_build 56 = .ok (.ifCond .ne 15, 3) := by decide +kernel
theorem dX1_build_59 : decode cX1_build 59 = .ok (.aload_n 0, 1) := by decide +kernel
theorem dX1_build_60 : decode cX1_build 60 = .ok (.getfield 60, 3) := by decide +kernel
theorem dX1_build_63 : decode cX1_build 63 = .ok (.iconst 1, 1) := by decide +kernel
theorem dX1_build_64 : decode cX1_build 64 = .ok (.if_icmp .ne 7, 3) := by decide +kernel
theorem dX1_build_67 : decode cX1_build 67 = .ok (.iconst 1, 1) := by decide +kernel
theorem dX1_build_68 : decode cX1_build 68 = .ok (.goto 4, 3) := by decide +kernel
theorem dX1_build_71 : decode cX1_build 71 = .ok (.iconst 0, 1) := by decide +kernel
theorem dX1_build_72 : decode cX1_build 72 = .ok (.putfield 63, 3) := by decide +kernel
theorem dX1_build_75 : decode cX1_build 75 = .ok (.return_, 1) := by decide +kernel
theorem dX1_linkWay_0 : decode cX1_linkWay 0 = .ok (.iload_n 1, 1) := by decide +kernel
theorem dX1_linkWay_1 : decode cX1_linkWay 1 = .ok (.bipush 14, 2) := by decide +kernel
theorem dX1_linkWay_3 : decode cX1_linkWay 3 = .ok (.imul, 1) := by decide +kernel
theorem dX1_linkWay_4 : decode cX1_linkWay 4 = .ok (.istore_n 2, 1) := by decide +kernel
theorem dX1_linkWay_5 : decode cX1_linkWay 5 = .ok (.iconst (-1), 1) := by decide +kernel
theorem dX1_linkWay_6 : decode cX1_linkWay 6 = .ok (.istore_n 3, 1) := by decide +kernel
theorem dX1_linkWay_7 : decode cX1_linkWay 7 = .ok (.iconst (-1), 1) := by decide +kernel
theorem dX1_linkWay_8 : decode cX1_linkWay 8 = .ok (.istore 4, 2) := by decide +kernel
theorem dX1_linkWay_10 : decode cX1_linkWay 10 = .ok (.iconst 0, 1) := by decide +kernel
theorem dX1_linkWay_11 : decode cX1_linkWay 11 = .ok (.istore 5, 2) := by decide +kernel
theorem dX1_linkWay_13 : decode cX1_linkWay 13 = .ok (.iload 5, 2) := by decide +kernel
theorem dX1_linkWay_15 : decode cX1_linkWay 15 = .ok (.iconst 2, 1) := by decide +kernel
theorem dX1_linkWay_16 : decode cX1_linkWay 16 = .ok (.aload_n 0, 1) := by decide +kernel
theorem dX1_linkWay_17 : decode cX1_linkWay 17 = .ok (.getfield 21, 3) := by decide +kernel
theorem dX1_linkWay_20 : decode cX1_linkWay 20 = .ok (.getfield 66, 3) := by decide +kernel
theorem dX1_linkWay_23 : decode cX1_linkWay 23 = .ok (.imul, 1) := by decide +kernel
theorem dX1_linkWay_24 : decode cX1_linkWay 24 = .ok (.if_icmp .gt 53, 3) := by decide +kernel
theorem dX1_linkWay_27 : decode cX1_linkWay 27 = .ok (.aload_n 0, 1) := by decide +kernel
theorem dX1_linkWay_28 : decode cX1_linkWay 28 = .ok (.iload_n 1, 1) := by decide +kernel
theorem dX1_linkWay_29 : decode cX1_linkWay 29 = .ok (.iload 5, 2) := by decide +kernel
theorem dX1_linkWay_31 : decode cX1_linkWay 31 = .ok (.invokevirtual 69, 3) := by decide +kernel
theorem dX1_linkWay_34 : decode cX1_linkWay 34 = .ok (.istore 6, 2) := by decide +kernel
theorem dX1_linkWay_36 : decode cX1_linkWay 36 = .ok (.iload 6, 2) := by decide +kernel
theorem dX1_linkWay_38 : decode cX1_linkWay 38 = .ok (.iconst (-1), 1) := by decide +kernel
theorem dX1_linkWay_39 : decode cX1_linkWay 39 = .ok (.if_icmp .ne 6, 3) := by decide +kernel
theorem dX1_linkWay_42 : decode cX1_linkWay 42 = .ok (.goto 29, 3) := by decide +kernel
theorem dX1_linkWay_45 : decode cX1_linkWay 45 = .ok (.iload_n 3, 1) := by decide +kernel
theorem dX1_linkWay_46 : decode cX1_linkWay 46 = .ok (.iconst (-1), 1) := by decide +kernel
theorem dX1_linkWay_47 : decode cX1_linkWay 47 = .ok (.if_icmp .ne 9, 3) := by decide +kernel
theorem dX1_linkWay_50 : decode cX1_linkWay 50 = .ok (.iload 6, 2) := by decide +kernel
theorem dX1_linkWay_52 : decode cX1_linkWay 52 = .ok (.istore_n 3, 1) := by decide +kernel
theorem dX1_linkWay_53 : decode cX1_linkWay 53 = .ok (.goto 14, 3) := by decide +kernel
theorem dX1_linkWay_56 : decode cX1_linkWay 56 = .ok (.aload_n 0, 1) := by decide +kernel
theorem dX1_linkWay_57 : decode cX1_linkWay 57 = .ok (.getfield 9, 3) := by decide +kernel
theorem dX1_linkWay_60 : decode cX1_linkWay 60 = .ok (.iload_n 2, 1) := by decide +kernel
theorem dX1_linkWay_61 : decode cX1_linkWay 61 = .ok (.iload 4, 2) := by decide +kernel
theorem dX1_linkWay_63 : decode cX1_linkWay 63 = .ok (.iadd, 1) := by decide +kernel
theorem dX1_linkWay_64 : decode cX1_linkWay 64 = .ok (.iload 6, 2) := by decide +kernel
theorem dX1_linkWay_66 : decode cX1_linkWay 66 = .ok (.iastore, 1) := by decide +kernel
theorem dX1_linkWay_67 : decode cX1_linkWay 67 = .ok (.iload 6, 2) := by decide +kernel
theorem dX1_linkWay_69 : decode cX1_linkWay 69 = .ok (.istore 4, 2) := by decide +kernel
theorem dX1_linkWay_71 : decode cX1_linkWay 71 = .ok (.iinc 5 1, 3) := by decide +kernel
theorem dX1_linkWay_74 : decode cX1_linkWay 74 = .ok (.goto (-61), 3) := by decide +kernel
theorem dX1_linkWay_77 : decode cX1_linkWay 77 = .ok (.iload 4, 2) := by decide +kernel
theorem dX1_linkWay_79 : decode cX1_linkWay 79 = .ok (.iconst (-1), 1) := by decide +kernel
theorem dX1_linkWay_80 : decode cX1_linkWay 80 = .ok (.if_icmp .eq 13, 3) := by decide +kernel
theorem dX1_linkWay_83 : decode cX1_linkWay 83 = .ok (.aload_n 0, 1) := by decide +kernel
theorem dX1_linkWay_84 : decode cX1_linkWay 84 = .ok (.getfield 9, 3) := by decide +kernel
theorem dX1_linkWay_87 : decode cX1_linkWay 87 = .ok (.iload_n 2, 1) := by decide +kernel
theorem dX1_linkWay_88 : decode cX1_linkWay 88 = .ok (.iload 4, 2) := by decide +kernel
theorem dX1_linkWay_90 : decode cX1_linkWay 90 = .ok (.iadd, 1) := by decide +kernel
theorem dX1_linkWay_91 : decode cX1_linkWay 91 = .ok (.iload_n 3, 1) := by decide +kernel
theorem dX1_linkWay_92 : decode cX1_linkWay 92 = .ok (.iastore, 1) := by decide +kernel
theorem dX1_linkWay_93 : decode cX1_linkWay 93 = .ok (.return_, 1) := by decide +kernel
theorem dX1_cellOnWay_0 : decode cX1_cellOnWay 0 = .ok (.iload_n 2, 1) := by decide +kernel
theorem dX1_cellOnWay_1 : decode cX1_cellOnWay 1 = .ok (.aload_n 0, 1) := by decide +kernel
theorem dX1_cellOnWay_2 : decode cX1_cellOnWay 2 = .ok (.getfield 21, 3) := by decide +kernel
theorem dX1_cellOnWay_5 : decode cX1_cellOnWay 5 = .ok (.getfield 66, 3) := by decide +kernel
theorem dX1_cellOnWay_8 : decode cX1_cellOnWay 8 = .ok (.if_icmp .ne 22, 3) := by decide +kernel
theorem dX1_cellOnWay_11 : decode cX1_cellOnWay 11 = .ok (.aload_n 0, 1) := by decide +kernel
theorem dX1_cellOnWay_12 : decode cX1_cellOnWay 12 = .ok (.getfield 21, 3) := by decide +kernel
theorem dX1_cellOnWay_15 : decode cX1_cellOnWay 15 = .ok (.getfield 57, 3) := by decide +kernel
theorem dX1_cellOnWay_18 : decode cX1_cellOnWay 18 = .ok (.ifCond .eq 10, 3) := by decide +kernel
theorem dX1_cellOnWay_21 : decode cX1_cellOnWay 21 = .ok (.bipush 12, 2) := by decide +kernel
theorem dX1_cellOnWay_23 : decode cX1_cellOnWay 23 = .ok (.iload_n 1, 1) := by decide +kernel
theorem dX1_cellOnWay_24 : decode cX1_cellOnWay 24 = .ok (.iadd, 1) := by decide +kernel
theorem dX1_cellOnWay_25 : decode cX1_cellOnWay 25 = .ok (.goto 4, 3) := by decide +kernel
theorem dX1_cellOnWay_28 : decode cX1_cellOnWay 28 = .ok (.iconst (-1), 1) := by decide +kernel
theorem dX1_cellOnWay_29 : decode cX1_cellOnWay 29 = .ok (.ireturn, 1) := by decide +kernel
theorem dX1_cellOnWay_30 : decode cX1_cellOnWay 30 = .ok (.aload_n 0, 1) := by decide +kernel
theorem dX1_cellOnWay_31 : decode cX1_cellOnWay 31 = .ok (.iload_n 1, 1) := by decide +kernel
theorem dX1_cellOnWay_32 : decode cX1_cellOnWay 32 = .ok (.iload_n 2, 1) := by decide +kernel
theorem dX1_cellOnWay_33 : decode cX1_cellOnWay 33 = .ok (.aload_n 0, 1) := by decide +kernel
theorem dX1_cellOnWay_34 : decode cX1_cellOnWay 34 = .ok (.getfield 21, 3) := by decide +kernel
theorem dX1_cellOnWay_37 : decode cX1_cellOnWay 37 = .ok (.getfield 66, 3) := by decide +kernel
theorem dX1_cellOnWay_40 : decode cX1_cellOnWay 40 = .ok (.if_icmp .ge 7, 3) := by decide +kernel
theorem dX1_cellOnWay_43 : decode cX1_cellOnWay 43 = .ok (.iload_n 2, 1) := by decide +kernel
theorem dX1_cellOnWay_44 : decode cX1_cellOnWay 44 = .ok (.goto 6, 3) := by decide +kernel
theorem dX1_cellOnWay_47 : decode cX1_cellOnWay 47 = .ok (.iload_n 2, 1) := by decide +kernel
theorem dX1_cellOnWay_48 : decode cX1_cellOnWay 48 = .ok (.iconst 1, 1) := by decide +kernel
theorem dX1_cellOnWay_49 : decode cX1_cellOnWay 49 = .ok (.isub, 1) := by decide +kernel
theorem dX1_cellOnWay_50 : decode cX1_cellOnWay 50 = .ok (.invokevirtual 72, 3) := by decide +kernel
theorem dX1_cellOnWay_53 : decode cX1_cellOnWay 53 = .ok (.istore_n 3, 1) := by decide +kernel
theorem dX1_cellOnWay_54 : decode cX1_cellOnWay 54 = .ok (.aload_n 0, 1) := by decide +kernel
theorem dX1_cellOnWay_55 : decode cX1_cellOnWay 55 = .ok (.getfield 21, 3) := by decide +kernel
theorem dX1_cellOnWay_58 : decode cX1_cellOnWay 58 = .ok (.iload_n 3, 1) := by decide +kernel
theorem dX1_cellOnWay_59 : decode cX1_cellOnWay 59 = .ok (.invokevirtual 75, 3) := by decide +kernel
theorem dX1_cellOnWay_62 : decode cX1_cellOnWay 62 = .ok (.ifCond .eq 7, 3) := by decide +kernel
theorem dX1_cellOnWay_65 : decode cX1_cellOnWay 65 = .ok (.iconst (-1), 1) := by decide +kernel
theorem dX1_cellOnWay_66 : decode cX1_cellOnWay 66 = .ok (.goto 4, 3) := by decide +kernel
theorem dX1_cellOnWay_69 : decode cX1_cellOnWay 69 = .ok (.iload_n 3, 1) := by decide +kernel
theorem dX1_cellOnWay_70 : decode cX1_cellOnWay 70 = .ok (.ireturn, 1) := by decide +kernel
theorem dX1_listSeen_0 : decode cX1_listSeen 0 = .ok (.aload_n 0, 1) := by decide +kernel
theorem dX1_listSeen_1 : decode cX1_listSeen 1 = .ok (.iconst 0, 1) := by decide +kernel
theorem dX1_listSeen_2 : decode cX1_listSeen 2 = .ok (.putfield 60, 3) := by decide +kernel
theorem dX1_listSeen_5 : decode cX1_listSeen 5 = .ok (.iconst 0, 1) := by decide +kernel
theorem dX1_listSeen_6 : decode cX1_listSeen 6 = .ok (.istore_n 2, 1) := by decide +kernel
theorem dX1_listSeen_7 : decode cX1_listSeen 7 = .ok (.iload_n 2, 1) := by decide +kernel
theorem dX1_listSeen_8 : decode cX1_listSeen 8 = .ok (.iconst 2, 1) := by decide +kernel
theorem dX1_listSeen_9 : decode cX1_listSeen 9 = .ok (.aload_n 0, 1) := by decide +kernel
theorem dX1_listSeen_10 : decode cX1_listSeen 10 = .ok (.getfield 21, 3) := by decide +kernel
theorem dX1_listSeen_13 : decode cX1_listSeen 13 = .ok (.getfield 66, 3) := by decide +kernel
theorem dX1_listSeen_16 : decode cX1_listSeen 16 = .ok (.imul, 1) := by decide +kernel
theorem dX1_listSeen_17 : decode cX1_listSeen 17 = .ok (.if_icmp .ge 76, 3) := by decide +kernel
theorem dX1_listSeen_20 : decode cX1_listSeen 20 = .ok (.aload_n 0, 1) := by decide +kernel
theorem dX1_listSeen_21 : decode cX1_listSeen 21 = .ok (.iload_n 1, 1) := by decide +kernel
theorem dX1_listSeen_22 : decode cX1_listSeen 22 = .ok (.iload_n 2, 1) := by decide +kernel
theorem dX1_listSeen_23 : decode cX1_listSeen 23 = .ok (.invokevirtual 72, 3) := by decide +kernel
theorem dX1_listSeen_26 : decode cX1_listSeen 26 = .ok (.istore_n 3, 1) := by decide +kernel
theorem dX1_listSeen_27 : decode cX1_listSeen 27 = .ok (.aload_n 0, 1) := by decide +kernel
theorem dX1_listSeen_28 : decode cX1_listSeen 28 = .ok (.getfield 21, 3) := by decide +kernel
theorem dX1_listSeen_31 : decode cX1_listSeen 31 = .ok (.iload_n 3, 1) := by decide +kernel
theorem dX1_listSeen_32 : decode cX1_listSeen 32 = .ok (.invokevirtual 75, 3) := by decide +kernel
theorem dX1_listSeen_35 : decode cX1_listSeen 35 = .ok (.aload_n 0, 1) := by decide +kernel
theorem dX1_listSeen_36 : decode cX1_listSeen 36 = .ok (.getfield 21, 3) := by decide +kernel
theorem dX1_listSeen_39 : decode cX1_listSeen 39 = .ok (.iload_n 2, 1) := by decide +kernel
theorem dX1_listSeen_40 : decode cX1_listSeen 40 = .ok (.invokevirtual 75, 3) := by decide +kernel
theorem dX1_listSeen_43 : decode cX1_listSeen 43 = .ok (.if_icmp .eq 8, 3) := by decide +kernel
theorem dX1_listSeen_46 : decode cX1_listSeen 46 = .ok (.aload_n 0, 1) := by decide +kernel
theorem dX1_listSeen_47 : decode cX1_listSeen 47 = .ok (.iconst 0, 1) := by decide +kernel
theorem dX1_listSeen_48 : decode cX1_listSeen 48 = .ok (.putfield 37, 3) := by decide +kernel
theorem dX1_listSeen_51 : decode cX1_listSeen 51 = .ok (.aload_n 0, 1) := by decide +kernel
theorem dX1_listSeen_52 : decode cX1_listSeen 52 = .ok (.getfield 21, 3) := by decide +kernel
theorem dX1_listSeen_55 : decode cX1_listSeen 55 = .ok (.iload_n 3, 1) := by decide +kernel
theorem dX1_listSeen_56 : decode cX1_listSeen 56 = .ok (.invokevirtual 75, 3) := by decide +kernel
theorem dX1_listSeen_59 : decode cX1_listSeen 59 = .ok (.ifCond .ne 28, 3) := by decide +kernel
theorem dX1_listSeen_62 : decode cX1_listSeen 62 = .ok (.aload_n 0, 1) := by decide +kernel
theorem dX1_listSeen_63 : decode cX1_listSeen 63 = .ok (.getfield 15, 3) := by decide +kernel
theorem dX1_listSeen_66 : decode cX1_listSeen 66 = .ok (.iload_n 1, 1) := by decide +kernel
theorem dX1_listSeen_67 : decode cX1_listSeen 67 = .ok (.bipush 12, 2) := by decide +kernel
theorem dX1_listSeen_69 : decode cX1_listSeen 69 = .ok (.imul, 1) := by decide +kernel
theorem dX1_listSeen_70 : decode cX1_listSeen 70 = .ok (.aload_n 0, 1) := by decide +kernel
theorem dX1_listSeen_71 : decode cX1_listSeen 71 = .ok (.getfield 60, 3) := by decide +kernel
theorem dX1_listSeen_74 : decode cX1_listSeen 74 = .ok (.iadd, 1) := by decide +kernel
theorem dX1_listSeen_75 : decode cX1_listSeen 75 = .ok (.iload_n 3, 1) := by decide +kernel
theorem dX1_listSeen_76 : decode cX1_listSeen 76 = .ok (.iastore, 1) := by decide +kernel
theorem dX1_listSeen_77 : decode cX1_listSeen 77 = .ok (.aload_n 0, 1) := by decide +kernel
theorem dX1_listSeen_78 : decode cX1_listSeen 78 = .ok (.dup, 1) := by decide +kernel
theorem dX1_listSeen_79 : decode cX1_listSeen 79 = .ok (.getfield 60, 3) := by decide +kernel
theorem dX1_listSeen_82 : decode cX1_listSeen 82 = .ok (.iconst 1, 1) := by decide +kernel
theorem dX1_listSeen_83 : decode cX1_listSeen 83 = .ok (.iadd, 1) := by decide +kernel
theorem dX1_listSeen_84 : decode cX1_listSeen 84 = .ok (.putfield 60, 3) := by decide +kernel
theorem dX1_listSeen_87 : decode cX1_listSeen 87 = .ok (.iinc 2 1, 3) := by decide +kernel
theorem dX1_listSeen_90 : decode cX1_listSeen 90 = .ok (.goto (-83), 3) := by decide +kernel
theorem dX1_listSeen_93 : decode cX1_listSeen 93 = .ok (.return_, 1) := by decide +kernel
theorem dX1_pitAsSeen_0 : decode cX1_pitAsSeen 0 = .ok (.iload_n 1, 1) := by decide +kernel
theorem dX1_pitAsSeen_1 : decode cX1_pitAsSeen 1 = .ok (.aload_n 0, 1) := by decide +kernel
theorem dX1_pitAsSeen_2 : decode cX1_pitAsSeen 2 = .ok (.getfield 21, 3) := by decide +kernel
theorem dX1_pitAsSeen_5 : decode cX1_pitAsSeen 5 = .ok (.getfield 66, 3) := by decide +kernel
theorem dX1_pitAsSeen_8 : decode cX1_pitAsSeen 8 = .ok (.imul, 1) := by decide +kernel
theorem dX1_pitAsSeen_9 : decode cX1_pitAsSeen 9 = .ok (.iload_n 2, 1) := by decide +kernel
theorem dX1_pitAsSeen_10 : decode cX1_pitAsSeen 10 = .ok (.iadd, 1) := by decide +kernel
theorem dX1_pitAsSeen_11 : decode cX1_pitAsSeen 11 = .ok (.istore_n 3, 1) := by decide +kernel
theorem dX1_pitAsSeen_12 : decode cX1_pitAsSeen 12 = .ok (.iload_n 3, 1) := by decide +kernel
theorem dX1_pitAsSeen_13 : decode cX1_pitAsSeen 13 = .ok (.iconst 2, 1) := by decide +kernel
theorem dX1_pitAsSeen_14 : decode cX1_pitAsSeen 14 = .ok (.aload_n 0, 1) := by decide +kernel
theorem dX1_pitAsSeen_15 : decode cX1_pitAsSeen 15 = .ok (.getfield 21, 3) := by decide +kernel
theorem dX1_pitAsSeen_18 : decode cX1_pitAsSeen 18 = .ok (.getfield 66, 3) := by decide +kernel
theorem dX1_pitAsSeen_21 : decode cX1_pitAsSeen 21 = .ok (.imul, 1) := by decide +kernel
theorem dX1_pitAsSeen_22 : decode cX1_pitAsSeen 22 = .ok (.if_icmp .ge 7, 3) := by decide +kernel
theorem dX1_pitAsSeen_25 : decode cX1_pitAsSeen 25 = .ok (.iload_n 3, 1) := by decide +kernel
theorem dX1_pitAsSeen_26 : decode cX1_pitAsSeen 26 = .ok (.goto 14, 3) := by decide +kernel
theorem dX1_pitAsSeen_29 : decode cX1_pitAsSeen 29 = .ok (.iload_n 3, 1) := by decide +kernel
theorem dX1_pitAsSeen_30 : decode cX1_pitAsSeen 30 = .ok (.iconst 2, 1) := by decide +kernel
theorem dX1_pitAsSeen_31 : decode cX1_pitAsSeen 31 = .ok (.aload_n 0, 1) := by decide +kernel
theorem dX1_pitAsSeen_32 : decode cX1_pitAsSeen 32 = .ok (.getfield 21, 3) := by decide +kernel
theorem dX1_pitAsSeen_35 : decode cX1_pitAsSeen 35 = .ok (.getfield 66, 3) := by decide +kernel
theorem dX1_pitAsSeen_38 : decode cX1_pitAsSeen 38 = .ok (.imul, 1) := by decide +kernel
theorem dX1_pitAsSeen_39 : decode cX1_pitAsSeen 39 = .ok (.isub, 1) := by decide +kernel
theorem dX1_pitAsSeen_40 : decode cX1_pitAsSeen 40 = .ok (.ireturn, 1) := by decide +kernel
theorem dX1_positionsOf_0 : decode cX1_positionsOf 0 = .ok (.aload_n 0, 1) := by decide +kernel
theorem dX1_positionsOf_1 : decode cX1_positionsOf 1 = .ok (.getfield 18, 3) := by decide +kernel
theorem dX1_positionsOf_4 : decode cX1_positionsOf 4 = .ok (.aload_n 0, 1) := by decide +kernel
theorem dX1_positionsOf_5 : decode cX1_positionsOf 5 = .ok (.getfield 60, 3) := by decide +kernel
theorem dX1_positionsOf_8 : decode cX1_positionsOf 8 = .ok (.bipush 41, 2) := by decide +kernel
theorem dX1_positionsOf_10 : decode cX1_positionsOf 10 = .ok (.imul, 1) := by decide +kernel
theorem dX1_positionsOf_11 : decode cX1_positionsOf 11 = .ok (.iload_n 1, 1) := by decide +kernel
theorem dX1_positionsOf_12 : decode cX1_positionsOf 12 = .ok (.iadd, 1) := by decide +kernel
theorem dX1_positionsOf_13 : decode cX1_positionsOf 13 = .ok (.iaload, 1) := by decide +kernel
theorem dX1_positionsOf_14 : decode cX1_positionsOf 14 = .ok (.ireturn, 1) := by decide +kernel
theorem dX1_positionsUpTo_0 : decode cX1_positionsUpTo 0 = .ok (.iload_n 1, 1) := by decide +kernel
theorem dX1_positionsUpTo_1 : decode cX1_positionsUpTo 1 = .ok (.ifCond .ge 7, 3) := by decide +kernel
theorem dX1_positionsUpTo_4 : decode cX1_positionsUpTo 4 = .ok (.iconst 0, 1) := by decide +kernel
theorem dX1_positionsUpTo_5 : decode cX1_positionsUpTo 5 = .ok (.goto 19, 3) := by decide +kernel
theorem dX1_positionsUpTo_8 : decode cX1_positionsUpTo 8 = .ok (.aload_n 0, 1) := by decide +kernel
theorem dX1_positionsUpTo_9 : decode cX1_positionsUpTo 9 = .ok (.getfield 18, 3) := by decide +kernel
theorem dX1_positionsUpTo_12 : decode cX1_positionsUpTo 12 = .ok (.aload_n 0, 1) := by decide +kernel
theorem dX1_positionsUpTo_13 : decode cX1_positionsUpTo 13 = .ok (.getfield 60, 3) := by decide +kernel
theorem dX1_positionsUpTo_16 : decode cX1_positionsUpTo 16 = .ok (.iconst 1, 1) := by decide +kernel
theorem dX1_positionsUpTo_17 : decode cX1_positionsUpTo 17 = .ok (.iadd, 1) := by decide +kernel
theorem dX1_positionsUpTo_18 : decode cX1_positionsUpTo 18 = .ok (.bipush 41, 2) := by decide +kernel
theorem dX1_positionsUpTo_20 : decode cX1_positionsUpTo 20 = .ok (.imul, 1) := by decide +kernel
theorem dX1_positionsUpTo_21 : decode cX1_positionsUpTo 21 = .ok (.iload_n 1, 1) := by decide +kernel
theorem dX1_positionsUpTo_22 : decode cX1_positionsUpTo 22 = .ok (.iadd, 1) := by decide +kernel
theorem dX1_positionsUpTo_23 : decode cX1_positionsUpTo 23 = .ok (.iaload, 1) := by decide +kernel
theorem dX1_positionsUpTo_24 : decode cX1_positionsUpTo 24 = .ok (.ireturn, 1) := by decide +kernel
theorem dX1_numberOf_0 : decode cX1_numberOf 0 = .ok (.aload_n 1, 1) := by decide +kernel
theorem dX1_numberOf_1 : decode cX1_numberOf 1 = .ok (.getfield 79, 3) := by decide +kernel
theorem dX1_numberOf_4 : decode cX1_numberOf 4 = .ok (.bipush 12, 2) := by decide +kernel
theorem dX1_numberOf_6 : decode cX1_numberOf 6 = .ok (.imul, 1) := by decide +kernel
theorem dX1_numberOf_7 : decode cX1_numberOf 7 = .ok (.istore_n 3, 1) := by decide +kernel
theorem dX1_numberOf_8 : decode cX1_numberOf 8 = .ok (.iload_n 2, 1) := by decide +kernel
theorem dX1_numberOf_9 : decode cX1_numberOf 9 = .ok (.istore 4, 2) := by decide +kernel
theorem dX1_numberOf_11 : decode cX1_numberOf 11 = .ok (.iconst 0, 1) := by decide +kernel
theorem dX1_numberOf_12 : decode cX1_numberOf 12 = .ok (.istore 5, 2) := by decide +kernel
theorem dX1_numberOf_14 : decode cX1_numberOf 14 = .ok (.iconst 0, 1) := by decide +kernel
theorem dX1_numberOf_15 : decode cX1_numberOf 15 = .ok (.istore 6, 2) := by decide +kernel
theorem dX1_numberOf_17 : decode cX1_numberOf 17 = .ok (.iload 6, 2) := by decide +kernel
theorem dX1_numberOf_19 : decode cX1_numberOf 19 = .ok (.aload_n 0, 1) := by decide +kernel
theorem dX1_numberOf_20 : decode cX1_numberOf 20 = .ok (.getfield 60, 3) := by decide +kernel
theorem dX1_numberOf_23 : decode cX1_numberOf 23 = .ok (.if_icmp .ge 63, 3) := by decide +kernel
theorem dX1_numberOf_26 : decode cX1_numberOf 26 = .ok (.iload 4, 2) := by decide +kernel
theorem dX1_numberOf_28 : decode cX1_numberOf 28 = .ok (.ifCond .le 58, 3) := by decide +kernel
theorem dX1_numberOf_31 : decode cX1_numberOf 31 = .ok (.iload 4, 2) := by decide +kernel
theorem dX1_numberOf_33 : decode cX1_numberOf 33 = .ok (.aload_n 1, 1) := by decide +kernel
theorem dX1_numberOf_34 : decode cX1_numberOf 34 = .ok (.getfield 84, 3) := by decide +kernel
theorem dX1_numberOf_37 : decode cX1_numberOf 37 = .ok (.aload_n 0, 1) := by decide +kernel
theorem dX1_numberOf_38 : decode cX1_numberOf 38 = .ok (.getfield 15, 3) := by decide +kernel
theorem dX1_numberOf_41 : decode cX1_numberOf 41 = .ok (.iload_n 3, 1) := by decide +kernel
theorem dX1_numberOf_42 : decode cX1_numberOf 42 = .ok (.iload 6, 2) := by decide +kernel
theorem dX1_numberOf_44 : decode cX1_numberOf 44 = .ok (.iadd, 1) := by decide +kernel
theorem dX1_numberOf_45 : decode cX1_numberOf 45 = .ok (.iaload, 1) := by decide +kernel
theorem dX1_numberOf_46 : decode cX1_numberOf 46 = .ok (.iaload, 1) := by decide +kernel
theorem dX1_numberOf_47 : decode cX1_numberOf 47 = .ok (.isub, 1) := by decide +kernel
theorem dX1_numberOf_48 : decode cX1_numberOf 48 = .ok (.istore 4, 2) := by decide +kernel
theorem dX1_numberOf_50 : decode cX1_numberOf 50 = .ok (.iload 4, 2) := by decide +kernel
theorem dX1_numberOf_52 : decode cX1_numberOf 52 = .ok (.ifCond .le 28, 3) := by decide +kernel
theorem dX1_numberOf_55 : decode cX1_numberOf 55 = .ok (.iload 5, 2) := by decide +kernel
theorem dX1_numberOf_57 : decode cX1_numberOf 57 = .ok (.aload_n 0, 1) := by decide +kernel
theorem dX1_numberOf_58 : decode cX1_numberOf 58 = .ok (.getfield 18, 3) := by decide +kernel
theorem dX1_numberOf_61 : decode cX1_numberOf 61 = .ok (.aload_n 0, 1) := by decide +kernel
theorem dX1_numberOf_62 : decode cX1_numberOf 62 = .ok (.getfield 60, 3) := by decide +kernel
theorem dX1_numberOf_65 : decode cX1_numberOf 65 = .ok (.iload 6, 2) := by decide +kernel
theorem dX1_numberOf_67 : decode cX1_numberOf 67 = .ok (.isub, 1) := by decide +kernel
theorem dX1_numberOf_68 : decode cX1_numberOf 68 = .ok (.bipush 41, 2) := by decide +kernel
theorem dX1_numberOf_70 : decode cX1_numberOf 70 = .ok (.imul, 1) := by decide +kernel
theorem dX1_numberOf_71 : decode cX1_numberOf 71 = .ok (.iload 4, 2) := by decide +kernel
theorem dX1_numberOf_73 : decode cX1_numberOf 73 = .ok (.iadd, 1) := by decide +kernel
theorem dX1_numberOf_74 : decode cX1_numberOf 74 = .ok (.iconst 1, 1) := by decide +kernel
theorem dX1_numberOf_75 : decode cX1_numberOf 75 = .ok (.isub, 1) := by decide +kernel
theorem dX1_numberOf_76 : decode cX1_numberOf 76 = .ok (.iaload, 1) := by decide +kernel
theorem dX1_numberOf_77 : decode cX1_numberOf 77 = .ok (.iadd, 1) := by decide +kernel
theorem dX1_numberOf_78 : decode cX1_numberOf 78 = .ok (.istore 5, 2) := by decide +kernel
theorem dX1_numberOf_80 : decode cX1_numberOf 80 = .ok (.iinc 6 1, 3) := by decide +kernel
theorem dX1_numberOf_83 : decode cX1_numberOf 83 = .ok (.goto (-66), 3) := by decide +kernel
theorem dX1_numberOf_86 : decode cX1_numberOf 86 = .ok (.iload 5, 2) := by decide +kernel
theorem dX1_numberOf_88 : decode cX1_numberOf 88 = .ok (.ireturn, 1) := by decide +kernel
theorem dX1_lay_0 : decode cX1_lay 0 = .ok (.aload_n 1, 1) := by decide +kernel
theorem dX1_lay_1 : decode cX1_lay 1 = .ok (.invokevirtual 87, 3) := by decide +kernel
theorem dX1_lay_4 : decode cX1_lay 4 = .ok (.aload_n 1, 1) := by decide +kernel
theorem dX1_lay_5 : decode cX1_lay 5 = .ok (.iload_n 2, 1) := by decide +kernel
theorem dX1_lay_6 : decode cX1_lay 6 = .ok (.putfield 79, 3) := by decide +kernel
theorem dX1_lay_9 : decode cX1_lay 9 = .ok (.iload_n 2, 1) := by decide +kernel
theorem dX1_lay_10 : decode cX1_lay 10 = .ok (.bipush 12, 2) := by decide +kernel
theorem dX1_lay_12 : decode cX1_lay 12 = .ok (.imul, 1) := by decide +kernel
theorem dX1_lay_13 : decode cX1_lay 13 = .ok (.istore 5, 2) := by decide +kernel
theorem dX1_lay_15 : decode cX1_lay 15 = .ok (.iload_n 3, 1) := by decide +kernel
theorem dX1_lay_16 : decode cX1_lay 16 = .ok (.istore 6, 2) := by decide +kernel
theorem dX1_lay_18 : decode cX1_lay 18 = .ok (.iload 4, 2) := by decide +kernel
theorem dX1_lay_20 : decode cX1_lay 20 = .ok (.istore 7, 2) := by decide +kernel
theorem dX1_lay_22 : decode cX1_lay 22 = .ok (.iconst 0, 1) := by decide +kernel
theorem dX1_lay_23 : decode cX1_lay 23 = .ok (.istore 8, 2) := by decide +kernel
theorem dX1_lay_25 : decode cX1_lay 25 = .ok (.iload 8, 2) := by decide +kernel
theorem dX1_lay_27 : decode cX1_lay 27 = .ok (.aload_n 0, 1) := by decide +kernel
theorem dX1_lay_28 : decode cX1_lay 28 = .ok (.getfield 60, 3) := by decide +kernel
theorem dX1_lay_31 : decode cX1_lay 31 = .ok (.if_icmp .ge 103, 3) := by decide +kernel
theorem dX1_lay_34 : decode cX1_lay 34 = .ok (.iload 6, 2) := by decide +kernel
theorem dX1_lay_36 : decode cX1_lay 36 = .ok (.ifCond .le 98, 3) := by decide +kernel
theorem dX1_lay_39 : decode cX1_lay 39 = .ok (.aload_n 0, 1) := by decide +kernel
theorem dX1_lay_40 : decode cX1_lay 40 = .ok (.getfield 60, 3) := by decide +kernel
theorem dX1_lay_43 : decode cX1_lay 43 = .ok (.iload 8, 2) := by decide +kernel
theorem dX1_lay_45 : decode cX1_lay 45 = .ok (.isub, 1) := by decide +kernel
theorem dX1_lay_46 : decode cX1_lay 46 = .ok (.bipush 41, 2) := by decide +kernel
theorem dX1_lay_48 : decode cX1_lay 48 = .ok (.imul, 1) := by decide +kernel
theorem dX1_lay_49 : decode cX1_lay 49 = .ok (.istore 9, 2) := by decide +kernel
theorem dX1_lay_51 : decode cX1_lay 51 = .ok (.iconst 0, 1) := by decide +kernel
theorem dX1_lay_52 : decode cX1_lay 52 = .ok (.istore 10, 2) := by decide +kernel
theorem dX1_lay_54 : decode cX1_lay 54 = .ok (.iload 10, 2) := by decide +kernel
theorem dX1_lay_56 : decode cX1_lay 56 = .ok (.iload 6, 2) := by decide +kernel
theorem dX1_lay_58 : decode cX1_lay 58 = .ok (.if_icmp .ge 24, 3) := by decide +kernel
theorem dX1_lay_61 : decode cX1_lay 61 = .ok (.iload 7, 2) := by decide +kernel
theorem dX1_lay_63 : decode cX1_lay 63 = .ok (.aload_n 0, 1) := by decide +kernel
theorem dX1_lay_64 : decode cX1_lay 64 = .ok (.getfield 18, 3) := by decide +kernel
theorem dX1_lay_67 : decode cX1_lay 67 = .ok (.iload 9, 2) := by decide +kernel
theorem dX1_lay_69 : decode cX1_lay 69 = .ok (.iload 10, 2) := by decide +kernel
theorem dX1_lay_71 : decode cX1_lay 71 = .ok (.iadd, 1) := by decide +kernel
theorem dX1_lay_72 : decode cX1_lay 72 = .ok (.iaload, 1) := by decide +kernel
theorem dX1_lay_73 : decode cX1_lay 73 = .ok (.if_icmp .lt 9, 3) := by decide +kernel
theorem dX1_lay_76 : decode cX1_lay 76 = .ok (.iinc 10 1, 3) := by decide +kernel
theorem dX1_lay_79 : decode cX1_lay 79 = .ok (.goto (-25), 3) := by decide +kernel
theorem dX1_lay_82 : decode cX1_lay 82 = .ok (.iload 10, 2) := by decide +kernel
theorem dX1_lay_84 : decode cX1_lay 84 = .ok (.ifCond .le 20, 3) := by decide +kernel
theorem dX1_lay_87 : decode cX1_lay 87 = .ok (.iload 7, 2) := by decide +kernel
theorem dX1_lay_89 : decode cX1_lay 89 = .ok (.aload_n 0, 1) := by decide +kernel
theorem dX1_lay_90 : decode cX1_lay 90 = .ok (.getfield 18, 3) := by decide +kernel
theorem dX1_lay_93 : decode cX1_lay 93 = .ok (.iload 9, 2) := by decide +kernel
theorem dX1_lay_95 : decode cX1_lay 95 = .ok (.iload 10, 2) := by decide +kernel
theorem dX1_lay_97 : decode cX1_lay 97 = .ok (.iadd, 1) := by decide +kernel
theorem dX1_lay_98 : decode cX1_lay 98 = .ok (.iconst 1, 1) := by decide +kernel
theorem dX1_lay_99 : decode cX1_lay 99 = .ok (.isub, 1) := by decide +kernel
theorem dX1_lay_100 : decode cX1_lay 100 = .ok (.iaload, 1) := by decide +kernel
theorem dX1_lay_101 : decode cX1_lay 101 = .ok (.isub, 1) := by decide +kernel
theorem dX1_lay_102 : decode cX1_lay 102 = .ok (.istore 7, 2) := by decide +kernel
theorem dX1_lay_104 : decode cX1_lay 104 = .ok (.aload_n 1, 1) := by decide +kernel
theorem dX1_lay_105 : decode cX1_lay 105 = .ok (.getfield 84, 3) := by decide +kernel
theorem dX1_lay_108 : decode cX1_lay 108 = .ok (.aload_n 0, 1) := by decide +kernel
theorem dX1_lay_109 : decode cX1_lay 109 = .ok (.getfield 15, 3) := by decide +kernel
theorem dX1_lay_112 : decode cX1_lay 112 = .ok (.iload 5, 2) := by decide +kernel
theorem dX1_lay_114 : decode cX1_lay 114 = .ok (.iload 8, 2) := by decide +kernel
theorem dX1_lay_116 : decode cX1_lay 116 = .ok (.iadd, 1) := by decide +kernel
theorem dX1_lay_117 : decode cX1_lay 117 = .ok (.iaload, 1) := by decide +kernel
theorem dX1_lay_118 : decode cX1_lay 118 = .ok (.iload 6, 2) := by decide +kernel
theorem dX1_lay_120 : decode cX1_lay 120 = .ok (.iload 10, 2) := by decide +kernel
theorem dX1_lay_122 : decode cX1_lay 122 = .ok (.isub, 1) := by decide +kernel
theorem dX1_lay_123 : decode cX1_lay 123 = .ok (.iastore, 1) := by decide +kernel
theorem dX1_lay_124 : decode cX1_lay 124 = .ok (.iload 10, 2) := by decide +kernel
theorem dX1_lay_126 : decode cX1_lay 126 = .ok (.istore 6, 2) := by decide +kernel
theorem dX1_lay_128 : decode cX1_lay 128 = .ok (.iinc 8 1, 3) := by decide +kernel
theorem dX1_lay_131 : decode cX1_lay 131 = .ok (.goto (-106), 3) := by decide +kernel
theorem dX1_lay_134 : decode cX1_lay 134 = .ok (.return_, 1) := by decide +kernel
theorem dX2_init_0 : decode cX2_init 0 = .ok (.aload_n 0, 1) := by decide +kernel
theorem dX2_init_1 : decode cX2_init 1 = .ok (.invokespecial 1, 3) := by decide +kernel
theorem dX2_init_4 : decode cX2_init 4 = .ok (.aload_n 0, 1) := by decide +kernel
theorem dX2_init_5 : decode cX2_init 5 = .ok (.new 7, 3) := by decide +kernel
theorem dX2_init_8 : decode cX2_init 8 = .ok (.dup, 1) := by decide +kernel
theorem dX2_init_9 : decode cX2_init 9 = .ok (.invokespecial 9, 3) := by decide +kernel
theorem dX2_init_12 : decode cX2_init 12 = .ok (.putfield 10, 3) := by decide +kernel
theorem dX2_init_15 : decode cX2_init 15 = .ok (.aload_n 0, 1) := by decide +kernel
theorem dX2_init_16 : decode cX2_init 16 = .ok (.new 16, 3) := by decide +kernel
theorem dX2_init_19 : decode cX2_init 19 = .ok (.dup, 1) := by decide +kernel
theorem dX2_init_20 : decode cX2_init 20 = .ok (.invokespecial 18, 3) := by decide +kernel
theorem dX2_init_23 : decode cX2_init 23 = .ok (.putfield 19, 3) := by decide +kernel
theorem dX2_init_26 : decode cX2_init 26 = .ok (.return_, 1) := by decide +kernel
theorem dX3_init_0 : decode cX3_init 0 = .ok (.aload_n 0, 1) := by decide +kernel
theorem dX3_init_1 : decode cX3_init 1 = .ok (.invokespecial 3, 3) := by decide +kernel
theorem dX3_init_4 : decode cX3_init 4 = .ok (.aload_n 0, 1) := by decide +kernel
theorem dX3_init_5 : decode cX3_init 5 = .ok (.bipush 40, 2) := by decide +kernel
theorem dX3_init_7 : decode cX3_init 7 = .ok (.newarray .int, 2) := by decide +kernel
theorem dX3_init_9 : decode cX3_init 9 = .ok (.putfield 9, 3) := by decide +kernel
theorem dX3_init_12 : decode cX3_init 12 = .ok (.aload_n 0, 1) := by decide +kernel
theorem dX3_init_13 : decode cX3_init 13 = .ok (.bipush 40, 2) := by decide +kernel
theorem dX3_init_15 : decode cX3_init 15 = .ok (.anewarray 15, 3) := by decide +kernel
theorem dX3_init_18 : decode cX3_init 18 = .ok (.putfield 17, 3) := by decide +kernel
theorem dX3_init_21 : decode cX3_init 21 = .ok (.iconst 0, 1) := by decide +kernel
theorem dX3_init_22 : decode cX3_init 22 = .ok (.istore_n 1, 1) := by decide +kernel
theorem dX3_init_23 : decode cX3_init 23 = .ok (.iload_n 1, 1) := by decide +kernel
theorem dX3_init_24 : decode cX3_init 24 = .ok (.bipush 40, 2) := by decide +kernel
theorem dX3_init_26 : decode cX3_init 26 = .ok (.if_icmp .ge 22, 3) := by decide +kernel
theorem dX3_init_29 : decode cX3_init 29 = .ok (.aload_n 0, 1) := by decide +kernel
theorem dX3_init_30 : decode cX3_init 30 = .ok (.getfield 17, 3) := by decide +kernel
theorem dX3_init_33 : decode cX3_init 33 = .ok (.iload_n 1, 1) := by decide +kernel
theorem dX3_init_34 : decode cX3_init 34 = .ok (.new 15, 3) := by decide +kernel
theorem dX3_init_37 : decode cX3_init 37 = .ok (.dup, 1) := by decide +kernel
theorem dX3_init_38 : decode cX3_init 38 = .ok (.invokespecial 21, 3) := by decide +kernel
theorem dX3_init_41 : decode cX3_init 41 = .ok (.aastore, 1) := by decide +kernel
theorem dX3_init_42 : decode cX3_init 42 = .ok (.iinc 1 1, 3) := by decide +kernel
theorem dX3_init_45 : decode cX3_init 45 = .ok (.goto (-22), 3) := by decide +kernel
theorem dX3_init_48 : decode cX3_init 48 = .ok (.return_, 1) := by decide +kernel
theorem dX3_forget_0 : decode cX3_forget 0 = .ok (.aload_n 0, 1) := by decide +kernel
theorem dX3_forget_1 : decode cX3_forget 1 = .ok (.iconst 0, 1) := by decide +kernel
theorem dX3_forget_2 : decode cX3_forget 2 = .ok (.putfield 22, 3) := by decide +kernel
theorem dX3_forget_5 : decode cX3_forget 5 = .ok (.aload_n 0, 1) := by decide +kernel
theorem dX3_forget_6 : decode cX3_forget 6 = .ok (.iconst 0, 1) := by decide +kernel
theorem dX3_forget_7 : decode cX3_forget 7 = .ok (.putfield 26, 3) := by decide +kernel
theorem dX3_forget_10 : decode cX3_forget 10 = .ok (.return_, 1) := by decide +kernel
theorem dX3_slot_0 : decode cX3_slot 0 = .ok (.aload_n 0, 1) := by decide +kernel
theorem dX3_slot_1 : decode cX3_slot 1 = .ok (.getfield 29, 3) := by decide +kernel
theorem dX3_slot_4 : decode cX3_slot 4 = .ok (.iload_n 1, 1) := by decide +kernel
theorem dX3_slot_5 : decode cX3_slot 5 = .ok (.iadd, 1) := by decide +kernel
theorem dX3_slot_6 : decode cX3_slot 6 = .ok (.istore_n 2, 1) := by decide +kernel
theorem dX3_slot_7 : decode cX3_slot 7 = .ok (.iload_n 2, 1) := by decide +kernel
theorem dX3_slot_8 : decode cX3_slot 8 = .ok (.bipush 40, 2) := by decide +kernel
theorem dX3_slot_10 : decode cX3_slot 10 = .ok (.if_icmp .ge 7, 3) := by decide +kernel
theorem dX3_slot_13 : decode cX3_slot 13 = .ok (.iload_n 2, 1) := by decide +kernel
theorem dX3_slot_14 : decode cX3_slot 14 = .ok (.goto 7, 3) := by decide +kernel
theorem dX3_slot_17 : decode cX3_slot 17 = .ok (.iload_n 2, 1) := by decide +kernel
theorem dX3_slot_18 : decode cX3_slot 18 = .ok (.bipush 40, 2) := by decide +kernel
theorem dX3_slot_20 : decode cX3_slot 20 = .ok (.isub, 1) := by decide +kernel
theorem dX3_slot_21 : decode cX3_slot 21 = .ok (.ireturn, 1) := by decide +kernel
theorem dX3_moveAt_0 : decode cX3_moveAt 0 = .ok (.aload_n 0, 1) := by decide +kernel
theorem dX3_moveAt_1 : decode cX3_moveAt 1 = .ok (.getfield 9, 3) := by decide +kernel
theorem dX3_moveAt_4 : decode cX3_moveAt 4 = .ok (.aload_n 0, 1) := by decide +kernel
theorem dX3_moveAt_5 : decode cX3_moveAt 5 = .ok (.iload_n 1, 1) := by decide +kernel
theorem dX3_moveAt_6 : decode cX3_moveAt 6 = .ok (.invokevirtual 32, 3) := by decide +kernel
theorem dX3_moveAt_9 : decode cX3_moveAt 9 = .ok (.iaload, 1) := by decide +kernel
theorem dX3_moveAt_10 : decode cX3_moveAt 10 = .ok (.ireturn, 1) := by decide +kernel
theorem dX3_keep_0 : decode cX3_keep 0 = .ok (.aload_n 0, 1) := by decide +kernel
theorem dX3_keep_1 : decode cX3_keep 1 = .ok (.getfield 22, 3) := by decide +kernel
theorem dX3_keep_4 : decode cX3_keep 4 = .ok (.bipush 40, 2) := by decide +kernel
theorem dX3_keep_6 : decode cX3_keep 6 = .ok (.if_icmp .ne 22, 3) := by decide +kernel
theorem dX3_keep_9 : decode cX3_keep 9 = .ok (.aload_n 0, 1) := by decide +kernel
theorem dX3_keep_10 : decode cX3_keep 10 = .ok (.aload_n 0, 1) := by decide +kernel
theorem dX3_keep_11 : decode cX3_keep 11 = .ok (.iconst 1, 1) := by decide +kernel
theorem dX3_keep_12 : decode cX3_keep 12 = .ok (.invokevirtual 32, 3) := by decide +kernel
theorem dX3_keep_15 : decode cX3_keep 15 = .ok (.putfield 29, 3) := by decide +kernel
theorem dX3_keep_18 : decode cX3_keep 18 = .ok (.aload_n 0, 1) := by decide +kernel
theorem dX3_keep_19 : decode cX3_keep 19 = .ok (.dup, 1) := by decide +kernel
theorem dX3_keep_20 : decode cX3_keep 20 = .ok (.getfield 22, 3) := by decide +kernel
theorem dX3_keep_23 : decode cX3_keep 23 = .ok (.iconst 1, 1) := by decide +kernel
theorem dX3_keep_24 : decode cX3_keep 24 = .ok (.isub, 1) := by decide +kernel
theorem dX3_keep_25 : decode cX3_keep 25 = .ok (.putfield 22, 3) := by decide +kernel
theorem dX3_keep_28 : decode cX3_keep 28 = .ok (.aload_n 0, 1) := by decide +kernel
theorem dX3_keep_29 : decode cX3_keep 29 = .ok (.aload_n 0, 1) := by decide +kernel
theorem dX3_keep_30 : decode cX3_keep 30 = .ok (.getfield 22, 3) := by decide +kernel
theorem dX3_keep_33 : decode cX3_keep 33 = .ok (.invokevirtual 32, 3) := by decide +kernel
theorem dX3_keep_36 : decode cX3_keep 36 = .ok (.istore_n 3, 1) := by decide +kernel
theorem dX3_keep_37 : decode cX3_keep 37 = .ok (.aload_n 0, 1) := by decide +kernel
theorem dX3_keep_38 : decode cX3_keep 38 = .ok (.getfield 9, 3) := by decide +kernel
theorem dX3_keep_41 : decode cX3_keep 41 = .ok (.iload_n 3, 1) := by decide +kernel
theorem dX3_keep_42 : decode cX3_keep 42 = .ok (.iload_n 2, 1) := by decide +kernel
theorem dX3_keep_43 : decode cX3_keep 43 = .ok (.iastore, 1) := by decide +kernel
theorem dX3_keep_44 : decode cX3_keep 44 = .ok (.aload_n 0, 1) := by decide +kernel
theorem dX3_keep_45 : decode cX3_keep 45 = .ok (.getfield 17, 3) := by decide +kernel
theorem dX3_keep_48 : decode cX3_keep 48 = .ok (.iload_n 3, 1) := by decide +kernel
theorem dX3_keep_49 : decode cX3_keep 49 = .ok (.aaload, 1) := by decide +kernel
theorem dX3_keep_50 : decode cX3_keep 50 = .ok (.aload_n 1, 1) := by decide +kernel
theorem dX3_keep_51 : decode cX3_keep 51 = .ok (.invokevirtual 36, 3) := by decide +kernel
theorem dX3_keep_54 : decode cX3_keep 54 = .ok (.aload_n 0, 1) := by decide +kernel
theorem dX3_keep_55 : decode cX3_keep 55 = .ok (.dup, 1) := by decide +kernel
theorem dX3_keep_56 : decode cX3_keep 56 = .ok (.getfield 22, 3) := by decide +kernel
theorem dX3_keep_59 : decode cX3_keep 59 = .ok (.iconst 1, 1) := by decide +kernel
theorem dX3_keep_60 : decode cX3_keep 60 = .ok (.iadd, 1) := by decide +kernel
theorem dX3_keep_61 : decode cX3_keep 61 = .ok (.putfield 22, 3) := by decide +kernel
theorem dX3_keep_64 : decode cX3_keep 64 = .ok (.aload_n 0, 1) := by decide +kernel
theorem dX3_keep_65 : decode cX3_keep 65 = .ok (.iconst 0, 1) := by decide +kernel
theorem dX3_keep_66 : decode cX3_keep 66 = .ok (.putfield 26, 3) := by decide +kernel
theorem dX3_keep_69 : decode cX3_keep 69 = .ok (.return_, 1) := by decide +kernel
theorem dX3_back_0 : decode cX3_back 0 = .ok (.aload_n 0, 1) := by decide +kernel
theorem dX3_back_1 : decode cX3_back 1 = .ok (.dup, 1) := by decide +kernel
theorem dX3_back_2 : decode cX3_back 2 = .ok (.getfield 22, 3) := by decide +kernel
theorem dX3_back_5 : decode cX3_back 5 = .ok (.iconst 1, 1) := by decide +kernel
theorem dX3_back_6 : decode cX3_back 6 = .ok (.isub, 1) := by decide +kernel
theorem dX3_back_7 : decode cX3_back 7 = .ok (.putfield 22, 3) := by decide +kernel
theorem dX3_back_10 : decode cX3_back 10 = .ok (.aload_n 0, 1) := by decide +kernel
theorem dX3_back_11 : decode cX3_back 11 = .ok (.dup, 1) := by decide +kernel
theorem dX3_back_12 : decode cX3_back 12 = .ok (.getfield 26, 3) := by decide +kernel
theorem dX3_back_15 : decode cX3_back 15 = .ok (.iconst 1, 1) := by decide +kernel
theorem dX3_back_16 : decode cX3_back 16 = .ok (.iadd, 1) := by decide +kernel
theorem dX3_back_17 : decode cX3_back 17 = .ok (.putfield 26, 3) := by decide +kernel
theorem dX3_back_20 : decode cX3_back 20 = .ok (.aload_n 1, 1) := by decide +kernel
theorem dX3_back_21 : decode cX3_back 21 = .ok (.aload_n 0, 1) := by decide +kernel
theorem dX3_back_22 : decode cX3_back 22 = .ok (.getfield 17, 3) := by decide +kernel
theorem dX3_back_25 : decode cX3_back 25 = .ok (.aload_n 0, 1) := by decide +kernel
theorem dX3_back_26 : decode cX3_back 26 = .ok (.aload_n 0, 1) := by decide +kernel
theorem dX3_back_27 : decode cX3_back 27 = .ok (.getfield 22, 3) := by decide +kernel
theorem dX3_back_30 : decode cX3_back 30 = .ok (.invokevirtual 32, 3) := by decide +kernel
theorem dX3_back_33 : decode cX3_back 33 = .ok (.aaload, 1) := by decide +kernel
theorem dX3_back_34 : decode cX3_back 34 = .ok (.invokevirtual 36, 3) := by decide +kernel
theorem dX3_back_37 : decode cX3_back 37 = .ok (.return_, 1) := by decide +kernel
theorem dX3_again_0 : decode cX3_again 0 = .ok (.aload_n 0, 1) := by decide +kernel
theorem dX3_again_1 : decode cX3_again 1 = .ok (.dup, 1) := by decide +kernel
theorem dX3_again_2 : decode cX3_again 2 = .ok (.getfield 22, 3) := by decide +kernel
theorem dX3_again_5 : decode cX3_again 5 = .ok (.iconst 1, 1) := by decide +kernel
theorem dX3_again_6 : decode cX3_again 6 = .ok (.iadd, 1) := by decide +kernel
theorem dX3_again_7 : decode cX3_again 7 = .ok (.putfield 22, 3) := by decide +kernel
theorem dX3_again_10 : decode cX3_again 10 = .ok (.aload_n 0, 1) := by decide +kernel
theorem dX3_again_11 : decode cX3_again 11 = .ok (.dup, 1) := by decide +kernel
theorem dX3_again_12 : decode cX3_again 12 = .ok (.getfield 26, 3) := by decide +kernel
theorem dX3_again_15 : decode cX3_again 15 = .ok (.iconst 1, 1) := by decide +kernel
theorem dX3_again_16 : decode cX3_again 16 = .ok (.isub, 1) := by decide +kernel
theorem dX3_again_17 : decode cX3_again 17 = .ok (.putfield 26, 3) := by decide +kernel
theorem dX3_again_20 : decode cX3_again 20 = .ok (.aload_n 0, 1) := by decide +kernel
theorem dX3_again_21 : decode cX3_again 21 = .ok (.getfield 9, 3) := by decide +kernel
theorem dX3_again_24 : decode cX3_again 24 = .ok (.aload_n 0, 1) := by decide +kernel
theorem dX3_again_25 : decode cX3_again 25 = .ok (.aload_n 0, 1) := by decide +kernel
theorem dX3_again_26 : decode cX3_again 26 = .ok (.getfield 22, 3) := by decide +kernel
theorem dX3_again_29 : decode cX3_again 29 = .ok (.iconst 1, 1) := by decide +kernel
theorem dX3_again_30 : decode cX3_again 30 = .ok (.isub, 1) := by decide +kernel
theorem dX3_again_31 : decode cX3_again 31 = .ok (.invokevirtual 32, 3) := by decide +kernel
theorem dX3_again_34 : decode cX3_again 34 = .ok (.iaload, 1) := by decide +kernel
theorem dX3_again_35 : decode cX3_again 35 = .ok (.ireturn, 1) := by decide +kernel
theorem dX4_init_0 : decode cX4_init 0 = .ok (.aload_n 0, 1) := by decide +kernel
theorem dX4_init_1 : decode cX4_init 1 = .ok (.invokespecial 3, 3) := by decide +kernel
theorem dX4_init_4 : decode cX4_init 4 = .ok (.aload_n 0, 1) := by decide +kernel
theorem dX4_init_5 : decode cX4_init 5 = .ok (.new 9, 3) := by decide +kernel
theorem dX4_init_8 : decode cX4_init 8 = .ok (.dup, 1) := by decide +kernel
theorem dX4_init_9 : decode cX4_init 9 = .ok (.invokespecial 11, 3) := by decide +kernel
theorem dX4_init_12 : decode cX4_init 12 = .ok (.putfield 12, 3) := by decide +kernel
theorem dX4_init_15 : decode cX4_init 15 = .ok (.aload_n 0, 1) := by decide +kernel
theorem dX4_init_16 : decode cX4_init 16 = .ok (.new 18, 3) := by decide +kernel
theorem dX4_init_19 : decode cX4_init 19 = .ok (.dup, 1) := by decide +kernel
theorem dX4_init_20 : decode cX4_init 20 = .ok (.invokespecial 20, 3) := by decide +kernel
theorem dX4_init_23 : decode cX4_init 23 = .ok (.putfield 21, 3) := by decide +kernel
theorem dX4_init_26 : decode cX4_init 26 = .ok (.aload_n 0, 1) := by decide +kernel
theorem dX4_init_27 : decode cX4_init 27 = .ok (.iconst (-1), 1) := by decide +kernel
theorem dX4_init_28 : decode cX4_init 28 = .ok (.putfield 25, 3) := by decide +kernel
theorem dX4_init_31 : decode cX4_init 31 = .ok (.aload_n 0, 1) := by decide +kernel
theorem dX4_init_32 : decode cX4_init 32 = .ok (.sipush 500, 3) := by decide +kernel
theorem dX4_init_35 : decode cX4_init 35 = .ok (.newarray .int, 2) := by decide +kernel
theorem dX4_init_37 : decode cX4_init 37 = .ok (.putfield 29, 3) := by decide +kernel
theorem dX4_init_40 : decode cX4_init 40 = .ok (.return_, 1) := by decide +kernel
theorem dX4_append_0 : decode cX4_append 0 = .ok (.bipush 24, 2) := by decide +kernel
theorem dX4_append_2 : decode cX4_append 2 = .ok (.istore_n 2, 1) := by decide +kernel
theorem dX4_append_3 : decode cX4_append 3 = .ok (.iload_n 2, 1) := by decide +kernel
theorem dX4_append_4 : decode cX4_append 4 = .ok (.ifCond .lt 45, 3) := by decide +kernel
theorem dX4_append_7 : decode cX4_append 7 = .ok (.aload_n 0, 1) := by decide +kernel
theorem dX4_append_8 : decode cX4_append 8 = .ok (.getfield 33, 3) := by decide +kernel
theorem dX4_append_11 : decode cX4_append 11 = .ok (.sipush 500, 3) := by decide +kernel
theorem dX4_append_14 : decode cX4_append 14 = .ok (.if_icmp .ge 35, 3) := by decide +kernel
theorem dX4_append_17 : decode cX4_append 17 = .ok (.aload_n 0, 1) := by decide +kernel
theorem dX4_append_18 : decode cX4_append 18 = .ok (.getfield 29, 3) := by decide +kernel
theorem dX4_append_21 : decode cX4_append 21 = .ok (.aload_n 0, 1) := by decide +kernel
theorem dX4_append_22 : decode cX4_append 22 = .ok (.getfield 33, 3) := by decide +kernel
theorem dX4_append_25 : decode cX4_append 25 = .ok (.iload_n 1, 1) := by decide +kernel
theorem dX4_append_26 : decode cX4_append 26 = .ok (.iload_n 2, 1) := by decide +kernel
theorem dX4_append_27 : decode cX4_append 27 = .ok (.iushr, 1) := by decide +kernel
theorem dX4_append_28 : decode cX4_append 28 = .ok (.sipush 255, 3) := by decide +kernel
theorem dX4_append_31 : decode cX4_append 31 = .ok (.iand, 1) := by decide +kernel
theorem dX4_append_32 : decode cX4_append 32 = .ok (.iastore, 1) := by decide +kernel
theorem dX4_append_33 : decode cX4_append 33 = .ok (.aload_n 0, 1) := by decide +kernel
theorem dX4_append_34 : decode cX4_append 34 = .ok (.dup, 1) := by decide +kernel
theorem dX4_append_35 : decode cX4_append 35 = .ok (.getfield 33, 3) := by decide +kernel
theorem dX4_append_38 : decode cX4_append 38 = .ok (.iconst 1, 1) := by decide +kernel
theorem dX4_append_39 : decode cX4_append 39 = .ok (.iadd, 1) := by decide +kernel
theorem dX4_append_40 : decode cX4_append 40 = .ok (.putfield 33, 3) := by decide +kernel
theorem dX4_append_43 : decode cX4_append 43 = .ok (.iinc 2 (-8), 3) := by decide +kernel
theorem dX4_append_46 : decode cX4_append 46 = .ok (.goto (-43), 3) := by decide +kernel
theorem dX4_append_49 : decode cX4_append 49 = .ok (.return_, 1) := by decide +kernel
theorem dX4_read_0 : decode cX4_read 0 = .ok (.aload_n 0, 1) := by decide +kernel
theorem dX4_read_1 : decode cX4_read 1 = .ok (.getfield 12, 3) := by decide +kernel
theorem dX4_read_4 : decode cX4_read 4 = .ok (.invokevirtual 36, 3) := by decide +kernel
theorem dX4_read_7 : decode cX4_read 7 = .ok (.aload_n 0, 1) := by decide +kernel
theorem dX4_read_8 : decode cX4_read 8 = .ok (.getfield 21, 3) := by decide +kernel
theorem dX4_read_11 : decode cX4_read 11 = .ok (.invokevirtual 39, 3) := by decide +kernel
theorem dX4_read_14 : decode cX4_read 14 = .ok (.aload_n 0, 1) := by decide +kernel
theorem dX4_read_15 : decode cX4_read 15 = .ok (.iconst 0, 1) := by decide +kernel
theorem dX4_read_16 : decode cX4_read 16 = .ok (.putfield 40, 3) := by decide +kernel
theorem dX4_read_19 : decode cX4_read 19 = .ok (.aload_n 0, 1) := by decide +kernel
theorem dX4_read_20 : decode cX4_read 20 = .ok (.iconst (-1), 1) := by decide +kernel
theorem dX4_read_21 : decode cX4_read 21 = .ok (.putfield 25, 3) := by decide +kernel
theorem dX4_read_24 : decode cX4_read 24 = .ok (.aload_n 0, 1) := by decide +kernel
theorem dX4_read_25 : decode cX4_read 25 = .ok (.iload_n 1, 1) := by decide +kernel
theorem dX4_read_26 : decode cX4_read 26 = .ok (.putfield 43, 3) := by decide +kernel
theorem dX4_read_29 : decode cX4_read 29 = .ok (.aload_n 0, 1) := by decide +kernel
theorem dX4_read_30 : decode cX4_read 30 = .ok (.iconst 0, 1) := by decide +kernel
theorem dX4_read_31 : decode cX4_read 31 = .ok (.putfield 46, 3) := by decide +kernel
theorem dX4_read_34 : decode cX4_read 34 = .ok (.aload_n 0, 1) := by decide +kernel
theorem dX4_read_35 : decode cX4_read 35 = .ok (.invokevirtual 49, 3) := by decide +kernel
theorem dX4_read_38 : decode cX4_read 38 = .ok (.iconst 0, 1) := by decide +kernel
theorem dX4_read_39 : decode cX4_read 39 = .ok (.istore_n 2, 1) := by decide +kernel
theorem dX4_read_40 : decode cX4_read 40 = .ok (.iload_n 2, 1) := by decide +kernel
theorem dX4_read_41 : decode cX4_read 41 = .ok (.aload_n 0, 1) := by decide +kernel
theorem dX4_read_42 : decode cX4_read 42 = .ok (.getfield 43, 3) := by decide +kernel
theorem dX4_read_45 : decode cX4_read 45 = .ok (.if_icmp .ge 27, 3) := by decide +kernel
theorem dX4_read_48 : decode cX4_read 48 = .ok (.aload_n 0, 1) := by decide +kernel
theorem dX4_read_49 : decode cX4_read 49 = .ok (.getfield 40, 3) := by decide +kernel
theorem dX4_read_52 : decode cX4_read 52 = .ok (.ifCond .ne 20, 3) := by decide +kernel
theorem dX4_read_55 : decode cX4_read 55 = .ok (.aload_n 0, 1) := by decide +kernel
theorem dX4_read_56 : decode cX4_read 56 = .ok (.getfield 52, 3) := by decide +kernel
theorem dX4_read_59 : decode cX4_read 59 = .ok (.ifCond .eq 13, 3) := by decide +kernel
theorem dX4_read_62 : decode cX4_read 62 = .ok (.aload_n 0, 1) := by decide +kernel
theorem dX4_read_63 : decode cX4_read 63 = .ok (.invokevirtual 55, 3) := by decide +kernel
theorem dX4_read_66 : decode cX4_read 66 = .ok (.iinc 2 1, 3) := by decide +kernel
theorem dX4_read_69 : decode cX4_read 69 = .ok (.goto (-29), 3) := by decide +kernel
theorem dX4_read_72 : decode cX4_read 72 = .ok (.aload_n 0, 1) := by decide +kernel
theorem dX4_read_73 : decode cX4_read 73 = .ok (.getfield 40, 3) := by decide +kernel
theorem dX4_read_76 : decode cX4_read 76 = .ok (.ifCond .ne 23, 3) := by decide +kernel
theorem dX4_read_79 : decode cX4_read 79 = .ok (.aload_n 0, 1) := by decide +kernel
theorem dX4_read_80 : decode cX4_read 80 = .ok (.invokevirtual 58, 3) := by decide +kernel
theorem dX4_read_83 : decode cX4_read 83 = .ok (.ifCond .ne 16, 3) := by decide +kernel
theorem dX4_read_86 : decode cX4_read 86 = .ok (.aload_n 0, 1) := by decide +kernel
theorem dX4_read_87 : decode cX4_read 87 = .ok (.iconst 5, 1) := by decide +kernel
theorem dX4_read_88 : decode cX4_read 88 = .ok (.putfield 40, 3) := by decide +kernel
theorem dX4_read_91 : decode cX4_read 91 = .ok (.aload_n 0, 1) := by decide +kernel
theorem dX4_read_92 : decode cX4_read 92 = .ok (.aload_n 0, 1) := by decide +kernel
theorem dX4_read_93 : decode cX4_read 93 = .ok (.getfield 43, 3) := by decide +kernel
theorem dX4_read_96 : decode cX4_read 96 = .ok (.putfield 25, 3) := by decide +kernel
theorem dX4_read_99 : decode cX4_read 99 = .ok (.return_, 1) := by decide +kernel
theorem dX4_isSound_0 : decode cX4_isSound 0 = .ok (.iconst 0, 1) := by decide +kernel
theorem dX4_isSound_1 : decode cX4_isSound 1 = .ok (.istore_n 1, 1) := by decide +kernel
theorem dX4_isSound_2 : decode cX4_isSound 2 = .ok (.iload_n 1, 1) := by decide +kernel
theorem dX4_isSound_3 : decode cX4_isSound 3 = .ok (.bipush 12, 2) := by decide +kernel
theorem dX4_isSound_5 : decode cX4_isSound 5 = .ok (.if_icmp .ge 34, 3) := by decide +kernel
theorem dX4_isSound_8 : decode cX4_isSound 8 = .ok (.aload_n 0, 1) := by decide +kernel
theorem dX4_isSound_9 : decode cX4_isSound 9 = .ok (.getfield 12, 3) := by decide +kernel
theorem dX4_isSound_12 : decode cX4_isSound 12 = .ok (.iload_n 1, 1) := by decide +kernel
theorem dX4_isSound_13 : decode cX4_isSound 13 = .ok (.invokevirtual 62, 3) := by decide +kernel
theorem dX4_isSound_16 : decode cX4_isSound 16 = .ok (.ifCond .eq 17, 3) := by decide +kernel
theorem dX4_isSound_19 : decode cX4_isSound 19 = .ok (.aload_n 0, 1) := by decide +kernel
theorem dX4_isSound_20 : decode cX4_isSound 20 = .ok (.getfield 21, 3) := by decide +kernel
theorem dX4_isSound_23 : decode cX4_isSound 23 = .ok (.getfield 66, 3) := by decide +kernel
theorem dX4_isSound_26 : decode cX4_isSound 26 = .ok (.iload_n 1, 1) := by decide +kernel
theorem dX4_isSound_27 : decode cX4_isSound 27 = .ok (.iaload, 1) := by decide +kernel
theorem dX4_isSound_28 : decode cX4_isSound 28 = .ok (.ifCond .le 5, 3) := by decide +kernel
theorem dX4_isSound_31 : decode cX4_isSound 31 = .ok (.iconst 0, 1) := by decide +kernel
theorem dX4_isSound_32 : decode cX4_isSound 32 = .ok (.ireturn, 1) := by decide +kernel
theorem dX4_isSound_33 : decode cX4_isSound 33 = .ok (.iinc 1 1, 3) := by decide +kernel
theorem dX4_isSound_36 : decode cX4_isSound 36 = .ok (.goto (-34), 3) := by decide +kernel
theorem dX4_isSound_39 : decode cX4_isSound 39 = .ok (.aload_n 0, 1) := by decide +kernel
theorem dX4_isSound_40 : decode cX4_isSound 40 = .ok (.getfield 21, 3) := by decide +kernel
theorem dX4_isSound_43 : decode cX4_isSound 43 = .ok (.invokevirtual 69, 3) := by decide +kernel
theorem dX4_isSound_46 : decode cX4_isSound 46 = .ok (.bipush 40, 2) := by decide +kernel
theorem dX4_isSound_48 : decode cX4_isSound 48 = .ok (.if_icmp .gt 7, 3) := by decide +kernel
theorem dX4_isSound_51 : decode cX4_isSound 51 = .ok (.iconst 1, 1) := by decide +kernel
theorem dX4_isSound_52 : decode cX4_isSound 52 = .ok (.goto 4, 3) := by decide +kernel
theorem dX4_isSound_55 : decode cX4_isSound 55 = .ok (.iconst 0, 1) := by decide +kernel
theorem dX4_isSound_56 : decode cX4_isSound 56 = .ok (.ireturn, 1) := by decide +kernel
theorem dX4_refuse_0 : decode cX4_refuse 0 = .ok (.aload_n 0, 1) := by decide +kernel
theorem dX4_refuse_1 : decode cX4_refuse 1 = .ok (.getfield 40, 3) := by decide +kernel
theorem dX4_refuse_4 : decode cX4_refuse 4 = .ok (.ifCond .ne 16, 3) := by decide +kernel
theorem dX4_refuse_7 : decode cX4_refuse 7 = .ok (.aload_n 0, 1) := by decide +kernel
theorem dX4_refuse_8 : decode cX4_refuse 8 = .ok (.iload_n 1, 1) := by decide +kernel
theorem dX4_refuse_9 : decode cX4_refuse 9 = .ok (.putfield 40, 3) := by decide +kernel
theorem dX4_refuse_12 : decode cX4_refuse 12 = .ok (.aload_n 0, 1) := by decide +kernel
theorem dX4_refuse_13 : decode cX4_refuse 13 = .ok (.aload_n 0, 1) := by decide +kernel
theorem dX4_refuse_14 : decode cX4_refuse 14 = .ok (.getfield 73, 3) := by decide +kernel
theorem dX4_refuse_17 : decode cX4_refuse 17 = .ok (.putfield 25, 3) := by decide +kernel
theorem dX4_refuse_20 : decode cX4_refuse 20 = .ok (.return_, 1) := by decide +kernel
theorem dX4_readLine_0 : decode cX4_readLine 0 = .ok (.aload_n 0, 1) := by decide +kernel
theorem dX4_readLine_1 : decode cX4_readLine 1 = .ok (.ldc 76, 2) := by decide +kernel
theorem dX4_readLine_3 : decode cX4_readLine 3 = .ok (.invokevirtual 78, 3) := by decide +kernel
theorem dX4_readLine_6 : decode cX4_readLine 6 = .ok (.ifCond .eq 10, 3) := by decide +kernel
theorem dX4_readLine_9 : decode cX4_readLine 9 = .ok (.aload_n 0, 1) := by decide +kernel
theorem dX4_readLine_10 : decode cX4_readLine 10 = .ok (.invokevirtual 82, 3) := by decide +kernel
theorem dX4_readLine_13 : decode cX4_readLine 13 = .ok (.goto 194, 3) := by decide +kernel
theorem dX4_readLine_16 : decode cX4_readLine 16 = .ok (.aload_n 0, 1) := by decide +kernel
theorem dX4_readLine_17 : decode cX4_readLine 17 = .ok (.ldc 85, 2) := by decide +kernel
theorem dX4_readLine_19 : decode cX4_readLine 19 = .ok (.invokevirtual 78, 3) := by decide +kernel
theorem dX4_readLine_22 : decode cX4_readLine 22 = .ok (.ifCond .eq 10, 3) := by decide +kernel
theorem dX4_readLine_25 : decode cX4_readLine 25 = .ok (.aload_n 0, 1) := by decide +kernel
theorem dX4_readLine_26 : decode cX4_readLine 26 = .ok (.invokevirtual 87, 3) := by decide +kernel
theorem dX4_readLine_29 : decode cX4_readLine 29 = .ok (.goto 178, 3) := by decide +kernel
theorem dX4_readLine_32 : decode cX4_readLine 32 = .ok (.aload_n 0, 1) := by decide +kernel
theorem dX4_readLine_33 : decode cX4_readLine 33 = .ok (.ldc 90, 2) := by decide +kernel
theorem dX4_readLine_35 : decode cX4_readLine 35 = .ok (.invokevirtual 78, 3) := by decide +kernel
theorem dX4_readLine_38 : decode cX4_readLine 38 = .ok (.ifCond .eq 10, 3) := by decide +kernel
theorem dX4_readLine_41 : decode cX4_readLine 41 = .ok (.aload_n 0, 1) := by decide +kernel
theorem dX4_readLine_42 : decode cX4_readLine 42 = .ok (.invokevirtual 92, 3) := by decide +kernel
theorem dX4_readLine_45 : decode cX4_readLine 45 = .ok (.goto 162, 3) := by decide +kernel
theorem dX4_readLine_48 : decode cX4_readLine 48 = .ok (.aload_n 0, 1) := by decide +kernel
theorem dX4_readLine_49 : decode cX4_readLine 49 = .ok (.ldc 95, 2) := by decide +kernel
theorem dX4_readLine_51 : decode cX4_readLine 51 = .ok (.invokevirtual 78, 3) := by decide +kernel
theorem dX4_readLine_54 : decode cX4_readLine 54 = .ok (.ifCond .eq 44, 3) := by decide +kernel
theorem dX4_readLine_57 : decode cX4_readLine 57 = .ok (.aload_n 0, 1) := by decide +kernel
theorem dX4_readLine_58 : decode cX4_readLine 58 = .ok (.invokevirtual 49, 3) := by decide +kernel
theorem dX4_readLine_61 : decode cX4_readLine 61 = .ok (.aload_n 0, 1) := by decide +kernel
theorem dX4_readLine_62 : decode cX4_readLine 62 = .ok (.getfield 21, 3) := by decide +kernel
theorem dX4_readLine_65 : decode cX4_readLine 65 = .ok (.getfield 66, 3) := by decide +kernel
theorem dX4_readLine_68 : decode cX4_readLine 68 = .ok (.bipush 12, 2) := by decide +kernel
theorem dX4_readLine_70 : decode cX4_readLine 70 = .ok (.aload_n 0, 1) := by decide +kernel
theorem dX4_readLine_71 : decode cX4_readLine 71 = .ok (.iconst 0, 1) := by decide +kernel
theorem dX4_readLine_72 : decode cX4_readLine 72 = .ok (.bipush 99, 2) := by decide +kernel
theorem dX4_readLine_74 : decode cX4_readLine 74 = .ok (.invokevirtual 97, 3) := by decide +kernel
theorem dX4_readLine_77 : decode cX4_readLine 77 = .ok (.iastore, 1) := by decide +kernel
theorem dX4_readLine_78 : decode cX4_readLine 78 = .ok (.aload_n 0, 1) := by decide +kernel
theorem dX4_readLine_79 : decode cX4_readLine 79 = .ok (.getfield 21, 3) := by decide +kernel
theorem dX4_readLine_82 : decode cX4_readLine 82 = .ok (.getfield 66, 3) := by decide +kernel
theorem dX4_readLine_85 : decode cX4_readLine 85 = .ok (.bipush 13, 2) := by decide +kernel
theorem dX4_readLine_87 : decode cX4_readLine 87 = .ok (.aload_n 0, 1) := by decide +kernel
theorem dX4_readLine_88 : decode cX4_readLine 88 = .ok (.iconst 0, 1) := by decide +kernel
theorem dX4_readLine_89 : decode cX4_readLine 89 = .ok (.bipush 99, 2) := by decide +kernel
theorem dX4_readLine_91 : decode cX4_readLine 91 = .ok (.invokevirtual 97, 3) := by decide +kernel
theorem dX4_readLine_94 : decode cX4_readLine 94 = .ok (.iastore, 1) := by decide +kernel
theorem dX4_readLine_95 : decode cX4_readLine 95 = .ok (.goto 112, 3) := by decide +kernel
theorem dX4_readLine_98 : decode cX4_readLine 98 = .ok (.aload_n 0, 1) := by decide +kernel
theorem dX4_readLine_99 : decode cX4_readLine 99 = .ok (.ldc 101, 2) := by decide +kernel
theorem dX4_readLine_101 : decode cX4_readLine 101 = .ok (.invokevirtual 78, 3) := by decide +kernel
theorem dX4_readLine_104 : decode cX4_readLine 104 = .ok (.ifCond .eq 40, 3) := by decide +kernel
theorem dX4_readLine_107 : decode cX4_readLine 107 = .ok (.aload_n 0, 1) := by decide +kernel
theorem dX4_readLine_108 : decode cX4_readLine 108 = .ok (.invokevirtual 49, 3) := by decide +kernel
theorem dX4_readLine_111 : decode cX4_readLine 111 = .ok (.aload_n 0, 1) := by decide +kernel
theorem dX4_readLine_112 : decode cX4_readLine 112 = .ok (.getfield 12, 3) := by decide +kernel
theorem dX4_readLine_115 : decode cX4_readLine 115 = .ok (.dup, 1) := by decide +kernel
theorem dX4_readLine_116 : decode cX4_readLine 116 = .ok (.getfield 103, 3) := by decide +kernel
theorem dX4_readLine_119 : decode cX4_readLine 119 = .ok (.iconst 1, 1) := by decide +kernel
theorem dX4_readLine_120 : decode cX4_readLine 120 = .ok (.aload_n 0, 1) := by decide +kernel
theorem dX4_readLine_121 : decode cX4_readLine 121 = .ok (.iconst 0, 1) := by decide +kernel
theorem dX4_readLine_122 : decode cX4_readLine 122 = .ok (.iconst 2, 1) := by decide +kernel
theorem dX4_readLine_123 : decode cX4_readLine 123 = .ok (.aload_n 0, 1) := by decide +kernel
theorem dX4_readLine_124 : decode cX4_readLine 124 = .ok (.getfield 12, 3) := by decide +kernel
theorem dX4_readLine_127 : decode cX4_readLine 127 = .ok (.getfield 105, 3) := by decide +kernel
theorem dX4_readLine_130 : decode cX4_readLine 130 = .ok (.imul, 1) := by decide +kernel
theorem dX4_readLine_131 : decode cX4_readLine 131 = .ok (.iconst 1, 1) := by decide +kernel
theorem dX4_readLine_132 : decode cX4_readLine 132 = .ok (.isub, 1) := by decide +kernel
theorem dX4_readLine_133 : decode cX4_readLine 133 = .ok (.invokevirtual 97, 3) := by decide +kernel
theorem dX4_readLine_136 : decode cX4_readLine 136 = .ok (.ishl, 1) := by decide +kernel
theorem dX4_readLine_137 : decode cX4_readLine 137 = .ok (.ior, 1) := by decide +kernel
theorem dX4_readLine_138 : decode cX4_readLine 138 = .ok (.putfield 103, 3) := by decide +kernel
theorem dX4_readLine_141 : decode cX4_readLine 141 = .ok (.goto 66, 3) := by decide +kernel
theorem dX4_readLine_144 : decode cX4_readLine 144 = .ok (.aload_n 0, 1) := by decide +kernel
theorem dX4_readLine_145 : decode cX4_readLine 145 = .ok (.ldc 108, 2) := by decide +kernel
theorem dX4_readLine_147 : decode cX4_readLine 147 = .ok (.invokevirtual 78, 3) := by decide +kernel
theorem dX4_readLine_150 : decode cX4_readLine 150 = .ok (.ifCond .eq 23, 3) := by decide +kernel
theorem dX4_readLine_153 : decode cX4_readLine 153 = .ok (.aload_n 0, 1) := by decide +kernel
theorem dX4_readLine_154 : decode cX4_readLine 154 = .ok (.invokevirtual 49, 3) := by decide +kernel
theorem dX4_readLine_157 : decode cX4_readLine 157 = .ok (.aload_n 0, 1) := by decide +kernel
theorem dX4_readLine_158 : decode cX4_readLine 158 = .ok (.getfield 21, 3) := by decide +kernel
theorem dX4_readLine_161 : decode cX4_readLine 161 = .ok (.aload_n 0, 1) := by decide +kernel
theorem dX4_readLine_162 : decode cX4_readLine 162 = .ok (.iconst 0, 1) := by decide +kernel
theorem dX4_readLine_163 : decode cX4_readLine 163 = .ok (.iconst 1, 1) := by decide +kernel
theorem dX4_readLine_164 : decode cX4_readLine 164 = .ok (.invokevirtual 97, 3) := by decide +kernel
theorem dX4_readLine_167 : decode cX4_readLine 167 = .ok (.putfield 110, 3) := by decide +kernel
theorem dX4_readLine_170 : decode cX4_readLine 170 = .ok (.goto 37, 3) := by decide +kernel
theorem dX4_readLine_173 : decode cX4_readLine 173 = .ok (.aload_n 0, 1) := by decide +kernel
theorem dX4_readLine_174 : decode cX4_readLine 174 = .ok (.ldc 113, 2) := by decide +kernel
theorem dX4_readLine_176 : decode cX4_readLine 176 = .ok (.invokevirtual 78, 3) := by decide +kernel
theorem dX4_readLine_179 : decode cX4_readLine 179 = .ok (.ifCond .eq 24, 3) := by decide +kernel
theorem dX4_readLine_182 : decode cX4_readLine 182 = .ok (.aload_n 0, 1) := by decide +kernel
theorem dX4_readLine_183 : decode cX4_readLine 183 = .ok (.invokevirtual 49, 3) := by decide +kernel
theorem dX4_readLine_186 : decode cX4_readLine 186 = .ok (.aload_n 0, 1) := by decide +kernel
theorem dX4_readLine_187 : decode cX4_readLine 187 = .ok (.getfield 12, 3) := by decide +kernel
theorem dX4_readLine_190 : decode cX4_readLine 190 = .ok (.aload_n 0, 1) := by decide +kernel
theorem dX4_readLine_191 : decode cX4_readLine 191 = .ok (.iconst 1, 1) := by decide +kernel
theorem dX4_readLine_192 : decode cX4_readLine 192 = .ok (.bipush 20, 2) := by decide +kernel
theorem dX4_readLine_194 : decode cX4_readLine 194 = .ok (.invokevirtual 97, 3) := by decide +kernel
theorem dX4_readLine_197 : decode cX4_readLine 197 = .ok (.putfield 115, 3) := by decide +kernel
theorem dX4_readLine_200 : decode cX4_readLine 200 = .ok (.goto 7, 3) := by decide +kernel
theorem dX4_readLine_203 : decode cX4_readLine 203 = .ok (.aload_n 0, 1) := by decide +kernel
theorem dX4_readLine_204 : decode cX4_readLine 204 = .ok (.invokevirtual 117, 3) := by decide +kernel
theorem dX4_readLine_207 : decode cX4_readLine 207 = .ok (.aload_n 0, 1) := by decide +kernel
theorem dX4_readLine_208 : decode cX4_readLine 208 = .ok (.getfield 52, 3) := by decide +kernel
theorem dX4_readLine_211 : decode cX4_readLine 211 = .ok (.iconst 3, 1) := by decide +kernel
theorem dX4_readLine_212 : decode cX4_readLine 212 = .ok (.if_icmp .eq 8, 3) := by decide +kernel
theorem dX4_readLine_215 : decode cX4_readLine 215 = .ok (.aload_n 0, 1) := by decide +kernel
theorem dX4_readLine_216 : decode cX4_readLine 216 = .ok (.iconst 2, 1) := by decide +kernel
theorem dX4_readLine_217 : decode cX4_readLine 217 = .ok (.invokevirtual 120, 3) := by decide +kernel
theorem dX4_readLine_220 : decode cX4_readLine 220 = .ok (.aload_n 0, 1) := by decide +kernel
theorem dX4_readLine_221 : decode cX4_readLine 221 = .ok (.getfield 40, 3) := by decide +kernel
theorem dX4_readLine_224 : decode cX4_readLine 224 = .ok (.ifCond .ne 20, 3) := by decide +kernel
theorem dX4_readLine_227 : decode cX4_readLine 227 = .ok (.aload_n 0, 1) := by decide +kernel
theorem dX4_readLine_228 : decode cX4_readLine 228 = .ok (.getfield 12, 3) := by decide +kernel
theorem dX4_readLine_231 : decode cX4_readLine 231 = .ok (.dup, 1) := by decide +kernel
theorem dX4_readLine_232 : decode cX4_readLine 232 = .ok (.getfield 124, 3) := by decide +kernel
theorem dX4_readLine_235 : decode cX4_readLine 235 = .ok (.iconst 1, 1) := by decide +kernel
theorem dX4_readLine_236 : decode cX4_readLine 236 = .ok (.iadd, 1) := by decide +kernel
theorem dX4_readLine_237 : decode cX4_readLine 237 = .ok (.putfield 124, 3) := by decide +kernel
theorem dX4_readLine_240 : decode cX4_readLine 240 = .ok (.aload_n 0, 1) := by decide +kernel
theorem dX4_readLine_241 : decode cX4_readLine 241 = .ok (.invokevirtual 49, 3) := by decide +kernel
theorem dX4_readLine_244 : decode cX4_readLine 244 = .ok (.return_, 1) := by decide +kernel
theorem dX4_readPerSide_0 : decode cX4_readPerSide 0 = .ok (.aload_n 0, 1) := by decide +kernel
theorem dX4_readPerSide_1 : decode cX4_readPerSide 1 = .ok (.getfield 12, 3) := by decide +kernel
theorem dX4_readPerSide_4 : decode cX4_readPerSide 4 = .ok (.getfield 124, 3) := by decide +kernel
theorem dX4_readPerSide_7 : decode cX4_readPerSide 7 = .ok (.ifCond .le 9, 3) := by decide +kernel
theorem dX4_readPerSide_10 : decode cX4_readPerSide 10 = .ok (.aload_n 0, 1) := by decide +kernel
theorem dX4_readPerSide_11 : decode cX4_readPerSide 11 = .ok (.iconst 2, 1) := by decide +kernel
theorem dX4_readPerSide_12 : decode cX4_readPerSide 12 = .ok (.invokevirtual 120, 3) := by decide +kernel
theorem dX4_readPerSide_15 : decode cX4_readPerSide 15 = .ok (.return_, 1) := by decide +kernel
theorem dX4_readPerSide_16 : decode cX4_readPerSide 16 = .ok (.aload_n 0, 1) := by decide +kernel
theorem dX4_readPerSide_17 : decode cX4_readPerSide 17 = .ok (.invokevirtual 49, 3) := by decide +kernel
theorem dX4_readPerSide_20 : decode cX4_readPerSide 20 = .ok (.aload_n 0, 1) := by decide +kernel
theorem dX4_readPerSide_21 : decode cX4_readPerSide 21 = .ok (.getfield 12, 3) := by decide +kernel
theorem dX4_readPerSide_24 : decode cX4_readPerSide 24 = .ok (.aload_n 0, 1) := by decide +kernel
theorem dX4_readPerSide_25 : decode cX4_readPerSide 25 = .ok (.iconst 1, 1) := by decide +kernel
theorem dX4_readPerSide_26 : decode cX4_readPerSide 26 = .ok (.bipush 6, 2) := by decide +kernel
theorem dX4_readPerSide_28 : decode cX4_readPerSide 28 = .ok (.invokevirtual 97, 3) := by decide +kernel
theorem dX4_readPerSide_31 : decode cX4_readPerSide 31 = .ok (.putfield 105, 3) := by decide +kernel
theorem dX4_readPerSide_34 : decode cX4_readPerSide 34 = .ok (.return_, 1) := by decide +kernel
theorem dX4_readSeeds_0 : decode cX4_readSeeds 0 = .ok (.aload_n 0, 1) := by decide +kernel
theorem dX4_readSeeds_1 : decode cX4_readSeeds 1 = .ok (.invokevirtual 49, 3) := by decide +kernel
theorem dX4_readSeeds_4 : decode cX4_readSeeds 4 = .ok (.iconst 0, 1) := by decide +kernel
theorem dX4_readSeeds_5 : decode cX4_readSeeds 5 = .ok (.istore_n 1, 1) := by decide +kernel
theorem dX4_readSeeds_6 : decode cX4_readSeeds 6 = .ok (.aload_n 0, 1) := by decide +kernel
theorem dX4_readSeeds_7 : decode cX4_readSeeds 7 = .ok (.iconst 0, 1) := by decide +kernel
theorem dX4_readSeeds_8 : decode cX4_readSeeds 8 = .ok (.bipush 20, 2) := by decide +kernel
theorem dX4_readSeeds_10 : decode cX4_readSeeds 10 = .ok (.invokevirtual 127, 3) := by decide +kernel
theorem dX4_readSeeds_13 : decode cX4_readSeeds 13 = .ok (.istore_n 2, 1) := by decide +kernel
theorem dX4_readSeeds_14 : decode cX4_readSeeds 14 = .ok (.aload_n 0, 1) := by decide +kernel
theorem dX4_readSeeds_15 : decode cX4_readSeeds 15 = .ok (.getfield 40, 3) := by decide +kernel
theorem dX4_readSeeds_18 : decode cX4_readSeeds 18 = .ok (.ifCond .ne 21, 3) := by decide +kernel
theorem dX4_readSeeds_21 : decode cX4_readSeeds 21 = .ok (.iload_n 1, 1) := by decide +kernel
theorem dX4_readSeeds_22 : decode cX4_readSeeds 22 = .ok (.iconst 2, 1) := by decide +kernel
theorem dX4_readSeeds_23 : decode cX4_readSeeds 23 = .ok (.aload_n 0, 1) := by decide +kernel
theorem dX4_readSeeds_24 : decode cX4_readSeeds 24 = .ok (.getfield 12, 3) := by decide +kernel
theorem dX4_readSeeds_27 : decode cX4_readSeeds 27 = .ok (.getfield 105, 3) := by decide +kernel
theorem dX4_readSeeds_30 : decode cX4_readSeeds 30 = .ok (.imul, 1) := by decide +kernel
theorem dX4_readSeeds_31 : decode cX4_readSeeds 31 = .ok (.if_icmp .lt 8, 3) := by decide +kernel
theorem dX4_readSeeds_34 : decode cX4_readSeeds 34 = .ok (.aload_n 0, 1) := by decide +kernel
theorem dX4_readSeeds_35 : decode cX4_readSeeds 35 = .ok (.iconst 4, 1) := by decide +kernel
theorem dX4_readSeeds_36 : decode cX4_readSeeds 36 = .ok (.invokevirtual 120, 3) := by decide +kernel
theorem dX4_readSeeds_39 : decode cX4_readSeeds 39 = .ok (.aload_n 0, 1) := by decide +kernel
theorem dX4_readSeeds_40 : decode cX4_readSeeds 40 = .ok (.getfield 40, 3) := by decide +kernel
theorem dX4_readSeeds_43 : decode cX4_readSeeds 43 = .ok (.ifCond .eq 4, 3) := by decide +kernel
theorem dX4_readSeeds_46 : decode cX4_readSeeds 46 = .ok (.return_, 1) := by decide +kernel
theorem dX4_readSeeds_47 : decode cX4_readSeeds 47 = .ok (.aload_n 0, 1) := by decide +kernel
theorem dX4_readSeeds_48 : decode cX4_readSeeds 48 = .ok (.getfield 21, 3) := by decide +kernel
theorem dX4_readSeeds_51 : decode cX4_readSeeds 51 = .ok (.getfield 66, 3) := by decide +kernel
theorem dX4_readSeeds_54 : decode cX4_readSeeds 54 = .ok (.iload_n 1, 1) := by decide +kernel
theorem dX4_readSeeds_55 : decode cX4_readSeeds 55 = .ok (.iload_n 2, 1) := by decide +kernel
theorem dX4_readSeeds_56 : decode cX4_readSeeds 56 = .ok (.iastore, 1) := by decide +kernel
theorem dX4_readSeeds_57 : decode cX4_readSeeds 57 = .ok (.iinc 1 1, 3) := by decide +kernel
theorem dX4_readSeeds_60 : decode cX4_readSeeds 60 = .ok (.aload_n 0, 1) := by decide +kernel
theorem dX4_readSeeds_61 : decode cX4_readSeeds 61 = .ok (.invokevirtual 49, 3) := by decide +kernel
theorem dX4_readSeeds_64 : decode cX4_readSeeds 64 = .ok (.aload_n 0, 1) := by decide +kernel
theorem dX4_readSeeds_65 : decode cX4_readSeeds 65 = .ok (.getfield 52, 3) := by decide +kernel
theorem dX4_readSeeds_68 : decode cX4_readSeeds 68 = .ok (.iconst 2, 1) := by decide +kernel
theorem dX4_readSeeds_69 : decode cX4_readSeeds 69 = .ok (.if_icmp .ne 9, 3) := by decide +kernel
theorem dX4_readSeeds_72 : decode cX4_readSeeds 72 = .ok (.iload_n 1, 1) := by decide +kernel
theorem dX4_readSeeds_73 : decode cX4_readSeeds 73 = .ok (.bipush 12, 2) := by decide +kernel
theorem dX4_readSeeds_75 : decode cX4_readSeeds 75 = .ok (.if_icmp .le (-69), 3) := by decide +kernel
theorem dX4_readSeeds_78 : decode cX4_readSeeds 78 = .ok (.return_, 1) := by decide +kernel
theorem dX4_readTake_0 : decode cX4_readTake 0 = .ok (.aload_n 0, 1) := by decide +kernel
theorem dX4_readTake_1 : decode cX4_readTake 1 = .ok (.invokevirtual 49, 3) := by decide +kernel
theorem dX4_readTake_4 : decode cX4_readTake 4 = .ok (.aload_n 0, 1) := by decide +kernel
theorem dX4_readTake_5 : decode cX4_readTake 5 = .ok (.ldc 130, 2) := by decide +kernel
theorem dX4_readTake_7 : decode cX4_readTake 7 = .ok (.invokevirtual 78, 3) := by decide +kernel
theorem dX4_readTake_10 : decode cX4_readTake 10 = .ok (.ifCond .eq 14, 3) := by decide +kernel
theorem dX4_readTake_13 : decode cX4_readTake 13 = .ok (.aload_n 0, 1) := by decide +kernel
theorem dX4_readTake_14 : decode cX4_readTake 14 = .ok (.getfield 12, 3) := by decide +kernel
theorem dX4_readTake_17 : decode cX4_readTake 17 = .ok (.iconst 0, 1) := by decide +kernel
theorem dX4_readTake_18 : decode cX4_readTake 18 = .ok (.putfield 132, 3) := by decide +kernel
theorem dX4_readTake_21 : decode cX4_readTake 21 = .ok (.goto 49, 3) := by decide +kernel
theorem dX4_readTake_24 : decode cX4_readTake 24 = .ok (.aload_n 0, 1) := by decide +kernel
theorem dX4_readTake_25 : decode cX4_readTake 25 = .ok (.ldc 134, 2) := by decide +kernel
theorem dX4_readTake_27 : decode cX4_readTake 27 = .ok (.invokevirtual 78, 3) := by decide +kernel
theorem dX4_readTake_30 : decode cX4_readTake 30 = .ok (.ifCond .eq 14, 3) := by decide +kernel
theorem dX4_readTake_33 : decode cX4_readTake 33 = .ok (.aload_n 0, 1) := by decide +kernel
theorem dX4_readTake_34 : decode cX4_readTake 34 = .ok (.getfield 12, 3) := by decide +kernel
theorem dX4_readTake_37 : decode cX4_readTake 37 = .ok (.iconst 1, 1) := by decide +kernel
theorem dX4_readTake_38 : decode cX4_readTake 38 = .ok (.putfield 132, 3) := by decide +kernel
theorem dX4_readTake_41 : decode cX4_readTake 41 = .ok (.goto 29, 3) := by decide +kernel
theorem dX4_readTake_44 : decode cX4_readTake 44 = .ok (.aload_n 0, 1) := by decide +kernel
theorem dX4_readTake_45 : decode cX4_readTake 45 = .ok (.ldc 136, 2) := by decide +kernel
theorem dX4_readTake_47 : decode cX4_readTake 47 = .ok (.invokevirtual 78, 3) := by decide +kernel
theorem dX4_readTake_50 : decode cX4_readTake 50 = .ok (.ifCond .eq 14, 3) := by decide +kernel
theorem dX4_readTake_53 : decode cX4_readTake 53 = .ok (.aload_n 0, 1) := by decide +kernel
theorem dX4_readTake_54 : decode cX4_readTake 54 = .ok (.getfield 12, 3) := by decide +kernel
theorem dX4_readTake_57 : decode cX4_readTake 57 = .ok (.iconst 2, 1) := by decide +kernel
theorem dX4_readTake_58 : decode cX4_readTake 58 = .ok (.putfield 132, 3) := by decide +kernel
theorem dX4_readTake_61 : decode cX4_readTake 61 = .ok (.goto 9, 3) := by decide +kernel
theorem dX4_readTake_64 : decode cX4_readTake 64 = .ok (.aload_n 0, 1) := by decide +kernel
theorem dX4_readTake_65 : decode cX4_readTake 65 = .ok (.iconst 2, 1) := by decide +kernel
theorem dX4_readTake_66 : decode cX4_readTake 66 = .ok (.invokevirtual 120, 3) := by decide +kernel
theorem dX4_readTake_69 : decode cX4_readTake 69 = .ok (.return_, 1) := by decide +kernel
theorem dX4_readTake_70 : decode cX4_readTake 70 = .ok (.aload_n 0, 1) := by decide +kernel
theorem dX4_readTake_71 : decode cX4_readTake 71 = .ok (.invokevirtual 49, 3) := by decide +kernel
theorem dX4_readTake_74 : decode cX4_readTake 74 = .ok (.aload_n 0, 1) := by decide +kernel
theorem dX4_readTake_75 : decode cX4_readTake 75 = .ok (.getfield 12, 3) := by decide +kernel
theorem dX4_readTake_78 : decode cX4_readTake 78 = .ok (.getfield 132, 3) := by decide +kernel
theorem dX4_readTake_81 : decode cX4_readTake 81 = .ok (.iconst 2, 1) := by decide +kernel
theorem dX4_readTake_82 : decode cX4_readTake 82 = .ok (.if_icmp .ne 24, 3) := by decide +kernel
theorem dX4_readTake_85 : decode cX4_readTake 85 = .ok (.aload_n 0, 1) := by decide +kernel
theorem dX4_readTake_86 : decode cX4_readTake 86 = .ok (.ldc 138, 2) := by decide +kernel
theorem dX4_readTake_88 : decode cX4_readTake 88 = .ok (.invokevirtual 78, 3) := by decide +kernel
theorem dX4_readTake_91 : decode cX4_readTake 91 = .ok (.ifCond .eq 15, 3) := by decide +kernel
theorem dX4_readTake_94 : decode cX4_readTake 94 = .ok (.aload_n 0, 1) := by decide +kernel
theorem dX4_readTake_95 : decode cX4_readTake 95 = .ok (.getfield 12, 3) := by decide +kernel
theorem dX4_readTake_98 : decode cX4_readTake 98 = .ok (.iconst 3, 1) := by decide +kernel
theorem dX4_readTake_99 : decode cX4_readTake 99 = .ok (.putfield 132, 3) := by decide +kernel
theorem dX4_readTake_102 : decode cX4_readTake 102 = .ok (.aload_n 0, 1) := by decide +kernel
theorem dX4_readTake_103 : decode cX4_readTake 103 = .ok (.invokevirtual 49, 3) := by decide +kernel
theorem dX4_readTake_106 : decode cX4_readTake 106 = .ok (.return_, 1) := by decide +kernel
theorem dX4_readFlag_0 : decode cX4_readFlag 0 = .ok (.aload_n 0, 1) := by decide +kernel
theorem dX4_readFlag_1 : decode cX4_readFlag 1 = .ok (.ldc 140, 2) := by decide +kernel
theorem dX4_readFlag_3 : decode cX4_readFlag 3 = .ok (.invokevirtual 78, 3) := by decide +kernel
theorem dX4_readFlag_6 : decode cX4_readFlag 6 = .ok (.ifCond .eq 14, 3) := by decide +kernel
theorem dX4_readFlag_9 : decode cX4_readFlag 9 = .ok (.aload_n 0, 1) := by decide +kernel
theorem dX4_readFlag_10 : decode cX4_readFlag 10 = .ok (.getfield 12, 3) := by decide +kernel
theorem dX4_readFlag_13 : decode cX4_readFlag 13 = .ok (.iconst 1, 1) := by decide +kernel
theorem dX4_readFlag_14 : decode cX4_readFlag 14 = .ok (.putfield 142, 3) := by decide +kernel
theorem dX4_readFlag_17 : decode cX4_readFlag 17 = .ok (.goto 69, 3) := by decide +kernel
theorem dX4_readFlag_20 : decode cX4_readFlag 20 = .ok (.aload_n 0, 1) := by decide +kernel
theorem dX4_readFlag_21 : decode cX4_readFlag 21 = .ok (.ldc 145, 2) := by decide +kernel
theorem dX4_readFlag_23 : decode cX4_readFlag 23 = .ok (.invokevirtual 78, 3) := by decide +kernel
theorem dX4_readFlag_26 : decode cX4_readFlag 26 = .ok (.ifCond .eq 14, 3) := by decide +kernel
theorem dX4_readFlag_29 : decode cX4_readFlag 29 = .ok (.aload_n 0, 1) := by decide +kernel
theorem dX4_readFlag_30 : decode cX4_readFlag 30 = .ok (.getfield 12, 3) := by decide +kernel
theorem dX4_readFlag_33 : decode cX4_readFlag 33 = .ok (.iconst 1, 1) := by decide +kernel
theorem dX4_readFlag_34 : decode cX4_readFlag 34 = .ok (.putfield 147, 3) := by decide +kernel
theorem dX4_readFlag_37 : decode cX4_readFlag 37 = .ok (.goto 49, 3) := by decide +kernel
theorem dX4_readFlag_40 : decode cX4_readFlag 40 = .ok (.aload_n 0, 1) := by decide +kernel
theorem dX4_readFlag_41 : decode cX4_readFlag 41 = .ok (.ldc 149, 2) := by decide +kernel
theorem dX4_readFlag_43 : decode cX4_readFlag 43 = .ok (.invokevirtual 78, 3) := by decide +kernel
theorem dX4_readFlag_46 : decode cX4_readFlag 46 = .ok (.ifCond .eq 14, 3) := by decide +kernel
theorem dX4_readFlag_49 : decode cX4_readFlag 49 = .ok (.aload_n 0, 1) := by decide +kernel
theorem dX4_readFlag_50 : decode cX4_readFlag 50 = .ok (.getfield 12, 3) := by decide +kernel
theorem dX4_readFlag_53 : decode cX4_readFlag 53 = .ok (.iconst 1, 1) := by decide +kernel
theorem dX4_readFlag_54 : decode cX4_readFlag 54 = .ok (.putfield 151, 3) := by decide +kernel
theorem dX4_readFlag_57 : decode cX4_readFlag 57 = .ok (.goto 29, 3) := by decide +kernel
theorem dX4_readFlag_60 : decode cX4_readFlag 60 = .ok (.aload_n 0, 1) := by decide +kernel
theorem dX4_readFlag_61 : decode cX4_readFlag 61 = .ok (.ldc 153, 2) := by decide +kernel
theorem dX4_readFlag_63 : decode cX4_readFlag 63 = .ok (.invokevirtual 78, 3) := by decide +kernel
theorem dX4_readFlag_66 : decode cX4_readFlag 66 = .ok (.ifCond .eq 14, 3) := by decide +kernel
theorem dX4_readFlag_69 : decode cX4_readFlag 69 = .ok (.aload_n 0, 1) := by decide +kernel
theorem dX4_readFlag_70 : decode cX4_readFlag 70 = .ok (.getfield 12, 3) := by decide +kernel
theorem dX4_readFlag_73 : decode cX4_readFlag 73 = .ok (.iconst 1, 1) := by decide +kernel
theorem dX4_readFlag_74 : decode cX4_readFlag 74 = .ok (.putfield 155, 3) := by decide +kernel
theorem dX4_readFlag_77 : decode cX4_readFlag 77 = .ok (.goto 9, 3) := by decide +kernel
theorem dX4_readFlag_80 : decode cX4_readFlag 80 = .ok (.aload_n 0, 1) := by decide +kernel
theorem dX4_readFlag_81 : decode cX4_readFlag 81 = .ok (.iconst 2, 1) := by decide +kernel
theorem dX4_readFlag_82 : decode cX4_readFlag 82 = .ok (.invokevirtual 120, 3) := by decide +kernel
theorem dX4_readFlag_85 : decode cX4_readFlag 85 = .ok (.return_, 1) := by decide +kernel
theorem dX4_readFlag_86 : decode cX4_readFlag 86 = .ok (.aload_n 0, 1) := by decide +kernel
theorem dX4_readFlag_87 : decode cX4_readFlag 87 = .ok (.invokevirtual 49, 3) := by decide +kernel
theorem dX4_readFlag_90 : decode cX4_readFlag 90 = .ok (.return_, 1) := by decide +kernel
theorem dX4_checkedNumber_0 : decode cX4_checkedNumber 0 = .ok (.aload_n 0, 1) := by decide +kernel
theorem dX4_checkedNumber_1 : decode cX4_checkedNumber 1 = .ok (.getfield 52, 3) := by decide +kernel
theorem dX4_checkedNumber_4 : decode cX4_checkedNumber 4 = .ok (.iconst 2, 1) := by decide +kernel
theorem dX4_checkedNumber_5 : decode cX4_checkedNumber 5 = .ok (.if_icmp .eq 10, 3) := by decide +kernel
theorem dX4_checkedNumber_8 : decode cX4_checkedNumber 8 = .ok (.aload_n 0, 1) := by decide +kernel
theorem dX4_checkedNumber_9 : decode cX4_checkedNumber 9 = .ok (.iconst 2, 1) := by decide +kernel
theorem dX4_checkedNumber_10 : decode cX4_checkedNumber 10 = .ok (.invokevirtual 120, 3) := by decide +kernel
theorem dX4_checkedNumber_13 : decode cX4_checkedNumber 13 = .ok (.iload_n 1, 1) := by decide +kernel
theorem dX4_checkedNumber_14 : decode cX4_checkedNumber 14 = .ok (.ireturn, 1) := by decide +kernel
theorem dX4_checkedNumber_15 : decode cX4_checkedNumber 15 = .ok (.aload_n 0, 1) := by decide +kernel
theorem dX4_checkedNumber_16 : decode cX4_checkedNumber 16 = .ok (.getfield 158, 3) := by decide +kernel
theorem dX4_checkedNumber_19 : decode cX4_checkedNumber 19 = .ok (.iload_n 1, 1) := by decide +kernel
theorem dX4_checkedNumber_20 : decode cX4_checkedNumber 20 = .ok (.if_icmp .lt 11, 3) := by decide +kernel
theorem dX4_checkedNumber_23 : decode cX4_checkedNumber 23 = .ok (.aload_n 0, 1) := by decide +kernel
theorem dX4_checkedNumber_24 : decode cX4_checkedNumber 24 = .ok (.getfield 158, 3) := by decide +kernel
theorem dX4_checkedNumber_27 : decode cX4_checkedNumber 27 = .ok (.iload_n 2, 1) := by decide +kernel
theorem dX4_checkedNumber_28 : decode cX4_checkedNumber 28 = .ok (.if_icmp .le 10, 3) := by decide +kernel
theorem dX4_checkedNumber_31 : decode cX4_checkedNumber 31 = .ok (.aload_n 0, 1) := by decide +kernel
theorem dX4_checkedNumber_32 : decode cX4_checkedNumber 32 = .ok (.iconst 3, 1) := by decide +kernel
theorem dX4_checkedNumber_33 : decode cX4_checkedNumber 33 = .ok (.invokevirtual 120, 3) := by decide +kernel
theorem dX4_checkedNumber_36 : decode cX4_checkedNumber 36 = .ok (.iload_n 1, 1) := by decide +kernel
theorem dX4_checkedNumber_37 : decode cX4_checkedNumber 37 = .ok (.ireturn, 1) := by decide +kernel
theorem dX4_checkedNumber_38 : decode cX4_checkedNumber 38 = .ok (.aload_n 0, 1) := by decide +kernel
theorem dX4_checkedNumber_39 : decode cX4_checkedNumber 39 = .ok (.getfield 158, 3) := by decide +kernel
theorem dX4_checkedNumber_42 : decode cX4_checkedNumber 42 = .ok (.ireturn, 1) := by decide +kernel
theorem dX4_readNumber_0 : decode cX4_readNumber 0 = .ok (.aload_n 0, 1) := by decide +kernel
theorem dX4_readNumber_1 : decode cX4_readNumber 1 = .ok (.iload_n 1, 1) := by decide +kernel
theorem dX4_readNumber_2 : decode cX4_readNumber 2 = .ok (.iload_n 2, 1) := by decide +kernel
theorem dX4_readNumber_3 : decode cX4_readNumber 3 = .ok (.invokevirtual 127, 3) := by decide +kernel
theorem dX4_readNumber_6 : decode cX4_readNumber 6 = .ok (.istore_n 3, 1) := by decide +kernel
theorem dX4_readNumber_7 : decode cX4_readNumber 7 = .ok (.aload_n 0, 1) := by decide +kernel
theorem dX4_readNumber_8 : decode cX4_readNumber 8 = .ok (.getfield 40, 3) := by decide +kernel
theorem dX4_readNumber_11 : decode cX4_readNumber 11 = .ok (.ifCond .ne 7, 3) := by decide +kernel
theorem dX4_readNumber_14 : decode cX4_readNumber 14 = .ok (.aload_n 0, 1) := by decide +kernel
theorem dX4_readNumber_15 : decode cX4_readNumber 15 = .ok (.invokevirtual 49, 3) := by decide +kernel
theorem dX4_readNumber_18 : decode cX4_readNumber 18 = .ok (.iload_n 3, 1) := by decide +kernel
theorem dX4_readNumber_19 : decode cX4_readNumber 19 = .ok (.ireturn, 1) := by decide +kernel
