theorem dX0_init_0 : decode cX0_init 0 = .ok (.aload_n 0, 1) := by decide +kernel
theorem dX0_init_1 : decode cX0_init 1 = .ok (.invokespecial 3, 3) := by decide +kernel
theorem dX0_init_4 : decode cX0_init 4 = .ok (.aload_n 0, 1) := by decide +kernel
theorem dX0_init_5 : decode cX0_init 5 = .ok (.sipush 131, 3) := by decide +kernel
theorem dX0_init_8 : decode cX0_init 8 = .ok (.newarray .int, 2) := by decide +kernel
theorem dX0_init_10 : decode cX0_init 10 = .ok (.putfield 9, 3) := by decide +kernel
theorem dX0_init_13 : decode cX0_init 13 = .ok (.aload_n 0, 1) := by decide +kernel
theorem dX0_init_14 : decode cX0_init 14 = .ok (.sipush 131, 3) := by decide +kernel
theorem dX0_init_17 : decode cX0_init 17 = .ok (.newarray .int, 2) := by decide +kernel
theorem dX0_init_19 : decode cX0_init 19 = .ok (.putfield 15, 3) := by decide +kernel
theorem dX0_init_22 : decode cX0_init 22 = .ok (.aload_n 0, 1) := by decide +kernel
theorem dX0_init_23 : decode cX0_init 23 = .ok (.sipush 131, 3) := by decide +kernel
theorem dX0_init_26 : decode cX0_init 26 = .ok (.newarray .int, 2) := by decide +kernel
theorem dX0_init_28 : decode cX0_init 28 = .ok (.putfield 18, 3) := by decide +kernel
theorem dX0_init_31 : decode cX0_init 31 = .ok (.aload_n 0, 1) := by decide +kernel
theorem dX0_init_32 : decode cX0_init 32 = .ok (.sipush 131, 3) := by decide +kernel
theorem dX0_init_35 : decode cX0_init 35 = .ok (.newarray .int, 2) := by decide +kernel
theorem dX0_init_37 : decode cX0_init 37 = .ok (.putfield 21, 3) := by decide +kernel
theorem dX0_init_40 : decode cX0_init 40 = .ok (.aload_n 0, 1) := by decide +kernel
theorem dX0_init_41 : decode cX0_init 41 = .ok (.sipush 131, 3) := by decide +kernel
theorem dX0_init_44 : decode cX0_init 44 = .ok (.newarray .int, 2) := by decide +kernel
theorem dX0_init_46 : decode cX0_init 46 = .ok (.putfield 24, 3) := by decide +kernel
theorem dX0_init_49 : decode cX0_init 49 = .ok (.aload_n 0, 1) := by decide +kernel
theorem dX0_init_50 : decode cX0_init 50 = .ok (.sipush 131, 3) := by decide +kernel
theorem dX0_init_53 : decode cX0_init 53 = .ok (.newarray .int, 2) := by decide +kernel
theorem dX0_init_55 : decode cX0_init 55 = .ok (.putfield 27, 3) := by decide +kernel
theorem dX0_init_58 : decode cX0_init 58 = .ok (.aload_n 0, 1) := by decide +kernel
theorem dX0_init_59 : decode cX0_init 59 = .ok (.sipush 131, 3) := by decide +kernel
theorem dX0_init_62 : decode cX0_init 62 = .ok (.newarray .int, 2) := by decide +kernel
theorem dX0_init_64 : decode cX0_init 64 = .ok (.putfield 30, 3) := by decide +kernel
theorem dX0_init_67 : decode cX0_init 67 = .ok (.return_, 1) := by decide +kernel
theorem dX0_find_0 : decode cX0_find 0 = .ok (.aload_n 0, 1) := by decide +kernel
theorem dX0_find_1 : decode cX0_find 1 = .ok (.aload_n 1, 1) := by decide +kernel
theorem dX0_find_2 : decode cX0_find 2 = .ok (.getfield 33, 3) := by decide +kernel
theorem dX0_find_5 : decode cX0_find 5 = .ok (.sipush 131, 3) := by decide +kernel
theorem dX0_find_8 : decode cX0_find 8 = .ok (.invokestatic 39, 3) := by decide +kernel
theorem dX0_find_11 : decode cX0_find 11 = .ok (.putfield 45, 3) := by decide +kernel
theorem dX0_find_14 : decode cX0_find 14 = .ok (.aload_n 0, 1) := by decide +kernel
theorem dX0_find_15 : decode cX0_find 15 = .ok (.aload_n 1, 1) := by decide +kernel
theorem dX0_find_16 : decode cX0_find 16 = .ok (.invokevirtual 46, 3) := by decide +kernel
theorem dX0_find_19 : decode cX0_find 19 = .ok (.iconst (-1), 1) := by decide +kernel
theorem dX0_find_20 : decode cX0_find 20 = .ok (.istore_n 2, 1) := by decide +kernel
theorem dX0_find_21 : decode cX0_find 21 = .ok (.iload_n 2, 1) := by decide +kernel
theorem dX0_find_22 : decode cX0_find 22 = .ok (.aload_n 0, 1) := by decide +kernel
theorem dX0_find_23 : decode cX0_find 23 = .ok (.getfield 45, 3) := by decide +kernel
theorem dX0_find_26 : decode cX0_find 26 = .ok (.if_icmp .ge 91, 3) := by decide +kernel
theorem dX0_find_29 : decode cX0_find 29 = .ok (.aload_n 0, 1) := by decide +kernel
theorem dX0_find_30 : decode cX0_find 30 = .ok (.iload_n 2, 1) := by decide +kernel
theorem dX0_find_31 : decode cX0_find 31 = .ok (.invokevirtual 50, 3) := by decide +kernel
theorem dX0_find_34 : decode cX0_find 34 = .ok (.istore_n 3, 1) := by decide +kernel
theorem dX0_find_35 : decode cX0_find 35 = .ok (.iload_n 3, 1) := by decide +kernel
theorem dX0_find_36 : decode cX0_find 36 = .ok (.iconst (-1), 1) := by decide +kernel
theorem dX0_find_37 : decode cX0_find 37 = .ok (.if_icmp .eq 74, 3) := by decide +kernel
theorem dX0_find_40 : decode cX0_find 40 = .ok (.aload_n 0, 1) := by decide +kernel
theorem dX0_find_41 : decode cX0_find 41 = .ok (.aload_n 1, 1) := by decide +kernel
theorem dX0_find_42 : decode cX0_find 42 = .ok (.iload_n 2, 1) := by decide +kernel
theorem dX0_find_43 : decode cX0_find 43 = .ok (.iconst 1, 1) := by decide +kernel
theorem dX0_find_44 : decode cX0_find 44 = .ok (.iadd, 1) := by decide +kernel
theorem dX0_find_45 : decode cX0_find 45 = .ok (.iload_n 3, 1) := by decide +kernel
theorem dX0_find_46 : decode cX0_find 46 = .ok (.invokevirtual 54, 3) := by decide +kernel
theorem dX0_find_49 : decode cX0_find 49 = .ok (.aload_n 0, 1) := by decide +kernel
theorem dX0_find_50 : decode cX0_find 50 = .ok (.aload_n 0, 1) := by decide +kernel
theorem dX0_find_51 : decode cX0_find 51 = .ok (.aload_n 0, 1) := by decide +kernel
theorem dX0_find_52 : decode cX0_find 52 = .ok (.iload_n 2, 1) := by decide +kernel
theorem dX0_find_53 : decode cX0_find 53 = .ok (.invokevirtual 58, 3) := by decide +kernel
theorem dX0_find_56 : decode cX0_find 56 = .ok (.aload_n 0, 1) := by decide +kernel
theorem dX0_find_57 : decode cX0_find 57 = .ok (.invokevirtual 61, 3) := by decide +kernel
theorem dX0_find_60 : decode cX0_find 60 = .ok (.iconst 0, 1) := by decide +kernel
theorem dX0_find_61 : decode cX0_find 61 = .ok (.invokestatic 65, 3) := by decide +kernel
theorem dX0_find_64 : decode cX0_find 64 = .ok (.invokevirtual 68, 3) := by decide +kernel
theorem dX0_find_67 : decode cX0_find 67 = .ok (.putfield 71, 3) := by decide +kernel
theorem dX0_find_70 : decode cX0_find 70 = .ok (.aload_n 1, 1) := by decide +kernel
theorem dX0_find_71 : decode cX0_find 71 = .ok (.iload_n 2, 1) := by decide +kernel
theorem dX0_find_72 : decode cX0_find 72 = .ok (.iconst (-1), 1) := by decide +kernel
theorem dX0_find_73 : decode cX0_find 73 = .ok (.if_icmp .ne 10, 3) := by decide +kernel
theorem dX0_find_76 : decode cX0_find 76 = .ok (.aload_n 0, 1) := by decide +kernel
theorem dX0_find_77 : decode cX0_find 77 = .ok (.getfield 71, 3) := by decide +kernel
theorem dX0_find_80 : decode cX0_find 80 = .ok (.goto 7, 3) := by decide +kernel
theorem dX0_find_83 : decode cX0_find 83 = .ok (.aload_n 1, 1) := by decide +kernel
theorem dX0_find_84 : decode cX0_find 84 = .ok (.getfield 74, 3) := by decide +kernel
theorem dX0_find_87 : decode cX0_find 87 = .ok (.putfield 74, 3) := by decide +kernel
theorem dX0_find_90 : decode cX0_find 90 = .ok (.aload_n 0, 1) := by decide +kernel
theorem dX0_find_91 : decode cX0_find 91 = .ok (.invokevirtual 75, 3) := by decide +kernel
theorem dX0_find_94 : decode cX0_find 94 = .ok (.aload_n 0, 1) := by decide +kernel
theorem dX0_find_95 : decode cX0_find 95 = .ok (.invokevirtual 78, 3) := by decide +kernel
theorem dX0_find_98 : decode cX0_find 98 = .ok (.aload_n 0, 1) := by decide +kernel
theorem dX0_find_99 : decode cX0_find 99 = .ok (.invokevirtual 81, 3) := by decide +kernel
theorem dX0_find_102 : decode cX0_find 102 = .ok (.aload_n 0, 1) := by decide +kernel
theorem dX0_find_103 : decode cX0_find 103 = .ok (.invokevirtual 84, 3) := by decide +kernel
theorem dX0_find_106 : decode cX0_find 106 = .ok (.aload_n 0, 1) := by decide +kernel
theorem dX0_find_107 : decode cX0_find 107 = .ok (.aload_n 1, 1) := by decide +kernel
theorem dX0_find_108 : decode cX0_find 108 = .ok (.invokevirtual 87, 3) := by decide +kernel
theorem dX0_find_111 : decode cX0_find 111 = .ok (.iinc 2 1, 3) := by decide +kernel
theorem dX0_find_114 : decode cX0_find 114 = .ok (.goto (-93), 3) := by decide +kernel
theorem dX0_find_117 : decode cX0_find 117 = .ok (.return_, 1) := by decide +kernel
theorem dX0_endOfInside_0 : decode cX0_endOfInside 0 = .ok (.iload_n 1, 1) := by decide +kernel
theorem dX0_endOfInside_1 : decode cX0_endOfInside 1 = .ok (.iconst (-1), 1) := by decide +kernel
theorem dX0_endOfInside_2 : decode cX0_endOfInside 2 = .ok (.if_icmp .ne 8, 3) := by decide +kernel
theorem dX0_endOfInside_5 : decode cX0_endOfInside 5 = .ok (.aload_n 0, 1) := by decide +kernel
theorem dX0_endOfInside_6 : decode cX0_endOfInside 6 = .ok (.getfield 45, 3) := by decide +kernel
theorem dX0_endOfInside_9 : decode cX0_endOfInside 9 = .ok (.ireturn, 1) := by decide +kernel
theorem dX0_endOfInside_10 : decode cX0_endOfInside 10 = .ok (.iload_n 1, 1) := by decide +kernel
theorem dX0_endOfInside_11 : decode cX0_endOfInside 11 = .ok (.ifCond .lt 29, 3) := by decide +kernel
theorem dX0_endOfInside_14 : decode cX0_endOfInside 14 = .ok (.iload_n 1, 1) := by decide +kernel
theorem dX0_endOfInside_15 : decode cX0_endOfInside 15 = .ok (.sipush 131, 3) := by decide +kernel
theorem dX0_endOfInside_18 : decode cX0_endOfInside 18 = .ok (.if_icmp .ge 22, 3) := by decide +kernel
theorem dX0_endOfInside_21 : decode cX0_endOfInside 21 = .ok (.aload_n 0, 1) := by decide +kernel
theorem dX0_endOfInside_22 : decode cX0_endOfInside 22 = .ok (.getfield 9, 3) := by decide +kernel
theorem dX0_endOfInside_25 : decode cX0_endOfInside 25 = .ok (.iload_n 1, 1) := by decide +kernel
theorem dX0_endOfInside_26 : decode cX0_endOfInside 26 = .ok (.iaload, 1) := by decide +kernel
theorem dX0_endOfInside_27 : decode cX0_endOfInside 27 = .ok (.iload_n 1, 1) := by decide +kernel
theorem dX0_endOfInside_28 : decode cX0_endOfInside 28 = .ok (.if_icmp .le 12, 3) := by decide +kernel
theorem dX0_endOfInside_31 : decode cX0_endOfInside 31 = .ok (.aload_n 0, 1) := by decide +kernel
theorem dX0_endOfInside_32 : decode cX0_endOfInside 32 = .ok (.getfield 9, 3) := by decide +kernel
theorem dX0_endOfInside_35 : decode cX0_endOfInside 35 = .ok (.iload_n 1, 1) := by decide +kernel
theorem dX0_endOfInside_36 : decode cX0_endOfInside 36 = .ok (.iaload, 1) := by decide +kernel
theorem dX0_endOfInside_37 : decode cX0_endOfInside 37 = .ok (.goto 4, 3) := by decide +kernel
theorem dX0_endOfInside_40 : decode cX0_endOfInside 40 = .ok (.iconst (-1), 1) := by decide +kernel
theorem dX0_endOfInside_41 : decode cX0_endOfInside 41 = .ok (.ireturn, 1) := by decide +kernel
theorem dX0_leastBase_0 : decode cX0_leastBase 0 = .ok (.iload_n 1, 1) := by decide +kernel
theorem dX0_leastBase_1 : decode cX0_leastBase 1 = .ok (.ifCond .lt 21, 3) := by decide +kernel
theorem dX0_leastBase_4 : decode cX0_leastBase 4 = .ok (.iload_n 1, 1) := by decide +kernel
theorem dX0_leastBase_5 : decode cX0_leastBase 5 = .ok (.sipush 131, 3) := by decide +kernel
theorem dX0_leastBase_8 : decode cX0_leastBase 8 = .ok (.if_icmp .ge 14, 3) := by decide +kernel
theorem dX0_leastBase_11 : decode cX0_leastBase 11 = .ok (.aload_n 0, 1) := by decide +kernel
theorem dX0_leastBase_12 : decode cX0_leastBase 12 = .ok (.getfield 15, 3) := by decide +kernel
theorem dX0_leastBase_15 : decode cX0_leastBase 15 = .ok (.iload_n 1, 1) := by decide +kernel
theorem dX0_leastBase_16 : decode cX0_leastBase 16 = .ok (.iaload, 1) := by decide +kernel
theorem dX0_leastBase_17 : decode cX0_leastBase 17 = .ok (.iconst 1, 1) := by decide +kernel
theorem dX0_leastBase_18 : decode cX0_leastBase 18 = .ok (.iadd, 1) := by decide +kernel
theorem dX0_leastBase_19 : decode cX0_leastBase 19 = .ok (.goto 4, 3) := by decide +kernel
theorem dX0_leastBase_22 : decode cX0_leastBase 22 = .ok (.iconst 0, 1) := by decide +kernel
theorem dX0_leastBase_23 : decode cX0_leastBase 23 = .ok (.ireturn, 1) := by decide +kernel
theorem dX0_leastAbove_0 : decode cX0_leastAbove 0 = .ok (.iload_n 1, 1) := by decide +kernel
theorem dX0_leastAbove_1 : decode cX0_leastAbove 1 = .ok (.iconst 2, 1) := by decide +kernel
theorem dX0_leastAbove_2 : decode cX0_leastAbove 2 = .ok (.irem, 1) := by decide +kernel
theorem dX0_leastAbove_3 : decode cX0_leastAbove 3 = .ok (.iload_n 2, 1) := by decide +kernel
theorem dX0_leastAbove_4 : decode cX0_leastAbove 4 = .ok (.if_icmp .ne 7, 3) := by decide +kernel
theorem dX0_leastAbove_7 : decode cX0_leastAbove 7 = .ok (.iload_n 1, 1) := by decide +kernel
theorem dX0_leastAbove_8 : decode cX0_leastAbove 8 = .ok (.goto 6, 3) := by decide +kernel
theorem dX0_leastAbove_11 : decode cX0_leastAbove 11 = .ok (.iload_n 1, 1) := by decide +kernel
theorem dX0_leastAbove_12 : decode cX0_leastAbove 12 = .ok (.iconst 1, 1) := by decide +kernel
theorem dX0_leastAbove_13 : decode cX0_leastAbove 13 = .ok (.iadd, 1) := by decide +kernel
theorem dX0_leastAbove_14 : decode cX0_leastAbove 14 = .ok (.ireturn, 1) := by decide +kernel
theorem dX0_matchIsolating_0 : decode cX0_matchIsolating 0 = .ok (.iconst 0, 1) := by decide +kernel
theorem dX0_matchIsolating_1 : decode cX0_matchIsolating 1 = .ok (.istore_n 2, 1) := by decide +kernel
theorem dX0_matchIsolating_2 : decode cX0_matchIsolating 2 = .ok (.iconst 0, 1) := by decide +kernel
theorem dX0_matchIsolating_3 : decode cX0_matchIsolating 3 = .ok (.istore_n 3, 1) := by decide +kernel
theorem dX0_matchIsolating_4 : decode cX0_matchIsolating 4 = .ok (.iload_n 3, 1) := by decide +kernel
theorem dX0_matchIsolating_5 : decode cX0_matchIsolating 5 = .ok (.aload_n 0, 1) := by decide +kernel
theorem dX0_matchIsolating_6 : decode cX0_matchIsolating 6 = .ok (.getfield 45, 3) := by decide +kernel
theorem dX0_matchIsolating_9 : decode cX0_matchIsolating 9 = .ok (.if_icmp .ge 83, 3) := by decide +kernel
theorem dX0_matchIsolating_12 : decode cX0_matchIsolating 12 = .ok (.iload_n 3, 1) := by decide +kernel
theorem dX0_matchIsolating_13 : decode cX0_matchIsolating 13 = .ok (.sipush 131, 3) := by decide +kernel
theorem dX0_matchIsolating_16 : decode cX0_matchIsolating 16 = .ok (.if_icmp .ge 76, 3) := by decide +kernel
theorem dX0_matchIsolating_19 : decode cX0_matchIsolating 19 = .ok (.aload_n 0, 1) := by decide +kernel
theorem dX0_matchIsolating_20 : decode cX0_matchIsolating 20 = .ok (.getfield 9, 3) := by decide +kernel
theorem dX0_matchIsolating_23 : decode cX0_matchIsolating 23 = .ok (.iload_n 3, 1) := by decide +kernel
theorem dX0_matchIsolating_24 : decode cX0_matchIsolating 24 = .ok (.iconst (-1), 1) := by decide +kernel
theorem dX0_matchIsolating_25 : decode cX0_matchIsolating 25 = .ok (.iastore, 1) := by decide +kernel
theorem dX0_matchIsolating_26 : decode cX0_matchIsolating 26 = .ok (.aload_n 1, 1) := by decide +kernel
theorem dX0_matchIsolating_27 : decode cX0_matchIsolating 27 = .ok (.getfield 90, 3) := by decide +kernel
theorem dX0_matchIsolating_30 : decode cX0_matchIsolating 30 = .ok (.iload_n 3, 1) := by decide +kernel
theorem dX0_matchIsolating_31 : decode cX0_matchIsolating 31 = .ok (.iaload, 1) := by decide +kernel
theorem dX0_matchIsolating_32 : decode cX0_matchIsolating 32 = .ok (.bipush 60, 2) := by decide +kernel
theorem dX0_matchIsolating_34 : decode cX0_matchIsolating 34 = .ok (.if_icmp .ne 23, 3) := by decide +kernel
theorem dX0_matchIsolating_37 : decode cX0_matchIsolating 37 = .ok (.iload_n 2, 1) := by decide +kernel
theorem dX0_matchIsolating_38 : decode cX0_matchIsolating 38 = .ok (.sipush 131, 3) := by decide +kernel
theorem dX0_matchIsolating_41 : decode cX0_matchIsolating 41 = .ok (.if_icmp .ge 16, 3) := by decide +kernel
theorem dX0_matchIsolating_44 : decode cX0_matchIsolating 44 = .ok (.aload_n 0, 1) := by decide +kernel
theorem dX0_matchIsolating_45 : decode cX0_matchIsolating 45 = .ok (.getfield 30, 3) := by decide +kernel
theorem dX0_matchIsolating_48 : decode cX0_matchIsolating 48 = .ok (.iload_n 2, 1) := by decide +kernel
theorem dX0_matchIsolating_49 : decode cX0_matchIsolating 49 = .ok (.iload_n 3, 1) := by decide +kernel
theorem dX0_matchIsolating_50 : decode cX0_matchIsolating 50 = .ok (.iastore, 1) := by decide +kernel
theorem dX0_matchIsolating_51 : decode cX0_matchIsolating 51 = .ok (.iinc 2 1, 3) := by decide +kernel
theorem dX0_matchIsolating_54 : decode cX0_matchIsolating 54 = .ok (.goto 32, 3) := by decide +kernel
theorem dX0_matchIsolating_57 : decode cX0_matchIsolating 57 = .ok (.aload_n 1, 1) := by decide +kernel
theorem dX0_matchIsolating_58 : decode cX0_matchIsolating 58 = .ok (.getfield 90, 3) := by decide +kernel
theorem dX0_matchIsolating_61 : decode cX0_matchIsolating 61 = .ok (.iload_n 3, 1) := by decide +kernel
theorem dX0_matchIsolating_62 : decode cX0_matchIsolating 62 = .ok (.iaload, 1) := by decide +kernel
theorem dX0_matchIsolating_63 : decode cX0_matchIsolating 63 = .ok (.bipush 62, 2) := by decide +kernel
theorem dX0_matchIsolating_65 : decode cX0_matchIsolating 65 = .ok (.if_icmp .ne 21, 3) := by decide +kernel
theorem dX0_matchIsolating_68 : decode cX0_matchIsolating 68 = .ok (.iload_n 2, 1) := by decide +kernel
theorem dX0_matchIsolating_69 : decode cX0_matchIsolating 69 = .ok (.ifCond .le 17, 3) := by decide +kernel
theorem dX0_matchIsolating_72 : decode cX0_matchIsolating 72 = .ok (.iinc 2 (-1), 3) := by decide +kernel
theorem dX0_matchIsolating_75 : decode cX0_matchIsolating 75 = .ok (.aload_n 0, 1) := by decide +kernel
theorem dX0_matchIsolating_76 : decode cX0_matchIsolating 76 = .ok (.aload_n 0, 1) := by decide +kernel
theorem dX0_matchIsolating_77 : decode cX0_matchIsolating 77 = .ok (.getfield 30, 3) := by decide +kernel
theorem dX0_matchIsolating_80 : decode cX0_matchIsolating 80 = .ok (.iload_n 2, 1) := by decide +kernel
theorem dX0_matchIsolating_81 : decode cX0_matchIsolating 81 = .ok (.iaload, 1) := by decide +kernel
theorem dX0_matchIsolating_82 : decode cX0_matchIsolating 82 = .ok (.iload_n 3, 1) := by decide +kernel
theorem dX0_matchIsolating_83 : decode cX0_matchIsolating 83 = .ok (.invokevirtual 93, 3) := by decide +kernel
theorem dX0_matchIsolating_86 : decode cX0_matchIsolating 86 = .ok (.iinc 3 1, 3) := by decide +kernel
theorem dX0_matchIsolating_89 : decode cX0_matchIsolating 89 = .ok (.goto (-85), 3) := by decide +kernel
theorem dX0_matchIsolating_92 : decode cX0_matchIsolating 92 = .ok (.return_, 1) := by decide +kernel
theorem dX0_setPartner_0 : decode cX0_setPartner 0 = .ok (.iload_n 1, 1) := by decide +kernel
theorem dX0_setPartner_1 : decode cX0_setPartner 1 = .ok (.ifCond .lt 17, 3) := by decide +kernel
theorem dX0_setPartner_4 : decode cX0_setPartner 4 = .ok (.iload_n 1, 1) := by decide +kernel
theorem dX0_setPartner_5 : decode cX0_setPartner 5 = .ok (.sipush 131, 3) := by decide +kernel
theorem dX0_setPartner_8 : decode cX0_setPartner 8 = .ok (.if_icmp .ge 10, 3) := by decide +kernel
theorem dX0_setPartner_11 : decode cX0_setPartner 11 = .ok (.aload_n 0, 1) := by decide +kernel
theorem dX0_setPartner_12 : decode cX0_setPartner 12 = .ok (.getfield 9, 3) := by decide +kernel
theorem dX0_setPartner_15 : decode cX0_setPartner 15 = .ok (.iload_n 1, 1) := by decide +kernel
theorem dX0_setPartner_16 : decode cX0_setPartner 16 = .ok (.iload_n 2, 1) := by decide +kernel
theorem dX0_setPartner_17 : decode cX0_setPartner 17 = .ok (.iastore, 1) := by decide +kernel
theorem dX0_setPartner_18 : decode cX0_setPartner 18 = .ok (.return_, 1) := by decide +kernel
theorem dX0_chainUp_0 : decode cX0_chainUp 0 = .ok (.aload_n 0, 1) := by decide +kernel
theorem dX0_chainUp_1 : decode cX0_chainUp 1 = .ok (.iconst 0, 1) := by decide +kernel
theorem dX0_chainUp_2 : decode cX0_chainUp 2 = .ok (.putfield 97, 3) := by decide +kernel
theorem dX0_chainUp_5 : decode cX0_chainUp 5 = .ok (.iload_n 2, 1) := by decide +kernel
theorem dX0_chainUp_6 : decode cX0_chainUp 6 = .ok (.iconst 0, 1) := by decide +kernel
theorem dX0_chainUp_7 : decode cX0_chainUp 7 = .ok (.invokestatic 65, 3) := by decide +kernel
theorem dX0_chainUp_10 : decode cX0_chainUp 10 = .ok (.istore 4, 2) := by decide +kernel
theorem dX0_chainUp_12 : decode cX0_chainUp 12 = .ok (.iload 4, 2) := by decide +kernel
theorem dX0_chainUp_14 : decode cX0_chainUp 14 = .ok (.iload_n 3, 1) := by decide +kernel
theorem dX0_chainUp_15 : decode cX0_chainUp 15 = .ok (.if_icmp .ge 107, 3) := by decide +kernel
theorem dX0_chainUp_18 : decode cX0_chainUp 18 = .ok (.iload 4, 2) := by decide +kernel
theorem dX0_chainUp_20 : decode cX0_chainUp 20 = .ok (.sipush 131, 3) := by decide +kernel
theorem dX0_chainUp_23 : decode cX0_chainUp 23 = .ok (.if_icmp .ge 99, 3) := by decide +kernel
theorem dX0_chainUp_26 : decode cX0_chainUp 26 = .ok (.aload_n 0, 1) := by decide +kernel
theorem dX0_chainUp_27 : decode cX0_chainUp 27 = .ok (.getfield 97, 3) := by decide +kernel
theorem dX0_chainUp_30 : decode cX0_chainUp 30 = .ok (.sipush 131, 3) := by decide +kernel
theorem dX0_chainUp_33 : decode cX0_chainUp 33 = .ok (.if_icmp .ge 89, 3) := by decide +kernel
theorem dX0_chainUp_36 : decode cX0_chainUp 36 = .ok (.aload_n 0, 1) := by decide +kernel
theorem dX0_chainUp_37 : decode cX0_chainUp 37 = .ok (.getfield 18, 3) := by decide +kernel
theorem dX0_chainUp_40 : decode cX0_chainUp 40 = .ok (.aload_n 0, 1) := by decide +kernel
theorem dX0_chainUp_41 : decode cX0_chainUp 41 = .ok (.getfield 97, 3) := by decide +kernel
theorem dX0_chainUp_44 : decode cX0_chainUp 44 = .ok (.iload 4, 2) := by decide +kernel
theorem dX0_chainUp_46 : decode cX0_chainUp 46 = .ok (.iastore, 1) := by decide +kernel
theorem dX0_chainUp_47 : decode cX0_chainUp 47 = .ok (.aload_n 0, 1) := by decide +kernel
theorem dX0_chainUp_48 : decode cX0_chainUp 48 = .ok (.getfield 21, 3) := by decide +kernel
theorem dX0_chainUp_51 : decode cX0_chainUp 51 = .ok (.aload_n 0, 1) := by decide +kernel
theorem dX0_chainUp_52 : decode cX0_chainUp 52 = .ok (.getfield 97, 3) := by decide +kernel
theorem dX0_chainUp_55 : decode cX0_chainUp 55 = .ok (.aload_n 1, 1) := by decide +kernel
theorem dX0_chainUp_56 : decode cX0_chainUp 56 = .ok (.getfield 90, 3) := by decide +kernel
theorem dX0_chainUp_59 : decode cX0_chainUp 59 = .ok (.iload 4, 2) := by decide +kernel
theorem dX0_chainUp_61 : decode cX0_chainUp 61 = .ok (.iaload, 1) := by decide +kernel
theorem dX0_chainUp_62 : decode cX0_chainUp 62 = .ok (.iastore, 1) := by decide +kernel
theorem dX0_chainUp_63 : decode cX0_chainUp 63 = .ok (.aload_n 0, 1) := by decide +kernel
theorem dX0_chainUp_64 : decode cX0_chainUp 64 = .ok (.getfield 24, 3) := by decide +kernel
theorem dX0_chainUp_67 : decode cX0_chainUp 67 = .ok (.aload_n 0, 1) := by decide +kernel
theorem dX0_chainUp_68 : decode cX0_chainUp 68 = .ok (.getfield 97, 3) := by decide +kernel
theorem dX0_chainUp_71 : decode cX0_chainUp 71 = .ok (.aload_n 0, 1) := by decide +kernel
theorem dX0_chainUp_72 : decode cX0_chainUp 72 = .ok (.aload_n 1, 1) := by decide +kernel
theorem dX0_chainUp_73 : decode cX0_chainUp 73 = .ok (.getfield 90, 3) := by decide +kernel
theorem dX0_chainUp_76 : decode cX0_chainUp 76 = .ok (.iload 4, 2) := by decide +kernel
theorem dX0_chainUp_78 : decode cX0_chainUp 78 = .ok (.iaload, 1) := by decide +kernel
theorem dX0_chainUp_79 : decode cX0_chainUp 79 = .ok (.invokevirtual 100, 3) := by decide +kernel
theorem dX0_chainUp_82 : decode cX0_chainUp 82 = .ok (.iastore, 1) := by decide +kernel
theorem dX0_chainUp_83 : decode cX0_chainUp 83 = .ok (.aload_n 0, 1) := by decide +kernel
theorem dX0_chainUp_84 : decode cX0_chainUp 84 = .ok (.getfield 27, 3) := by decide +kernel
theorem dX0_chainUp_87 : decode cX0_chainUp 87 = .ok (.aload_n 0, 1) := by decide +kernel
theorem dX0_chainUp_88 : decode cX0_chainUp 88 = .ok (.getfield 97, 3) := by decide +kernel
theorem dX0_chainUp_91 : decode cX0_chainUp 91 = .ok (.iconst (-1), 1) := by decide +kernel
theorem dX0_chainUp_92 : decode cX0_chainUp 92 = .ok (.iastore, 1) := by decide +kernel
theorem dX0_chainUp_93 : decode cX0_chainUp 93 = .ok (.aload_n 0, 1) := by decide +kernel
theorem dX0_chainUp_94 : decode cX0_chainUp 94 = .ok (.dup, 1) := by decide +kernel
theorem dX0_chainUp_95 : decode cX0_chainUp 95 = .ok (.getfield 97, 3) := by decide +kernel
theorem dX0_chainUp_98 : decode cX0_chainUp 98 = .ok (.iconst 1, 1) := by decide +kernel
theorem dX0_chainUp_99 : decode cX0_chainUp 99 = .ok (.iadd, 1) := by decide +kernel
theorem dX0_chainUp_100 : decode cX0_chainUp 100 = .ok (.putfield 97, 3) := by decide +kernel
theorem dX0_chainUp_103 : decode cX0_chainUp 103 = .ok (.iload 4, 2) := by decide +kernel
theorem dX0_chainUp_105 : decode cX0_chainUp 105 = .ok (.iconst 1, 1) := by decide +kernel
theorem dX0_chainUp_106 : decode cX0_chainUp 106 = .ok (.iadd, 1) := by decide +kernel
theorem dX0_chainUp_107 : decode cX0_chainUp 107 = .ok (.aload_n 0, 1) := by decide +kernel
theorem dX0_chainUp_108 : decode cX0_chainUp 108 = .ok (.getfield 9, 3) := by decide +kernel
theorem dX0_chainUp_111 : decode cX0_chainUp 111 = .ok (.iload 4, 2) := by decide +kernel
theorem dX0_chainUp_113 : decode cX0_chainUp 113 = .ok (.iaload, 1) := by decide +kernel
theorem dX0_chainUp_114 : decode cX0_chainUp 114 = .ok (.invokestatic 65, 3) := by decide +kernel
theorem dX0_chainUp_117 : decode cX0_chainUp 117 = .ok (.istore 4, 2) := by decide +kernel
theorem dX0_chainUp_119 : decode cX0_chainUp 119 = .ok (.goto (-107), 3) := by decide +kernel
theorem dX0_chainUp_122 : decode cX0_chainUp 122 = .ok (.return_, 1) := by decide +kernel
theorem dX0_wayOf_0 : decode cX0_wayOf 0 = .ok (.iload_n 1, 1) := by decide +kernel
theorem dX0_wayOf_1 : decode cX0_wayOf 1 = .ok (.bipush 65, 2) := by decide +kernel
theorem dX0_wayOf_3 : decode cX0_wayOf 3 = .ok (.if_icmp .lt 19, 3) := by decide +kernel
theorem dX0_wayOf_6 : decode cX0_wayOf 6 = .ok (.iload_n 1, 1) := by decide +kernel
theorem dX0_wayOf_7 : decode cX0_wayOf 7 = .ok (.bipush 90, 2) := by decide +kernel
theorem dX0_wayOf_9 : decode cX0_wayOf 9 = .ok (.if_icmp .gt 13, 3) := by decide +kernel
theorem dX0_wayOf_12 : decode cX0_wayOf 12 = .ok (.iload_n 1, 1) := by decide +kernel
theorem dX0_wayOf_13 : decode cX0_wayOf 13 = .ok (.bipush 65, 2) := by decide +kernel
theorem dX0_wayOf_15 : decode cX0_wayOf 15 = .ok (.isub, 1) := by decide +kernel
theorem dX0_wayOf_16 : decode cX0_wayOf 16 = .ok (.bipush 97, 2) := by decide +kernel
theorem dX0_wayOf_18 : decode cX0_wayOf 18 = .ok (.iadd, 1) := by decide +kernel
theorem dX0_wayOf_19 : decode cX0_wayOf 19 = .ok (.goto 4, 3) := by decide +kernel
theorem dX0_wayOf_22 : decode cX0_wayOf 22 = .ok (.iload_n 1, 1) := by decide +kernel
theorem dX0_wayOf_23 : decode cX0_wayOf 23 = .ok (.istore_n 2, 1) := by decide +kernel
theorem dX0_wayOf_24 : decode cX0_wayOf 24 = .ok (.iload_n 2, 1) := by decide +kernel
theorem dX0_wayOf_25 : decode cX0_wayOf 25 = .ok (.bipush 97, 2) := by decide +kernel
theorem dX0_wayOf_27 : decode cX0_wayOf 27 = .ok (.if_icmp .lt 11, 3) := by decide +kernel
theorem dX0_wayOf_30 : decode cX0_wayOf 30 = .ok (.iload_n 2, 1) := by decide +kernel
theorem dX0_wayOf_31 : decode cX0_wayOf 31 = .ok (.bipush 109, 2) := by decide +kernel
theorem dX0_wayOf_33 : decode cX0_wayOf 33 = .ok (.if_icmp .gt 5, 3) := by decide +kernel
theorem dX0_wayOf_36 : decode cX0_wayOf 36 = .ok (.iconst 0, 1) := by decide +kernel
theorem dX0_wayOf_37 : decode cX0_wayOf 37 = .ok (.ireturn, 1) := by decide +kernel
theorem dX0_wayOf_38 : decode cX0_wayOf 38 = .ok (.iload_n 2, 1) := by decide +kernel
theorem dX0_wayOf_39 : decode cX0_wayOf 39 = .ok (.bipush 110, 2) := by decide +kernel
theorem dX0_wayOf_41 : decode cX0_wayOf 41 = .ok (.if_icmp .lt 13, 3) := by decide +kernel
theorem dX0_wayOf_44 : decode cX0_wayOf 44 = .ok (.iload_n 2, 1) := by decide +kernel
theorem dX0_wayOf_45 : decode cX0_wayOf 45 = .ok (.bipush 122, 2) := by decide +kernel
theorem dX0_wayOf_47 : decode cX0_wayOf 47 = .ok (.if_icmp .gt 7, 3) := by decide +kernel
theorem dX0_wayOf_50 : decode cX0_wayOf 50 = .ok (.iconst 1, 1) := by decide +kernel
theorem dX0_wayOf_51 : decode cX0_wayOf 51 = .ok (.goto 4, 3) := by decide +kernel
theorem dX0_wayOf_54 : decode cX0_wayOf 54 = .ok (.iconst (-1), 1) := by decide +kernel
theorem dX0_wayOf_55 : decode cX0_wayOf 55 = .ok (.ireturn, 1) := by decide +kernel
theorem dX0_firstWay_0 : decode cX0_firstWay 0 = .ok (.iconst 0, 1) := by decide +kernel
theorem dX0_firstWay_1 : decode cX0_firstWay 1 = .ok (.istore_n 1, 1) := by decide +kernel
theorem dX0_firstWay_2 : decode cX0_firstWay 2 = .ok (.iload_n 1, 1) := by decide +kernel
theorem dX0_firstWay_3 : decode cX0_firstWay 3 = .ok (.aload_n 0, 1) := by decide +kernel
theorem dX0_firstWay_4 : decode cX0_firstWay 4 = .ok (.getfield 97, 3) := by decide +kernel
theorem dX0_firstWay_7 : decode cX0_firstWay 7 = .ok (.if_icmp .ge 33, 3) := by decide +kernel
theorem dX0_firstWay_10 : decode cX0_firstWay 10 = .ok (.iload_n 1, 1) := by decide +kernel
theorem dX0_firstWay_11 : decode cX0_firstWay 11 = .ok (.sipush 131, 3) := by decide +kernel
theorem dX0_firstWay_14 : decode cX0_firstWay 14 = .ok (.if_icmp .ge 26, 3) := by decide +kernel
theorem dX0_firstWay_17 : decode cX0_firstWay 17 = .ok (.aload_n 0, 1) := by decide +kernel
theorem dX0_firstWay_18 : decode cX0_firstWay 18 = .ok (.getfield 24, 3) := by decide +kernel
theorem dX0_firstWay_21 : decode cX0_firstWay 21 = .ok (.iload_n 1, 1) := by decide +kernel
theorem dX0_firstWay_22 : decode cX0_firstWay 22 = .ok (.iaload, 1) := by decide +kernel
theorem dX0_firstWay_23 : decode cX0_firstWay 23 = .ok (.iconst (-1), 1) := by decide +kernel
theorem dX0_firstWay_24 : decode cX0_firstWay 24 = .ok (.if_icmp .eq 10, 3) := by decide +kernel
theorem dX0_firstWay_27 : decode cX0_firstWay 27 = .ok (.aload_n 0, 1) := by decide +kernel
theorem dX0_firstWay_28 : decode cX0_firstWay 28 = .ok (.getfield 24, 3) := by decide +kernel
theorem dX0_firstWay_31 : decode cX0_firstWay 31 = .ok (.iload_n 1, 1) := by decide +kernel
theorem dX0_firstWay_32 : decode cX0_firstWay 32 = .ok (.iaload, 1) := by decide +kernel
theorem dX0_firstWay_33 : decode cX0_firstWay 33 = .ok (.ireturn, 1) := by decide +kernel
theorem dX0_firstWay_34 : decode cX0_firstWay 34 = .ok (.iinc 1 1, 3) := by decide +kernel
theorem dX0_firstWay_37 : decode cX0_firstWay 37 = .ok (.goto (-35), 3) := by decide +kernel
theorem dX0_firstWay_40 : decode cX0_firstWay 40 = .ok (.iconst (-1), 1) := by decide +kernel
theorem dX0_firstWay_41 : decode cX0_firstWay 41 = .ok (.ireturn, 1) := by decide +kernel
theorem dX0_setLevels_0 : decode cX0_setLevels 0 = .ok (.iconst 0, 1) := by decide +kernel
theorem dX0_setLevels_1 : decode cX0_setLevels 1 = .ok (.istore_n 2, 1) := by decide +kernel
theorem dX0_setLevels_2 : decode cX0_setLevels 2 = .ok (.iload_n 2, 1) := by decide +kernel
theorem dX0_setLevels_3 : decode cX0_setLevels 3 = .ok (.aload_n 0, 1) := by decide +kernel
theorem dX0_setLevels_4 : decode cX0_setLevels 4 = .ok (.getfield 97, 3) := by decide +kernel
theorem dX0_setLevels_7 : decode cX0_setLevels 7 = .ok (.if_icmp .ge 97, 3) := by decide +kernel
theorem dX0_setLevels_10 : decode cX0_setLevels 10 = .ok (.iload_n 2, 1) := by decide +kernel
theorem dX0_setLevels_11 : decode cX0_setLevels 11 = .ok (.sipush 131, 3) := by decide +kernel
theorem dX0_setLevels_14 : decode cX0_setLevels 14 = .ok (.if_icmp .ge 90, 3) := by decide +kernel
theorem dX0_setLevels_17 : decode cX0_setLevels 17 = .ok (.aload_n 0, 1) := by decide +kernel
theorem dX0_setLevels_18 : decode cX0_setLevels 18 = .ok (.getfield 18, 3) := by decide +kernel
theorem dX0_setLevels_21 : decode cX0_setLevels 21 = .ok (.iload_n 2, 1) := by decide +kernel
theorem dX0_setLevels_22 : decode cX0_setLevels 22 = .ok (.iaload, 1) := by decide +kernel
theorem dX0_setLevels_23 : decode cX0_setLevels 23 = .ok (.istore_n 3, 1) := by decide +kernel
theorem dX0_setLevels_24 : decode cX0_setLevels 24 = .ok (.iload_n 3, 1) := by decide +kernel
theorem dX0_setLevels_25 : decode cX0_setLevels 25 = .ok (.ifCond .lt 73, 3) := by decide +kernel
theorem dX0_setLevels_28 : decode cX0_setLevels 28 = .ok (.iload_n 3, 1) := by decide +kernel
theorem dX0_setLevels_29 : decode cX0_setLevels 29 = .ok (.sipush 131, 3) := by decide +kernel
theorem dX0_setLevels_32 : decode cX0_setLevels 32 = .ok (.if_icmp .ge 66, 3) := by decide +kernel
theorem dX0_setLevels_35 : decode cX0_setLevels 35 = .ok (.aload_n 0, 1) := by decide +kernel
theorem dX0_setLevels_36 : decode cX0_setLevels 36 = .ok (.aload_n 0, 1) := by decide +kernel
theorem dX0_setLevels_37 : decode cX0_setLevels 37 = .ok (.getfield 21, 3) := by decide +kernel
theorem dX0_setLevels_40 : decode cX0_setLevels 40 = .ok (.iload_n 2, 1) := by decide +kernel
theorem dX0_setLevels_41 : decode cX0_setLevels 41 = .ok (.iaload, 1) := by decide +kernel
theorem dX0_setLevels_42 : decode cX0_setLevels 42 = .ok (.invokevirtual 103, 3) := by decide +kernel
theorem dX0_setLevels_45 : decode cX0_setLevels 45 = .ok (.ifCond .eq 17, 3) := by decide +kernel
theorem dX0_setLevels_48 : decode cX0_setLevels 48 = .ok (.aload_n 0, 1) := by decide +kernel
theorem dX0_setLevels_49 : decode cX0_setLevels 49 = .ok (.getfield 24, 3) := by decide +kernel
theorem dX0_setLevels_52 : decode cX0_setLevels 52 = .ok (.iload_n 2, 1) := by decide +kernel
theorem dX0_setLevels_53 : decode cX0_setLevels 53 = .ok (.iaload, 1) := by decide +kernel
theorem dX0_setLevels_54 : decode cX0_setLevels 54 = .ok (.iconst 1, 1) := by decide +kernel
theorem dX0_setLevels_55 : decode cX0_setLevels 55 = .ok (.if_icmp .ne 7, 3) := by decide +kernel
theorem dX0_setLevels_58 : decode cX0_setLevels 58 = .ok (.iconst 1, 1) := by decide +kernel
theorem dX0_setLevels_59 : decode cX0_setLevels 59 = .ok (.goto 4, 3) := by decide +kernel
theorem dX0_setLevels_62 : decode cX0_setLevels 62 = .ok (.iconst 0, 1) := by decide +kernel
theorem dX0_setLevels_63 : decode cX0_setLevels 63 = .ok (.istore 4, 2) := by decide +kernel
theorem dX0_setLevels_65 : decode cX0_setLevels 65 = .ok (.aload_n 1, 1) := by decide +kernel
theorem dX0_setLevels_66 : decode cX0_setLevels 66 = .ok (.getfield 107, 3) := by decide +kernel
theorem dX0_setLevels_69 : decode cX0_setLevels 69 = .ok (.iload_n 3, 1) := by decide +kernel
theorem dX0_setLevels_70 : decode cX0_setLevels 70 = .ok (.aload_n 0, 1) := by decide +kernel
theorem dX0_setLevels_71 : decode cX0_setLevels 71 = .ok (.aload_n 0, 1) := by decide +kernel
theorem dX0_setLevels_72 : decode cX0_setLevels 72 = .ok (.getfield 71, 3) := by decide +kernel
theorem dX0_setLevels_75 : decode cX0_setLevels 75 = .ok (.aload_n 0, 1) := by decide +kernel
theorem dX0_setLevels_76 : decode cX0_setLevels 76 = .ok (.getfield 24, 3) := by decide +kernel
theorem dX0_setLevels_79 : decode cX0_setLevels 79 = .ok (.iload_n 2, 1) := by decide +kernel
theorem dX0_setLevels_80 : decode cX0_setLevels 80 = .ok (.iaload, 1) := by decide +kernel
theorem dX0_setLevels_81 : decode cX0_setLevels 81 = .ok (.invokevirtual 68, 3) := by decide +kernel
theorem dX0_setLevels_84 : decode cX0_setLevels 84 = .ok (.iload 4, 2) := by decide +kernel
theorem dX0_setLevels_86 : decode cX0_setLevels 86 = .ok (.iadd, 1) := by decide +kernel
theorem dX0_setLevels_87 : decode cX0_setLevels 87 = .ok (.iastore, 1) := by decide +kernel
theorem dX0_setLevels_88 : decode cX0_setLevels 88 = .ok (.aload_n 0, 1) := by decide +kernel
theorem dX0_setLevels_89 : decode cX0_setLevels 89 = .ok (.getfield 15, 3) := by decide +kernel
theorem dX0_setLevels_92 : decode cX0_setLevels 92 = .ok (.iload_n 3, 1) := by decide +kernel
theorem dX0_setLevels_93 : decode cX0_setLevels 93 = .ok (.aload_n 0, 1) := by decide +kernel
theorem dX0_setLevels_94 : decode cX0_setLevels 94 = .ok (.getfield 71, 3) := by decide +kernel
theorem dX0_setLevels_97 : decode cX0_setLevels 97 = .ok (.iastore, 1) := by decide +kernel
theorem dX0_setLevels_98 : decode cX0_setLevels 98 = .ok (.iinc 2 1, 3) := by decide +kernel
theorem dX0_setLevels_101 : decode cX0_setLevels 101 = .ok (.goto (-99), 3) := by decide +kernel
theorem dX0_setLevels_104 : decode cX0_setLevels 104 = .ok (.return_, 1) := by decide +kernel
theorem dX0_isDigit_0 : decode cX0_isDigit 0 = .ok (.iload_n 1, 1) := by decide +kernel
theorem dX0_isDigit_1 : decode cX0_isDigit 1 = .ok (.bipush 48, 2) := by decide +kernel
theorem dX0_isDigit_3 : decode cX0_isDigit 3 = .ok (.if_icmp .lt 13, 3) := by decide +kernel
theorem dX0_isDigit_6 : decode cX0_isDigit 6 = .ok (.iload_n 1, 1) := by decide +kernel
theorem dX0_isDigit_7 : decode cX0_isDigit 7 = .ok (.bipush 57, 2) := by decide +kernel
theorem dX0_isDigit_9 : decode cX0_isDigit 9 = .ok (.if_icmp .gt 7, 3) := by decide +kernel
theorem dX0_isDigit_12 : decode cX0_isDigit 12 = .ok (.iconst 1, 1) := by decide +kernel
theorem dX0_isDigit_13 : decode cX0_isDigit 13 = .ok (.goto 4, 3) := by decide +kernel
theorem dX0_isDigit_16 : decode cX0_isDigit 16 = .ok (.iconst 0, 1) := by decide +kernel
theorem dX0_isDigit_17 : decode cX0_isDigit 17 = .ok (.ireturn, 1) := by decide +kernel
theorem dX0_turnDigits_0 : decode cX0_turnDigits 0 = .ok (.aload_n 0, 1) := by decide +kernel
theorem dX0_turnDigits_1 : decode cX0_turnDigits 1 = .ok (.getfield 71, 3) := by decide +kernel
theorem dX0_turnDigits_4 : decode cX0_turnDigits 4 = .ok (.iconst 2, 1) := by decide +kernel
theorem dX0_turnDigits_5 : decode cX0_turnDigits 5 = .ok (.irem, 1) := by decide +kernel
theorem dX0_turnDigits_6 : decode cX0_turnDigits 6 = .ok (.istore_n 1, 1) := by decide +kernel
theorem dX0_turnDigits_7 : decode cX0_turnDigits 7 = .ok (.iconst 0, 1) := by decide +kernel
theorem dX0_turnDigits_8 : decode cX0_turnDigits 8 = .ok (.istore_n 2, 1) := by decide +kernel
theorem dX0_turnDigits_9 : decode cX0_turnDigits 9 = .ok (.iload_n 2, 1) := by decide +kernel
theorem dX0_turnDigits_10 : decode cX0_turnDigits 10 = .ok (.aload_n 0, 1) := by decide +kernel
theorem dX0_turnDigits_11 : decode cX0_turnDigits 11 = .ok (.getfield 97, 3) := by decide +kernel
theorem dX0_turnDigits_14 : decode cX0_turnDigits 14 = .ok (.if_icmp .ge 56, 3) := by decide +kernel
theorem dX0_turnDigits_17 : decode cX0_turnDigits 17 = .ok (.iload_n 2, 1) := by decide +kernel
theorem dX0_turnDigits_18 : decode cX0_turnDigits 18 = .ok (.sipush 131, 3) := by decide +kernel
theorem dX0_turnDigits_21 : decode cX0_turnDigits 21 = .ok (.if_icmp .ge 49, 3) := by decide +kernel
theorem dX0_turnDigits_24 : decode cX0_turnDigits 24 = .ok (.aload_n 0, 1) := by decide +kernel
theorem dX0_turnDigits_25 : decode cX0_turnDigits 25 = .ok (.aload_n 0, 1) := by decide +kernel
theorem dX0_turnDigits_26 : decode cX0_turnDigits 26 = .ok (.getfield 21, 3) := by decide +kernel
theorem dX0_turnDigits_29 : decode cX0_turnDigits 29 = .ok (.iload_n 2, 1) := by decide +kernel
theorem dX0_turnDigits_30 : decode cX0_turnDigits 30 = .ok (.iaload, 1) := by decide +kernel
theorem dX0_turnDigits_31 : decode cX0_turnDigits 31 = .ok (.invokevirtual 103, 3) := by decide +kernel
theorem dX0_turnDigits_34 : decode cX0_turnDigits 34 = .ok (.ifCond .eq 13, 3) := by decide +kernel
theorem dX0_turnDigits_37 : decode cX0_turnDigits 37 = .ok (.aload_n 0, 1) := by decide +kernel
theorem dX0_turnDigits_38 : decode cX0_turnDigits 38 = .ok (.getfield 24, 3) := by decide +kernel
theorem dX0_turnDigits_41 : decode cX0_turnDigits 41 = .ok (.iload_n 2, 1) := by decide +kernel
theorem dX0_turnDigits_42 : decode cX0_turnDigits 42 = .ok (.iload_n 1, 1) := by decide +kernel
theorem dX0_turnDigits_43 : decode cX0_turnDigits 43 = .ok (.iastore, 1) := by decide +kernel
theorem dX0_turnDigits_44 : decode cX0_turnDigits 44 = .ok (.goto 20, 3) := by decide +kernel
theorem dX0_turnDigits_47 : decode cX0_turnDigits 47 = .ok (.aload_n 0, 1) := by decide +kernel
theorem dX0_turnDigits_48 : decode cX0_turnDigits 48 = .ok (.getfield 24, 3) := by decide +kernel
theorem dX0_turnDigits_51 : decode cX0_turnDigits 51 = .ok (.iload_n 2, 1) := by decide +kernel
theorem dX0_turnDigits_52 : decode cX0_turnDigits 52 = .ok (.iaload, 1) := by decide +kernel
theorem dX0_turnDigits_53 : decode cX0_turnDigits 53 = .ok (.iconst (-1), 1) := by decide +kernel
theorem dX0_turnDigits_54 : decode cX0_turnDigits 54 = .ok (.if_icmp .eq 10, 3) := by decide +kernel
theorem dX0_turnDigits_57 : decode cX0_turnDigits 57 = .ok (.aload_n 0, 1) := by decide +kernel
theorem dX0_turnDigits_58 : decode cX0_turnDigits 58 = .ok (.getfield 24, 3) := by decide +kernel
theorem dX0_turnDigits_61 : decode cX0_turnDigits 61 = .ok (.iload_n 2, 1) := by decide +kernel
theorem dX0_turnDigits_62 : decode cX0_turnDigits 62 = .ok (.iaload, 1) := by decide +kernel
theorem dX0_turnDigits_63 : decode cX0_turnDigits 63 = .ok (.istore_n 1, 1) := by decide +kernel
theorem dX0_turnDigits_64 : decode cX0_turnDigits 64 = .ok (.iinc 2 1, 3) := by decide +kernel
theorem dX0_turnDigits_67 : decode cX0_turnDigits 67 = .ok (.goto (-58), 3) := by decide +kernel
theorem dX0_turnDigits_70 : decode cX0_turnDigits 70 = .ok (.return_, 1) := by decide +kernel
theorem dX0_pairBrackets_0 : decode cX0_pairBrackets 0 = .ok (.iconst 0, 1) := by decide +kernel
theorem dX0_pairBrackets_1 : decode cX0_pairBrackets 1 = .ok (.istore_n 1, 1) := by decide +kernel
theorem dX0_pairBrackets_2 : decode cX0_pairBrackets 2 = .ok (.iconst 0, 1) := by decide +kernel
theorem dX0_pairBrackets_3 : decode cX0_pairBrackets 3 = .ok (.istore_n 2, 1) := by decide +kernel
theorem dX0_pairBrackets_4 : decode cX0_pairBrackets 4 = .ok (.iload_n 2, 1) := by decide +kernel
theorem dX0_pairBrackets_5 : decode cX0_pairBrackets 5 = .ok (.aload_n 0, 1) := by decide +kernel
theorem dX0_pairBrackets_6 : decode cX0_pairBrackets 6 = .ok (.getfield 97, 3) := by decide +kernel
theorem dX0_pairBrackets_9 : decode cX0_pairBrackets 9 = .ok (.if_icmp .ge 115, 3) := by decide +kernel
theorem dX0_pairBrackets_12 : decode cX0_pairBrackets 12 = .ok (.iload_n 2, 1) := by decide +kernel
theorem dX0_pairBrackets_13 : decode cX0_pairBrackets 13 = .ok (.sipush 131, 3) := by decide +kernel
theorem dX0_pairBrackets_16 : decode cX0_pairBrackets 16 = .ok (.if_icmp .ge 108, 3) := by decide +kernel
theorem dX0_pairBrackets_19 : decode cX0_pairBrackets 19 = .ok (.aload_n 0, 1) := by decide +kernel
theorem dX0_pairBrackets_20 : decode cX0_pairBrackets 20 = .ok (.getfield 21, 3) := by decide +kernel
theorem dX0_pairBrackets_23 : decode cX0_pairBrackets 23 = .ok (.iload_n 2, 1) := by decide +kernel
theorem dX0_pairBrackets_24 : decode cX0_pairBrackets 24 = .ok (.iaload, 1) := by decide +kernel
theorem dX0_pairBrackets_25 : decode cX0_pairBrackets 25 = .ok (.istore_n 3, 1) := by decide +kernel
theorem dX0_pairBrackets_26 : decode cX0_pairBrackets 26 = .ok (.iload_n 3, 1) := by decide +kernel
theorem dX0_pairBrackets_27 : decode cX0_pairBrackets 27 = .ok (.bipush 40, 2) := by decide +kernel
theorem dX0_pairBrackets_29 : decode cX0_pairBrackets 29 = .ok (.if_icmp .eq 9, 3) := by decide +kernel
theorem dX0_pairBrackets_32 : decode cX0_pairBrackets 32 = .ok (.iload_n 3, 1) := by decide +kernel
theorem dX0_pairBrackets_33 : decode cX0_pairBrackets 33 = .ok (.bipush 91, 2) := by decide +kernel
theorem dX0_pairBrackets_35 : decode cX0_pairBrackets 35 = .ok (.if_icmp .ne 23, 3) := by decide +kernel
theorem dX0_pairBrackets_38 : decode cX0_pairBrackets 38 = .ok (.iload_n 1, 1) := by decide +kernel
theorem dX0_pairBrackets_39 : decode cX0_pairBrackets 39 = .ok (.sipush 131, 3) := by decide +kernel
theorem dX0_pairBrackets_42 : decode cX0_pairBrackets 42 = .ok (.if_icmp .ge 16, 3) := by decide +kernel
theorem dX0_pairBrackets_45 : decode cX0_pairBrackets 45 = .ok (.aload_n 0, 1) := by decide +kernel
theorem dX0_pairBrackets_46 : decode cX0_pairBrackets 46 = .ok (.getfield 30, 3) := by decide +kernel
theorem dX0_pairBrackets_49 : decode cX0_pairBrackets 49 = .ok (.iload_n 1, 1) := by decide +kernel
theorem dX0_pairBrackets_50 : decode cX0_pairBrackets 50 = .ok (.iload_n 2, 1) := by decide +kernel
theorem dX0_pairBrackets_51 : decode cX0_pairBrackets 51 = .ok (.iastore, 1) := by decide +kernel
theorem dX0_pairBrackets_52 : decode cX0_pairBrackets 52 = .ok (.iinc 1 1, 3) := by decide +kernel
theorem dX0_pairBrackets_55 : decode cX0_pairBrackets 55 = .ok (.goto 63, 3) := by decide +kernel
theorem dX0_pairBrackets_58 : decode cX0_pairBrackets 58 = .ok (.iload_n 3, 1) := by decide +kernel
theorem dX0_pairBrackets_59 : decode cX0_pairBrackets 59 = .ok (.bipush 41, 2) := by decide +kernel
theorem dX0_pairBrackets_61 : decode cX0_pairBrackets 61 = .ok (.if_icmp .eq 9, 3) := by decide +kernel
theorem dX0_pairBrackets_64 : decode cX0_pairBrackets 64 = .ok (.iload_n 3, 1) := by decide +kernel
theorem dX0_pairBrackets_65 : decode cX0_pairBrackets 65 = .ok (.bipush 93, 2) := by decide +kernel
theorem dX0_pairBrackets_67 : decode cX0_pairBrackets 67 = .ok (.if_icmp .ne 51, 3) := by decide +kernel
theorem dX0_pairBrackets_70 : decode cX0_pairBrackets 70 = .ok (.aload_n 0, 1) := by decide +kernel
theorem dX0_pairBrackets_71 : decode cX0_pairBrackets 71 = .ok (.iload_n 1, 1) := by decide +kernel
theorem dX0_pairBrackets_72 : decode cX0_pairBrackets 72 = .ok (.iload_n 3, 1) := by decide +kernel
theorem dX0_pairBrackets_73 : decode cX0_pairBrackets 73 = .ok (.bipush 41, 2) := by decide +kernel
theorem dX0_pairBrackets_75 : decode cX0_pairBrackets 75 = .ok (.if_icmp .ne 8, 3) := by decide +kernel
theorem dX0_pairBrackets_78 : decode cX0_pairBrackets 78 = .ok (.bipush 40, 2) := by decide +kernel
theorem dX0_pairBrackets_80 : decode cX0_pairBrackets 80 = .ok (.goto 5, 3) := by decide +kernel
theorem dX0_pairBrackets_83 : decode cX0_pairBrackets 83 = .ok (.bipush 91, 2) := by decide +kernel
theorem dX0_pairBrackets_85 : decode cX0_pairBrackets 85 = .ok (.invokevirtual 110, 3) := by decide +kernel
theorem dX0_pairBrackets_88 : decode cX0_pairBrackets 88 = .ok (.istore 4, 2) := by decide +kernel
theorem dX0_pairBrackets_90 : decode cX0_pairBrackets 90 = .ok (.iload 4, 2) := by decide +kernel
theorem dX0_pairBrackets_92 : decode cX0_pairBrackets 92 = .ok (.ifCond .lt 26, 3) := by decide +kernel
theorem dX0_pairBrackets_95 : decode cX0_pairBrackets 95 = .ok (.iload 4, 2) := by decide +kernel
theorem dX0_pairBrackets_97 : decode cX0_pairBrackets 97 = .ok (.sipush 131, 3) := by decide +kernel
theorem dX0_pairBrackets_100 : decode cX0_pairBrackets 100 = .ok (.if_icmp .ge 18, 3) := by decide +kernel
theorem dX0_pairBrackets_103 : decode cX0_pairBrackets 103 = .ok (.aload_n 0, 1) := by decide +kernel
theorem dX0_pairBrackets_104 : decode cX0_pairBrackets 104 = .ok (.aload_n 0, 1) := by decide +kernel
theorem dX0_pairBrackets_105 : decode cX0_pairBrackets 105 = .ok (.getfield 30, 3) := by decide +kernel
theorem dX0_pairBrackets_108 : decode cX0_pairBrackets 108 = .ok (.iload 4, 2) := by decide +kernel
theorem dX0_pairBrackets_110 : decode cX0_pairBrackets 110 = .ok (.iaload, 1) := by decide +kernel
theorem dX0_pairBrackets_111 : decode cX0_pairBrackets 111 = .ok (.iload_n 2, 1) := by decide +kernel
theorem dX0_pairBrackets_112 : decode cX0_pairBrackets 112 = .ok (.invokevirtual 113, 3) := by decide +kernel
theorem dX0_pairBrackets_115 : decode cX0_pairBrackets 115 = .ok (.iload 4, 2) := by decide +kernel
theorem dX0_pairBrackets_117 : decode cX0_pairBrackets 117 = .ok (.istore_n 1, 1) := by decide +kernel
theorem dX0_pairBrackets_118 : decode cX0_pairBrackets 118 = .ok (.iinc 2 1, 3) := by decide +kernel
theorem dX0_pairBrackets_121 : decode cX0_pairBrackets 121 = .ok (.goto (-117), 3) := by decide +kernel
theorem dX0_pairBrackets_124 : decode cX0_pairBrackets 124 = .ok (.return_, 1) := by decide +kernel
theorem dX0_lastOpened_0 : decode cX0_lastOpened 0 = .ok (.iload_n 1, 1) := by decide +kernel
theorem dX0_lastOpened_1 : decode cX0_lastOpened 1 = .ok (.sipush 131, 3) := by decide +kernel
theorem dX0_lastOpened_4 : decode cX0_lastOpened 4 = .ok (.invokestatic 39, 3) := by decide +kernel
theorem dX0_lastOpened_7 : decode cX0_lastOpened 7 = .ok (.iconst 1, 1) := by decide +kernel
theorem dX0_lastOpened_8 : decode cX0_lastOpened 8 = .ok (.isub, 1) := by decide +kernel
theorem dX0_lastOpened_9 : decode cX0_lastOpened 9 = .ok (.istore_n 3, 1) := by decide +kernel
theorem dX0_lastOpened_10 : decode cX0_lastOpened 10 = .ok (.iload_n 3, 1) := by decide +kernel
theorem dX0_lastOpened_11 : decode cX0_lastOpened 11 = .ok (.ifCond .lt 43, 3) := by decide +kernel
theorem dX0_lastOpened_14 : decode cX0_lastOpened 14 = .ok (.aload_n 0, 1) := by decide +kernel
theorem dX0_lastOpened_15 : decode cX0_lastOpened 15 = .ok (.getfield 30, 3) := by decide +kernel
theorem dX0_lastOpened_18 : decode cX0_lastOpened 18 = .ok (.iload_n 3, 1) := by decide +kernel
theorem dX0_lastOpened_19 : decode cX0_lastOpened 19 = .ok (.iaload, 1) := by decide +kernel
theorem dX0_lastOpened_20 : decode cX0_lastOpened 20 = .ok (.istore 4, 2) := by decide +kernel
theorem dX0_lastOpened_22 : decode cX0_lastOpened 22 = .ok (.iload 4, 2) := by decide +kernel
theorem dX0_lastOpened_24 : decode cX0_lastOpened 24 = .ok (.ifCond .lt 24, 3) := by decide +kernel
theorem dX0_lastOpened_27 : decode cX0_lastOpened 27 = .ok (.iload 4, 2) := by decide +kernel
theorem dX0_lastOpened_29 : decode cX0_lastOpened 29 = .ok (.sipush 131, 3) := by decide +kernel
theorem dX0_lastOpened_32 : decode cX0_lastOpened 32 = .ok (.if_icmp .ge 16, 3) := by decide +kernel
theorem dX0_lastOpened_35 : decode cX0_lastOpened 35 = .ok (.aload_n 0, 1) := by decide +kernel
theorem dX0_lastOpened_36 : decode cX0_lastOpened 36 = .ok (.getfield 21, 3) := by decide +kernel
theorem dX0_lastOpened_39 : decode cX0_lastOpened 39 = .ok (.iload 4, 2) := by decide +kernel
theorem dX0_lastOpened_41 : decode cX0_lastOpened 41 = .ok (.iaload, 1) := by decide +kernel
theorem dX0_lastOpened_42 : decode cX0_lastOpened 42 = .ok (.iload_n 2, 1) := by decide +kernel
theorem dX0_lastOpened_43 : decode cX0_lastOpened 43 = .ok (.if_icmp .ne 5, 3) := by decide +kernel
theorem dX0_lastOpened_46 : decode cX0_lastOpened 46 = .ok (.iload_n 3, 1) := by decide +kernel
theorem dX0_lastOpened_47 : decode cX0_lastOpened 47 = .ok (.ireturn, 1) := by decide +kernel
theorem dX0_lastOpened_48 : decode cX0_lastOpened 48 = .ok (.iinc 3 (-1), 3) := by decide +kernel
theorem dX0_lastOpened_51 : decode cX0_lastOpened 51 = .ok (.goto (-41), 3) := by decide +kernel
theorem dX0_lastOpened_54 : decode cX0_lastOpened 54 = .ok (.iconst (-1), 1) := by decide +kernel
theorem dX0_lastOpened_55 : decode cX0_lastOpened 55 = .ok (.ireturn, 1) := by decide +kernel
theorem dX0_setCloser_0 : decode cX0_setCloser 0 = .ok (.iload_n 1, 1) := by decide +kernel
theorem dX0_setCloser_1 : decode cX0_setCloser 1 = .ok (.ifCond .lt 17, 3) := by decide +kernel
theorem dX0_setCloser_4 : decode cX0_setCloser 4 = .ok (.iload_n 1, 1) := by decide +kernel
theorem dX0_setCloser_5 : decode cX0_setCloser 5 = .ok (.sipush 131, 3) := by decide +kernel
theorem dX0_setCloser_8 : decode cX0_setCloser 8 = .ok (.if_icmp .ge 10, 3) := by decide +kernel
theorem dX0_setCloser_11 : decode cX0_setCloser 11 = .ok (.aload_n 0, 1) := by decide +kernel
theorem dX0_setCloser_12 : decode cX0_setCloser 12 = .ok (.getfield 27, 3) := by decide +kernel
theorem dX0_setCloser_15 : decode cX0_setCloser 15 = .ok (.iload_n 1, 1) := by decide +kernel
theorem dX0_setCloser_16 : decode cX0_setCloser 16 = .ok (.iload_n 2, 1) := by decide +kernel
theorem dX0_setCloser_17 : decode cX0_setCloser 17 = .ok (.iastore, 1) := by decide +kernel
theorem dX0_setCloser_18 : decode cX0_setCloser 18 = .ok (.return_, 1) := by decide +kernel
theorem dX0_turnPairs_0 : decode cX0_turnPairs 0 = .ok (.iconst 0, 1) := by decide +kernel
theorem dX0_turnPairs_1 : decode cX0_turnPairs 1 = .ok (.istore_n 1, 1) := by decide +kernel
theorem dX0_turnPairs_2 : decode cX0_turnPairs 2 = .ok (.iload_n 1, 1) := by decide +kernel
theorem dX0_turnPairs_3 : decode cX0_turnPairs 3 = .ok (.aload_n 0, 1) := by decide +kernel
theorem dX0_turnPairs_4 : decode cX0_turnPairs 4 = .ok (.getfield 97, 3) := by decide +kernel
theorem dX0_turnPairs_7 : decode cX0_turnPairs 7 = .ok (.if_icmp .ge 58, 3) := by decide +kernel
theorem dX0_turnPairs_10 : decode cX0_turnPairs 10 = .ok (.iload_n 1, 1) := by decide +kernel
theorem dX0_turnPairs_11 : decode cX0_turnPairs 11 = .ok (.sipush 131, 3) := by decide +kernel
theorem dX0_turnPairs_14 : decode cX0_turnPairs 14 = .ok (.if_icmp .ge 51, 3) := by decide +kernel
theorem dX0_turnPairs_17 : decode cX0_turnPairs 17 = .ok (.aload_n 0, 1) := by decide +kernel
theorem dX0_turnPairs_18 : decode cX0_turnPairs 18 = .ok (.getfield 27, 3) := by decide +kernel
theorem dX0_turnPairs_21 : decode cX0_turnPairs 21 = .ok (.iload_n 1, 1) := by decide +kernel
theorem dX0_turnPairs_22 : decode cX0_turnPairs 22 = .ok (.iaload, 1) := by decide +kernel
theorem dX0_turnPairs_23 : decode cX0_turnPairs 23 = .ok (.istore_n 2, 1) := by decide +kernel
theorem dX0_turnPairs_24 : decode cX0_turnPairs 24 = .ok (.iload_n 2, 1) := by decide +kernel
theorem dX0_turnPairs_25 : decode cX0_turnPairs 25 = .ok (.ifCond .lt 34, 3) := by decide +kernel
theorem dX0_turnPairs_28 : decode cX0_turnPairs 28 = .ok (.iload_n 2, 1) := by decide +kernel
theorem dX0_turnPairs_29 : decode cX0_turnPairs 29 = .ok (.sipush 131, 3) := by decide +kernel
theorem dX0_turnPairs_32 : decode cX0_turnPairs 32 = .ok (.if_icmp .ge 27, 3) := by decide +kernel
theorem dX0_turnPairs_35 : decode cX0_turnPairs 35 = .ok (.aload_n 0, 1) := by decide +kernel
theorem dX0_turnPairs_36 : decode cX0_turnPairs 36 = .ok (.getfield 24, 3) := by decide +kernel
theorem dX0_turnPairs_39 : decode cX0_turnPairs 39 = .ok (.iload_n 1, 1) := by decide +kernel
theorem dX0_turnPairs_40 : decode cX0_turnPairs 40 = .ok (.aload_n 0, 1) := by decide +kernel
theorem dX0_turnPairs_41 : decode cX0_turnPairs 41 = .ok (.iload_n 1, 1) := by decide +kernel
theorem dX0_turnPairs_42 : decode cX0_turnPairs 42 = .ok (.iload_n 2, 1) := by decide +kernel
theorem dX0_turnPairs_43 : decode cX0_turnPairs 43 = .ok (.invokevirtual 116, 3) := by decide +kernel
theorem dX0_turnPairs_46 : decode cX0_turnPairs 46 = .ok (.iastore, 1) := by decide +kernel
theorem dX0_turnPairs_47 : decode cX0_turnPairs 47 = .ok (.aload_n 0, 1) := by decide +kernel
theorem dX0_turnPairs_48 : decode cX0_turnPairs 48 = .ok (.getfield 24, 3) := by decide +kernel
theorem dX0_turnPairs_51 : decode cX0_turnPairs 51 = .ok (.iload_n 2, 1) := by decide +kernel
theorem dX0_turnPairs_52 : decode cX0_turnPairs 52 = .ok (.aload_n 0, 1) := by decide +kernel
theorem dX0_turnPairs_53 : decode cX0_turnPairs 53 = .ok (.getfield 24, 3) := by decide +kernel
theorem dX0_turnPairs_56 : decode cX0_turnPairs 56 = .ok (.iload_n 1, 1) := by decide +kernel
theorem dX0_turnPairs_57 : decode cX0_turnPairs 57 = .ok (.iaload, 1) := by decide +kernel
theorem dX0_turnPairs_58 : decode cX0_turnPairs 58 = .ok (.iastore, 1) := by decide +kernel
theorem dX0_turnPairs_59 : decode cX0_turnPairs 59 = .ok (.iinc 1 1, 3) := by decide +kernel
theorem dX0_turnPairs_62 : decode cX0_turnPairs 62 = .ok (.goto (-60), 3) := by decide +kernel
theorem dX0_turnPairs_65 : decode cX0_turnPairs 65 = .ok (.return_, 1) := by decide +kernel
theorem dX0_wayOfPair_0 : decode cX0_wayOfPair 0 = .ok (.aload_n 0, 1) := by decide +kernel
theorem dX0_wayOfPair_1 : decode cX0_wayOfPair 1 = .ok (.getfield 71, 3) := by decide +kernel
theorem dX0_wayOfPair_4 : decode cX0_wayOfPair 4 = .ok (.iconst 2, 1) := by decide +kernel
theorem dX0_wayOfPair_5 : decode cX0_wayOfPair 5 = .ok (.irem, 1) := by decide +kernel
theorem dX0_wayOfPair_6 : decode cX0_wayOfPair 6 = .ok (.istore_n 3, 1) := by decide +kernel
theorem dX0_wayOfPair_7 : decode cX0_wayOfPair 7 = .ok (.iconst 0, 1) := by decide +kernel
theorem dX0_wayOfPair_8 : decode cX0_wayOfPair 8 = .ok (.istore 4, 2) := by decide +kernel
theorem dX0_wayOfPair_10 : decode cX0_wayOfPair 10 = .ok (.iconst 0, 1) := by decide +kernel
theorem dX0_wayOfPair_11 : decode cX0_wayOfPair 11 = .ok (.istore 5, 2) := by decide +kernel
theorem dX0_wayOfPair_13 : decode cX0_wayOfPair 13 = .ok (.iload_n 1, 1) := by decide +kernel
theorem dX0_wayOfPair_14 : decode cX0_wayOfPair 14 = .ok (.iconst 1, 1) := by decide +kernel
theorem dX0_wayOfPair_15 : decode cX0_wayOfPair 15 = .ok (.iadd, 1) := by decide +kernel
theorem dX0_wayOfPair_16 : decode cX0_wayOfPair 16 = .ok (.iconst 0, 1) := by decide +kernel
theorem dX0_wayOfPair_17 : decode cX0_wayOfPair 17 = .ok (.invokestatic 65, 3) := by decide +kernel
theorem dX0_wayOfPair_20 : decode cX0_wayOfPair 20 = .ok (.istore 6, 2) := by decide +kernel
theorem dX0_wayOfPair_22 : decode cX0_wayOfPair 22 = .ok (.iload 6, 2) := by decide +kernel
theorem dX0_wayOfPair_24 : decode cX0_wayOfPair 24 = .ok (.iload_n 2, 1) := by decide +kernel
theorem dX0_wayOfPair_25 : decode cX0_wayOfPair 25 = .ok (.if_icmp .ge 65, 3) := by decide +kernel
theorem dX0_wayOfPair_28 : decode cX0_wayOfPair 28 = .ok (.iload 6, 2) := by decide +kernel
theorem dX0_wayOfPair_30 : decode cX0_wayOfPair 30 = .ok (.sipush 131, 3) := by decide +kernel
theorem dX0_wayOfPair_33 : decode cX0_wayOfPair 33 = .ok (.if_icmp .ge 57, 3) := by decide +kernel
theorem dX0_wayOfPair_36 : decode cX0_wayOfPair 36 = .ok (.iload 4, 2) := by decide +kernel
theorem dX0_wayOfPair_38 : decode cX0_wayOfPair 38 = .ok (.ifCond .ne 14, 3) := by decide +kernel
theorem dX0_wayOfPair_41 : decode cX0_wayOfPair 41 = .ok (.aload_n 0, 1) := by decide +kernel
theorem dX0_wayOfPair_42 : decode cX0_wayOfPair 42 = .ok (.getfield 24, 3) := by decide +kernel
theorem dX0_wayOfPair_45 : decode cX0_wayOfPair 45 = .ok (.iload 6, 2) := by decide +kernel
theorem dX0_wayOfPair_47 : decode cX0_wayOfPair 47 = .ok (.iaload, 1) := by decide +kernel
theorem dX0_wayOfPair_48 : decode cX0_wayOfPair 48 = .ok (.iload_n 3, 1) := by decide +kernel
theorem dX0_wayOfPair_49 : decode cX0_wayOfPair 49 = .ok (.if_icmp .ne 7, 3) := by decide +kernel
theorem dX0_wayOfPair_52 : decode cX0_wayOfPair 52 = .ok (.iconst 1, 1) := by decide +kernel
theorem dX0_wayOfPair_53 : decode cX0_wayOfPair 53 = .ok (.goto 4, 3) := by decide +kernel
theorem dX0_wayOfPair_56 : decode cX0_wayOfPair 56 = .ok (.iconst 0, 1) := by decide +kernel
theorem dX0_wayOfPair_57 : decode cX0_wayOfPair 57 = .ok (.istore 4, 2) := by decide +kernel
theorem dX0_wayOfPair_59 : decode cX0_wayOfPair 59 = .ok (.iload 5, 2) := by decide +kernel
theorem dX0_wayOfPair_61 : decode cX0_wayOfPair 61 = .ok (.ifCond .ne 16, 3) := by decide +kernel
theorem dX0_wayOfPair_64 : decode cX0_wayOfPair 64 = .ok (.aload_n 0, 1) := by decide +kernel
theorem dX0_wayOfPair_65 : decode cX0_wayOfPair 65 = .ok (.getfield 24, 3) := by decide +kernel
theorem dX0_wayOfPair_68 : decode cX0_wayOfPair 68 = .ok (.iload 6, 2) := by decide +kernel
theorem dX0_wayOfPair_70 : decode cX0_wayOfPair 70 = .ok (.iaload, 1) := by decide +kernel
theorem dX0_wayOfPair_71 : decode cX0_wayOfPair 71 = .ok (.iconst 1, 1) := by decide +kernel
theorem dX0_wayOfPair_72 : decode cX0_wayOfPair 72 = .ok (.iload_n 3, 1) := by decide +kernel
theorem dX0_wayOfPair_73 : decode cX0_wayOfPair 73 = .ok (.isub, 1) := by decide +kernel
theorem dX0_wayOfPair_74 : decode cX0_wayOfPair 74 = .ok (.if_icmp .ne 7, 3) := by decide +kernel
theorem dX0_wayOfPair_77 : decode cX0_wayOfPair 77 = .ok (.iconst 1, 1) := by decide +kernel
theorem dX0_wayOfPair_78 : decode cX0_wayOfPair 78 = .ok (.goto 4, 3) := by decide +kernel
theorem dX0_wayOfPair_81 : decode cX0_wayOfPair 81 = .ok (.iconst 0, 1) := by decide +kernel
theorem dX0_wayOfPair_82 : decode cX0_wayOfPair 82 = .ok (.istore 5, 2) := by decide +kernel
theorem dX0_wayOfPair_84 : decode cX0_wayOfPair 84 = .ok (.iinc 6 1, 3) := by decide +kernel
theorem dX0_wayOfPair_87 : decode cX0_wayOfPair 87 = .ok (.goto (-65), 3) := by decide +kernel
theorem dX0_wayOfPair_90 : decode cX0_wayOfPair 90 = .ok (.iload 4, 2) := by decide +kernel
theorem dX0_wayOfPair_92 : decode cX0_wayOfPair 92 = .ok (.ifCond .ne 8, 3) := by decide +kernel
theorem dX0_wayOfPair_95 : decode cX0_wayOfPair 95 = .ok (.iload 5, 2) := by decide +kernel
theorem dX0_wayOfPair_97 : decode cX0_wayOfPair 97 = .ok (.ifCond .ne 14, 3) := by decide +kernel
theorem dX0_wayOfPair_100 : decode cX0_wayOfPair 100 = .ok (.iload 4, 2) := by decide +kernel
theorem dX0_wayOfPair_102 : decode cX0_wayOfPair 102 = .ok (.ifCond .eq 7, 3) := by decide +kernel
theorem dX0_wayOfPair_105 : decode cX0_wayOfPair 105 = .ok (.iload_n 3, 1) := by decide +kernel
theorem dX0_wayOfPair_106 : decode cX0_wayOfPair 106 = .ok (.goto 4, 3) := by decide +kernel
theorem dX0_wayOfPair_109 : decode cX0_wayOfPair 109 = .ok (.iconst (-1), 1) := by decide +kernel
theorem dX0_wayOfPair_110 : decode cX0_wayOfPair 110 = .ok (.ireturn, 1) := by decide +kernel
theorem dX0_wayOfPair_111 : decode cX0_wayOfPair 111 = .ok (.iload_n 1, 1) := by decide +kernel
theorem dX0_wayOfPair_112 : decode cX0_wayOfPair 112 = .ok (.sipush 131, 3) := by decide +kernel
theorem dX0_wayOfPair_115 : decode cX0_wayOfPair 115 = .ok (.invokestatic 39, 3) := by decide +kernel
theorem dX0_wayOfPair_118 : decode cX0_wayOfPair 118 = .ok (.iconst 1, 1) := by decide +kernel
theorem dX0_wayOfPair_119 : decode cX0_wayOfPair 119 = .ok (.isub, 1) := by decide +kernel
theorem dX0_wayOfPair_120 : decode cX0_wayOfPair 120 = .ok (.istore 6, 2) := by decide +kernel
theorem dX0_wayOfPair_122 : decode cX0_wayOfPair 122 = .ok (.iload 6, 2) := by decide +kernel
theorem dX0_wayOfPair_124 : decode cX0_wayOfPair 124 = .ok (.ifCond .lt 20, 3) := by decide +kernel
theorem dX0_wayOfPair_127 : decode cX0_wayOfPair 127 = .ok (.aload_n 0, 1) := by decide +kernel
theorem dX0_wayOfPair_128 : decode cX0_wayOfPair 128 = .ok (.getfield 24, 3) := by decide +kernel
theorem dX0_wayOfPair_131 : decode cX0_wayOfPair 131 = .ok (.iload 6, 2) := by decide +kernel
theorem dX0_wayOfPair_133 : decode cX0_wayOfPair 133 = .ok (.iaload, 1) := by decide +kernel
theorem dX0_wayOfPair_134 : decode cX0_wayOfPair 134 = .ok (.iconst (-1), 1) := by decide +kernel
theorem dX0_wayOfPair_135 : decode cX0_wayOfPair 135 = .ok (.if_icmp .ne 9, 3) := by decide +kernel
theorem dX0_wayOfPair_138 : decode cX0_wayOfPair 138 = .ok (.iinc 6 (-1), 3) := by decide +kernel
theorem dX0_wayOfPair_141 : decode cX0_wayOfPair 141 = .ok (.goto (-19), 3) := by decide +kernel
theorem dX0_wayOfPair_144 : decode cX0_wayOfPair 144 = .ok (.iload 6, 2) := by decide +kernel
theorem dX0_wayOfPair_146 : decode cX0_wayOfPair 146 = .ok (.ifCond .lt 22, 3) := by decide +kernel
theorem dX0_wayOfPair_149 : decode cX0_wayOfPair 149 = .ok (.aload_n 0, 1) := by decide +kernel
theorem dX0_wayOfPair_150 : decode cX0_wayOfPair 150 = .ok (.getfield 24, 3) := by decide +kernel
theorem dX0_wayOfPair_153 : decode cX0_wayOfPair 153 = .ok (.iload 6, 2) := by decide +kernel
theorem dX0_wayOfPair_155 : decode cX0_wayOfPair 155 = .ok (.iaload, 1) := by decide +kernel
theorem dX0_wayOfPair_156 : decode cX0_wayOfPair 156 = .ok (.iconst 1, 1) := by decide +kernel
theorem dX0_wayOfPair_157 : decode cX0_wayOfPair 157 = .ok (.iload_n 3, 1) := by decide +kernel
theorem dX0_wayOfPair_158 : decode cX0_wayOfPair 158 = .ok (.isub, 1) := by decide +kernel
theorem dX0_wayOfPair_159 : decode cX0_wayOfPair 159 = .ok (.if_icmp .ne 9, 3) := by decide +kernel
theorem dX0_wayOfPair_162 : decode cX0_wayOfPair 162 = .ok (.iconst 1, 1) := by decide +kernel
theorem dX0_wayOfPair_163 : decode cX0_wayOfPair 163 = .ok (.iload_n 3, 1) := by decide +kernel
theorem dX0_wayOfPair_164 : decode cX0_wayOfPair 164 = .ok (.isub, 1) := by decide +kernel
theorem dX0_wayOfPair_165 : decode cX0_wayOfPair 165 = .ok (.goto 4, 3) := by decide +kernel
theorem dX0_wayOfPair_168 : decode cX0_wayOfPair 168 = .ok (.iload_n 3, 1) := by decide +kernel
theorem dX0_wayOfPair_169 : decode cX0_wayOfPair 169 = .ok (.ireturn, 1) := by decide +kernel
theorem dX0_turnNeutral_0 : decode cX0_turnNeutral 0 = .ok (.aload_n 0, 1) := by decide +kernel
theorem dX0_turnNeutral_1 : decode cX0_turnNeutral 1 = .ok (.getfield 71, 3) := by decide +kernel
theorem dX0_turnNeutral_4 : decode cX0_turnNeutral 4 = .ok (.iconst 2, 1) := by decide +kernel
theorem dX0_turnNeutral_5 : decode cX0_turnNeutral 5 = .ok (.irem, 1) := by decide +kernel
theorem dX0_turnNeutral_6 : decode cX0_turnNeutral 6 = .ok (.istore_n 1, 1) := by decide +kernel
theorem dX0_turnNeutral_7 : decode cX0_turnNeutral 7 = .ok (.iload_n 1, 1) := by decide +kernel
theorem dX0_turnNeutral_8 : decode cX0_turnNeutral 8 = .ok (.istore_n 2, 1) := by decide +kernel
theorem dX0_turnNeutral_9 : decode cX0_turnNeutral 9 = .ok (.iconst 0, 1) := by decide +kernel
theorem dX0_turnNeutral_10 : decode cX0_turnNeutral 10 = .ok (.istore_n 3, 1) := by decide +kernel
theorem dX0_turnNeutral_11 : decode cX0_turnNeutral 11 = .ok (.iload_n 3, 1) := by decide +kernel
theorem dX0_turnNeutral_12 : decode cX0_turnNeutral 12 = .ok (.ifCond .lt 113, 3) := by decide +kernel
theorem dX0_turnNeutral_15 : decode cX0_turnNeutral 15 = .ok (.iload_n 3, 1) := by decide +kernel
theorem dX0_turnNeutral_16 : decode cX0_turnNeutral 16 = .ok (.aload_n 0, 1) := by decide +kernel
theorem dX0_turnNeutral_17 : decode cX0_turnNeutral 17 = .ok (.getfield 97, 3) := by decide +kernel
theorem dX0_turnNeutral_20 : decode cX0_turnNeutral 20 = .ok (.if_icmp .ge 105, 3) := by decide +kernel
theorem dX0_turnNeutral_23 : decode cX0_turnNeutral 23 = .ok (.iload_n 3, 1) := by decide +kernel
theorem dX0_turnNeutral_24 : decode cX0_turnNeutral 24 = .ok (.sipush 131, 3) := by decide +kernel
theorem dX0_turnNeutral_27 : decode cX0_turnNeutral 27 = .ok (.if_icmp .ge 98, 3) := by decide +kernel
theorem dX0_turnNeutral_30 : decode cX0_turnNeutral 30 = .ok (.aload_n 0, 1) := by decide +kernel
theorem dX0_turnNeutral_31 : decode cX0_turnNeutral 31 = .ok (.getfield 24, 3) := by decide +kernel
theorem dX0_turnNeutral_34 : decode cX0_turnNeutral 34 = .ok (.iload_n 3, 1) := by decide +kernel
theorem dX0_turnNeutral_35 : decode cX0_turnNeutral 35 = .ok (.iaload, 1) := by decide +kernel
theorem dX0_turnNeutral_36 : decode cX0_turnNeutral 36 = .ok (.iconst (-1), 1) := by decide +kernel
theorem dX0_turnNeutral_37 : decode cX0_turnNeutral 37 = .ok (.if_icmp .eq 16, 3) := by decide +kernel
theorem dX0_turnNeutral_40 : decode cX0_turnNeutral 40 = .ok (.aload_n 0, 1) := by decide +kernel
theorem dX0_turnNeutral_41 : decode cX0_turnNeutral 41 = .ok (.getfield 24, 3) := by decide +kernel
theorem dX0_turnNeutral_44 : decode cX0_turnNeutral 44 = .ok (.iload_n 3, 1) := by decide +kernel
theorem dX0_turnNeutral_45 : decode cX0_turnNeutral 45 = .ok (.iaload, 1) := by decide +kernel
theorem dX0_turnNeutral_46 : decode cX0_turnNeutral 46 = .ok (.istore_n 2, 1) := by decide +kernel
theorem dX0_turnNeutral_47 : decode cX0_turnNeutral 47 = .ok (.iinc 3 1, 3) := by decide +kernel
theorem dX0_turnNeutral_50 : decode cX0_turnNeutral 50 = .ok (.goto (-39), 3) := by decide +kernel
theorem dX0_turnNeutral_53 : decode cX0_turnNeutral 53 = .ok (.aload_n 0, 1) := by decide +kernel
theorem dX0_turnNeutral_54 : decode cX0_turnNeutral 54 = .ok (.iload_n 3, 1) := by decide +kernel
theorem dX0_turnNeutral_55 : decode cX0_turnNeutral 55 = .ok (.invokevirtual 119, 3) := by decide +kernel
theorem dX0_turnNeutral_58 : decode cX0_turnNeutral 58 = .ok (.istore 4, 2) := by decide +kernel
theorem dX0_turnNeutral_60 : decode cX0_turnNeutral 60 = .ok (.iload 4, 2) := by decide +kernel
theorem dX0_turnNeutral_62 : decode cX0_turnNeutral 62 = .ok (.ifCond .lt 30, 3) := by decide +kernel
theorem dX0_turnNeutral_65 : decode cX0_turnNeutral 65 = .ok (.iload 4, 2) := by decide +kernel
theorem dX0_turnNeutral_67 : decode cX0_turnNeutral 67 = .ok (.aload_n 0, 1) := by decide +kernel
theorem dX0_turnNeutral_68 : decode cX0_turnNeutral 68 = .ok (.getfield 97, 3) := by decide +kernel
theorem dX0_turnNeutral_71 : decode cX0_turnNeutral 71 = .ok (.if_icmp .ge 21, 3) := by decide +kernel
theorem dX0_turnNeutral_74 : decode cX0_turnNeutral 74 = .ok (.iload 4, 2) := by decide +kernel
theorem dX0_turnNeutral_76 : decode cX0_turnNeutral 76 = .ok (.sipush 131, 3) := by decide +kernel
theorem dX0_turnNeutral_79 : decode cX0_turnNeutral 79 = .ok (.if_icmp .ge 13, 3) := by decide +kernel
theorem dX0_turnNeutral_82 : decode cX0_turnNeutral 82 = .ok (.aload_n 0, 1) := by decide +kernel
theorem dX0_turnNeutral_83 : decode cX0_turnNeutral 83 = .ok (.getfield 24, 3) := by decide +kernel
theorem dX0_turnNeutral_86 : decode cX0_turnNeutral 86 = .ok (.iload 4, 2) := by decide +kernel
theorem dX0_turnNeutral_88 : decode cX0_turnNeutral 88 = .ok (.iaload, 1) := by decide +kernel
theorem dX0_turnNeutral_89 : decode cX0_turnNeutral 89 = .ok (.goto 4, 3) := by decide +kernel
theorem dX0_turnNeutral_92 : decode cX0_turnNeutral 92 = .ok (.iload_n 1, 1) := by decide +kernel
theorem dX0_turnNeutral_93 : decode cX0_turnNeutral 93 = .ok (.istore 5, 2) := by decide +kernel
theorem dX0_turnNeutral_95 : decode cX0_turnNeutral 95 = .ok (.aload_n 0, 1) := by decide +kernel
theorem dX0_turnNeutral_96 : decode cX0_turnNeutral 96 = .ok (.iload_n 3, 1) := by decide +kernel
theorem dX0_turnNeutral_97 : decode cX0_turnNeutral 97 = .ok (.iload 4, 2) := by decide +kernel
theorem dX0_turnNeutral_99 : decode cX0_turnNeutral 99 = .ok (.iload_n 2, 1) := by decide +kernel
theorem dX0_turnNeutral_100 : decode cX0_turnNeutral 100 = .ok (.iload 5, 2) := by decide +kernel
theorem dX0_turnNeutral_102 : decode cX0_turnNeutral 102 = .ok (.if_icmp .ne 7, 3) := by decide +kernel
theorem dX0_turnNeutral_105 : decode cX0_turnNeutral 105 = .ok (.iload_n 2, 1) := by decide +kernel
theorem dX0_turnNeutral_106 : decode cX0_turnNeutral 106 = .ok (.goto 4, 3) := by decide +kernel
theorem dX0_turnNeutral_109 : decode cX0_turnNeutral 109 = .ok (.iload_n 1, 1) := by decide +kernel
theorem dX0_turnNeutral_110 : decode cX0_turnNeutral 110 = .ok (.invokevirtual 122, 3) := by decide +kernel
theorem dX0_turnNeutral_113 : decode cX0_turnNeutral 113 = .ok (.iload 4, 2) := by decide +kernel
theorem dX0_turnNeutral_115 : decode cX0_turnNeutral 115 = .ok (.iload_n 3, 1) := by decide +kernel
theorem dX0_turnNeutral_116 : decode cX0_turnNeutral 116 = .ok (.iconst 1, 1) := by decide +kernel
theorem dX0_turnNeutral_117 : decode cX0_turnNeutral 117 = .ok (.iadd, 1) := by decide +kernel
theorem dX0_turnNeutral_118 : decode cX0_turnNeutral 118 = .ok (.invokestatic 65, 3) := by decide +kernel
theorem dX0_turnNeutral_121 : decode cX0_turnNeutral 121 = .ok (.istore_n 3, 1) := by decide +kernel
theorem dX0_turnNeutral_122 : decode cX0_turnNeutral 122 = .ok (.goto (-111), 3) := by decide +kernel
theorem dX0_turnNeutral_125 : decode cX0_turnNeutral 125 = .ok (.return_, 1) := by decide +kernel
theorem dX0_endOfNeutral_0 : decode cX0_endOfNeutral 0 = .ok (.iload_n 1, 1) := by decide +kernel
theorem dX0_endOfNeutral_1 : decode cX0_endOfNeutral 1 = .ok (.iconst 0, 1) := by decide +kernel
theorem dX0_endOfNeutral_2 : decode cX0_endOfNeutral 2 = .ok (.invokestatic 65, 3) := by decide +kernel
theorem dX0_endOfNeutral_5 : decode cX0_endOfNeutral 5 = .ok (.istore_n 2, 1) := by decide +kernel
theorem dX0_endOfNeutral_6 : decode cX0_endOfNeutral 6 = .ok (.iload_n 2, 1) := by decide +kernel
theorem dX0_endOfNeutral_7 : decode cX0_endOfNeutral 7 = .ok (.aload_n 0, 1) := by decide +kernel
theorem dX0_endOfNeutral_8 : decode cX0_endOfNeutral 8 = .ok (.getfield 97, 3) := by decide +kernel
theorem dX0_endOfNeutral_11 : decode cX0_endOfNeutral 11 = .ok (.if_icmp .ge 26, 3) := by decide +kernel
theorem dX0_endOfNeutral_14 : decode cX0_endOfNeutral 14 = .ok (.iload_n 2, 1) := by decide +kernel
theorem dX0_endOfNeutral_15 : decode cX0_endOfNeutral 15 = .ok (.sipush 131, 3) := by decide +kernel
theorem dX0_endOfNeutral_18 : decode cX0_endOfNeutral 18 = .ok (.if_icmp .ge 19, 3) := by decide +kernel
theorem dX0_endOfNeutral_21 : decode cX0_endOfNeutral 21 = .ok (.aload_n 0, 1) := by decide +kernel
theorem dX0_endOfNeutral_22 : decode cX0_endOfNeutral 22 = .ok (.getfield 24, 3) := by decide +kernel
theorem dX0_endOfNeutral_25 : decode cX0_endOfNeutral 25 = .ok (.iload_n 2, 1) := by decide +kernel
theorem dX0_endOfNeutral_26 : decode cX0_endOfNeutral 26 = .ok (.iaload, 1) := by decide +kernel
theorem dX0_endOfNeutral_27 : decode cX0_endOfNeutral 27 = .ok (.iconst (-1), 1) := by decide +kernel
theorem dX0_endOfNeutral_28 : decode cX0_endOfNeutral 28 = .ok (.if_icmp .ne 9, 3) := by decide +kernel
theorem dX0_endOfNeutral_31 : decode cX0_endOfNeutral 31 = .ok (.iinc 2 1, 3) := by decide +kernel
theorem dX0_endOfNeutral_34 : decode cX0_endOfNeutral 34 = .ok (.goto (-28), 3) := by decide +kernel
theorem dX0_endOfNeutral_37 : decode cX0_endOfNeutral 37 = .ok (.iload_n 2, 1) := by decide +kernel
theorem dX0_endOfNeutral_38 : decode cX0_endOfNeutral 38 = .ok (.ireturn, 1) := by decide +kernel
theorem dX0_fillWays_0 : decode cX0_fillWays 0 = .ok (.iload_n 1, 1) := by decide +kernel
theorem dX0_fillWays_1 : decode cX0_fillWays 1 = .ok (.iconst 0, 1) := by decide +kernel
theorem dX0_fillWays_2 : decode cX0_fillWays 2 = .ok (.invokestatic 65, 3) := by decide +kernel
theorem dX0_fillWays_5 : decode cX0_fillWays 5 = .ok (.istore 4, 2) := by decide +kernel
theorem dX0_fillWays_7 : decode cX0_fillWays 7 = .ok (.iload 4, 2) := by decide +kernel
theorem dX0_fillWays_9 : decode cX0_fillWays 9 = .ok (.iload_n 2, 1) := by decide +kernel
theorem dX0_fillWays_10 : decode cX0_fillWays 10 = .ok (.if_icmp .ge 25, 3) := by decide +kernel
theorem dX0_fillWays_13 : decode cX0_fillWays 13 = .ok (.iload 4, 2) := by decide +kernel
theorem dX0_fillWays_15 : decode cX0_fillWays 15 = .ok (.sipush 131, 3) := by decide +kernel
theorem dX0_fillWays_18 : decode cX0_fillWays 18 = .ok (.if_icmp .ge 17, 3) := by decide +kernel
theorem dX0_fillWays_21 : decode cX0_fillWays 21 = .ok (.aload_n 0, 1) := by decide +kernel
theorem dX0_fillWays_22 : decode cX0_fillWays 22 = .ok (.getfield 24, 3) := by decide +kernel
theorem dX0_fillWays_25 : decode cX0_fillWays 25 = .ok (.iload 4, 2) := by decide +kernel
theorem dX0_fillWays_27 : decode cX0_fillWays 27 = .ok (.iload_n 3, 1) := by decide +kernel
theorem dX0_fillWays_28 : decode cX0_fillWays 28 = .ok (.iastore, 1) := by decide +kernel
theorem dX0_fillWays_29 : decode cX0_fillWays 29 = .ok (.iinc 4 1, 3) := by decide +kernel
theorem dX0_fillWays_32 : decode cX0_fillWays 32 = .ok (.goto (-25), 3) := by decide +kernel
theorem dX0_fillWays_35 : decode cX0_fillWays 35 = .ok (.return_, 1) := by decide +kernel
theorem dX1_init_0 : decode cX1_init 0 = .ok (.aload_n 0, 1) := by decide +kernel
theorem dX1_init_1 : decode cX1_init 1 = .ok (.invokespecial 1, 3) := by decide +kernel
theorem dX1_init_4 : decode cX1_init 4 = .ok (.aload_n 0, 1) := by decide +kernel
theorem dX1_init_5 : decode cX1_init 5 = .ok (.iload_n 1, 1) := by decide +kernel
theorem dX1_init_6 : decode cX1_init 6 = .ok (.putfield 7, 3) := by decide +kernel
theorem dX1_init_9 : decode cX1_init 9 = .ok (.aload_n 0, 1) := by decide +kernel
theorem dX1_init_10 : decode cX1_init 10 = .ok (.iload_n 2, 1) := by decide +kernel
theorem dX1_init_11 : decode cX1_init 11 = .ok (.putfield 13, 3) := by decide +kernel
theorem dX1_init_14 : decode cX1_init 14 = .ok (.return_, 1) := by decide +kernel
theorem dX1_hides_0 : decode cX1_hides 0 = .ok (.aload_n 0, 1) := by decide +kernel
theorem dX1_hides_1 : decode cX1_hides 1 = .ok (.getfield 16, 3) := by decide +kernel
theorem dX1_hides_4 : decode cX1_hides 4 = .ok (.ifCond .eq 23, 3) := by decide +kernel
theorem dX1_hides_7 : decode cX1_hides 7 = .ok (.iload_n 1, 1) := by decide +kernel
theorem dX1_hides_8 : decode cX1_hides 8 = .ok (.aload_n 0, 1) := by decide +kernel
theorem dX1_hides_9 : decode cX1_hides 9 = .ok (.getfield 7, 3) := by decide +kernel
theorem dX1_hides_12 : decode cX1_hides 12 = .ok (.if_icmp .le 15, 3) := by decide +kernel
theorem dX1_hides_15 : decode cX1_hides 15 = .ok (.iload_n 1, 1) := by decide +kernel
theorem dX1_hides_16 : decode cX1_hides 16 = .ok (.aload_n 0, 1) := by decide +kernel
theorem dX1_hides_17 : decode cX1_hides 17 = .ok (.getfield 13, 3) := by decide +kernel
theorem dX1_hides_20 : decode cX1_hides 20 = .ok (.if_icmp .gt 7, 3) := by decide +kernel
theorem dX1_hides_23 : decode cX1_hides 23 = .ok (.iconst 1, 1) := by decide +kernel
theorem dX1_hides_24 : decode cX1_hides 24 = .ok (.goto 4, 3) := by decide +kernel
theorem dX1_hides_27 : decode cX1_hides 27 = .ok (.iconst 0, 1) := by decide +kernel
theorem dX1_hides_28 : decode cX1_hides 28 = .ok (.ireturn, 1) := by decide +kernel
theorem dX1_lineBroke_0 : decode cX1_lineBroke 0 = .ok (.aload_n 0, 1) := by decide +kernel
theorem dX1_lineBroke_1 : decode cX1_lineBroke 1 = .ok (.getfield 7, 3) := by decide +kernel
theorem dX1_lineBroke_4 : decode cX1_lineBroke 4 = .ok (.iload_n 1, 1) := by decide +kernel
theorem dX1_lineBroke_5 : decode cX1_lineBroke 5 = .ok (.if_icmp .le 13, 3) := by decide +kernel
theorem dX1_lineBroke_8 : decode cX1_lineBroke 8 = .ok (.aload_n 0, 1) := by decide +kernel
theorem dX1_lineBroke_9 : decode cX1_lineBroke 9 = .ok (.dup, 1) := by decide +kernel
theorem dX1_lineBroke_10 : decode cX1_lineBroke 10 = .ok (.getfield 7, 3) := by decide +kernel
theorem dX1_lineBroke_13 : decode cX1_lineBroke 13 = .ok (.iconst 1, 1) := by decide +kernel
theorem dX1_lineBroke_14 : decode cX1_lineBroke 14 = .ok (.iadd, 1) := by decide +kernel
theorem dX1_lineBroke_15 : decode cX1_lineBroke 15 = .ok (.putfield 7, 3) := by decide +kernel
theorem dX1_lineBroke_18 : decode cX1_lineBroke 18 = .ok (.aload_n 0, 1) := by decide +kernel
theorem dX1_lineBroke_19 : decode cX1_lineBroke 19 = .ok (.getfield 13, 3) := by decide +kernel
theorem dX1_lineBroke_22 : decode cX1_lineBroke 22 = .ok (.iload_n 1, 1) := by decide +kernel
theorem dX1_lineBroke_23 : decode cX1_lineBroke 23 = .ok (.if_icmp .lt 13, 3) := by decide +kernel
theorem dX1_lineBroke_26 : decode cX1_lineBroke 26 = .ok (.aload_n 0, 1) := by decide +kernel
theorem dX1_lineBroke_27 : decode cX1_lineBroke 27 = .ok (.dup, 1) := by decide +kernel
theorem dX1_lineBroke_28 : decode cX1_lineBroke 28 = .ok (.getfield 13, 3) := by decide +kernel
theorem dX1_lineBroke_31 : decode cX1_lineBroke 31 = .ok (.iconst 1, 1) := by decide +kernel
theorem dX1_lineBroke_32 : decode cX1_lineBroke 32 = .ok (.iadd, 1) := by decide +kernel
theorem dX1_lineBroke_33 : decode cX1_lineBroke 33 = .ok (.putfield 13, 3) := by decide +kernel
theorem dX1_lineBroke_36 : decode cX1_lineBroke 36 = .ok (.return_, 1) := by decide +kernel
theorem dX1_linesJoined_0 : decode cX1_linesJoined 0 = .ok (.aload_n 0, 1) := by decide +kernel
theorem dX1_linesJoined_1 : decode cX1_linesJoined 1 = .ok (.getfield 7, 3) := by decide +kernel
theorem dX1_linesJoined_4 : decode cX1_linesJoined 4 = .ok (.iload_n 1, 1) := by decide +kernel
theorem dX1_linesJoined_5 : decode cX1_linesJoined 5 = .ok (.if_icmp .le 13, 3) := by decide +kernel
theorem dX1_linesJoined_8 : decode cX1_linesJoined 8 = .ok (.aload_n 0, 1) := by decide +kernel
theorem dX1_linesJoined_9 : decode cX1_linesJoined 9 = .ok (.dup, 1) := by decide +kernel
theorem dX1_linesJoined_10 : decode cX1_linesJoined 10 = .ok (.getfield 7, 3) := by decide +kernel
theorem dX1_linesJoined_13 : decode cX1_linesJoined 13 = .ok (.iconst 1, 1) := by decide +kernel
theorem dX1_linesJoined_14 : decode cX1_linesJoined 14 = .ok (.isub, 1) := by decide +kernel
theorem dX1_linesJoined_15 : decode cX1_linesJoined 15 = .ok (.putfield 7, 3) := by decide +kernel
theorem dX1_linesJoined_18 : decode cX1_linesJoined 18 = .ok (.aload_n 0, 1) := by decide +kernel
theorem dX1_linesJoined_19 : decode cX1_linesJoined 19 = .ok (.getfield 13, 3) := by decide +kernel
theorem dX1_linesJoined_22 : decode cX1_linesJoined 22 = .ok (.iload_n 1, 1) := by decide +kernel
theorem dX1_linesJoined_23 : decode cX1_linesJoined 23 = .ok (.if_icmp .le 13, 3) := by decide +kernel
theorem dX1_linesJoined_26 : decode cX1_linesJoined 26 = .ok (.aload_n 0, 1) := by decide +kernel
theorem dX1_linesJoined_27 : decode cX1_linesJoined 27 = .ok (.dup, 1) := by decide +kernel
theorem dX1_linesJoined_28 : decode cX1_linesJoined 28 = .ok (.getfield 13, 3) := by decide +kernel
theorem dX1_linesJoined_31 : decode cX1_linesJoined 31 = .ok (.iconst 1, 1) := by decide +kernel
theorem dX1_linesJoined_32 : decode cX1_linesJoined 32 = .ok (.isub, 1) := by decide +kernel
theorem dX1_linesJoined_33 : decode cX1_linesJoined 33 = .ok (.putfield 13, 3) := by decide +kernel
theorem dX1_linesJoined_36 : decode cX1_linesJoined 36 = .ok (.return_, 1) := by decide +kernel
theorem dX2_init_0 : decode cX2_init 0 = .ok (.aload_n 0, 1) := by decide +kernel
theorem dX2_init_1 : decode cX2_init 1 = .ok (.invokespecial 3, 3) := by decide +kernel
theorem dX2_init_4 : decode cX2_init 4 = .ok (.aload_n 0, 1) := by decide +kernel
theorem dX2_init_5 : decode cX2_init 5 = .ok (.new 9, 3) := by decide +kernel
theorem dX2_init_8 : decode cX2_init 8 = .ok (.dup, 1) := by decide +kernel
theorem dX2_init_9 : decode cX2_init 9 = .ok (.invokespecial 11, 3) := by decide +kernel
theorem dX2_init_12 : decode cX2_init 12 = .ok (.putfield 12, 3) := by decide +kernel
theorem dX2_init_15 : decode cX2_init 15 = .ok (.aload_n 0, 1) := by decide +kernel
theorem dX2_init_16 : decode cX2_init 16 = .ok (.new 9, 3) := by decide +kernel
theorem dX2_init_19 : decode cX2_init 19 = .ok (.dup, 1) := by decide +kernel
theorem dX2_init_20 : decode cX2_init 20 = .ok (.invokespecial 11, 3) := by decide +kernel
theorem dX2_init_23 : decode cX2_init 23 = .ok (.putfield 18, 3) := by decide +kernel
theorem dX2_init_26 : decode cX2_init 26 = .ok (.aload_n 0, 1) := by decide +kernel
theorem dX2_init_27 : decode cX2_init 27 = .ok (.new 9, 3) := by decide +kernel
theorem dX2_init_30 : decode cX2_init 30 = .ok (.dup, 1) := by decide +kernel
theorem dX2_init_31 : decode cX2_init 31 = .ok (.invokespecial 11, 3) := by decide +kernel
theorem dX2_init_34 : decode cX2_init 34 = .ok (.putfield 21, 3) := by decide +kernel
theorem dX2_init_37 : decode cX2_init 37 = .ok (.return_, 1) := by decide +kernel
theorem dX2_isHidden_0 : decode cX2_isHidden 0 = .ok (.iconst 0, 1) := by decide +kernel
theorem dX2_isHidden_1 : decode cX2_isHidden 1 = .ok (.istore_n 3, 1) := by decide +kernel
theorem dX2_isHidden_2 : decode cX2_isHidden 2 = .ok (.iload_n 3, 1) := by decide +kernel
theorem dX2_isHidden_3 : decode cX2_isHidden 3 = .ok (.aload_n 0, 1) := by decide +kernel
theorem dX2_isHidden_4 : decode cX2_isHidden 4 = .ok (.getfield 12, 3) := by decide +kernel
theorem dX2_isHidden_7 : decode cX2_isHidden 7 = .ok (.invokevirtual 24, 3) := by decide +kernel
theorem dX2_isHidden_10 : decode cX2_isHidden 10 = .ok (.if_icmp .ge 30, 3) := by decide +kernel
theorem dX2_isHidden_13 : decode cX2_isHidden 13 = .ok (.aload_n 0, 1) := by decide +kernel
theorem dX2_isHidden_14 : decode cX2_isHidden 14 = .ok (.getfield 12, 3) := by decide +kernel
theorem dX2_isHidden_17 : decode cX2_isHidden 17 = .ok (.iload_n 3, 1) := by decide +kernel
theorem dX2_isHidden_18 : decode cX2_isHidden 18 = .ok (.invokevirtual 28, 3) := by decide +kernel
theorem dX2_isHidden_21 : decode cX2_isHidden 21 = .ok (.checkcast 32, 3) := by decide +kernel
theorem dX2_isHidden_24 : decode cX2_isHidden 24 = .ok (.iload_n 1, 1) := by decide +kernel
theorem dX2_isHidden_25 : decode cX2_isHidden 25 = .ok (.iload_n 2, 1) := by decide +kernel
theorem dX2_isHidden_26 : decode cX2_isHidden 26 = .ok (.invokevirtual 34, 3) := by decide +kernel
theorem dX2_isHidden_29 : decode cX2_isHidden 29 = .ok (.ifCond .eq 5, 3) := by decide +kernel
theorem dX2_isHidden_32 : decode cX2_isHidden 32 = .ok (.iconst 1, 1) := by decide +kernel
theorem dX2_isHidden_33 : decode cX2_isHidden 33 = .ok (.ireturn, 1) := by decide +kernel
theorem dX2_isHidden_34 : decode cX2_isHidden 34 = .ok (.iinc 3 1, 3) := by decide +kernel
theorem dX2_isHidden_37 : decode cX2_isHidden 37 = .ok (.goto (-35), 3) := by decide +kernel
theorem dX2_isHidden_40 : decode cX2_isHidden 40 = .ok (.iconst 0, 1) := by decide +kernel
theorem dX2_isHidden_41 : decode cX2_isHidden 41 = .ok (.ireturn, 1) := by decide +kernel
theorem dX2_isVisible_0 : decode cX2_isVisible 0 = .ok (.iconst 0, 1) := by decide +kernel
theorem dX2_isVisible_1 : decode cX2_isVisible 1 = .ok (.istore_n 2, 1) := by decide +kernel
theorem dX2_isVisible_2 : decode cX2_isVisible 2 = .ok (.iload_n 2, 1) := by decide +kernel
theorem dX2_isVisible_3 : decode cX2_isVisible 3 = .ok (.aload_n 0, 1) := by decide +kernel
theorem dX2_isVisible_4 : decode cX2_isVisible 4 = .ok (.getfield 21, 3) := by decide +kernel
theorem dX2_isVisible_7 : decode cX2_isVisible 7 = .ok (.invokevirtual 24, 3) := by decide +kernel
theorem dX2_isVisible_10 : decode cX2_isVisible 10 = .ok (.if_icmp .ge 29, 3) := by decide +kernel
theorem dX2_isVisible_13 : decode cX2_isVisible 13 = .ok (.aload_n 0, 1) := by decide +kernel
theorem dX2_isVisible_14 : decode cX2_isVisible 14 = .ok (.getfield 21, 3) := by decide +kernel
theorem dX2_isVisible_17 : decode cX2_isVisible 17 = .ok (.iload_n 2, 1) := by decide +kernel
theorem dX2_isVisible_18 : decode cX2_isVisible 18 = .ok (.invokevirtual 28, 3) := by decide +kernel
theorem dX2_isVisible_21 : decode cX2_isVisible 21 = .ok (.checkcast 38, 3) := by decide +kernel
theorem dX2_isVisible_24 : decode cX2_isVisible 24 = .ok (.iload_n 1, 1) := by decide +kernel
theorem dX2_isVisible_25 : decode cX2_isVisible 25 = .ok (.invokevirtual 40, 3) := by decide +kernel
theorem dX2_isVisible_28 : decode cX2_isVisible 28 = .ok (.ifCond .eq 5, 3) := by decide +kernel
theorem dX2_isVisible_31 : decode cX2_isVisible 31 = .ok (.iconst 0, 1) := by decide +kernel
theorem dX2_isVisible_32 : decode cX2_isVisible 32 = .ok (.ireturn, 1) := by decide +kernel
theorem dX2_isVisible_33 : decode cX2_isVisible 33 = .ok (.iinc 2 1, 3) := by decide +kernel
theorem dX2_isVisible_36 : decode cX2_isVisible 36 = .ok (.goto (-34), 3) := by decide +kernel
theorem dX2_isVisible_39 : decode cX2_isVisible 39 = .ok (.iconst 1, 1) := by decide +kernel
theorem dX2_isVisible_40 : decode cX2_isVisible 40 = .ok (.ireturn, 1) := by decide +kernel
theorem dX2_closedEnd_0 : decode cX2_closedEnd 0 = .ok (.iconst (-1), 1) := by decide +kernel
theorem dX2_closedEnd_1 : decode cX2_closedEnd 1 = .ok (.istore_n 2, 1) := by decide +kernel
theorem dX2_closedEnd_2 : decode cX2_closedEnd 2 = .ok (.iconst 0, 1) := by decide +kernel
theorem dX2_closedEnd_3 : decode cX2_closedEnd 3 = .ok (.istore_n 3, 1) := by decide +kernel
theorem dX2_closedEnd_4 : decode cX2_closedEnd 4 = .ok (.iload_n 3, 1) := by decide +kernel
theorem dX2_closedEnd_5 : decode cX2_closedEnd 5 = .ok (.aload_n 0, 1) := by decide +kernel
theorem dX2_closedEnd_6 : decode cX2_closedEnd 6 = .ok (.getfield 21, 3) := by decide +kernel
theorem dX2_closedEnd_9 : decode cX2_closedEnd 9 = .ok (.invokevirtual 24, 3) := by decide +kernel
theorem dX2_closedEnd_12 : decode cX2_closedEnd 12 = .ok (.if_icmp .ge 49, 3) := by decide +kernel
theorem dX2_closedEnd_15 : decode cX2_closedEnd 15 = .ok (.aload_n 0, 1) := by decide +kernel
theorem dX2_closedEnd_16 : decode cX2_closedEnd 16 = .ok (.getfield 21, 3) := by decide +kernel
theorem dX2_closedEnd_19 : decode cX2_closedEnd 19 = .ok (.iload_n 3, 1) := by decide +kernel
theorem dX2_closedEnd_20 : decode cX2_closedEnd 20 = .ok (.invokevirtual 28, 3) := by decide +kernel
theorem dX2_closedEnd_23 : decode cX2_closedEnd 23 = .ok (.checkcast 38, 3) := by decide +kernel
theorem dX2_closedEnd_26 : decode cX2_closedEnd 26 = .ok (.astore 4, 2) := by decide +kernel
theorem dX2_closedEnd_28 : decode cX2_closedEnd 28 = .ok (.aload 4, 2) := by decide +kernel
theorem dX2_closedEnd_30 : decode cX2_closedEnd 30 = .ok (.getfield 44, 3) := by decide +kernel
theorem dX2_closedEnd_33 : decode cX2_closedEnd 33 = .ok (.ifCond .eq 22, 3) := by decide +kernel
theorem dX2_closedEnd_36 : decode cX2_closedEnd 36 = .ok (.aload 4, 2) := by decide +kernel
theorem dX2_closedEnd_38 : decode cX2_closedEnd 38 = .ok (.getfield 48, 3) := by decide +kernel
theorem dX2_closedEnd_41 : decode cX2_closedEnd 41 = .ok (.iload_n 1, 1) := by decide +kernel
theorem dX2_closedEnd_42 : decode cX2_closedEnd 42 = .ok (.if_icmp .ne 13, 3) := by decide +kernel
theorem dX2_closedEnd_45 : decode cX2_closedEnd 45 = .ok (.iload_n 2, 1) := by decide +kernel
theorem dX2_closedEnd_46 : decode cX2_closedEnd 46 = .ok (.aload 4, 2) := by decide +kernel
theorem dX2_closedEnd_48 : decode cX2_closedEnd 48 = .ok (.getfield 52, 3) := by decide +kernel
theorem dX2_closedEnd_51 : decode cX2_closedEnd 51 = .ok (.invokestatic 55, 3) := by decide +kernel
theorem dX2_closedEnd_54 : decode cX2_closedEnd 54 = .ok (.istore_n 2, 1) := by decide +kernel
theorem dX2_closedEnd_55 : decode cX2_closedEnd 55 = .ok (.iinc 3 1, 3) := by decide +kernel
theorem dX2_closedEnd_58 : decode cX2_closedEnd 58 = .ok (.goto (-54), 3) := by decide +kernel
theorem dX2_closedEnd_61 : decode cX2_closedEnd 61 = .ok (.iload_n 2, 1) := by decide +kernel
theorem dX2_closedEnd_62 : decode cX2_closedEnd 62 = .ok (.ireturn, 1) := by decide +kernel
theorem dX2_signCame_0 : decode cX2_signCame 0 = .ok (.iconst 0, 1) := by decide +kernel
theorem dX2_signCame_1 : decode cX2_signCame 1 = .ok (.istore_n 3, 1) := by decide +kernel
theorem dX2_signCame_2 : decode cX2_signCame 2 = .ok (.iload_n 3, 1) := by decide +kernel
theorem dX2_signCame_3 : decode cX2_signCame 3 = .ok (.aload_n 0, 1) := by decide +kernel
theorem dX2_signCame_4 : decode cX2_signCame 4 = .ok (.getfield 12, 3) := by decide +kernel
theorem dX2_signCame_7 : decode cX2_signCame 7 = .ok (.invokevirtual 24, 3) := by decide +kernel
theorem dX2_signCame_10 : decode cX2_signCame 10 = .ok (.if_icmp .ge 47, 3) := by decide +kernel
theorem dX2_signCame_13 : decode cX2_signCame 13 = .ok (.aload_n 0, 1) := by decide +kernel
theorem dX2_signCame_14 : decode cX2_signCame 14 = .ok (.getfield 12, 3) := by decide +kernel
theorem dX2_signCame_17 : decode cX2_signCame 17 = .ok (.iload_n 3, 1) := by decide +kernel
theorem dX2_signCame_18 : decode cX2_signCame 18 = .ok (.invokevirtual 28, 3) := by decide +kernel
theorem dX2_signCame_21 : decode cX2_signCame 21 = .ok (.checkcast 32, 3) := by decide +kernel
theorem dX2_signCame_24 : decode cX2_signCame 24 = .ok (.getfield 61, 3) := by decide +kernel
theorem dX2_signCame_27 : decode cX2_signCame 27 = .ok (.iload_n 1, 1) := by decide +kernel
theorem dX2_signCame_28 : decode cX2_signCame 28 = .ok (.iload_n 2, 1) := by decide +kernel
theorem dX2_signCame_29 : decode cX2_signCame 29 = .ok (.invokevirtual 65, 3) := by decide +kernel
theorem dX2_signCame_32 : decode cX2_signCame 32 = .ok (.aload_n 0, 1) := by decide +kernel
theorem dX2_signCame_33 : decode cX2_signCame 33 = .ok (.getfield 12, 3) := by decide +kernel
theorem dX2_signCame_36 : decode cX2_signCame 36 = .ok (.iload_n 3, 1) := by decide +kernel
theorem dX2_signCame_37 : decode cX2_signCame 37 = .ok (.invokevirtual 28, 3) := by decide +kernel
theorem dX2_signCame_40 : decode cX2_signCame 40 = .ok (.checkcast 32, 3) := by decide +kernel
theorem dX2_signCame_43 : decode cX2_signCame 43 = .ok (.getfield 71, 3) := by decide +kernel
theorem dX2_signCame_46 : decode cX2_signCame 46 = .ok (.iload_n 1, 1) := by decide +kernel
theorem dX2_signCame_47 : decode cX2_signCame 47 = .ok (.iload_n 2, 1) := by decide +kernel
theorem dX2_signCame_48 : decode cX2_signCame 48 = .ok (.invokevirtual 65, 3) := by decide +kernel
theorem dX2_signCame_51 : decode cX2_signCame 51 = .ok (.iinc 3 1, 3) := by decide +kernel
theorem dX2_signCame_54 : decode cX2_signCame 54 = .ok (.goto (-52), 3) := by decide +kernel
theorem dX2_signCame_57 : decode cX2_signCame 57 = .ok (.iconst 0, 1) := by decide +kernel
theorem dX2_signCame_58 : decode cX2_signCame 58 = .ok (.istore_n 3, 1) := by decide +kernel
theorem dX2_signCame_59 : decode cX2_signCame 59 = .ok (.iload_n 3, 1) := by decide +kernel
theorem dX2_signCame_60 : decode cX2_signCame 60 = .ok (.aload_n 0, 1) := by decide +kernel
theorem dX2_signCame_61 : decode cX2_signCame 61 = .ok (.getfield 18, 3) := by decide +kernel
theorem dX2_signCame_64 : decode cX2_signCame 64 = .ok (.invokevirtual 24, 3) := by decide +kernel
theorem dX2_signCame_67 : decode cX2_signCame 67 = .ok (.if_icmp .ge 28, 3) := by decide +kernel
theorem dX2_signCame_70 : decode cX2_signCame 70 = .ok (.aload_n 0, 1) := by decide +kernel
theorem dX2_signCame_71 : decode cX2_signCame 71 = .ok (.getfield 18, 3) := by decide +kernel
theorem dX2_signCame_74 : decode cX2_signCame 74 = .ok (.iload_n 3, 1) := by decide +kernel
theorem dX2_signCame_75 : decode cX2_signCame 75 = .ok (.invokevirtual 28, 3) := by decide +kernel
theorem dX2_signCame_78 : decode cX2_signCame 78 = .ok (.checkcast 74, 3) := by decide +kernel
theorem dX2_signCame_81 : decode cX2_signCame 81 = .ok (.getfield 76, 3) := by decide +kernel
theorem dX2_signCame_84 : decode cX2_signCame 84 = .ok (.iload_n 1, 1) := by decide +kernel
theorem dX2_signCame_85 : decode cX2_signCame 85 = .ok (.iload_n 2, 1) := by decide +kernel
theorem dX2_signCame_86 : decode cX2_signCame 86 = .ok (.invokevirtual 65, 3) := by decide +kernel
theorem dX2_signCame_89 : decode cX2_signCame 89 = .ok (.iinc 3 1, 3) := by decide +kernel
theorem dX2_signCame_92 : decode cX2_signCame 92 = .ok (.goto (-33), 3) := by decide +kernel
theorem dX2_signCame_95 : decode cX2_signCame 95 = .ok (.return_, 1) := by decide +kernel
theorem dX2_signsWent_0 : decode cX2_signsWent 0 = .ok (.aload_n 0, 1) := by decide +kernel
theorem dX2_signsWent_1 : decode cX2_signsWent 1 = .ok (.getfield 12, 3) := by decide +kernel
theorem dX2_signsWent_4 : decode cX2_signsWent 4 = .ok (.invokevirtual 24, 3) := by decide +kernel
theorem dX2_signsWent_7 : decode cX2_signsWent 7 = .ok (.iconst 1, 1) := by decide +kernel
theorem dX2_signsWent_8 : decode cX2_signsWent 8 = .ok (.isub, 1) := by decide +kernel
theorem dX2_signsWent_9 : decode cX2_signsWent 9 = .ok (.istore 4, 2) := by decide +kernel
theorem dX2_signsWent_11 : decode cX2_signsWent 11 = .ok (.iload 4, 2) := by decide +kernel
theorem dX2_signsWent_13 : decode cX2_signsWent 13 = .ok (.ifCond .lt 74, 3) := by decide +kernel
theorem dX2_signsWent_16 : decode cX2_signsWent 16 = .ok (.aload_n 0, 1) := by decide +kernel
theorem dX2_signsWent_17 : decode cX2_signsWent 17 = .ok (.getfield 12, 3) := by decide +kernel
theorem dX2_signsWent_20 : decode cX2_signsWent 20 = .ok (.iload 4, 2) := by decide +kernel
theorem dX2_signsWent_22 : decode cX2_signsWent 22 = .ok (.invokevirtual 28, 3) := by decide +kernel
theorem dX2_signsWent_25 : decode cX2_signsWent 25 = .ok (.checkcast 32, 3) := by decide +kernel
theorem dX2_signsWent_28 : decode cX2_signsWent 28 = .ok (.astore 5, 2) := by decide +kernel
theorem dX2_signsWent_30 : decode cX2_signsWent 30 = .ok (.aload 5, 2) := by decide +kernel
theorem dX2_signsWent_32 : decode cX2_signsWent 32 = .ok (.getfield 61, 3) := by decide +kernel
theorem dX2_signsWent_35 : decode cX2_signsWent 35 = .ok (.iload_n 1, 1) := by decide +kernel
theorem dX2_signsWent_36 : decode cX2_signsWent 36 = .ok (.iload_n 2, 1) := by decide +kernel
theorem dX2_signsWent_37 : decode cX2_signsWent 37 = .ok (.iload_n 3, 1) := by decide +kernel
theorem dX2_signsWent_38 : decode cX2_signsWent 38 = .ok (.invokevirtual 79, 3) := by decide +kernel
theorem dX2_signsWent_41 : decode cX2_signsWent 41 = .ok (.aload 5, 2) := by decide +kernel
theorem dX2_signsWent_43 : decode cX2_signsWent 43 = .ok (.getfield 71, 3) := by decide +kernel
theorem dX2_signsWent_46 : decode cX2_signsWent 46 = .ok (.iload_n 1, 1) := by decide +kernel
theorem dX2_signsWent_47 : decode cX2_signsWent 47 = .ok (.iload_n 2, 1) := by decide +kernel
theorem dX2_signsWent_48 : decode cX2_signsWent 48 = .ok (.iload_n 3, 1) := by decide +kernel
theorem dX2_signsWent_49 : decode cX2_signsWent 49 = .ok (.invokevirtual 79, 3) := by decide +kernel
theorem dX2_signsWent_52 : decode cX2_signsWent 52 = .ok (.aload 5, 2) := by decide +kernel
theorem dX2_signsWent_54 : decode cX2_signsWent 54 = .ok (.getfield 61, 3) := by decide +kernel
theorem dX2_signsWent_57 : decode cX2_signsWent 57 = .ok (.getfield 83, 3) := by decide +kernel
theorem dX2_signsWent_60 : decode cX2_signsWent 60 = .ok (.aload 5, 2) := by decide +kernel
theorem dX2_signsWent_62 : decode cX2_signsWent 62 = .ok (.getfield 71, 3) := by decide +kernel
theorem dX2_signsWent_65 : decode cX2_signsWent 65 = .ok (.getfield 83, 3) := by decide +kernel
theorem dX2_signsWent_68 : decode cX2_signsWent 68 = .ok (.if_icmp .lt 13, 3) := by decide +kernel
theorem dX2_signsWent_71 : decode cX2_signsWent 71 = .ok (.aload_n 0, 1) := by decide +kernel
theorem dX2_signsWent_72 : decode cX2_signsWent 72 = .ok (.getfield 12, 3) := by decide +kernel
theorem dX2_signsWent_75 : decode cX2_signsWent 75 = .ok (.iload 4, 2) := by decide +kernel
theorem dX2_signsWent_77 : decode cX2_signsWent 77 = .ok (.invokevirtual 86, 3) := by decide +kernel
theorem dX2_signsWent_80 : decode cX2_signsWent 80 = .ok (.pop, 1) := by decide +kernel
theorem dX2_signsWent_81 : decode cX2_signsWent 81 = .ok (.iinc 4 (-1), 3) := by decide +kernel
theorem dX2_signsWent_84 : decode cX2_signsWent 84 = .ok (.goto (-73), 3) := by decide +kernel
theorem dX2_signsWent_87 : decode cX2_signsWent 87 = .ok (.iconst 0, 1) := by decide +kernel
theorem dX2_signsWent_88 : decode cX2_signsWent 88 = .ok (.istore 4, 2) := by decide +kernel
theorem dX2_signsWent_90 : decode cX2_signsWent 90 = .ok (.iload 4, 2) := by decide +kernel
theorem dX2_signsWent_92 : decode cX2_signsWent 92 = .ok (.aload_n 0, 1) := by decide +kernel
theorem dX2_signsWent_93 : decode cX2_signsWent 93 = .ok (.getfield 18, 3) := by decide +kernel
theorem dX2_signsWent_96 : decode cX2_signsWent 96 = .ok (.invokevirtual 24, 3) := by decide +kernel
theorem dX2_signsWent_99 : decode cX2_signsWent 99 = .ok (.if_icmp .ge 30, 3) := by decide +kernel
theorem dX2_signsWent_102 : decode cX2_signsWent 102 = .ok (.aload_n 0, 1) := by decide +kernel
theorem dX2_signsWent_103 : decode cX2_signsWent 103 = .ok (.getfield 18, 3) := by decide +kernel
theorem dX2_signsWent_106 : decode cX2_signsWent 106 = .ok (.iload 4, 2) := by decide +kernel
theorem dX2_signsWent_108 : decode cX2_signsWent 108 = .ok (.invokevirtual 28, 3) := by decide +kernel
theorem dX2_signsWent_111 : decode cX2_signsWent 111 = .ok (.checkcast 74, 3) := by decide +kernel
theorem dX2_signsWent_114 : decode cX2_signsWent 114 = .ok (.getfield 76, 3) := by decide +kernel
theorem dX2_signsWent_117 : decode cX2_signsWent 117 = .ok (.iload_n 1, 1) := by decide +kernel
theorem dX2_signsWent_118 : decode cX2_signsWent 118 = .ok (.iload_n 2, 1) := by decide +kernel
theorem dX2_signsWent_119 : decode cX2_signsWent 119 = .ok (.iload_n 3, 1) := by decide +kernel
theorem dX2_signsWent_120 : decode cX2_signsWent 120 = .ok (.invokevirtual 79, 3) := by decide +kernel
theorem dX2_signsWent_123 : decode cX2_signsWent 123 = .ok (.iinc 4 1, 3) := by decide +kernel
theorem dX2_signsWent_126 : decode cX2_signsWent 126 = .ok (.goto (-36), 3) := by decide +kernel
theorem dX2_signsWent_129 : decode cX2_signsWent 129 = .ok (.return_, 1) := by decide +kernel
theorem dX2_lineBroke_0 : decode cX2_lineBroke 0 = .ok (.iconst 0, 1) := by decide +kernel
theorem dX2_lineBroke_1 : decode cX2_lineBroke 1 = .ok (.istore_n 3, 1) := by decide +kernel
theorem dX2_lineBroke_2 : decode cX2_lineBroke 2 = .ok (.iload_n 3, 1) := by decide +kernel
theorem dX2_lineBroke_3 : decode cX2_lineBroke 3 = .ok (.aload_n 0, 1) := by decide +kernel
theorem dX2_lineBroke_4 : decode cX2_lineBroke 4 = .ok (.getfield 12, 3) := by decide +kernel
theorem dX2_lineBroke_7 : decode cX2_lineBroke 7 = .ok (.invokevirtual 24, 3) := by decide +kernel
theorem dX2_lineBroke_10 : decode cX2_lineBroke 10 = .ok (.if_icmp .ge 25, 3) := by decide +kernel
theorem dX2_lineBroke_13 : decode cX2_lineBroke 13 = .ok (.aload_n 0, 1) := by decide +kernel
theorem dX2_lineBroke_14 : decode cX2_lineBroke 14 = .ok (.getfield 12, 3) := by decide +kernel
theorem dX2_lineBroke_17 : decode cX2_lineBroke 17 = .ok (.iload_n 3, 1) := by decide +kernel
theorem dX2_lineBroke_18 : decode cX2_lineBroke 18 = .ok (.invokevirtual 28, 3) := by decide +kernel
theorem dX2_lineBroke_21 : decode cX2_lineBroke 21 = .ok (.checkcast 32, 3) := by decide +kernel
theorem dX2_lineBroke_24 : decode cX2_lineBroke 24 = .ok (.iload_n 1, 1) := by decide +kernel
theorem dX2_lineBroke_25 : decode cX2_lineBroke 25 = .ok (.iload_n 2, 1) := by decide +kernel
theorem dX2_lineBroke_26 : decode cX2_lineBroke 26 = .ok (.invokevirtual 89, 3) := by decide +kernel
theorem dX2_lineBroke_29 : decode cX2_lineBroke 29 = .ok (.iinc 3 1, 3) := by decide +kernel
theorem dX2_lineBroke_32 : decode cX2_lineBroke 32 = .ok (.goto (-30), 3) := by decide +kernel
theorem dX2_lineBroke_35 : decode cX2_lineBroke 35 = .ok (.iconst 0, 1) := by decide +kernel
theorem dX2_lineBroke_36 : decode cX2_lineBroke 36 = .ok (.istore_n 3, 1) := by decide +kernel
theorem dX2_lineBroke_37 : decode cX2_lineBroke 37 = .ok (.iload_n 3, 1) := by decide +kernel
theorem dX2_lineBroke_38 : decode cX2_lineBroke 38 = .ok (.aload_n 0, 1) := by decide +kernel
theorem dX2_lineBroke_39 : decode cX2_lineBroke 39 = .ok (.getfield 18, 3) := by decide +kernel
theorem dX2_lineBroke_42 : decode cX2_lineBroke 42 = .ok (.invokevirtual 24, 3) := by decide +kernel
theorem dX2_lineBroke_45 : decode cX2_lineBroke 45 = .ok (.if_icmp .ge 28, 3) := by decide +kernel
theorem dX2_lineBroke_48 : decode cX2_lineBroke 48 = .ok (.aload_n 0, 1) := by decide +kernel
theorem dX2_lineBroke_49 : decode cX2_lineBroke 49 = .ok (.getfield 18, 3) := by decide +kernel
theorem dX2_lineBroke_52 : decode cX2_lineBroke 52 = .ok (.iload_n 3, 1) := by decide +kernel
theorem dX2_lineBroke_53 : decode cX2_lineBroke 53 = .ok (.invokevirtual 28, 3) := by decide +kernel
theorem dX2_lineBroke_56 : decode cX2_lineBroke 56 = .ok (.checkcast 74, 3) := by decide +kernel
theorem dX2_lineBroke_59 : decode cX2_lineBroke 59 = .ok (.getfield 76, 3) := by decide +kernel
theorem dX2_lineBroke_62 : decode cX2_lineBroke 62 = .ok (.iload_n 1, 1) := by decide +kernel
theorem dX2_lineBroke_63 : decode cX2_lineBroke 63 = .ok (.iload_n 2, 1) := by decide +kernel
theorem dX2_lineBroke_64 : decode cX2_lineBroke 64 = .ok (.invokevirtual 92, 3) := by decide +kernel
theorem dX2_lineBroke_67 : decode cX2_lineBroke 67 = .ok (.iinc 3 1, 3) := by decide +kernel
theorem dX2_lineBroke_70 : decode cX2_lineBroke 70 = .ok (.goto (-33), 3) := by decide +kernel
theorem dX2_lineBroke_73 : decode cX2_lineBroke 73 = .ok (.iconst 0, 1) := by decide +kernel
theorem dX2_lineBroke_74 : decode cX2_lineBroke 74 = .ok (.istore_n 3, 1) := by decide +kernel
theorem dX2_lineBroke_75 : decode cX2_lineBroke 75 = .ok (.iload_n 3, 1) := by decide +kernel
theorem dX2_lineBroke_76 : decode cX2_lineBroke 76 = .ok (.aload_n 0, 1) := by decide +kernel
theorem dX2_lineBroke_77 : decode cX2_lineBroke 77 = .ok (.getfield 21, 3) := by decide +kernel
theorem dX2_lineBroke_80 : decode cX2_lineBroke 80 = .ok (.invokevirtual 24, 3) := by decide +kernel
theorem dX2_lineBroke_83 : decode cX2_lineBroke 83 = .ok (.if_icmp .ge 24, 3) := by decide +kernel
theorem dX2_lineBroke_86 : decode cX2_lineBroke 86 = .ok (.aload_n 0, 1) := by decide +kernel
theorem dX2_lineBroke_87 : decode cX2_lineBroke 87 = .ok (.getfield 21, 3) := by decide +kernel
theorem dX2_lineBroke_90 : decode cX2_lineBroke 90 = .ok (.iload_n 3, 1) := by decide +kernel
theorem dX2_lineBroke_91 : decode cX2_lineBroke 91 = .ok (.invokevirtual 28, 3) := by decide +kernel
theorem dX2_lineBroke_94 : decode cX2_lineBroke 94 = .ok (.checkcast 38, 3) := by decide +kernel
theorem dX2_lineBroke_97 : decode cX2_lineBroke 97 = .ok (.iload_n 1, 1) := by decide +kernel
theorem dX2_lineBroke_98 : decode cX2_lineBroke 98 = .ok (.invokevirtual 93, 3) := by decide +kernel
theorem dX2_lineBroke_101 : decode cX2_lineBroke 101 = .ok (.iinc 3 1, 3) := by decide +kernel
theorem dX2_lineBroke_104 : decode cX2_lineBroke 104 = .ok (.goto (-29), 3) := by decide +kernel
theorem dX2_lineBroke_107 : decode cX2_lineBroke 107 = .ok (.return_, 1) := by decide +kernel
theorem dX2_linesJoined_0 : decode cX2_linesJoined 0 = .ok (.iconst 0, 1) := by decide +kernel
theorem dX2_linesJoined_1 : decode cX2_linesJoined 1 = .ok (.istore_n 3, 1) := by decide +kernel
theorem dX2_linesJoined_2 : decode cX2_linesJoined 2 = .ok (.iload_n 3, 1) := by decide +kernel
theorem dX2_linesJoined_3 : decode cX2_linesJoined 3 = .ok (.aload_n 0, 1) := by decide +kernel
theorem dX2_linesJoined_4 : decode cX2_linesJoined 4 = .ok (.getfield 12, 3) := by decide +kernel
theorem dX2_linesJoined_7 : decode cX2_linesJoined 7 = .ok (.invokevirtual 24, 3) := by decide +kernel
theorem dX2_linesJoined_10 : decode cX2_linesJoined 10 = .ok (.if_icmp .ge 47, 3) := by decide +kernel
theorem dX2_linesJoined_13 : decode cX2_linesJoined 13 = .ok (.aload_n 0, 1) := by decide +kernel
theorem dX2_linesJoined_14 : decode cX2_linesJoined 14 = .ok (.getfield 12, 3) := by decide +kernel
theorem dX2_linesJoined_17 : decode cX2_linesJoined 17 = .ok (.iload_n 3, 1) := by decide +kernel
theorem dX2_linesJoined_18 : decode cX2_linesJoined 18 = .ok (.invokevirtual 28, 3) := by decide +kernel
theorem dX2_linesJoined_21 : decode cX2_linesJoined 21 = .ok (.checkcast 32, 3) := by decide +kernel
theorem dX2_linesJoined_24 : decode cX2_linesJoined 24 = .ok (.getfield 61, 3) := by decide +kernel
theorem dX2_linesJoined_27 : decode cX2_linesJoined 27 = .ok (.iload_n 1, 1) := by decide +kernel
theorem dX2_linesJoined_28 : decode cX2_linesJoined 28 = .ok (.iload_n 2, 1) := by decide +kernel
theorem dX2_linesJoined_29 : decode cX2_linesJoined 29 = .ok (.invokevirtual 96, 3) := by decide +kernel
theorem dX2_linesJoined_32 : decode cX2_linesJoined 32 = .ok (.aload_n 0, 1) := by decide +kernel
theorem dX2_linesJoined_33 : decode cX2_linesJoined 33 = .ok (.getfield 12, 3) := by decide +kernel
theorem dX2_linesJoined_36 : decode cX2_linesJoined 36 = .ok (.iload_n 3, 1) := by decide +kernel
theorem dX2_linesJoined_37 : decode cX2_linesJoined 37 = .ok (.invokevirtual 28, 3) := by decide +kernel
theorem dX2_linesJoined_40 : decode cX2_linesJoined 40 = .ok (.checkcast 32, 3) := by decide +kernel
theorem dX2_linesJoined_43 : decode cX2_linesJoined 43 = .ok (.getfield 71, 3) := by decide +kernel
theorem dX2_linesJoined_46 : decode cX2_linesJoined 46 = .ok (.iload_n 1, 1) := by decide +kernel
theorem dX2_linesJoined_47 : decode cX2_linesJoined 47 = .ok (.iload_n 2, 1) := by decide +kernel
theorem dX2_linesJoined_48 : decode cX2_linesJoined 48 = .ok (.invokevirtual 96, 3) := by decide +kernel
theorem dX2_linesJoined_51 : decode cX2_linesJoined 51 = .ok (.iinc 3 1, 3) := by decide +kernel
theorem dX2_linesJoined_54 : decode cX2_linesJoined 54 = .ok (.goto (-52), 3) := by decide +kernel
theorem dX2_linesJoined_57 : decode cX2_linesJoined 57 = .ok (.iconst 0, 1) := by decide +kernel
theorem dX2_linesJoined_58 : decode cX2_linesJoined 58 = .ok (.istore_n 3, 1) := by decide +kernel
theorem dX2_linesJoined_59 : decode cX2_linesJoined 59 = .ok (.iload_n 3, 1) := by decide +kernel
theorem dX2_linesJoined_60 : decode cX2_linesJoined 60 = .ok (.aload_n 0, 1) := by decide +kernel
theorem dX2_linesJoined_61 : decode cX2_linesJoined 61 = .ok (.getfield 18, 3) := by decide +kernel
theorem dX2_linesJoined_64 : decode cX2_linesJoined 64 = .ok (.invokevirtual 24, 3) := by decide +kernel
theorem dX2_linesJoined_67 : decode cX2_linesJoined 67 = .ok (.if_icmp .ge 28, 3) := by decide +kernel
theorem dX2_linesJoined_70 : decode cX2_linesJoined 70 = .ok (.aload_n 0, 1) := by decide +kernel
theorem dX2_linesJoined_71 : decode cX2_linesJoined 71 = .ok (.getfield 18, 3) := by decide +kernel
theorem dX2_linesJoined_74 : decode cX2_linesJoined 74 = .ok (.iload_n 3, 1) := by decide +kernel
theorem dX2_linesJoined_75 : decode cX2_linesJoined 75 = .ok (.invokevirtual 28, 3) := by decide +kernel
theorem dX2_linesJoined_78 : decode cX2_linesJoined 78 = .ok (.checkcast 74, 3) := by decide +kernel
theorem dX2_linesJoined_81 : decode cX2_linesJoined 81 = .ok (.getfield 76, 3) := by decide +kernel
theorem dX2_linesJoined_84 : decode cX2_linesJoined 84 = .ok (.iload_n 1, 1) := by decide +kernel
theorem dX2_linesJoined_85 : decode cX2_linesJoined 85 = .ok (.iload_n 2, 1) := by decide +kernel
theorem dX2_linesJoined_86 : decode cX2_linesJoined 86 = .ok (.invokevirtual 96, 3) := by decide +kernel
theorem dX2_linesJoined_89 : decode cX2_linesJoined 89 = .ok (.iinc 3 1, 3) := by decide +kernel
theorem dX2_linesJoined_92 : decode cX2_linesJoined 92 = .ok (.goto (-33), 3) := by decide +kernel
theorem dX2_linesJoined_95 : decode cX2_linesJoined 95 = .ok (.aload_n 0, 1) := by decide +kernel
theorem dX2_linesJoined_96 : decode cX2_linesJoined 96 = .ok (.getfield 21, 3) := by decide +kernel
theorem dX2_linesJoined_99 : decode cX2_linesJoined 99 = .ok (.invokevirtual 24, 3) := by decide +kernel
theorem dX2_linesJoined_102 : decode cX2_linesJoined 102 = .ok (.iconst 1, 1) := by decide +kernel
theorem dX2_linesJoined_103 : decode cX2_linesJoined 103 = .ok (.isub, 1) := by decide +kernel
theorem dX2_linesJoined_104 : decode cX2_linesJoined 104 = .ok (.istore_n 3, 1) := by decide +kernel
theorem dX2_linesJoined_105 : decode cX2_linesJoined 105 = .ok (.iload_n 3, 1) := by decide +kernel
theorem dX2_linesJoined_106 : decode cX2_linesJoined 106 = .ok (.ifCond .lt 50, 3) := by decide +kernel
theorem dX2_linesJoined_109 : decode cX2_linesJoined 109 = .ok (.aload_n 0, 1) := by decide +kernel
theorem dX2_linesJoined_110 : decode cX2_linesJoined 110 = .ok (.getfield 21, 3) := by decide +kernel
theorem dX2_linesJoined_113 : decode cX2_linesJoined 113 = .ok (.iload_n 3, 1) := by decide +kernel
theorem dX2_linesJoined_114 : decode cX2_linesJoined 114 = .ok (.invokevirtual 28, 3) := by decide +kernel
theorem dX2_linesJoined_117 : decode cX2_linesJoined 117 = .ok (.checkcast 38, 3) := by decide +kernel
theorem dX2_linesJoined_120 : decode cX2_linesJoined 120 = .ok (.astore 4, 2) := by decide +kernel
theorem dX2_linesJoined_122 : decode cX2_linesJoined 122 = .ok (.aload 4, 2) := by decide +kernel
theorem dX2_linesJoined_124 : decode cX2_linesJoined 124 = .ok (.iload_n 1, 1) := by decide +kernel
theorem dX2_linesJoined_125 : decode cX2_linesJoined 125 = .ok (.invokevirtual 99, 3) := by decide +kernel
theorem dX2_linesJoined_128 : decode cX2_linesJoined 128 = .ok (.aload 4, 2) := by decide +kernel
theorem dX2_linesJoined_130 : decode cX2_linesJoined 130 = .ok (.getfield 48, 3) := by decide +kernel
theorem dX2_linesJoined_133 : decode cX2_linesJoined 133 = .ok (.aload 4, 2) := by decide +kernel
theorem dX2_linesJoined_135 : decode cX2_linesJoined 135 = .ok (.getfield 52, 3) := by decide +kernel
theorem dX2_linesJoined_138 : decode cX2_linesJoined 138 = .ok (.if_icmp .lt 12, 3) := by decide +kernel
theorem dX2_linesJoined_141 : decode cX2_linesJoined 141 = .ok (.aload_n 0, 1) := by decide +kernel
theorem dX2_linesJoined_142 : decode cX2_linesJoined 142 = .ok (.getfield 21, 3) := by decide +kernel
theorem dX2_linesJoined_145 : decode cX2_linesJoined 145 = .ok (.iload_n 3, 1) := by decide +kernel
theorem dX2_linesJoined_146 : decode cX2_linesJoined 146 = .ok (.invokevirtual 86, 3) := by decide +kernel
theorem dX2_linesJoined_149 : decode cX2_linesJoined 149 = .ok (.pop, 1) := by decide +kernel
theorem dX2_linesJoined_150 : decode cX2_linesJoined 150 = .ok (.iinc 3 (-1), 3) := by decide +kernel
theorem dX2_linesJoined_153 : decode cX2_linesJoined 153 = .ok (.goto (-48), 3) := by decide +kernel
theorem dX2_linesJoined_156 : decode cX2_linesJoined 156 = .ok (.return_, 1) := by decide +kernel
theorem dX3_init_0 : decode cX3_init 0 = .ok (.aload_n 0, 1) := by decide +kernel
theorem dX3_init_1 : decode cX3_init 1 = .ok (.invokespecial 3, 3) := by decide +kernel
theorem dX3_init_4 : decode cX3_init 4 = .ok (.aload_n 0, 1) := by decide +kernel
theorem dX3_init_5 : decode cX3_init 5 = .ok (.sipush 131, 3) := by decide +kernel
theorem dX3_init_8 : decode cX3_init 8 = .ok (.newarray .int, 2) := by decide +kernel
theorem dX3_init_10 : decode cX3_init 10 = .ok (.putfield 9, 3) := by decide +kernel
theorem dX3_init_13 : decode cX3_init 13 = .ok (.aload_n 0, 1) := by decide +kernel
theorem dX3_init_14 : decode cX3_init 14 = .ok (.sipush 131, 3) := by decide +kernel
theorem dX3_init_17 : decode cX3_init 17 = .ok (.newarray .int, 2) := by decide +kernel
theorem dX3_init_19 : decode cX3_init 19 = .ok (.putfield 15, 3) := by decide +kernel
theorem dX3_init_22 : decode cX3_init 22 = .ok (.aload_n 0, 1) := by decide +kernel
theorem dX3_init_23 : decode cX3_init 23 = .ok (.sipush 131, 3) := by decide +kernel
theorem dX3_init_26 : decode cX3_init 26 = .ok (.newarray .int, 2) := by decide +kernel
theorem dX3_init_28 : decode cX3_init 28 = .ok (.putfield 18, 3) := by decide +kernel
theorem dX3_init_31 : decode cX3_init 31 = .ok (.aload_n 0, 1) := by decide +kernel
theorem dX3_init_32 : decode cX3_init 32 = .ok (.sipush 131, 3) := by decide +kernel
theorem dX3_init_35 : decode cX3_init 35 = .ok (.newarray .int, 2) := by decide +kernel
theorem dX3_init_37 : decode cX3_init 37 = .ok (.putfield 21, 3) := by decide +kernel
theorem dX3_init_40 : decode cX3_init 40 = .ok (.aload_n 0, 1) := by decide +kernel
theorem dX3_init_41 : decode cX3_init 41 = .ok (.sipush 131, 3) := by decide +kernel
theorem dX3_init_44 : decode cX3_init 44 = .ok (.newarray .int, 2) := by decide +kernel
theorem dX3_init_46 : decode cX3_init 46 = .ok (.putfield 24, 3) := by decide +kernel
theorem dX3_init_49 : decode cX3_init 49 = .ok (.aload_n 0, 1) := by decide +kernel
theorem dX3_init_50 : decode cX3_init 50 = .ok (.sipush 131, 3) := by decide +kernel
theorem dX3_init_53 : decode cX3_init 53 = .ok (.newarray .int, 2) := by decide +kernel
theorem dX3_init_55 : decode cX3_init 55 = .ok (.putfield 27, 3) := by decide +kernel
theorem dX3_init_58 : decode cX3_init 58 = .ok (.aload_n 0, 1) := by decide +kernel
theorem dX3_init_59 : decode cX3_init 59 = .ok (.sipush 131, 3) := by decide +kernel
theorem dX3_init_62 : decode cX3_init 62 = .ok (.newarray .int, 2) := by decide +kernel
theorem dX3_init_64 : decode cX3_init 64 = .ok (.putfield 30, 3) := by decide +kernel
theorem dX3_init_67 : decode cX3_init 67 = .ok (.aload_n 0, 1) := by decide +kernel
theorem dX3_init_68 : decode cX3_init 68 = .ok (.sipush 131, 3) := by decide +kernel
theorem dX3_init_71 : decode cX3_init 71 = .ok (.newarray .int, 2) := by decide +kernel
theorem dX3_init_73 : decode cX3_init 73 = .ok (.putfield 33, 3) := by decide +kernel
theorem dX3_init_76 : decode cX3_init 76 = .ok (.aload_n 0, 1) := by decide +kernel
theorem dX3_init_77 : decode cX3_init 77 = .ok (.sipush 131, 3) := by decide +kernel
theorem dX3_init_80 : decode cX3_init 80 = .ok (.newarray .int, 2) := by decide +kernel
theorem dX3_init_82 : decode cX3_init 82 = .ok (.putfield 36, 3) := by decide +kernel
theorem dX3_init_85 : decode cX3_init 85 = .ok (.return_, 1) := by decide +kernel
theorem dX3_collect_0 : decode cX3_collect 0 = .ok (.aload_n 0, 1) := by decide +kernel
theorem dX3_collect_1 : decode cX3_collect 1 = .ok (.iconst 0, 1) := by decide +kernel
theorem dX3_collect_2 : decode cX3_collect 2 = .ok (.putfield 39, 3) := by decide +kernel
theorem dX3_collect_5 : decode cX3_collect 5 = .ok (.aload_n 0, 1) := by decide +kernel
theorem dX3_collect_6 : decode cX3_collect 6 = .ok (.aload_n 1, 1) := by decide +kernel
theorem dX3_collect_7 : decode cX3_collect 7 = .ok (.getfield 43, 3) := by decide +kernel
theorem dX3_collect_10 : decode cX3_collect 10 = .ok (.putfield 46, 3) := by decide +kernel
theorem dX3_collect_13 : decode cX3_collect 13 = .ok (.iconst (-1), 1) := by decide +kernel
theorem dX3_collect_14 : decode cX3_collect 14 = .ok (.istore 4, 2) := by decide +kernel
theorem dX3_collect_16 : decode cX3_collect 16 = .ok (.iconst 0, 1) := by decide +kernel
theorem dX3_collect_17 : decode cX3_collect 17 = .ok (.istore 5, 2) := by decide +kernel
theorem dX3_collect_19 : decode cX3_collect 19 = .ok (.iload 5, 2) := by decide +kernel
theorem dX3_collect_21 : decode cX3_collect 21 = .ok (.aload_n 0, 1) := by decide +kernel
theorem dX3_collect_22 : decode cX3_collect 22 = .ok (.getfield 46, 3) := by decide +kernel
theorem dX3_collect_25 : decode cX3_collect 25 = .ok (.if_icmp .ge 62, 3) := by decide +kernel
theorem dX3_collect_28 : decode cX3_collect 28 = .ok (.aload_n 1, 1) := by decide +kernel
theorem dX3_collect_29 : decode cX3_collect 29 = .ok (.iload 5, 2) := by decide +kernel
theorem dX3_collect_31 : decode cX3_collect 31 = .ok (.invokevirtual 49, 3) := by decide +kernel
theorem dX3_collect_34 : decode cX3_collect 34 = .ok (.ifCond .eq 47, 3) := by decide +kernel
theorem dX3_collect_37 : decode cX3_collect 37 = .ok (.aload_n 0, 1) := by decide +kernel
theorem dX3_collect_38 : decode cX3_collect 38 = .ok (.aload_n 2, 1) := by decide +kernel
theorem dX3_collect_39 : decode cX3_collect 39 = .ok (.iload_n 3, 1) := by decide +kernel
theorem dX3_collect_40 : decode cX3_collect 40 = .ok (.iload 4, 2) := by decide +kernel
theorem dX3_collect_42 : decode cX3_collect 42 = .ok (.iload 5, 2) := by decide +kernel
theorem dX3_collect_44 : decode cX3_collect 44 = .ok (.invokevirtual 53, 3) := by decide +kernel
theorem dX3_collect_47 : decode cX3_collect 47 = .ok (.aload_n 2, 1) := by decide +kernel
theorem dX3_collect_48 : decode cX3_collect 48 = .ok (.iload_n 3, 1) := by decide +kernel
theorem dX3_collect_49 : decode cX3_collect 49 = .ok (.iload 5, 2) := by decide +kernel
theorem dX3_collect_51 : decode cX3_collect 51 = .ok (.invokevirtual 57, 3) := by decide +kernel
theorem dX3_collect_54 : decode cX3_collect 54 = .ok (.ifCond .ne 23, 3) := by decide +kernel
theorem dX3_collect_57 : decode cX3_collect 57 = .ok (.aload_n 0, 1) := by decide +kernel
theorem dX3_collect_58 : decode cX3_collect 58 = .ok (.aload_n 1, 1) := by decide +kernel
theorem dX3_collect_59 : decode cX3_collect 59 = .ok (.iload 5, 2) := by decide +kernel
theorem dX3_collect_61 : decode cX3_collect 61 = .ok (.invokevirtual 63, 3) := by decide +kernel
theorem dX3_collect_64 : decode cX3_collect 64 = .ok (.aload_n 1, 1) := by decide +kernel
theorem dX3_collect_65 : decode cX3_collect 65 = .ok (.iload 5, 2) := by decide +kernel
theorem dX3_collect_67 : decode cX3_collect 67 = .ok (.invokevirtual 67, 3) := by decide +kernel
theorem dX3_collect_70 : decode cX3_collect 70 = .ok (.iload 5, 2) := by decide +kernel
theorem dX3_collect_72 : decode cX3_collect 72 = .ok (.iload 5, 2) := by decide +kernel
theorem dX3_collect_74 : decode cX3_collect 74 = .ok (.invokevirtual 70, 3) := by decide +kernel
theorem dX3_collect_77 : decode cX3_collect 77 = .ok (.iload 5, 2) := by decide +kernel
theorem dX3_collect_79 : decode cX3_collect 79 = .ok (.istore 4, 2) := by decide +kernel
theorem dX3_collect_81 : decode cX3_collect 81 = .ok (.iinc 5 1, 3) := by decide +kernel
theorem dX3_collect_84 : decode cX3_collect 84 = .ok (.goto (-65), 3) := by decide +kernel
theorem dX3_collect_87 : decode cX3_collect 87 = .ok (.aload_n 0, 1) := by decide +kernel
theorem dX3_collect_88 : decode cX3_collect 88 = .ok (.aload_n 2, 1) := by decide +kernel
theorem dX3_collect_89 : decode cX3_collect 89 = .ok (.iload_n 3, 1) := by decide +kernel
theorem dX3_collect_90 : decode cX3_collect 90 = .ok (.iload 4, 2) := by decide +kernel
theorem dX3_collect_92 : decode cX3_collect 92 = .ok (.aload_n 0, 1) := by decide +kernel
theorem dX3_collect_93 : decode cX3_collect 93 = .ok (.getfield 46, 3) := by decide +kernel
theorem dX3_collect_96 : decode cX3_collect 96 = .ok (.invokevirtual 53, 3) := by decide +kernel
theorem dX3_collect_99 : decode cX3_collect 99 = .ok (.aload_n 2, 1) := by decide +kernel
theorem dX3_collect_100 : decode cX3_collect 100 = .ok (.iload_n 3, 1) := by decide +kernel
theorem dX3_collect_101 : decode cX3_collect 101 = .ok (.invokevirtual 74, 3) := by decide +kernel
theorem dX3_collect_104 : decode cX3_collect 104 = .ok (.iconst (-1), 1) := by decide +kernel
theorem dX3_collect_105 : decode cX3_collect 105 = .ok (.if_icmp .eq 30, 3) := by decide +kernel
theorem dX3_collect_108 : decode cX3_collect 108 = .ok (.iconst 0, 1) := by decide +kernel
theorem dX3_collect_109 : decode cX3_collect 109 = .ok (.istore 5, 2) := by decide +kernel
theorem dX3_collect_111 : decode cX3_collect 111 = .ok (.iload 5, 2) := by decide +kernel
theorem dX3_collect_113 : decode cX3_collect 113 = .ok (.iconst 3, 1) := by decide +kernel
theorem dX3_collect_114 : decode cX3_collect 114 = .ok (.if_icmp .ge 21, 3) := by decide +kernel
theorem dX3_collect_117 : decode cX3_collect 117 = .ok (.aload_n 0, 1) := by decide +kernel
theorem dX3_collect_118 : decode cX3_collect 118 = .ok (.bipush 46, 2) := by decide +kernel
theorem dX3_collect_120 : decode cX3_collect 120 = .ok (.iconst 1, 1) := by decide +kernel
theorem dX3_collect_121 : decode cX3_collect 121 = .ok (.iconst (-1), 1) := by decide +kernel
theorem dX3_collect_122 : decode cX3_collect 122 = .ok (.aload_n 0, 1) := by decide +kernel
theorem dX3_collect_123 : decode cX3_collect 123 = .ok (.getfield 46, 3) := by decide +kernel
theorem dX3_collect_126 : decode cX3_collect 126 = .ok (.invokevirtual 70, 3) := by decide +kernel
theorem dX3_collect_129 : decode cX3_collect 129 = .ok (.iinc 5 1, 3) := by decide +kernel
theorem dX3_collect_132 : decode cX3_collect 132 = .ok (.goto (-21), 3) := by decide +kernel
theorem dX3_collect_135 : decode cX3_collect 135 = .ok (.return_, 1) := by decide +kernel
theorem dX3_addVirtuals_0 : decode cX3_addVirtuals 0 = .ok (.iconst 0, 1) := by decide +kernel
theorem dX3_addVirtuals_1 : decode cX3_addVirtuals 1 = .ok (.istore 5, 2) := by decide +kernel
theorem dX3_addVirtuals_3 : decode cX3_addVirtuals 3 = .ok (.iload 5, 2) := by decide +kernel
theorem dX3_addVirtuals_5 : decode cX3_addVirtuals 5 = .ok (.aload_n 1, 1) := by decide +kernel
theorem dX3_addVirtuals_6 : decode cX3_addVirtuals 6 = .ok (.getfield 77, 3) := by decide +kernel
theorem dX3_addVirtuals_9 : decode cX3_addVirtuals 9 = .ok (.invokevirtual 81, 3) := by decide +kernel
theorem dX3_addVirtuals_12 : decode cX3_addVirtuals 12 = .ok (.if_icmp .ge 99, 3) := by decide +kernel
theorem dX3_addVirtuals_15 : decode cX3_addVirtuals 15 = .ok (.aload_n 1, 1) := by decide +kernel
theorem dX3_addVirtuals_16 : decode cX3_addVirtuals 16 = .ok (.getfield 77, 3) := by decide +kernel
theorem dX3_addVirtuals_19 : decode cX3_addVirtuals 19 = .ok (.iload 5, 2) := by decide +kernel
theorem dX3_addVirtuals_21 : decode cX3_addVirtuals 21 = .ok (.invokevirtual 86, 3) := by decide +kernel
theorem dX3_addVirtuals_24 : decode cX3_addVirtuals 24 = .ok (.checkcast 90, 3) := by decide +kernel
theorem dX3_addVirtuals_27 : decode cX3_addVirtuals 27 = .ok (.astore 6, 2) := by decide +kernel
theorem dX3_addVirtuals_29 : decode cX3_addVirtuals 29 = .ok (.aload 6, 2) := by decide +kernel
theorem dX3_addVirtuals_31 : decode cX3_addVirtuals 31 = .ok (.getfield 92, 3) := by decide +kernel
theorem dX3_addVirtuals_34 : decode cX3_addVirtuals 34 = .ok (.getfield 96, 3) := by decide +kernel
theorem dX3_addVirtuals_37 : decode cX3_addVirtuals 37 = .ok (.istore 7, 2) := by decide +kernel
theorem dX3_addVirtuals_39 : decode cX3_addVirtuals 39 = .ok (.aload 6, 2) := by decide +kernel
theorem dX3_addVirtuals_41 : decode cX3_addVirtuals 41 = .ok (.getfield 92, 3) := by decide +kernel
theorem dX3_addVirtuals_44 : decode cX3_addVirtuals 44 = .ok (.getfield 101, 3) := by decide +kernel
theorem dX3_addVirtuals_47 : decode cX3_addVirtuals 47 = .ok (.iload_n 2, 1) := by decide +kernel
theorem dX3_addVirtuals_48 : decode cX3_addVirtuals 48 = .ok (.if_icmp .ne 57, 3) := by decide +kernel
theorem dX3_addVirtuals_51 : decode cX3_addVirtuals 51 = .ok (.iload 7, 2) := by decide +kernel
theorem dX3_addVirtuals_53 : decode cX3_addVirtuals 53 = .ok (.iload_n 3, 1) := by decide +kernel
theorem dX3_addVirtuals_54 : decode cX3_addVirtuals 54 = .ok (.if_icmp .le 51, 3) := by decide +kernel
theorem dX3_addVirtuals_57 : decode cX3_addVirtuals 57 = .ok (.iload 7, 2) := by decide +kernel
theorem dX3_addVirtuals_59 : decode cX3_addVirtuals 59 = .ok (.iload 4, 2) := by decide +kernel
theorem dX3_addVirtuals_61 : decode cX3_addVirtuals 61 = .ok (.if_icmp .gt 44, 3) := by decide +kernel
theorem dX3_addVirtuals_64 : decode cX3_addVirtuals 64 = .ok (.iconst 0, 1) := by decide +kernel
theorem dX3_addVirtuals_65 : decode cX3_addVirtuals 65 = .ok (.istore 8, 2) := by decide +kernel
theorem dX3_addVirtuals_67 : decode cX3_addVirtuals 67 = .ok (.iload 8, 2) := by decide +kernel
theorem dX3_addVirtuals_69 : decode cX3_addVirtuals 69 = .ok (.bipush 8, 2) := by decide +kernel
theorem dX3_addVirtuals_71 : decode cX3_addVirtuals 71 = .ok (.if_icmp .ge 34, 3) := by decide +kernel
theorem dX3_addVirtuals_74 : decode cX3_addVirtuals 74 = .ok (.aload 6, 2) := by decide +kernel
theorem dX3_addVirtuals_76 : decode cX3_addVirtuals 76 = .ok (.iload 8, 2) := by decide +kernel
theorem dX3_addVirtuals_78 : decode cX3_addVirtuals 78 = .ok (.invokevirtual 104, 3) := by decide +kernel
theorem dX3_addVirtuals_81 : decode cX3_addVirtuals 81 = .ok (.ifCond .eq 24, 3) := by decide +kernel
theorem dX3_addVirtuals_84 : decode cX3_addVirtuals 84 = .ok (.aload_n 0, 1) := by decide +kernel
theorem dX3_addVirtuals_85 : decode cX3_addVirtuals 85 = .ok (.aload 6, 2) := by decide +kernel
theorem dX3_addVirtuals_87 : decode cX3_addVirtuals 87 = .ok (.iload 8, 2) := by decide +kernel
theorem dX3_addVirtuals_89 : decode cX3_addVirtuals 89 = .ok (.invokevirtual 104, 3) := by decide +kernel
theorem dX3_addVirtuals_92 : decode cX3_addVirtuals 92 = .ok (.iconst 1, 1) := by decide +kernel
theorem dX3_addVirtuals_93 : decode cX3_addVirtuals 93 = .ok (.iconst (-1), 1) := by decide +kernel
theorem dX3_addVirtuals_94 : decode cX3_addVirtuals 94 = .ok (.iload 7, 2) := by decide +kernel
theorem dX3_addVirtuals_96 : decode cX3_addVirtuals 96 = .ok (.invokevirtual 70, 3) := by decide +kernel
theorem dX3_addVirtuals_99 : decode cX3_addVirtuals 99 = .ok (.iinc 8 1, 3) := by decide +kernel
theorem dX3_addVirtuals_102 : decode cX3_addVirtuals 102 = .ok (.goto (-35), 3) := by decide +kernel
theorem dX3_addVirtuals_105 : decode cX3_addVirtuals 105 = .ok (.iinc 5 1, 3) := by decide +kernel
theorem dX3_addVirtuals_108 : decode cX3_addVirtuals 108 = .ok (.goto (-105), 3) := by decide +kernel
theorem dX3_addVirtuals_111 : decode cX3_addVirtuals 111 = .ok (.return_, 1) := by decide +kernel
theorem dX3_add_0 : decode cX3_add 0 = .ok (.aload_n 0, 1) := by decide +kernel
theorem dX3_add_1 : decode cX3_add 1 = .ok (.getfield 39, 3) := by decide +kernel
theorem dX3_add_4 : decode cX3_add 4 = .ok (.ifCond .lt 13, 3) := by decide +kernel
theorem dX3_add_7 : decode cX3_add 7 = .ok (.aload_n 0, 1) := by decide +kernel
theorem dX3_add_8 : decode cX3_add 8 = .ok (.getfield 39, 3) := by decide +kernel
theorem dX3_add_11 : decode cX3_add 11 = .ok (.sipush 131, 3) := by decide +kernel
theorem dX3_add_14 : decode cX3_add 14 = .ok (.if_icmp .lt 4, 3) := by decide +kernel
theorem dX3_add_17 : decode cX3_add 17 = .ok (.return_, 1) := by decide +kernel
theorem dX3_add_18 : decode cX3_add 18 = .ok (.aload_n 0, 1) := by decide +kernel
theorem dX3_add_19 : decode cX3_add 19 = .ok (.getfield 9, 3) := by decide +kernel
theorem dX3_add_22 : decode cX3_add 22 = .ok (.aload_n 0, 1) := by decide +kernel
theorem dX3_add_23 : decode cX3_add 23 = .ok (.getfield 39, 3) := by decide +kernel
theorem dX3_add_26 : decode cX3_add 26 = .ok (.iload_n 1, 1) := by decide +kernel
theorem dX3_add_27 : decode cX3_add 27 = .ok (.iastore, 1) := by decide +kernel
theorem dX3_add_28 : decode cX3_add 28 = .ok (.aload_n 0, 1) := by decide +kernel
theorem dX3_add_29 : decode cX3_add 29 = .ok (.getfield 15, 3) := by decide +kernel
theorem dX3_add_32 : decode cX3_add 32 = .ok (.aload_n 0, 1) := by decide +kernel
theorem dX3_add_33 : decode cX3_add 33 = .ok (.getfield 39, 3) := by decide +kernel
theorem dX3_add_36 : decode cX3_add 36 = .ok (.iload_n 2, 1) := by decide +kernel
theorem dX3_add_37 : decode cX3_add 37 = .ok (.iastore, 1) := by decide +kernel
theorem dX3_add_38 : decode cX3_add 38 = .ok (.aload_n 0, 1) := by decide +kernel
theorem dX3_add_39 : decode cX3_add 39 = .ok (.getfield 18, 3) := by decide +kernel
theorem dX3_add_42 : decode cX3_add 42 = .ok (.aload_n 0, 1) := by decide +kernel
theorem dX3_add_43 : decode cX3_add 43 = .ok (.getfield 39, 3) := by decide +kernel
theorem dX3_add_46 : decode cX3_add 46 = .ok (.iload_n 3, 1) := by decide +kernel
theorem dX3_add_47 : decode cX3_add 47 = .ok (.iastore, 1) := by decide +kernel
theorem dX3_add_48 : decode cX3_add 48 = .ok (.aload_n 0, 1) := by decide +kernel
theorem dX3_add_49 : decode cX3_add 49 = .ok (.getfield 21, 3) := by decide +kernel
theorem dX3_add_52 : decode cX3_add 52 = .ok (.aload_n 0, 1) := by decide +kernel
theorem dX3_add_53 : decode cX3_add 53 = .ok (.getfield 39, 3) := by decide +kernel
theorem dX3_add_56 : decode cX3_add 56 = .ok (.iload 4, 2) := by decide +kernel
theorem dX3_add_58 : decode cX3_add 58 = .ok (.iastore, 1) := by decide +kernel
theorem dX3_add_59 : decode cX3_add 59 = .ok (.aload_n 0, 1) := by decide +kernel
theorem dX3_add_60 : decode cX3_add 60 = .ok (.dup, 1) := by decide +kernel
theorem dX3_add_61 : decode cX3_add 61 = .ok (.getfield 39, 3) := by decide +kernel
theorem dX3_add_64 : decode cX3_add 64 = .ok (.iconst 1, 1) := by decide +kernel
theorem dX3_add_65 : decode cX3_add 65 = .ok (.iadd, 1) := by decide +kernel
theorem dX3_add_66 : decode cX3_add 66 = .ok (.putfield 39, 3) := by decide +kernel
theorem dX3_add_69 : decode cX3_add 69 = .ok (.return_, 1) := by decide +kernel
theorem dX3_wrap_0 : decode cX3_wrap 0 = .ok (.aload_n 0, 1) := by decide +kernel
theorem dX3_wrap_1 : decode cX3_wrap 1 = .ok (.iload_n 2, 1) := by decide +kernel
theorem dX3_wrap_2 : decode cX3_wrap 2 = .ok (.putfield 105, 3) := by decide +kernel
theorem dX3_wrap_5 : decode cX3_wrap 5 = .ok (.aload_n 0, 1) := by decide +kernel
theorem dX3_wrap_6 : decode cX3_wrap 6 = .ok (.iconst 0, 1) := by decide +kernel
theorem dX3_wrap_7 : decode cX3_wrap 7 = .ok (.putfield 108, 3) := by decide +kernel
theorem dX3_wrap_10 : decode cX3_wrap 10 = .ok (.iconst 0, 1) := by decide +kernel
theorem dX3_wrap_11 : decode cX3_wrap 11 = .ok (.istore_n 3, 1) := by decide +kernel
theorem dX3_wrap_12 : decode cX3_wrap 12 = .ok (.aload_n 0, 1) := by decide +kernel
theorem dX3_wrap_13 : decode cX3_wrap 13 = .ok (.getfield 108, 3) := by decide +kernel
theorem dX3_wrap_16 : decode cX3_wrap 16 = .ok (.sipush 131, 3) := by decide +kernel
theorem dX3_wrap_19 : decode cX3_wrap 19 = .ok (.if_icmp .ge 56, 3) := by decide +kernel
theorem dX3_wrap_22 : decode cX3_wrap 22 = .ok (.aload_n 0, 1) := by decide +kernel
theorem dX3_wrap_23 : decode cX3_wrap 23 = .ok (.getfield 108, 3) := by decide +kernel
theorem dX3_wrap_26 : decode cX3_wrap 26 = .ok (.ifCond .eq 11, 3) := by decide +kernel
theorem dX3_wrap_29 : decode cX3_wrap 29 = .ok (.iload_n 3, 1) := by decide +kernel
theorem dX3_wrap_30 : decode cX3_wrap 30 = .ok (.aload_n 0, 1) := by decide +kernel
theorem dX3_wrap_31 : decode cX3_wrap 31 = .ok (.getfield 39, 3) := by decide +kernel
theorem dX3_wrap_34 : decode cX3_wrap 34 = .ok (.if_icmp .ge 41, 3) := by decide +kernel
theorem dX3_wrap_37 : decode cX3_wrap 37 = .ok (.aload_n 0, 1) := by decide +kernel
theorem dX3_wrap_38 : decode cX3_wrap 38 = .ok (.getfield 36, 3) := by decide +kernel
theorem dX3_wrap_41 : decode cX3_wrap 41 = .ok (.aload_n 0, 1) := by decide +kernel
theorem dX3_wrap_42 : decode cX3_wrap 42 = .ok (.getfield 108, 3) := by decide +kernel
theorem dX3_wrap_45 : decode cX3_wrap 45 = .ok (.iload_n 3, 1) := by decide +kernel
theorem dX3_wrap_46 : decode cX3_wrap 46 = .ok (.iastore, 1) := by decide +kernel
theorem dX3_wrap_47 : decode cX3_wrap 47 = .ok (.aload_n 0, 1) := by decide +kernel
theorem dX3_wrap_48 : decode cX3_wrap 48 = .ok (.iload_n 3, 1) := by decide +kernel
theorem dX3_wrap_49 : decode cX3_wrap 49 = .ok (.aload_n 0, 1) := by decide +kernel
theorem dX3_wrap_50 : decode cX3_wrap 50 = .ok (.aload_n 0, 1) := by decide +kernel
theorem dX3_wrap_51 : decode cX3_wrap 51 = .ok (.getfield 108, 3) := by decide +kernel
theorem dX3_wrap_54 : decode cX3_wrap 54 = .ok (.invokevirtual 111, 3) := by decide +kernel
theorem dX3_wrap_57 : decode cX3_wrap 57 = .ok (.iload_n 1, 1) := by decide +kernel
theorem dX3_wrap_58 : decode cX3_wrap 58 = .ok (.invokevirtual 114, 3) := by decide +kernel
theorem dX3_wrap_61 : decode cX3_wrap 61 = .ok (.istore_n 3, 1) := by decide +kernel
theorem dX3_wrap_62 : decode cX3_wrap 62 = .ok (.aload_n 0, 1) := by decide +kernel
theorem dX3_wrap_63 : decode cX3_wrap 63 = .ok (.dup, 1) := by decide +kernel
theorem dX3_wrap_64 : decode cX3_wrap 64 = .ok (.getfield 108, 3) := by decide +kernel
theorem dX3_wrap_67 : decode cX3_wrap 67 = .ok (.iconst 1, 1) := by decide +kernel
theorem dX3_wrap_68 : decode cX3_wrap 68 = .ok (.iadd, 1) := by decide +kernel
theorem dX3_wrap_69 : decode cX3_wrap 69 = .ok (.putfield 108, 3) := by decide +kernel
theorem dX3_wrap_72 : decode cX3_wrap 72 = .ok (.goto (-60), 3) := by decide +kernel
theorem dX3_wrap_75 : decode cX3_wrap 75 = .ok (.return_, 1) := by decide +kernel
theorem dX3_layRow_0 : decode cX3_layRow 0 = .ok (.iload_n 2, 1) := by decide +kernel
theorem dX3_layRow_1 : decode cX3_layRow 1 = .ok (.istore 4, 2) := by decide +kernel
theorem dX3_layRow_3 : decode cX3_layRow 3 = .ok (.iload_n 1, 1) := by decide +kernel
theorem dX3_layRow_4 : decode cX3_layRow 4 = .ok (.iconst 0, 1) := by decide +kernel
theorem dX3_layRow_5 : decode cX3_layRow 5 = .ok (.invokestatic 118, 3) := by decide +kernel
theorem dX3_layRow_8 : decode cX3_layRow 8 = .ok (.istore 5, 2) := by decide +kernel
theorem dX3_layRow_10 : decode cX3_layRow 10 = .ok (.iload 5, 2) := by decide +kernel
theorem dX3_layRow_12 : decode cX3_layRow 12 = .ok (.aload_n 0, 1) := by decide +kernel
theorem dX3_layRow_13 : decode cX3_layRow 13 = .ok (.getfield 39, 3) := by decide +kernel
theorem dX3_layRow_16 : decode cX3_layRow 16 = .ok (.if_icmp .ge 69, 3) := by decide +kernel
theorem dX3_layRow_19 : decode cX3_layRow 19 = .ok (.iload 5, 2) := by decide +kernel
theorem dX3_layRow_21 : decode cX3_layRow 21 = .ok (.sipush 131, 3) := by decide +kernel
theorem dX3_layRow_24 : decode cX3_layRow 24 = .ok (.if_icmp .ge 61, 3) := by decide +kernel
theorem dX3_layRow_27 : decode cX3_layRow 27 = .ok (.iload 4, 2) := by decide +kernel
theorem dX3_layRow_29 : decode cX3_layRow 29 = .ok (.aload_n 0, 1) := by decide +kernel
theorem dX3_layRow_30 : decode cX3_layRow 30 = .ok (.aload_n 0, 1) := by decide +kernel
theorem dX3_layRow_31 : decode cX3_layRow 31 = .ok (.getfield 9, 3) := by decide +kernel
theorem dX3_layRow_34 : decode cX3_layRow 34 = .ok (.iload 5, 2) := by decide +kernel
theorem dX3_layRow_36 : decode cX3_layRow 36 = .ok (.iaload, 1) := by decide +kernel
theorem dX3_layRow_37 : decode cX3_layRow 37 = .ok (.iload 4, 2) := by decide +kernel
theorem dX3_layRow_39 : decode cX3_layRow 39 = .ok (.invokevirtual 124, 3) := by decide +kernel
theorem dX3_layRow_42 : decode cX3_layRow 42 = .ok (.iadd, 1) := by decide +kernel
theorem dX3_layRow_43 : decode cX3_layRow 43 = .ok (.iload_n 3, 1) := by decide +kernel
theorem dX3_layRow_44 : decode cX3_layRow 44 = .ok (.if_icmp .gt 41, 3) := by decide +kernel
theorem dX3_layRow_47 : decode cX3_layRow 47 = .ok (.aload_n 0, 1) := by decide +kernel
theorem dX3_layRow_48 : decode cX3_layRow 48 = .ok (.getfield 24, 3) := by decide +kernel
theorem dX3_layRow_51 : decode cX3_layRow 51 = .ok (.iload 5, 2) := by decide +kernel
theorem dX3_layRow_53 : decode cX3_layRow 53 = .ok (.aload_n 0, 1) := by decide +kernel
theorem dX3_layRow_54 : decode cX3_layRow 54 = .ok (.aload_n 0, 1) := by decide +kernel
theorem dX3_layRow_55 : decode cX3_layRow 55 = .ok (.getfield 9, 3) := by decide +kernel
theorem dX3_layRow_58 : decode cX3_layRow 58 = .ok (.iload 5, 2) := by decide +kernel
theorem dX3_layRow_60 : decode cX3_layRow 60 = .ok (.iaload, 1) := by decide +kernel
theorem dX3_layRow_61 : decode cX3_layRow 61 = .ok (.iload 4, 2) := by decide +kernel
theorem dX3_layRow_63 : decode cX3_layRow 63 = .ok (.invokevirtual 124, 3) := by decide +kernel
theorem dX3_layRow_66 : decode cX3_layRow 66 = .ok (.iastore, 1) := by decide +kernel
theorem dX3_layRow_67 : decode cX3_layRow 67 = .ok (.iload 4, 2) := by decide +kernel
theorem dX3_layRow_69 : decode cX3_layRow 69 = .ok (.aload_n 0, 1) := by decide +kernel
theorem dX3_layRow_70 : decode cX3_layRow 70 = .ok (.getfield 24, 3) := by decide +kernel
theorem dX3_layRow_73 : decode cX3_layRow 73 = .ok (.iload 5, 2) := by decide +kernel
theorem dX3_layRow_75 : decode cX3_layRow 75 = .ok (.iaload, 1) := by decide +kernel
theorem dX3_layRow_76 : decode cX3_layRow 76 = .ok (.iadd, 1) := by decide +kernel
theorem dX3_layRow_77 : decode cX3_layRow 77 = .ok (.istore 4, 2) := by decide +kernel
theorem dX3_layRow_79 : decode cX3_layRow 79 = .ok (.iinc 5 1, 3) := by decide +kernel
theorem dX3_layRow_82 : decode cX3_layRow 82 = .ok (.goto (-72), 3) := by decide +kernel
theorem dX3_layRow_85 : decode cX3_layRow 85 = .ok (.iload 5, 2) := by decide +kernel
theorem dX3_layRow_87 : decode cX3_layRow 87 = .ok (.aload_n 0, 1) := by decide +kernel
theorem dX3_layRow_88 : decode cX3_layRow 88 = .ok (.getfield 39, 3) := by decide +kernel
theorem dX3_layRow_91 : decode cX3_layRow 91 = .ok (.if_icmp .ge 38, 3) := by decide +kernel
theorem dX3_layRow_94 : decode cX3_layRow 94 = .ok (.iload 5, 2) := by decide +kernel
theorem dX3_layRow_96 : decode cX3_layRow 96 = .ok (.sipush 131, 3) := by decide +kernel
theorem dX3_layRow_99 : decode cX3_layRow 99 = .ok (.if_icmp .ge 30, 3) := by decide +kernel
theorem dX3_layRow_102 : decode cX3_layRow 102 = .ok (.aload_n 0, 1) := by decide +kernel
theorem dX3_layRow_103 : decode cX3_layRow 103 = .ok (.getfield 9, 3) := by decide +kernel
theorem dX3_layRow_106 : decode cX3_layRow 106 = .ok (.iload 5, 2) := by decide +kernel
theorem dX3_layRow_108 : decode cX3_layRow 108 = .ok (.iaload, 1) := by decide +kernel
theorem dX3_layRow_109 : decode cX3_layRow 109 = .ok (.invokestatic 127, 3) := by decide +kernel
theorem dX3_layRow_112 : decode cX3_layRow 112 = .ok (.ifCond .eq 17, 3) := by decide +kernel
theorem dX3_layRow_115 : decode cX3_layRow 115 = .ok (.aload_n 0, 1) := by decide +kernel
theorem dX3_layRow_116 : decode cX3_layRow 116 = .ok (.getfield 24, 3) := by decide +kernel
theorem dX3_layRow_119 : decode cX3_layRow 119 = .ok (.iload 5, 2) := by decide +kernel
theorem dX3_layRow_121 : decode cX3_layRow 121 = .ok (.iconst 0, 1) := by decide +kernel
theorem dX3_layRow_122 : decode cX3_layRow 122 = .ok (.iastore, 1) := by decide +kernel
theorem dX3_layRow_123 : decode cX3_layRow 123 = .ok (.iinc 5 1, 3) := by decide +kernel
theorem dX3_layRow_126 : decode cX3_layRow 126 = .ok (.goto (-41), 3) := by decide +kernel
theorem dX3_layRow_129 : decode cX3_layRow 129 = .ok (.iload 5, 2) := by decide +kernel
theorem dX3_layRow_131 : decode cX3_layRow 131 = .ok (.aload_n 0, 1) := by decide +kernel
theorem dX3_layRow_132 : decode cX3_layRow 132 = .ok (.getfield 39, 3) := by decide +kernel
theorem dX3_layRow_135 : decode cX3_layRow 135 = .ok (.if_icmp .lt 6, 3) := by decide +kernel
theorem dX3_layRow_138 : decode cX3_layRow 138 = .ok (.iload 5, 2) := by decide +kernel
theorem dX3_layRow_140 : decode cX3_layRow 140 = .ok (.ireturn, 1) := by decide +kernel
theorem dX3_layRow_141 : decode cX3_layRow 141 = .ok (.iload 5, 2) := by decide +kernel
theorem dX3_layRow_143 : decode cX3_layRow 143 = .ok (.istore 6, 2) := by decide +kernel
theorem dX3_layRow_145 : decode cX3_layRow 145 = .ok (.iload 6, 2) := by decide +kernel
theorem dX3_layRow_147 : decode cX3_layRow 147 = .ok (.iload_n 1, 1) := by decide +kernel
theorem dX3_layRow_148 : decode cX3_layRow 148 = .ok (.if_icmp .le 29, 3) := by decide +kernel
theorem dX3_layRow_151 : decode cX3_layRow 151 = .ok (.iload 6, 2) := by decide +kernel
theorem dX3_layRow_153 : decode cX3_layRow 153 = .ok (.ifCond .le 24, 3) := by decide +kernel
theorem dX3_layRow_156 : decode cX3_layRow 156 = .ok (.aload_n 0, 1) := by decide +kernel
theorem dX3_layRow_157 : decode cX3_layRow 157 = .ok (.getfield 9, 3) := by decide +kernel
theorem dX3_layRow_160 : decode cX3_layRow 160 = .ok (.iload 6, 2) := by decide +kernel
theorem dX3_layRow_162 : decode cX3_layRow 162 = .ok (.iconst 1, 1) := by decide +kernel
theorem dX3_layRow_163 : decode cX3_layRow 163 = .ok (.isub, 1) := by decide +kernel
theorem dX3_layRow_164 : decode cX3_layRow 164 = .ok (.iaload, 1) := by decide +kernel
theorem dX3_layRow_165 : decode cX3_layRow 165 = .ok (.invokestatic 127, 3) := by decide +kernel
theorem dX3_layRow_168 : decode cX3_layRow 168 = .ok (.ifCond .ne 9, 3) := by decide +kernel
theorem dX3_layRow_171 : decode cX3_layRow 171 = .ok (.iinc 6 (-1), 3) := by decide +kernel
theorem dX3_layRow_174 : decode cX3_layRow 174 = .ok (.goto (-29), 3) := by decide +kernel
theorem dX3_layRow_177 : decode cX3_layRow 177 = .ok (.iload 6, 2) := by decide +kernel
theorem dX3_layRow_179 : decode cX3_layRow 179 = .ok (.iload_n 1, 1) := by decide +kernel
theorem dX3_layRow_180 : decode cX3_layRow 180 = .ok (.if_icmp .le 8, 3) := by decide +kernel
theorem dX3_layRow_183 : decode cX3_layRow 183 = .ok (.iload 6, 2) := by decide +kernel
theorem dX3_layRow_185 : decode cX3_layRow 185 = .ok (.goto 5, 3) := by decide +kernel
theorem dX3_layRow_188 : decode cX3_layRow 188 = .ok (.iload 5, 2) := by decide +kernel
theorem dX3_layRow_190 : decode cX3_layRow 190 = .ok (.ireturn, 1) := by decide +kernel
theorem dX3_widthAt_0 : decode cX3_widthAt 0 = .ok (.iload_n 1, 1) := by decide +kernel
theorem dX3_widthAt_1 : decode cX3_widthAt 1 = .ok (.bipush 9, 2) := by decide +kernel
theorem dX3_widthAt_3 : decode cX3_widthAt 3 = .ok (.if_icmp .ne 9, 3) := by decide +kernel
theorem dX3_widthAt_6 : decode cX3_widthAt 6 = .ok (.iconst 4, 1) := by decide +kernel
theorem dX3_widthAt_7 : decode cX3_widthAt 7 = .ok (.iload_n 2, 1) := by decide +kernel
theorem dX3_widthAt_8 : decode cX3_widthAt 8 = .ok (.iconst 4, 1) := by decide +kernel
theorem dX3_widthAt_9 : decode cX3_widthAt 9 = .ok (.irem, 1) := by decide +kernel
theorem dX3_widthAt_10 : decode cX3_widthAt 10 = .ok (.isub, 1) := by decide +kernel
theorem dX3_widthAt_11 : decode cX3_widthAt 11 = .ok (.ireturn, 1) := by decide +kernel
theorem dX3_widthAt_12 : decode cX3_widthAt 12 = .ok (.iload_n 1, 1) := by decide +kernel
theorem dX3_widthAt_13 : decode cX3_widthAt 13 = .ok (.bipush 65, 2) := by decide +kernel
theorem dX3_widthAt_15 : decode cX3_widthAt 15 = .ok (.if_icmp .lt 13, 3) := by decide +kernel
theorem dX3_widthAt_18 : decode cX3_widthAt 18 = .ok (.iload_n 1, 1) := by decide +kernel
theorem dX3_widthAt_19 : decode cX3_widthAt 19 = .ok (.bipush 90, 2) := by decide +kernel
theorem dX3_widthAt_21 : decode cX3_widthAt 21 = .ok (.if_icmp .gt 7, 3) := by decide +kernel
theorem dX3_widthAt_24 : decode cX3_widthAt 24 = .ok (.iconst 2, 1) := by decide +kernel
theorem dX3_widthAt_25 : decode cX3_widthAt 25 = .ok (.goto 4, 3) := by decide +kernel
theorem dX3_widthAt_28 : decode cX3_widthAt 28 = .ok (.iconst 1, 1) := by decide +kernel
theorem dX3_widthAt_29 : decode cX3_widthAt 29 = .ok (.ireturn, 1) := by decide +kernel
theorem dX3_firstColumn_0 : decode cX3_firstColumn 0 = .ok (.iload_n 1, 1) := by decide +kernel
theorem dX3_firstColumn_1 : decode cX3_firstColumn 1 = .ok (.ifCond .ne 7, 3) := by decide +kernel
theorem dX3_firstColumn_4 : decode cX3_firstColumn 4 = .ok (.iconst 0, 1) := by decide +kernel
theorem dX3_firstColumn_5 : decode cX3_firstColumn 5 = .ok (.goto 7, 3) := by decide +kernel
theorem dX3_firstColumn_8 : decode cX3_firstColumn 8 = .ok (.aload_n 0, 1) := by decide +kernel
theorem dX3_firstColumn_9 : decode cX3_firstColumn 9 = .ok (.getfield 105, 3) := by decide +kernel
theorem dX3_firstColumn_12 : decode cX3_firstColumn 12 = .ok (.ireturn, 1) := by decide +kernel
theorem dX3_startOf_0 : decode cX3_startOf 0 = .ok (.iload_n 1, 1) := by decide +kernel
theorem dX3_startOf_1 : decode cX3_startOf 1 = .ok (.ifCond .lt 18, 3) := by decide +kernel
theorem dX3_startOf_4 : decode cX3_startOf 4 = .ok (.iload_n 1, 1) := by decide +kernel
theorem dX3_startOf_5 : decode cX3_startOf 5 = .ok (.aload_n 0, 1) := by decide +kernel
theorem dX3_startOf_6 : decode cX3_startOf 6 = .ok (.getfield 108, 3) := by decide +kernel
theorem dX3_startOf_9 : decode cX3_startOf 9 = .ok (.if_icmp .ge 10, 3) := by decide +kernel
theorem dX3_startOf_12 : decode cX3_startOf 12 = .ok (.iload_n 1, 1) := by decide +kernel
theorem dX3_startOf_13 : decode cX3_startOf 13 = .ok (.sipush 131, 3) := by decide +kernel
theorem dX3_startOf_16 : decode cX3_startOf 16 = .ok (.if_icmp .lt 10, 3) := by decide +kernel
theorem dX3_startOf_19 : decode cX3_startOf 19 = .ok (.aload_n 0, 1) := by decide +kernel
theorem dX3_startOf_20 : decode cX3_startOf 20 = .ok (.getfield 39, 3) := by decide +kernel
theorem dX3_startOf_23 : decode cX3_startOf 23 = .ok (.goto 9, 3) := by decide +kernel
theorem dX3_startOf_26 : decode cX3_startOf 26 = .ok (.aload_n 0, 1) := by decide +kernel
theorem dX3_startOf_27 : decode cX3_startOf 27 = .ok (.getfield 36, 3) := by decide +kernel
theorem dX3_startOf_30 : decode cX3_startOf 30 = .ok (.iload_n 1, 1) := by decide +kernel
theorem dX3_startOf_31 : decode cX3_startOf 31 = .ok (.iaload, 1) := by decide +kernel
theorem dX3_startOf_32 : decode cX3_startOf 32 = .ok (.ireturn, 1) := by decide +kernel
theorem dX3_cellsIn_0 : decode cX3_cellsIn 0 = .ok (.aload_n 0, 1) := by decide +kernel
theorem dX3_cellsIn_1 : decode cX3_cellsIn 1 = .ok (.iload_n 1, 1) := by decide +kernel
theorem dX3_cellsIn_2 : decode cX3_cellsIn 2 = .ok (.iconst 1, 1) := by decide +kernel
theorem dX3_cellsIn_3 : decode cX3_cellsIn 3 = .ok (.iadd, 1) := by decide +kernel
theorem dX3_cellsIn_4 : decode cX3_cellsIn 4 = .ok (.invokevirtual 130, 3) := by decide +kernel
theorem dX3_cellsIn_7 : decode cX3_cellsIn 7 = .ok (.aload_n 0, 1) := by decide +kernel
theorem dX3_cellsIn_8 : decode cX3_cellsIn 8 = .ok (.iload_n 1, 1) := by decide +kernel
theorem dX3_cellsIn_9 : decode cX3_cellsIn 9 = .ok (.invokevirtual 130, 3) := by decide +kernel
theorem dX3_cellsIn_12 : decode cX3_cellsIn 12 = .ok (.isub, 1) := by decide +kernel
theorem dX3_cellsIn_13 : decode cX3_cellsIn 13 = .ok (.ireturn, 1) := by decide +kernel
theorem dX3_turnRows_0 : decode cX3_turnRows 0 = .ok (.iconst 0, 1) := by decide +kernel
theorem dX3_turnRows_1 : decode cX3_turnRows 1 = .ok (.istore_n 1, 1) := by decide +kernel
theorem dX3_turnRows_2 : decode cX3_turnRows 2 = .ok (.iload_n 1, 1) := by decide +kernel
theorem dX3_turnRows_3 : decode cX3_turnRows 3 = .ok (.aload_n 0, 1) := by decide +kernel
theorem dX3_turnRows_4 : decode cX3_turnRows 4 = .ok (.getfield 108, 3) := by decide +kernel
theorem dX3_turnRows_7 : decode cX3_turnRows 7 = .ok (.if_icmp .ge 52, 3) := by decide +kernel
theorem dX3_turnRows_10 : decode cX3_turnRows 10 = .ok (.aload_n 0, 1) := by decide +kernel
theorem dX3_turnRows_11 : decode cX3_turnRows 11 = .ok (.iload_n 1, 1) := by decide +kernel
theorem dX3_turnRows_12 : decode cX3_turnRows 12 = .ok (.invokevirtual 130, 3) := by decide +kernel
theorem dX3_turnRows_15 : decode cX3_turnRows 15 = .ok (.istore_n 2, 1) := by decide +kernel
theorem dX3_turnRows_16 : decode cX3_turnRows 16 = .ok (.aload_n 0, 1) := by decide +kernel
theorem dX3_turnRows_17 : decode cX3_turnRows 17 = .ok (.iload_n 1, 1) := by decide +kernel
theorem dX3_turnRows_18 : decode cX3_turnRows 18 = .ok (.iconst 1, 1) := by decide +kernel
theorem dX3_turnRows_19 : decode cX3_turnRows 19 = .ok (.iadd, 1) := by decide +kernel
theorem dX3_turnRows_20 : decode cX3_turnRows 20 = .ok (.invokevirtual 130, 3) := by decide +kernel
theorem dX3_turnRows_23 : decode cX3_turnRows 23 = .ok (.sipush 131, 3) := by decide +kernel
theorem dX3_turnRows_26 : decode cX3_turnRows 26 = .ok (.invokestatic 133, 3) := by decide +kernel
theorem dX3_turnRows_29 : decode cX3_turnRows 29 = .ok (.istore_n 3, 1) := by decide +kernel
theorem dX3_turnRows_30 : decode cX3_turnRows 30 = .ok (.aload_n 0, 1) := by decide +kernel
theorem dX3_turnRows_31 : decode cX3_turnRows 31 = .ok (.iload_n 2, 1) := by decide +kernel
theorem dX3_turnRows_32 : decode cX3_turnRows 32 = .ok (.iload_n 3, 1) := by decide +kernel
theorem dX3_turnRows_33 : decode cX3_turnRows 33 = .ok (.invokevirtual 136, 3) := by decide +kernel
theorem dX3_turnRows_36 : decode cX3_turnRows 36 = .ok (.aload_n 0, 1) := by decide +kernel
theorem dX3_turnRows_37 : decode cX3_turnRows 37 = .ok (.iload_n 2, 1) := by decide +kernel
theorem dX3_turnRows_38 : decode cX3_turnRows 38 = .ok (.iload_n 3, 1) := by decide +kernel
theorem dX3_turnRows_39 : decode cX3_turnRows 39 = .ok (.invokevirtual 140, 3) := by decide +kernel
theorem dX3_turnRows_42 : decode cX3_turnRows 42 = .ok (.aload_n 0, 1) := by decide +kernel
theorem dX3_turnRows_43 : decode cX3_turnRows 43 = .ok (.iload_n 2, 1) := by decide +kernel
theorem dX3_turnRows_44 : decode cX3_turnRows 44 = .ok (.iload_n 3, 1) := by decide +kernel
theorem dX3_turnRows_45 : decode cX3_turnRows 45 = .ok (.aload_n 0, 1) := by decide +kernel
theorem dX3_turnRows_46 : decode cX3_turnRows 46 = .ok (.iload_n 1, 1) := by decide +kernel
theorem dX3_turnRows_47 : decode cX3_turnRows 47 = .ok (.invokevirtual 111, 3) := by decide +kernel
theorem dX3_turnRows_50 : decode cX3_turnRows 50 = .ok (.invokevirtual 143, 3) := by decide +kernel
theorem dX3_turnRows_53 : decode cX3_turnRows 53 = .ok (.iinc 1 1, 3) := by decide +kernel
theorem dX3_turnRows_56 : decode cX3_turnRows 56 = .ok (.goto (-54), 3) := by decide +kernel
theorem dX3_turnRows_59 : decode cX3_turnRows 59 = .ok (.return_, 1) := by decide +kernel
theorem dX3_levelEnd_0 : decode cX3_levelEnd 0 = .ok (.iload_n 2, 1) := by decide +kernel
theorem dX3_levelEnd_1 : decode cX3_levelEnd 1 = .ok (.iconst 1, 1) := by decide +kernel
theorem dX3_levelEnd_2 : decode cX3_levelEnd 2 = .ok (.isub, 1) := by decide +kernel
theorem dX3_levelEnd_3 : decode cX3_levelEnd 3 = .ok (.istore_n 3, 1) := by decide +kernel
theorem dX3_levelEnd_4 : decode cX3_levelEnd 4 = .ok (.iload_n 3, 1) := by decide +kernel
theorem dX3_levelEnd_5 : decode cX3_levelEnd 5 = .ok (.iload_n 1, 1) := by decide +kernel
theorem dX3_levelEnd_6 : decode cX3_levelEnd 6 = .ok (.if_icmp .lt 42, 3) := by decide +kernel
theorem dX3_levelEnd_9 : decode cX3_levelEnd 9 = .ok (.iload_n 3, 1) := by decide +kernel
theorem dX3_levelEnd_10 : decode cX3_levelEnd 10 = .ok (.ifCond .lt 38, 3) := by decide +kernel
theorem dX3_levelEnd_13 : decode cX3_levelEnd 13 = .ok (.iload_n 3, 1) := by decide +kernel
theorem dX3_levelEnd_14 : decode cX3_levelEnd 14 = .ok (.sipush 131, 3) := by decide +kernel
theorem dX3_levelEnd_17 : decode cX3_levelEnd 17 = .ok (.if_icmp .ge 31, 3) := by decide +kernel
theorem dX3_levelEnd_20 : decode cX3_levelEnd 20 = .ok (.aload_n 0, 1) := by decide +kernel
theorem dX3_levelEnd_21 : decode cX3_levelEnd 21 = .ok (.getfield 9, 3) := by decide +kernel
theorem dX3_levelEnd_24 : decode cX3_levelEnd 24 = .ok (.iload_n 3, 1) := by decide +kernel
theorem dX3_levelEnd_25 : decode cX3_levelEnd 25 = .ok (.iaload, 1) := by decide +kernel
theorem dX3_levelEnd_26 : decode cX3_levelEnd 26 = .ok (.invokestatic 127, 3) := by decide +kernel
theorem dX3_levelEnd_29 : decode cX3_levelEnd 29 = .ok (.ifCond .eq 19, 3) := by decide +kernel
theorem dX3_levelEnd_32 : decode cX3_levelEnd 32 = .ok (.aload_n 0, 1) := by decide +kernel
theorem dX3_levelEnd_33 : decode cX3_levelEnd 33 = .ok (.getfield 30, 3) := by decide +kernel
theorem dX3_levelEnd_36 : decode cX3_levelEnd 36 = .ok (.iload_n 3, 1) := by decide +kernel
theorem dX3_levelEnd_37 : decode cX3_levelEnd 37 = .ok (.aload_n 0, 1) := by decide +kernel
theorem dX3_levelEnd_38 : decode cX3_levelEnd 38 = .ok (.getfield 147, 3) := by decide +kernel
theorem dX3_levelEnd_41 : decode cX3_levelEnd 41 = .ok (.iastore, 1) := by decide +kernel
theorem dX3_levelEnd_42 : decode cX3_levelEnd 42 = .ok (.iinc 3 (-1), 3) := by decide +kernel
theorem dX3_levelEnd_45 : decode cX3_levelEnd 45 = .ok (.goto (-41), 3) := by decide +kernel
theorem dX3_levelEnd_48 : decode cX3_levelEnd 48 = .ok (.return_, 1) := by decide +kernel
theorem dX3_orderRow_0 : decode cX3_orderRow 0 = .ok (.iconst 0, 1) := by decide +kernel
theorem dX3_orderRow_1 : decode cX3_orderRow 1 = .ok (.istore_n 3, 1) := by decide +kernel
theorem dX3_orderRow_2 : decode cX3_orderRow 2 = .ok (.iload_n 1, 1) := by decide +kernel
theorem dX3_orderRow_3 : decode cX3_orderRow 3 = .ok (.iconst 0, 1) := by decide +kernel
theorem dX3_orderRow_4 : decode cX3_orderRow 4 = .ok (.invokestatic 118, 3) := by decide +kernel
theorem dX3_orderRow_7 : decode cX3_orderRow 7 = .ok (.istore 4, 2) := by decide +kernel
theorem dX3_orderRow_9 : decode cX3_orderRow 9 = .ok (.iload 4, 2) := by decide +kernel
theorem dX3_orderRow_11 : decode cX3_orderRow 11 = .ok (.iload_n 2, 1) := by decide +kernel
theorem dX3_orderRow_12 : decode cX3_orderRow 12 = .ok (.if_icmp .ge 38, 3) := by decide +kernel
theorem dX3_orderRow_15 : decode cX3_orderRow 15 = .ok (.iload 4, 2) := by decide +kernel
theorem dX3_orderRow_17 : decode cX3_orderRow 17 = .ok (.sipush 131, 3) := by decide +kernel
theorem dX3_orderRow_20 : decode cX3_orderRow 20 = .ok (.if_icmp .ge 30, 3) := by decide +kernel
theorem dX3_orderRow_23 : decode cX3_orderRow 23 = .ok (.aload_n 0, 1) := by decide +kernel
theorem dX3_orderRow_24 : decode cX3_orderRow 24 = .ok (.getfield 33, 3) := by decide +kernel
theorem dX3_orderRow_27 : decode cX3_orderRow 27 = .ok (.iload 4, 2) := by decide +kernel
theorem dX3_orderRow_29 : decode cX3_orderRow 29 = .ok (.iload 4, 2) := by decide +kernel
theorem dX3_orderRow_31 : decode cX3_orderRow 31 = .ok (.iastore, 1) := by decide +kernel
theorem dX3_orderRow_32 : decode cX3_orderRow 32 = .ok (.iload_n 3, 1) := by decide +kernel
theorem dX3_orderRow_33 : decode cX3_orderRow 33 = .ok (.aload_n 0, 1) := by decide +kernel
theorem dX3_orderRow_34 : decode cX3_orderRow 34 = .ok (.getfield 30, 3) := by decide +kernel
theorem dX3_orderRow_37 : decode cX3_orderRow 37 = .ok (.iload 4, 2) := by decide +kernel
theorem dX3_orderRow_39 : decode cX3_orderRow 39 = .ok (.iaload, 1) := by decide +kernel
theorem dX3_orderRow_40 : decode cX3_orderRow 40 = .ok (.invokestatic 118, 3) := by decide +kernel
theorem dX3_orderRow_43 : decode cX3_orderRow 43 = .ok (.istore_n 3, 1) := by decide +kernel
theorem dX3_orderRow_44 : decode cX3_orderRow 44 = .ok (.iinc 4 1, 3) := by decide +kernel
theorem dX3_orderRow_47 : decode cX3_orderRow 47 = .ok (.goto (-38), 3) := by decide +kernel
theorem dX3_orderRow_50 : decode cX3_orderRow 50 = .ok (.iload_n 3, 1) := by decide +kernel
theorem dX3_orderRow_51 : decode cX3_orderRow 51 = .ok (.istore 4, 2) := by decide +kernel
theorem dX3_orderRow_53 : decode cX3_orderRow 53 = .ok (.iload 4, 2) := by decide +kernel
theorem dX3_orderRow_55 : decode cX3_orderRow 55 = .ok (.ifCond .le 62, 3) := by decide +kernel
theorem dX3_orderRow_58 : decode cX3_orderRow 58 = .ok (.iload_n 1, 1) := by decide +kernel
theorem dX3_orderRow_59 : decode cX3_orderRow 59 = .ok (.istore 5, 2) := by decide +kernel
theorem dX3_orderRow_61 : decode cX3_orderRow 61 = .ok (.iload 5, 2) := by decide +kernel
theorem dX3_orderRow_63 : decode cX3_orderRow 63 = .ok (.iload_n 2, 1) := by decide +kernel
theorem dX3_orderRow_64 : decode cX3_orderRow 64 = .ok (.if_icmp .ge 47, 3) := by decide +kernel
theorem dX3_orderRow_67 : decode cX3_orderRow 67 = .ok (.iload 5, 2) := by decide +kernel
theorem dX3_orderRow_69 : decode cX3_orderRow 69 = .ok (.istore 6, 2) := by decide +kernel
theorem dX3_orderRow_71 : decode cX3_orderRow 71 = .ok (.iload 6, 2) := by decide +kernel
theorem dX3_orderRow_73 : decode cX3_orderRow 73 = .ok (.iload_n 2, 1) := by decide +kernel
theorem dX3_orderRow_74 : decode cX3_orderRow 74 = .ok (.if_icmp .ge 20, 3) := by decide +kernel
theorem dX3_orderRow_77 : decode cX3_orderRow 77 = .ok (.aload_n 0, 1) := by decide +kernel
theorem dX3_orderRow_78 : decode cX3_orderRow 78 = .ok (.iload 6, 2) := by decide +kernel
theorem dX3_orderRow_80 : decode cX3_orderRow 80 = .ok (.invokevirtual 150, 3) := by decide +kernel
theorem dX3_orderRow_83 : decode cX3_orderRow 83 = .ok (.iload 4, 2) := by decide +kernel
theorem dX3_orderRow_85 : decode cX3_orderRow 85 = .ok (.if_icmp .lt 9, 3) := by decide +kernel
theorem dX3_orderRow_88 : decode cX3_orderRow 88 = .ok (.iinc 6 1, 3) := by decide +kernel
theorem dX3_orderRow_91 : decode cX3_orderRow 91 = .ok (.goto (-20), 3) := by decide +kernel
theorem dX3_orderRow_94 : decode cX3_orderRow 94 = .ok (.aload_n 0, 1) := by decide +kernel
theorem dX3_orderRow_95 : decode cX3_orderRow 95 = .ok (.iload 5, 2) := by decide +kernel
theorem dX3_orderRow_97 : decode cX3_orderRow 97 = .ok (.iload 6, 2) := by decide +kernel
theorem dX3_orderRow_99 : decode cX3_orderRow 99 = .ok (.invokevirtual 153, 3) := by decide +kernel
theorem dX3_orderRow_102 : decode cX3_orderRow 102 = .ok (.iload 6, 2) := by decide +kernel
theorem dX3_orderRow_104 : decode cX3_orderRow 104 = .ok (.iconst 1, 1) := by decide +kernel
theorem dX3_orderRow_105 : decode cX3_orderRow 105 = .ok (.iadd, 1) := by decide +kernel
theorem dX3_orderRow_106 : decode cX3_orderRow 106 = .ok (.istore 5, 2) := by decide +kernel
theorem dX3_orderRow_108 : decode cX3_orderRow 108 = .ok (.goto (-47), 3) := by decide +kernel
theorem dX3_orderRow_111 : decode cX3_orderRow 111 = .ok (.iinc 4 (-1), 3) := by decide +kernel
theorem dX3_orderRow_114 : decode cX3_orderRow 114 = .ok (.goto (-61), 3) := by decide +kernel
theorem dX3_orderRow_117 : decode cX3_orderRow 117 = .ok (.return_, 1) := by decide +kernel
theorem dX3_levelOnScreen_0 : decode cX3_levelOnScreen 0 = .ok (.iload_n 1, 1) := by decide +kernel
theorem dX3_levelOnScreen_1 : decode cX3_levelOnScreen 1 = .ok (.ifCond .lt 19, 3) := by decide +kernel
theorem dX3_levelOnScreen_4 : decode cX3_levelOnScreen 4 = .ok (.iload_n 1, 1) := by decide +kernel
theorem dX3_levelOnScreen_5 : decode cX3_levelOnScreen 5 = .ok (.sipush 131, 3) := by decide +kernel
theorem dX3_levelOnScreen_8 : decode cX3_levelOnScreen 8 = .ok (.if_icmp .ge 12, 3) := by decide +kernel
theorem dX3_levelOnScreen_11 : decode cX3_levelOnScreen 11 = .ok (.aload_n 0, 1) := by decide +kernel
theorem dX3_levelOnScreen_12 : decode cX3_levelOnScreen 12 = .ok (.getfield 33, 3) := by decide +kernel
theorem dX3_levelOnScreen_15 : decode cX3_levelOnScreen 15 = .ok (.iload_n 1, 1) := by decide +kernel
theorem dX3_levelOnScreen_16 : decode cX3_levelOnScreen 16 = .ok (.iaload, 1) := by decide +kernel
theorem dX3_levelOnScreen_17 : decode cX3_levelOnScreen 17 = .ok (.goto 4, 3) := by decide +kernel
theorem dX3_levelOnScreen_20 : decode cX3_levelOnScreen 20 = .ok (.iconst (-1), 1) := by decide +kernel
theorem dX3_levelOnScreen_21 : decode cX3_levelOnScreen 21 = .ok (.istore_n 2, 1) := by decide +kernel
theorem dX3_levelOnScreen_22 : decode cX3_levelOnScreen 22 = .ok (.iload_n 2, 1) := by decide +kernel
theorem dX3_levelOnScreen_23 : decode cX3_levelOnScreen 23 = .ok (.ifCond .lt 19, 3) := by decide +kernel
theorem dX3_levelOnScreen_26 : decode cX3_levelOnScreen 26 = .ok (.iload_n 2, 1) := by decide +kernel
theorem dX3_levelOnScreen_27 : decode cX3_levelOnScreen 27 = .ok (.sipush 131, 3) := by decide +kernel
theorem dX3_levelOnScreen_30 : decode cX3_levelOnScreen 30 = .ok (.if_icmp .ge 12, 3) := by decide +kernel
theorem dX3_levelOnScreen_33 : decode cX3_levelOnScreen 33 = .ok (.aload_n 0, 1) := by decide +kernel
theorem dX3_levelOnScreen_34 : decode cX3_levelOnScreen 34 = .ok (.getfield 30, 3) := by decide +kernel
theorem dX3_levelOnScreen_37 : decode cX3_levelOnScreen 37 = .ok (.iload_n 2, 1) := by decide +kernel
theorem dX3_levelOnScreen_38 : decode cX3_levelOnScreen 38 = .ok (.iaload, 1) := by decide +kernel
theorem dX3_levelOnScreen_39 : decode cX3_levelOnScreen 39 = .ok (.goto 4, 3) := by decide +kernel
theorem dX3_levelOnScreen_42 : decode cX3_levelOnScreen 42 = .ok (.iconst (-1), 1) := by decide +kernel
theorem dX3_levelOnScreen_43 : decode cX3_levelOnScreen 43 = .ok (.ireturn, 1) := by decide +kernel
theorem dX3_turnRound_0 : decode cX3_turnRound 0 = .ok (.iload_n 1, 1) := by decide +kernel
theorem dX3_turnRound_1 : decode cX3_turnRound 1 = .ok (.istore_n 3, 1) := by decide +kernel
theorem dX3_turnRound_2 : decode cX3_turnRound 2 = .ok (.iload_n 2, 1) := by decide +kernel
theorem dX3_turnRound_3 : decode cX3_turnRound 3 = .ok (.iconst 1, 1) := by decide +kernel
theorem dX3_turnRound_4 : decode cX3_turnRound 4 = .ok (.isub, 1) := by decide +kernel
theorem dX3_turnRound_5 : decode cX3_turnRound 5 = .ok (.istore 4, 2) := by decide +kernel
theorem dX3_turnRound_7 : decode cX3_turnRound 7 = .ok (.iload_n 3, 1) := by decide +kernel
theorem dX3_turnRound_8 : decode cX3_turnRound 8 = .ok (.ifCond .lt 56, 3) := by decide +kernel
theorem dX3_turnRound_11 : decode cX3_turnRound 11 = .ok (.iload_n 3, 1) := by decide +kernel
theorem dX3_turnRound_12 : decode cX3_turnRound 12 = .ok (.iload 4, 2) := by decide +kernel
theorem dX3_turnRound_14 : decode cX3_turnRound 14 = .ok (.if_icmp .ge 50, 3) := by decide +kernel
theorem dX3_turnRound_17 : decode cX3_turnRound 17 = .ok (.iload 4, 2) := by decide +kernel
theorem dX3_turnRound_19 : decode cX3_turnRound 19 = .ok (.sipush 131, 3) := by decide +kernel
theorem dX3_turnRound_22 : decode cX3_turnRound 22 = .ok (.if_icmp .ge 42, 3) := by decide +kernel
theorem dX3_turnRound_25 : decode cX3_turnRound 25 = .ok (.aload_n 0, 1) := by decide +kernel
theorem dX3_turnRound_26 : decode cX3_turnRound 26 = .ok (.getfield 33, 3) := by decide +kernel
theorem dX3_turnRound_29 : decode cX3_turnRound 29 = .ok (.iload_n 3, 1) := by decide +kernel
theorem dX3_turnRound_30 : decode cX3_turnRound 30 = .ok (.iaload, 1) := by decide +kernel
theorem dX3_turnRound_31 : decode cX3_turnRound 31 = .ok (.istore 5, 2) := by decide +kernel
theorem dX3_turnRound_33 : decode cX3_turnRound 33 = .ok (.aload_n 0, 1) := by decide +kernel
theorem dX3_turnRound_34 : decode cX3_turnRound 34 = .ok (.getfield 33, 3) := by decide +kernel
theorem dX3_turnRound_37 : decode cX3_turnRound 37 = .ok (.iload_n 3, 1) := by decide +kernel
theorem dX3_turnRound_38 : decode cX3_turnRound 38 = .ok (.aload_n 0, 1) := by decide +kernel
theorem dX3_turnRound_39 : decode cX3_turnRound 39 = .ok (.getfield 33, 3) := by decide +kernel
theorem dX3_turnRound_42 : decode cX3_turnRound 42 = .ok (.iload 4, 2) := by decide +kernel
theorem dX3_turnRound_44 : decode cX3_turnRound 44 = .ok (.iaload, 1) := by decide +kernel
theorem dX3_turnRound_45 : decode cX3_turnRound 45 = .ok (.iastore, 1) := by decide +kernel
theorem dX3_turnRound_46 : decode cX3_turnRound 46 = .ok (.aload_n 0, 1) := by decide +kernel
theorem dX3_turnRound_47 : decode cX3_turnRound 47 = .ok (.getfield 33, 3) := by decide +kernel
theorem dX3_turnRound_50 : decode cX3_turnRound 50 = .ok (.iload 4, 2) := by decide +kernel
theorem dX3_turnRound_52 : decode cX3_turnRound 52 = .ok (.iload 5, 2) := by decide +kernel
theorem dX3_turnRound_54 : decode cX3_turnRound 54 = .ok (.iastore, 1) := by decide +kernel
theorem dX3_turnRound_55 : decode cX3_turnRound 55 = .ok (.iinc 3 1, 3) := by decide +kernel
theorem dX3_turnRound_58 : decode cX3_turnRound 58 = .ok (.iinc 4 (-1), 3) := by decide +kernel
theorem dX3_turnRound_61 : decode cX3_turnRound 61 = .ok (.goto (-54), 3) := by decide +kernel
theorem dX3_turnRound_64 : decode cX3_turnRound 64 = .ok (.return_, 1) := by decide +kernel
theorem dX3_placeRow_0 : decode cX3_placeRow 0 = .ok (.iload_n 3, 1) := by decide +kernel
theorem dX3_placeRow_1 : decode cX3_placeRow 1 = .ok (.istore 4, 2) := by decide +kernel
theorem dX3_placeRow_3 : decode cX3_placeRow 3 = .ok (.iload_n 1, 1) := by decide +kernel
theorem dX3_placeRow_4 : decode cX3_placeRow 4 = .ok (.iconst 0, 1) := by decide +kernel
theorem dX3_placeRow_5 : decode cX3_placeRow 5 = .ok (.invokestatic 118, 3) := by decide +kernel
theorem dX3_placeRow_8 : decode cX3_placeRow 8 = .ok (.istore 5, 2) := by decide +kernel
theorem dX3_placeRow_10 : decode cX3_placeRow 10 = .ok (.iload 5, 2) := by decide +kernel
theorem dX3_placeRow_12 : decode cX3_placeRow 12 = .ok (.iload_n 2, 1) := by decide +kernel
theorem dX3_placeRow_13 : decode cX3_placeRow 13 = .ok (.if_icmp .ge 60, 3) := by decide +kernel
theorem dX3_placeRow_16 : decode cX3_placeRow 16 = .ok (.iload 5, 2) := by decide +kernel
theorem dX3_placeRow_18 : decode cX3_placeRow 18 = .ok (.sipush 131, 3) := by decide +kernel
theorem dX3_placeRow_21 : decode cX3_placeRow 21 = .ok (.if_icmp .ge 52, 3) := by decide +kernel
theorem dX3_placeRow_24 : decode cX3_placeRow 24 = .ok (.aload_n 0, 1) := by decide +kernel
theorem dX3_placeRow_25 : decode cX3_placeRow 25 = .ok (.getfield 33, 3) := by decide +kernel
theorem dX3_placeRow_28 : decode cX3_placeRow 28 = .ok (.iload 5, 2) := by decide +kernel
theorem dX3_placeRow_30 : decode cX3_placeRow 30 = .ok (.iaload, 1) := by decide +kernel
theorem dX3_placeRow_31 : decode cX3_placeRow 31 = .ok (.istore 6, 2) := by decide +kernel
theorem dX3_placeRow_33 : decode cX3_placeRow 33 = .ok (.iload 6, 2) := by decide +kernel
theorem dX3_placeRow_35 : decode cX3_placeRow 35 = .ok (.ifCond .lt 32, 3) := by decide +kernel
theorem dX3_placeRow_38 : decode cX3_placeRow 38 = .ok (.iload 6, 2) := by decide +kernel
theorem dX3_placeRow_40 : decode cX3_placeRow 40 = .ok (.sipush 131, 3) := by decide +kernel
theorem dX3_placeRow_43 : decode cX3_placeRow 43 = .ok (.if_icmp .ge 24, 3) := by decide +kernel
theorem dX3_placeRow_46 : decode cX3_placeRow 46 = .ok (.aload_n 0, 1) := by decide +kernel
theorem dX3_placeRow_47 : decode cX3_placeRow 47 = .ok (.getfield 27, 3) := by decide +kernel
theorem dX3_placeRow_50 : decode cX3_placeRow 50 = .ok (.iload 6, 2) := by decide +kernel
theorem dX3_placeRow_52 : decode cX3_placeRow 52 = .ok (.iload 4, 2) := by decide +kernel
theorem dX3_placeRow_54 : decode cX3_placeRow 54 = .ok (.iastore, 1) := by decide +kernel
theorem dX3_placeRow_55 : decode cX3_placeRow 55 = .ok (.iload 4, 2) := by decide +kernel
theorem dX3_placeRow_57 : decode cX3_placeRow 57 = .ok (.aload_n 0, 1) := by decide +kernel
theorem dX3_placeRow_58 : decode cX3_placeRow 58 = .ok (.getfield 24, 3) := by decide +kernel
theorem dX3_placeRow_61 : decode cX3_placeRow 61 = .ok (.iload 6, 2) := by decide +kernel
theorem dX3_placeRow_63 : decode cX3_placeRow 63 = .ok (.iaload, 1) := by decide +kernel
theorem dX3_placeRow_64 : decode cX3_placeRow 64 = .ok (.iadd, 1) := by decide +kernel
theorem dX3_placeRow_65 : decode cX3_placeRow 65 = .ok (.istore 4, 2) := by decide +kernel
theorem dX3_placeRow_67 : decode cX3_placeRow 67 = .ok (.iinc 5 1, 3) := by decide +kernel
theorem dX3_placeRow_70 : decode cX3_placeRow 70 = .ok (.goto (-60), 3) := by decide +kernel
theorem dX3_placeRow_73 : decode cX3_placeRow 73 = .ok (.return_, 1) := by decide +kernel
theorem dX3_onScreen_0 : decode cX3_onScreen 0 = .ok (.aload_n 0, 1) := by decide +kernel
theorem dX3_onScreen_1 : decode cX3_onScreen 1 = .ok (.iload_n 1, 1) := by decide +kernel
theorem dX3_onScreen_2 : decode cX3_onScreen 2 = .ok (.invokevirtual 130, 3) := by decide +kernel
theorem dX3_onScreen_5 : decode cX3_onScreen 5 = .ok (.iload_n 2, 1) := by decide +kernel
theorem dX3_onScreen_6 : decode cX3_onScreen 6 = .ok (.iadd, 1) := by decide +kernel
theorem dX3_onScreen_7 : decode cX3_onScreen 7 = .ok (.istore_n 3, 1) := by decide +kernel
theorem dX3_onScreen_8 : decode cX3_onScreen 8 = .ok (.iload_n 2, 1) := by decide +kernel
theorem dX3_onScreen_9 : decode cX3_onScreen 9 = .ok (.ifCond .lt 32, 3) := by decide +kernel
theorem dX3_onScreen_12 : decode cX3_onScreen 12 = .ok (.iload_n 2, 1) := by decide +kernel
theorem dX3_onScreen_13 : decode cX3_onScreen 13 = .ok (.aload_n 0, 1) := by decide +kernel
theorem dX3_onScreen_14 : decode cX3_onScreen 14 = .ok (.iload_n 1, 1) := by decide +kernel
theorem dX3_onScreen_15 : decode cX3_onScreen 15 = .ok (.invokevirtual 156, 3) := by decide +kernel
theorem dX3_onScreen_18 : decode cX3_onScreen 18 = .ok (.if_icmp .ge 23, 3) := by decide +kernel
theorem dX3_onScreen_21 : decode cX3_onScreen 21 = .ok (.iload_n 3, 1) := by decide +kernel
theorem dX3_onScreen_22 : decode cX3_onScreen 22 = .ok (.ifCond .lt 19, 3) := by decide +kernel
theorem dX3_onScreen_25 : decode cX3_onScreen 25 = .ok (.iload_n 3, 1) := by decide +kernel
theorem dX3_onScreen_26 : decode cX3_onScreen 26 = .ok (.sipush 131, 3) := by decide +kernel
theorem dX3_onScreen_29 : decode cX3_onScreen 29 = .ok (.if_icmp .ge 12, 3) := by decide +kernel
theorem dX3_onScreen_32 : decode cX3_onScreen 32 = .ok (.aload_n 0, 1) := by decide +kernel
theorem dX3_onScreen_33 : decode cX3_onScreen 33 = .ok (.getfield 33, 3) := by decide +kernel
theorem dX3_onScreen_36 : decode cX3_onScreen 36 = .ok (.iload_n 3, 1) := by decide +kernel
theorem dX3_onScreen_37 : decode cX3_onScreen 37 = .ok (.iaload, 1) := by decide +kernel
theorem dX3_onScreen_38 : decode cX3_onScreen 38 = .ok (.goto 4, 3) := by decide +kernel
theorem dX3_onScreen_41 : decode cX3_onScreen 41 = .ok (.iconst (-1), 1) := by decide +kernel
theorem dX3_onScreen_42 : decode cX3_onScreen 42 = .ok (.ireturn, 1) := by decide +kernel
theorem dX3_tell_0 : decode cX3_tell 0 = .ok (.iload_n 1, 1) := by decide +kernel
theorem dX3_tell_1 : decode cX3_tell 1 = .ok (.ifCond .lt 10, 3) := by decide +kernel
theorem dX3_tell_4 : decode cX3_tell 4 = .ok (.iload_n 1, 1) := by decide +kernel
theorem dX3_tell_5 : decode cX3_tell 5 = .ok (.sipush 131, 3) := by decide +kernel
theorem dX3_tell_8 : decode cX3_tell 8 = .ok (.if_icmp .lt 5, 3) := by decide +kernel
theorem dX3_tell_11 : decode cX3_tell 11 = .ok (.iconst (-1), 1) := by decide +kernel
theorem dX3_tell_12 : decode cX3_tell 12 = .ok (.ireturn, 1) := by decide +kernel
theorem dX3_tell_13 : decode cX3_tell 13 = .ok (.iload_n 2, 1) := by decide +kernel
theorem dX3_tell_14 : decode cX3_tell 14 = .ok (.tableswitch 69 0 4 #[34, 41, 48, 55, 62], 34) := by decide +kernel
theorem dX3_tell_48 : decode cX3_tell 48 = .ok (.aload_n 0, 1) := by decide +kernel
theorem dX3_tell_49 : decode cX3_tell 49 = .ok (.getfield 9, 3) := by decide +kernel
theorem dX3_tell_52 : decode cX3_tell 52 = .ok (.iload_n 1, 1) := by decide +kernel
theorem dX3_tell_53 : decode cX3_tell 53 = .ok (.iaload, 1) := by decide +kernel
theorem dX3_tell_54 : decode cX3_tell 54 = .ok (.ireturn, 1) := by decide +kernel
theorem dX3_tell_55 : decode cX3_tell 55 = .ok (.aload_n 0, 1) := by decide +kernel
theorem dX3_tell_56 : decode cX3_tell 56 = .ok (.getfield 15, 3) := by decide +kernel
theorem dX3_tell_59 : decode cX3_tell 59 = .ok (.iload_n 1, 1) := by decide +kernel
theorem dX3_tell_60 : decode cX3_tell 60 = .ok (.iaload, 1) := by decide +kernel
theorem dX3_tell_61 : decode cX3_tell 61 = .ok (.ireturn, 1) := by decide +kernel
theorem dX3_tell_62 : decode cX3_tell 62 = .ok (.aload_n 0, 1) := by decide +kernel
theorem dX3_tell_63 : decode cX3_tell 63 = .ok (.getfield 27, 3) := by decide +kernel
theorem dX3_tell_66 : decode cX3_tell 66 = .ok (.iload_n 1, 1) := by decide +kernel
theorem dX3_tell_67 : decode cX3_tell 67 = .ok (.iaload, 1) := by decide +kernel
theorem dX3_tell_68 : decode cX3_tell 68 = .ok (.ireturn, 1) := by decide +kernel
theorem dX3_tell_69 : decode cX3_tell 69 = .ok (.aload_n 0, 1) := by decide +kernel
theorem dX3_tell_70 : decode cX3_tell 70 = .ok (.getfield 24, 3) := by decide +kernel
theorem dX3_tell_73 : decode cX3_tell 73 = .ok (.iload_n 1, 1) := by decide +kernel
theorem dX3_tell_74 : decode cX3_tell 74 = .ok (.iaload, 1) := by decide +kernel
theorem dX3_tell_75 : decode cX3_tell 75 = .ok (.ireturn, 1) := by decide +kernel
theorem dX3_tell_76 : decode cX3_tell 76 = .ok (.aload_n 0, 1) := by decide +kernel
theorem dX3_tell_77 : decode cX3_tell 77 = .ok (.getfield 30, 3) := by decide +kernel
theorem dX3_tell_80 : decode cX3_tell 80 = .ok (.iload_n 1, 1) := by decide +kernel
theorem dX3_tell_81 : decode cX3_tell 81 = .ok (.iaload, 1) := by decide +kernel
theorem dX3_tell_82 : decode cX3_tell 82 = .ok (.ireturn, 1) := by decide +kernel
theorem dX3_tell_83 : decode cX3_tell 83 = .ok (.aload_n 0, 1) := by decide +kernel
theorem dX3_tell_84 : decode cX3_tell 84 = .ok (.getfield 18, 3) := by decide +kernel
theorem dX3_tell_87 : decode cX3_tell 87 = .ok (.iload_n 1, 1) := by decide +kernel
theorem dX3_tell_88 : decode cX3_tell 88 = .ok (.iaload, 1) := by decide +kernel
theorem dX3_tell_89 : decode cX3_tell 89 = .ok (.ireturn, 1) := by decide +kernel
theorem dX3_edgeAt_0 : decode cX3_edgeAt 0 = .ok (.iconst (-1), 1) := by decide +kernel
theorem dX3_edgeAt_1 : decode cX3_edgeAt 1 = .ok (.istore_n 3, 1) := by decide +kernel
theorem dX3_edgeAt_2 : decode cX3_edgeAt 2 = .ok (.iconst (-1), 1) := by decide +kernel
theorem dX3_edgeAt_3 : decode cX3_edgeAt 3 = .ok (.istore 4, 2) := by decide +kernel
theorem dX3_edgeAt_5 : decode cX3_edgeAt 5 = .ok (.iconst (-1), 1) := by decide +kernel
theorem dX3_edgeAt_6 : decode cX3_edgeAt 6 = .ok (.istore 5, 2) := by decide +kernel
theorem dX3_edgeAt_8 : decode cX3_edgeAt 8 = .ok (.iconst 0, 1) := by decide +kernel
theorem dX3_edgeAt_9 : decode cX3_edgeAt 9 = .ok (.istore 6, 2) := by decide +kernel
theorem dX3_edgeAt_11 : decode cX3_edgeAt 11 = .ok (.iload 6, 2) := by decide +kernel
theorem dX3_edgeAt_13 : decode cX3_edgeAt 13 = .ok (.aload_n 0, 1) := by decide +kernel
theorem dX3_edgeAt_14 : decode cX3_edgeAt 14 = .ok (.getfield 39, 3) := by decide +kernel
theorem dX3_edgeAt_17 : decode cX3_edgeAt 17 = .ok (.if_icmp .ge 122, 3) := by decide +kernel
theorem dX3_edgeAt_20 : decode cX3_edgeAt 20 = .ok (.iload 6, 2) := by decide +kernel
theorem dX3_edgeAt_22 : decode cX3_edgeAt 22 = .ok (.sipush 131, 3) := by decide +kernel
theorem dX3_edgeAt_25 : decode cX3_edgeAt 25 = .ok (.if_icmp .ge 114, 3) := by decide +kernel
theorem dX3_edgeAt_28 : decode cX3_edgeAt 28 = .ok (.aload_n 0, 1) := by decide +kernel
theorem dX3_edgeAt_29 : decode cX3_edgeAt 29 = .ok (.getfield 18, 3) := by decide +kernel
theorem dX3_edgeAt_32 : decode cX3_edgeAt 32 = .ok (.iload 6, 2) := by decide +kernel
theorem dX3_edgeAt_34 : decode cX3_edgeAt 34 = .ok (.iaload, 1) := by decide +kernel
theorem dX3_edgeAt_35 : decode cX3_edgeAt 35 = .ok (.iconst (-1), 1) := by decide +kernel
theorem dX3_edgeAt_36 : decode cX3_edgeAt 36 = .ok (.if_icmp .eq 97, 3) := by decide +kernel
theorem dX3_edgeAt_39 : decode cX3_edgeAt 39 = .ok (.iload_n 3, 1) := by decide +kernel
theorem dX3_edgeAt_40 : decode cX3_edgeAt 40 = .ok (.iconst (-1), 1) := by decide +kernel
theorem dX3_edgeAt_41 : decode cX3_edgeAt 41 = .ok (.if_icmp .ne 8, 3) := by decide +kernel
theorem dX3_edgeAt_44 : decode cX3_edgeAt 44 = .ok (.iload 6, 2) := by decide +kernel
theorem dX3_edgeAt_46 : decode cX3_edgeAt 46 = .ok (.goto 4, 3) := by decide +kernel
theorem dX3_edgeAt_49 : decode cX3_edgeAt 49 = .ok (.iload_n 3, 1) := by decide +kernel
theorem dX3_edgeAt_50 : decode cX3_edgeAt 50 = .ok (.istore_n 3, 1) := by decide +kernel
theorem dX3_edgeAt_51 : decode cX3_edgeAt 51 = .ok (.iload 6, 2) := by decide +kernel
theorem dX3_edgeAt_53 : decode cX3_edgeAt 53 = .ok (.istore 4, 2) := by decide +kernel
theorem dX3_edgeAt_55 : decode cX3_edgeAt 55 = .ok (.iload_n 2, 1) := by decide +kernel
theorem dX3_edgeAt_56 : decode cX3_edgeAt 56 = .ok (.ifCond .ne 24, 3) := by decide +kernel
theorem dX3_edgeAt_59 : decode cX3_edgeAt 59 = .ok (.iload 5, 2) := by decide +kernel
theorem dX3_edgeAt_61 : decode cX3_edgeAt 61 = .ok (.iconst (-1), 1) := by decide +kernel
theorem dX3_edgeAt_62 : decode cX3_edgeAt 62 = .ok (.if_icmp .ne 18, 3) := by decide +kernel
theorem dX3_edgeAt_65 : decode cX3_edgeAt 65 = .ok (.aload_n 0, 1) := by decide +kernel
theorem dX3_edgeAt_66 : decode cX3_edgeAt 66 = .ok (.getfield 18, 3) := by decide +kernel
theorem dX3_edgeAt_69 : decode cX3_edgeAt 69 = .ok (.iload 6, 2) := by decide +kernel
theorem dX3_edgeAt_71 : decode cX3_edgeAt 71 = .ok (.iaload, 1) := by decide +kernel
theorem dX3_edgeAt_72 : decode cX3_edgeAt 72 = .ok (.iload_n 1, 1) := by decide +kernel
theorem dX3_edgeAt_73 : decode cX3_edgeAt 73 = .ok (.if_icmp .lt 7, 3) := by decide +kernel
theorem dX3_edgeAt_76 : decode cX3_edgeAt 76 = .ok (.iconst 1, 1) := by decide +kernel
theorem dX3_edgeAt_77 : decode cX3_edgeAt 77 = .ok (.goto 4, 3) := by decide +kernel
theorem dX3_edgeAt_80 : decode cX3_edgeAt 80 = .ok (.iconst 0, 1) := by decide +kernel
theorem dX3_edgeAt_81 : decode cX3_edgeAt 81 = .ok (.istore 7, 2) := by decide +kernel
theorem dX3_edgeAt_83 : decode cX3_edgeAt 83 = .ok (.iload_n 2, 1) := by decide +kernel
theorem dX3_edgeAt_84 : decode cX3_edgeAt 84 = .ok (.iconst 1, 1) := by decide +kernel
theorem dX3_edgeAt_85 : decode cX3_edgeAt 85 = .ok (.if_icmp .ne 26, 3) := by decide +kernel
theorem dX3_edgeAt_88 : decode cX3_edgeAt 88 = .ok (.aload_n 0, 1) := by decide +kernel
theorem dX3_edgeAt_89 : decode cX3_edgeAt 89 = .ok (.getfield 18, 3) := by decide +kernel
theorem dX3_edgeAt_92 : decode cX3_edgeAt 92 = .ok (.iload 6, 2) := by decide +kernel
theorem dX3_edgeAt_94 : decode cX3_edgeAt 94 = .ok (.iaload, 1) := by decide +kernel
theorem dX3_edgeAt_95 : decode cX3_edgeAt 95 = .ok (.aload_n 0, 1) := by decide +kernel
theorem dX3_edgeAt_96 : decode cX3_edgeAt 96 = .ok (.getfield 15, 3) := by decide +kernel
theorem dX3_edgeAt_99 : decode cX3_edgeAt 99 = .ok (.iload 6, 2) := by decide +kernel
theorem dX3_edgeAt_101 : decode cX3_edgeAt 101 = .ok (.iaload, 1) := by decide +kernel
theorem dX3_edgeAt_102 : decode cX3_edgeAt 102 = .ok (.iadd, 1) := by decide +kernel
theorem dX3_edgeAt_103 : decode cX3_edgeAt 103 = .ok (.iload_n 1, 1) := by decide +kernel
theorem dX3_edgeAt_104 : decode cX3_edgeAt 104 = .ok (.if_icmp .gt 7, 3) := by decide +kernel
theorem dX3_edgeAt_107 : decode cX3_edgeAt 107 = .ok (.iconst 1, 1) := by decide +kernel
theorem dX3_edgeAt_108 : decode cX3_edgeAt 108 = .ok (.goto 4, 3) := by decide +kernel
theorem dX3_edgeAt_111 : decode cX3_edgeAt 111 = .ok (.iconst 0, 1) := by decide +kernel
theorem dX3_edgeAt_112 : decode cX3_edgeAt 112 = .ok (.istore 8, 2) := by decide +kernel
theorem dX3_edgeAt_114 : decode cX3_edgeAt 114 = .ok (.iload 7, 2) := by decide +kernel
theorem dX3_edgeAt_116 : decode cX3_edgeAt 116 = .ok (.ifCond .ne 8, 3) := by decide +kernel
theorem dX3_edgeAt_119 : decode cX3_edgeAt 119 = .ok (.iload 8, 2) := by decide +kernel
theorem dX3_edgeAt_121 : decode cX3_edgeAt 121 = .ok (.ifCond .eq 8, 3) := by decide +kernel
theorem dX3_edgeAt_124 : decode cX3_edgeAt 124 = .ok (.iload 6, 2) := by decide +kernel
theorem dX3_edgeAt_126 : decode cX3_edgeAt 126 = .ok (.goto 5, 3) := by decide +kernel
theorem dX3_edgeAt_129 : decode cX3_edgeAt 129 = .ok (.iload 5, 2) := by decide +kernel
theorem dX3_edgeAt_131 : decode cX3_edgeAt 131 = .ok (.istore 5, 2) := by decide +kernel
theorem dX3_edgeAt_133 : decode cX3_edgeAt 133 = .ok (.iinc 6 1, 3) := by decide +kernel
theorem dX3_edgeAt_136 : decode cX3_edgeAt 136 = .ok (.goto (-125), 3) := by decide +kernel
theorem dX3_edgeAt_139 : decode cX3_edgeAt 139 = .ok (.iload_n 3, 1) := by decide +kernel
theorem dX3_edgeAt_140 : decode cX3_edgeAt 140 = .ok (.iconst (-1), 1) := by decide +kernel
theorem dX3_edgeAt_141 : decode cX3_edgeAt 141 = .ok (.if_icmp .ne 5, 3) := by decide +kernel
theorem dX3_edgeAt_144 : decode cX3_edgeAt 144 = .ok (.iconst (-1), 1) := by decide +kernel
theorem dX3_edgeAt_145 : decode cX3_edgeAt 145 = .ok (.ireturn, 1) := by decide +kernel
theorem dX3_edgeAt_146 : decode cX3_edgeAt 146 = .ok (.iload_n 2, 1) := by decide +kernel
theorem dX3_edgeAt_147 : decode cX3_edgeAt 147 = .ok (.ifCond .ne 23, 3) := by decide +kernel
theorem dX3_edgeAt_150 : decode cX3_edgeAt 150 = .ok (.iload 5, 2) := by decide +kernel
theorem dX3_edgeAt_152 : decode cX3_edgeAt 152 = .ok (.iconst (-1), 1) := by decide +kernel
theorem dX3_edgeAt_153 : decode cX3_edgeAt 153 = .ok (.if_icmp .ne 12, 3) := by decide +kernel
theorem dX3_edgeAt_156 : decode cX3_edgeAt 156 = .ok (.iconst 2, 1) := by decide +kernel
theorem dX3_edgeAt_157 : decode cX3_edgeAt 157 = .ok (.iload 4, 2) := by decide +kernel
theorem dX3_edgeAt_159 : decode cX3_edgeAt 159 = .ok (.imul, 1) := by decide +kernel
theorem dX3_edgeAt_160 : decode cX3_edgeAt 160 = .ok (.iconst 1, 1) := by decide +kernel
theorem dX3_edgeAt_161 : decode cX3_edgeAt 161 = .ok (.iadd, 1) := by decide +kernel
theorem dX3_edgeAt_162 : decode cX3_edgeAt 162 = .ok (.goto 7, 3) := by decide +kernel
theorem dX3_edgeAt_165 : decode cX3_edgeAt 165 = .ok (.iconst 2, 1) := by decide +kernel
theorem dX3_edgeAt_166 : decode cX3_edgeAt 166 = .ok (.iload 5, 2) := by decide +kernel
theorem dX3_edgeAt_168 : decode cX3_edgeAt 168 = .ok (.imul, 1) := by decide +kernel
theorem dX3_edgeAt_169 : decode cX3_edgeAt 169 = .ok (.ireturn, 1) := by decide +kernel
theorem dX3_edgeAt_170 : decode cX3_edgeAt 170 = .ok (.iload 5, 2) := by decide +kernel
theorem dX3_edgeAt_172 : decode cX3_edgeAt 172 = .ok (.iconst (-1), 1) := by decide +kernel
theorem dX3_edgeAt_173 : decode cX3_edgeAt 173 = .ok (.if_icmp .ne 9, 3) := by decide +kernel
theorem dX3_edgeAt_176 : decode cX3_edgeAt 176 = .ok (.iconst 2, 1) := by decide +kernel
theorem dX3_edgeAt_177 : decode cX3_edgeAt 177 = .ok (.iload_n 3, 1) := by decide +kernel
theorem dX3_edgeAt_178 : decode cX3_edgeAt 178 = .ok (.imul, 1) := by decide +kernel
theorem dX3_edgeAt_179 : decode cX3_edgeAt 179 = .ok (.goto 9, 3) := by decide +kernel
theorem dX3_edgeAt_182 : decode cX3_edgeAt 182 = .ok (.iconst 2, 1) := by decide +kernel
theorem dX3_edgeAt_183 : decode cX3_edgeAt 183 = .ok (.iload 5, 2) := by decide +kernel
theorem dX3_edgeAt_185 : decode cX3_edgeAt 185 = .ok (.imul, 1) := by decide +kernel
theorem dX3_edgeAt_186 : decode cX3_edgeAt 186 = .ok (.iconst 1, 1) := by decide +kernel
theorem dX3_edgeAt_187 : decode cX3_edgeAt 187 = .ok (.iadd, 1) := by decide +kernel
theorem dX3_edgeAt_188 : decode cX3_edgeAt 188 = .ok (.ireturn, 1) := by decide +kernel
theorem dX3_rowOfEdge_0 : decode cX3_rowOfEdge 0 = .ok (.iconst 0, 1) := by decide +kernel
theorem dX3_rowOfEdge_1 : decode cX3_rowOfEdge 1 = .ok (.istore_n 2, 1) := by decide +kernel
theorem dX3_rowOfEdge_2 : decode cX3_rowOfEdge 2 = .ok (.iload_n 1, 1) := by decide +kernel
theorem dX3_rowOfEdge_3 : decode cX3_rowOfEdge 3 = .ok (.iconst (-1), 1) := by decide +kernel
theorem dX3_rowOfEdge_4 : decode cX3_rowOfEdge 4 = .ok (.if_icmp .eq 32, 3) := by decide +kernel
theorem dX3_rowOfEdge_7 : decode cX3_rowOfEdge 7 = .ok (.iload_n 2, 1) := by decide +kernel
theorem dX3_rowOfEdge_8 : decode cX3_rowOfEdge 8 = .ok (.iconst 1, 1) := by decide +kernel
theorem dX3_rowOfEdge_9 : decode cX3_rowOfEdge 9 = .ok (.iadd, 1) := by decide +kernel
theorem dX3_rowOfEdge_10 : decode cX3_rowOfEdge 10 = .ok (.aload_n 0, 1) := by decide +kernel
theorem dX3_rowOfEdge_11 : decode cX3_rowOfEdge 11 = .ok (.getfield 108, 3) := by decide +kernel
theorem dX3_rowOfEdge_14 : decode cX3_rowOfEdge 14 = .ok (.if_icmp .ge 22, 3) := by decide +kernel
theorem dX3_rowOfEdge_17 : decode cX3_rowOfEdge 17 = .ok (.aload_n 0, 1) := by decide +kernel
theorem dX3_rowOfEdge_18 : decode cX3_rowOfEdge 18 = .ok (.iload_n 2, 1) := by decide +kernel
theorem dX3_rowOfEdge_19 : decode cX3_rowOfEdge 19 = .ok (.iconst 1, 1) := by decide +kernel
theorem dX3_rowOfEdge_20 : decode cX3_rowOfEdge 20 = .ok (.iadd, 1) := by decide +kernel
theorem dX3_rowOfEdge_21 : decode cX3_rowOfEdge 21 = .ok (.invokevirtual 130, 3) := by decide +kernel
theorem dX3_rowOfEdge_24 : decode cX3_rowOfEdge 24 = .ok (.iload_n 1, 1) := by decide +kernel
theorem dX3_rowOfEdge_25 : decode cX3_rowOfEdge 25 = .ok (.iconst 2, 1) := by decide +kernel
theorem dX3_rowOfEdge_26 : decode cX3_rowOfEdge 26 = .ok (.idiv, 1) := by decide +kernel
theorem dX3_rowOfEdge_27 : decode cX3_rowOfEdge 27 = .ok (.if_icmp .gt 9, 3) := by decide +kernel
theorem dX3_rowOfEdge_30 : decode cX3_rowOfEdge 30 = .ok (.iinc 2 1, 3) := by decide +kernel
theorem dX3_rowOfEdge_33 : decode cX3_rowOfEdge 33 = .ok (.goto (-31), 3) := by decide +kernel
theorem dX3_rowOfEdge_36 : decode cX3_rowOfEdge 36 = .ok (.iload_n 2, 1) := by decide +kernel
theorem dX3_rowOfEdge_37 : decode cX3_rowOfEdge 37 = .ok (.ireturn, 1) := by decide +kernel
theorem dX3_columnOfEdge_0 : decode cX3_columnOfEdge 0 = .ok (.iload_n 1, 1) := by decide +kernel
theorem dX3_columnOfEdge_1 : decode cX3_columnOfEdge 1 = .ok (.iconst 2, 1) := by decide +kernel
theorem dX3_columnOfEdge_2 : decode cX3_columnOfEdge 2 = .ok (.idiv, 1) := by decide +kernel
theorem dX3_columnOfEdge_3 : decode cX3_columnOfEdge 3 = .ok (.istore_n 2, 1) := by decide +kernel
theorem dX3_columnOfEdge_4 : decode cX3_columnOfEdge 4 = .ok (.iload_n 1, 1) := by decide +kernel
theorem dX3_columnOfEdge_5 : decode cX3_columnOfEdge 5 = .ok (.ifCond .lt 10, 3) := by decide +kernel
theorem dX3_columnOfEdge_8 : decode cX3_columnOfEdge 8 = .ok (.iload_n 2, 1) := by decide +kernel
theorem dX3_columnOfEdge_9 : decode cX3_columnOfEdge 9 = .ok (.sipush 131, 3) := by decide +kernel
theorem dX3_columnOfEdge_12 : decode cX3_columnOfEdge 12 = .ok (.if_icmp .lt 5, 3) := by decide +kernel
theorem dX3_columnOfEdge_15 : decode cX3_columnOfEdge 15 = .ok (.iconst 0, 1) := by decide +kernel
theorem dX3_columnOfEdge_16 : decode cX3_columnOfEdge 16 = .ok (.ireturn, 1) := by decide +kernel
theorem dX3_columnOfEdge_17 : decode cX3_columnOfEdge 17 = .ok (.aload_n 0, 1) := by decide +kernel
theorem dX3_columnOfEdge_18 : decode cX3_columnOfEdge 18 = .ok (.getfield 30, 3) := by decide +kernel
theorem dX3_columnOfEdge_21 : decode cX3_columnOfEdge 21 = .ok (.iload_n 2, 1) := by decide +kernel
theorem dX3_columnOfEdge_22 : decode cX3_columnOfEdge 22 = .ok (.iaload, 1) := by decide +kernel
theorem dX3_columnOfEdge_23 : decode cX3_columnOfEdge 23 = .ok (.iload_n 1, 1) := by decide +kernel
theorem dX3_columnOfEdge_24 : decode cX3_columnOfEdge 24 = .ok (.iadd, 1) := by decide +kernel
theorem dX3_columnOfEdge_25 : decode cX3_columnOfEdge 25 = .ok (.iconst 2, 1) := by decide +kernel
theorem dX3_columnOfEdge_26 : decode cX3_columnOfEdge 26 = .ok (.irem, 1) := by decide +kernel
theorem dX3_columnOfEdge_27 : decode cX3_columnOfEdge 27 = .ok (.ifCond .ne 12, 3) := by decide +kernel
theorem dX3_columnOfEdge_30 : decode cX3_columnOfEdge 30 = .ok (.aload_n 0, 1) := by decide +kernel
theorem dX3_columnOfEdge_31 : decode cX3_columnOfEdge 31 = .ok (.getfield 27, 3) := by decide +kernel
theorem dX3_columnOfEdge_34 : decode cX3_columnOfEdge 34 = .ok (.iload_n 2, 1) := by decide +kernel
theorem dX3_columnOfEdge_35 : decode cX3_columnOfEdge 35 = .ok (.iaload, 1) := by decide +kernel
theorem dX3_columnOfEdge_36 : decode cX3_columnOfEdge 36 = .ok (.goto 16, 3) := by decide +kernel
theorem dX3_columnOfEdge_39 : decode cX3_columnOfEdge 39 = .ok (.aload_n 0, 1) := by decide +kernel
theorem dX3_columnOfEdge_40 : decode cX3_columnOfEdge 40 = .ok (.getfield 27, 3) := by decide +kernel
theorem dX3_columnOfEdge_43 : decode cX3_columnOfEdge 43 = .ok (.iload_n 2, 1) := by decide +kernel
theorem dX3_columnOfEdge_44 : decode cX3_columnOfEdge 44 = .ok (.iaload, 1) := by decide +kernel
theorem dX3_columnOfEdge_45 : decode cX3_columnOfEdge 45 = .ok (.aload_n 0, 1) := by decide +kernel
theorem dX3_columnOfEdge_46 : decode cX3_columnOfEdge 46 = .ok (.getfield 24, 3) := by decide +kernel
theorem dX3_columnOfEdge_49 : decode cX3_columnOfEdge 49 = .ok (.iload_n 2, 1) := by decide +kernel
theorem dX3_columnOfEdge_50 : decode cX3_columnOfEdge 50 = .ok (.iaload, 1) := by decide +kernel
theorem dX3_columnOfEdge_51 : decode cX3_columnOfEdge 51 = .ok (.iadd, 1) := by decide +kernel
theorem dX3_columnOfEdge_52 : decode cX3_columnOfEdge 52 = .ok (.ireturn, 1) := by decide +kernel
theorem dX3_placeUp_0 : decode cX3_placeUp 0 = .ok (.aload_n 0, 1) := by decide +kernel
theorem dX3_placeUp_1 : decode cX3_placeUp 1 = .ok (.iload_n 1, 1) := by decide +kernel
theorem dX3_placeUp_2 : decode cX3_placeUp 2 = .ok (.invokevirtual 156, 3) := by decide +kernel
theorem dX3_placeUp_5 : decode cX3_placeUp 5 = .ok (.istore_n 3, 1) := by decide +kernel
theorem dX3_placeUp_6 : decode cX3_placeUp 6 = .ok (.aload_n 0, 1) := by decide +kernel
theorem dX3_placeUp_7 : decode cX3_placeUp 7 = .ok (.iload_n 1, 1) := by decide +kernel
theorem dX3_placeUp_8 : decode cX3_placeUp 8 = .ok (.iconst 0, 1) := by decide +kernel
theorem dX3_placeUp_9 : decode cX3_placeUp 9 = .ok (.invokevirtual 159, 3) := by decide +kernel
theorem dX3_placeUp_12 : decode cX3_placeUp 12 = .ok (.istore 4, 2) := by decide +kernel
theorem dX3_placeUp_14 : decode cX3_placeUp 14 = .ok (.iconst 0, 1) := by decide +kernel
theorem dX3_placeUp_15 : decode cX3_placeUp 15 = .ok (.istore 5, 2) := by decide +kernel
theorem dX3_placeUp_17 : decode cX3_placeUp 17 = .ok (.iload 5, 2) := by decide +kernel
theorem dX3_placeUp_19 : decode cX3_placeUp 19 = .ok (.iload_n 3, 1) := by decide +kernel
theorem dX3_placeUp_20 : decode cX3_placeUp 20 = .ok (.if_icmp .ge 56, 3) := by decide +kernel
theorem dX3_placeUp_23 : decode cX3_placeUp 23 = .ok (.aload_n 0, 1) := by decide +kernel
theorem dX3_placeUp_24 : decode cX3_placeUp 24 = .ok (.iload_n 1, 1) := by decide +kernel
theorem dX3_placeUp_25 : decode cX3_placeUp 25 = .ok (.iload 5, 2) := by decide +kernel
theorem dX3_placeUp_27 : decode cX3_placeUp 27 = .ok (.invokevirtual 159, 3) := by decide +kernel
theorem dX3_placeUp_30 : decode cX3_placeUp 30 = .ok (.istore 6, 2) := by decide +kernel
theorem dX3_placeUp_32 : decode cX3_placeUp 32 = .ok (.iload 6, 2) := by decide +kernel
theorem dX3_placeUp_34 : decode cX3_placeUp 34 = .ok (.ifCond .lt 36, 3) := by decide +kernel
theorem dX3_placeUp_37 : decode cX3_placeUp 37 = .ok (.iload 6, 2) := by decide +kernel
theorem dX3_placeUp_39 : decode cX3_placeUp 39 = .ok (.sipush 131, 3) := by decide +kernel
theorem dX3_placeUp_42 : decode cX3_placeUp 42 = .ok (.if_icmp .ge 28, 3) := by decide +kernel
theorem dX3_placeUp_45 : decode cX3_placeUp 45 = .ok (.aload_n 0, 1) := by decide +kernel
theorem dX3_placeUp_46 : decode cX3_placeUp 46 = .ok (.getfield 24, 3) := by decide +kernel
theorem dX3_placeUp_49 : decode cX3_placeUp 49 = .ok (.iload 6, 2) := by decide +kernel
theorem dX3_placeUp_51 : decode cX3_placeUp 51 = .ok (.iaload, 1) := by decide +kernel
theorem dX3_placeUp_52 : decode cX3_placeUp 52 = .ok (.ifCond .le 18, 3) := by decide +kernel
theorem dX3_placeUp_55 : decode cX3_placeUp 55 = .ok (.aload_n 0, 1) := by decide +kernel
theorem dX3_placeUp_56 : decode cX3_placeUp 56 = .ok (.getfield 27, 3) := by decide +kernel
theorem dX3_placeUp_59 : decode cX3_placeUp 59 = .ok (.iload 6, 2) := by decide +kernel
theorem dX3_placeUp_61 : decode cX3_placeUp 61 = .ok (.iaload, 1) := by decide +kernel
theorem dX3_placeUp_62 : decode cX3_placeUp 62 = .ok (.iload_n 2, 1) := by decide +kernel
theorem dX3_placeUp_63 : decode cX3_placeUp 63 = .ok (.if_icmp .gt 7, 3) := by decide +kernel
theorem dX3_placeUp_66 : decode cX3_placeUp 66 = .ok (.iload 6, 2) := by decide +kernel
theorem dX3_placeUp_68 : decode cX3_placeUp 68 = .ok (.istore 4, 2) := by decide +kernel
theorem dX3_placeUp_70 : decode cX3_placeUp 70 = .ok (.iinc 5 1, 3) := by decide +kernel
theorem dX3_placeUp_73 : decode cX3_placeUp 73 = .ok (.goto (-56), 3) := by decide +kernel
theorem dX3_placeUp_76 : decode cX3_placeUp 76 = .ok (.iload 4, 2) := by decide +kernel
theorem dX3_placeUp_78 : decode cX3_placeUp 78 = .ok (.ifCond .lt 21, 3) := by decide +kernel
theorem dX3_placeUp_81 : decode cX3_placeUp 81 = .ok (.iload 4, 2) := by decide +kernel
theorem dX3_placeUp_83 : decode cX3_placeUp 83 = .ok (.sipush 131, 3) := by decide +kernel
theorem dX3_placeUp_86 : decode cX3_placeUp 86 = .ok (.if_icmp .ge 13, 3) := by decide +kernel
theorem dX3_placeUp_89 : decode cX3_placeUp 89 = .ok (.aload_n 0, 1) := by decide +kernel
theorem dX3_placeUp_90 : decode cX3_placeUp 90 = .ok (.getfield 21, 3) := by decide +kernel
theorem dX3_placeUp_93 : decode cX3_placeUp 93 = .ok (.iload 4, 2) := by decide +kernel
theorem dX3_placeUp_95 : decode cX3_placeUp 95 = .ok (.iaload, 1) := by decide +kernel
theorem dX3_placeUp_96 : decode cX3_placeUp 96 = .ok (.goto 7, 3) := by decide +kernel
theorem dX3_placeUp_99 : decode cX3_placeUp 99 = .ok (.aload_n 0, 1) := by decide +kernel
theorem dX3_placeUp_100 : decode cX3_placeUp 100 = .ok (.getfield 46, 3) := by decide +kernel
theorem dX3_placeUp_103 : decode cX3_placeUp 103 = .ok (.ireturn, 1) := by decide +kernel
theorem dX3_firstPlace_0 : decode cX3_firstPlace 0 = .ok (.aload_n 0, 1) := by decide +kernel
theorem dX3_firstPlace_1 : decode cX3_firstPlace 1 = .ok (.iload_n 1, 1) := by decide +kernel
theorem dX3_firstPlace_2 : decode cX3_firstPlace 2 = .ok (.invokevirtual 130, 3) := by decide +kernel
theorem dX3_firstPlace_5 : decode cX3_firstPlace 5 = .ok (.iconst 0, 1) := by decide +kernel
theorem dX3_firstPlace_6 : decode cX3_firstPlace 6 = .ok (.invokestatic 118, 3) := by decide +kernel
theorem dX3_firstPlace_9 : decode cX3_firstPlace 9 = .ok (.istore_n 2, 1) := by decide +kernel
theorem dX3_firstPlace_10 : decode cX3_firstPlace 10 = .ok (.iload_n 2, 1) := by decide +kernel
theorem dX3_firstPlace_11 : decode cX3_firstPlace 11 = .ok (.aload_n 0, 1) := by decide +kernel
theorem dX3_firstPlace_12 : decode cX3_firstPlace 12 = .ok (.iload_n 1, 1) := by decide +kernel
theorem dX3_firstPlace_13 : decode cX3_firstPlace 13 = .ok (.iconst 1, 1) := by decide +kernel
theorem dX3_firstPlace_14 : decode cX3_firstPlace 14 = .ok (.iadd, 1) := by decide +kernel
theorem dX3_firstPlace_15 : decode cX3_firstPlace 15 = .ok (.invokevirtual 130, 3) := by decide +kernel
theorem dX3_firstPlace_18 : decode cX3_firstPlace 18 = .ok (.if_icmp .ge 33, 3) := by decide +kernel
theorem dX3_firstPlace_21 : decode cX3_firstPlace 21 = .ok (.iload_n 2, 1) := by decide +kernel
theorem dX3_firstPlace_22 : decode cX3_firstPlace 22 = .ok (.sipush 131, 3) := by decide +kernel
theorem dX3_firstPlace_25 : decode cX3_firstPlace 25 = .ok (.if_icmp .ge 26, 3) := by decide +kernel
theorem dX3_firstPlace_28 : decode cX3_firstPlace 28 = .ok (.aload_n 0, 1) := by decide +kernel
theorem dX3_firstPlace_29 : decode cX3_firstPlace 29 = .ok (.getfield 18, 3) := by decide +kernel
theorem dX3_firstPlace_32 : decode cX3_firstPlace 32 = .ok (.iload_n 2, 1) := by decide +kernel
theorem dX3_firstPlace_33 : decode cX3_firstPlace 33 = .ok (.iaload, 1) := by decide +kernel
theorem dX3_firstPlace_34 : decode cX3_firstPlace 34 = .ok (.iconst (-1), 1) := by decide +kernel
theorem dX3_firstPlace_35 : decode cX3_firstPlace 35 = .ok (.if_icmp .eq 10, 3) := by decide +kernel
theorem dX3_firstPlace_38 : decode cX3_firstPlace 38 = .ok (.aload_n 0, 1) := by decide +kernel
theorem dX3_firstPlace_39 : decode cX3_firstPlace 39 = .ok (.getfield 18, 3) := by decide +kernel
theorem dX3_firstPlace_42 : decode cX3_firstPlace 42 = .ok (.iload_n 2, 1) := by decide +kernel
theorem dX3_firstPlace_43 : decode cX3_firstPlace 43 = .ok (.iaload, 1) := by decide +kernel
theorem dX3_firstPlace_44 : decode cX3_firstPlace 44 = .ok (.ireturn, 1) := by decide +kernel
theorem dX3_firstPlace_45 : decode cX3_firstPlace 45 = .ok (.iinc 2 1, 3) := by decide +kernel
theorem dX3_firstPlace_48 : decode cX3_firstPlace 48 = .ok (.goto (-38), 3) := by decide +kernel
theorem dX3_firstPlace_51 : decode cX3_firstPlace 51 = .ok (.iload_n 1, 1) := by decide +kernel
theorem dX3_firstPlace_52 : decode cX3_firstPlace 52 = .ok (.aload_n 0, 1) := by decide +kernel
theorem dX3_firstPlace_53 : decode cX3_firstPlace 53 = .ok (.getfield 108, 3) := by decide +kernel
theorem dX3_firstPlace_56 : decode cX3_firstPlace 56 = .ok (.iconst 1, 1) := by decide +kernel
theorem dX3_firstPlace_57 : decode cX3_firstPlace 57 = .ok (.isub, 1) := by decide +kernel
theorem dX3_firstPlace_58 : decode cX3_firstPlace 58 = .ok (.if_icmp .ne 10, 3) := by decide +kernel
theorem dX3_firstPlace_61 : decode cX3_firstPlace 61 = .ok (.aload_n 0, 1) := by decide +kernel
theorem dX3_firstPlace_62 : decode cX3_firstPlace 62 = .ok (.getfield 46, 3) := by decide +kernel
theorem dX3_firstPlace_65 : decode cX3_firstPlace 65 = .ok (.goto 4, 3) := by decide +kernel
theorem dX3_firstPlace_68 : decode cX3_firstPlace 68 = .ok (.iconst 0, 1) := by decide +kernel
theorem dX3_firstPlace_69 : decode cX3_firstPlace 69 = .ok (.ireturn, 1) := by decide +kernel
theorem dX3_lastPlace_0 : decode cX3_lastPlace 0 = .ok (.iload_n 1, 1) := by decide +kernel
theorem dX3_lastPlace_1 : decode cX3_lastPlace 1 = .ok (.aload_n 0, 1) := by decide +kernel
theorem dX3_lastPlace_2 : decode cX3_lastPlace 2 = .ok (.getfield 108, 3) := by decide +kernel
theorem dX3_lastPlace_5 : decode cX3_lastPlace 5 = .ok (.iconst 1, 1) := by decide +kernel
theorem dX3_lastPlace_6 : decode cX3_lastPlace 6 = .ok (.isub, 1) := by decide +kernel
theorem dX3_lastPlace_7 : decode cX3_lastPlace 7 = .ok (.if_icmp .ne 8, 3) := by decide +kernel
theorem dX3_lastPlace_10 : decode cX3_lastPlace 10 = .ok (.aload_n 0, 1) := by decide +kernel
theorem dX3_lastPlace_11 : decode cX3_lastPlace 11 = .ok (.getfield 46, 3) := by decide +kernel
theorem dX3_lastPlace_14 : decode cX3_lastPlace 14 = .ok (.ireturn, 1) := by decide +kernel
theorem dX3_lastPlace_15 : decode cX3_lastPlace 15 = .ok (.iconst (-1), 1) := by decide +kernel
theorem dX3_lastPlace_16 : decode cX3_lastPlace 16 = .ok (.istore_n 2, 1) := by decide +kernel
theorem dX3_lastPlace_17 : decode cX3_lastPlace 17 = .ok (.aload_n 0, 1) := by decide +kernel
theorem dX3_lastPlace_18 : decode cX3_lastPlace 18 = .ok (.iload_n 1, 1) := by decide +kernel
theorem dX3_lastPlace_19 : decode cX3_lastPlace 19 = .ok (.invokevirtual 130, 3) := by decide +kernel
theorem dX3_lastPlace_22 : decode cX3_lastPlace 22 = .ok (.iconst 0, 1) := by decide +kernel
theorem dX3_lastPlace_23 : decode cX3_lastPlace 23 = .ok (.invokestatic 118, 3) := by decide +kernel
theorem dX3_lastPlace_26 : decode cX3_lastPlace 26 = .ok (.istore_n 3, 1) := by decide +kernel
theorem dX3_lastPlace_27 : decode cX3_lastPlace 27 = .ok (.iload_n 3, 1) := by decide +kernel
theorem dX3_lastPlace_28 : decode cX3_lastPlace 28 = .ok (.aload_n 0, 1) := by decide +kernel
theorem dX3_lastPlace_29 : decode cX3_lastPlace 29 = .ok (.iload_n 1, 1) := by decide +kernel
theorem dX3_lastPlace_30 : decode cX3_lastPlace 30 = .ok (.iconst 1, 1) := by decide +kernel
theorem dX3_lastPlace_31 : decode cX3_lastPlace 31 = .ok (.iadd, 1) := by decide +kernel
theorem dX3_lastPlace_32 : decode cX3_lastPlace 32 = .ok (.invokevirtual 130, 3) := by decide +kernel
theorem dX3_lastPlace_35 : decode cX3_lastPlace 35 = .ok (.if_icmp .ge 27, 3) := by decide +kernel
theorem dX3_lastPlace_38 : decode cX3_lastPlace 38 = .ok (.iload_n 3, 1) := by decide +kernel
theorem dX3_lastPlace_39 : decode cX3_lastPlace 39 = .ok (.sipush 131, 3) := by decide +kernel
theorem dX3_lastPlace_42 : decode cX3_lastPlace 42 = .ok (.if_icmp .ge 20, 3) := by decide +kernel
theorem dX3_lastPlace_45 : decode cX3_lastPlace 45 = .ok (.iload_n 2, 1) := by decide +kernel
theorem dX3_lastPlace_46 : decode cX3_lastPlace 46 = .ok (.aload_n 0, 1) := by decide +kernel
theorem dX3_lastPlace_47 : decode cX3_lastPlace 47 = .ok (.getfield 18, 3) := by decide +kernel
theorem dX3_lastPlace_50 : decode cX3_lastPlace 50 = .ok (.iload_n 3, 1) := by decide +kernel
theorem dX3_lastPlace_51 : decode cX3_lastPlace 51 = .ok (.iaload, 1) := by decide +kernel
theorem dX3_lastPlace_52 : decode cX3_lastPlace 52 = .ok (.invokestatic 118, 3) := by decide +kernel
theorem dX3_lastPlace_55 : decode cX3_lastPlace 55 = .ok (.istore_n 2, 1) := by decide +kernel
theorem dX3_lastPlace_56 : decode cX3_lastPlace 56 = .ok (.iinc 3 1, 3) := by decide +kernel
theorem dX3_lastPlace_59 : decode cX3_lastPlace 59 = .ok (.goto (-32), 3) := by decide +kernel
theorem dX3_lastPlace_62 : decode cX3_lastPlace 62 = .ok (.iload_n 2, 1) := by decide +kernel
theorem dX3_lastPlace_63 : decode cX3_lastPlace 63 = .ok (.ireturn, 1) := by decide +kernel
theorem dX3_shownAhead_0 : decode cX3_shownAhead 0 = .ok (.iconst (-1), 1) := by decide +kernel
theorem dX3_shownAhead_1 : decode cX3_shownAhead 1 = .ok (.istore_n 2, 1) := by decide +kernel
theorem dX3_shownAhead_2 : decode cX3_shownAhead 2 = .ok (.iconst 0, 1) := by decide +kernel
theorem dX3_shownAhead_3 : decode cX3_shownAhead 3 = .ok (.istore_n 3, 1) := by decide +kernel
theorem dX3_shownAhead_4 : decode cX3_shownAhead 4 = .ok (.iload_n 3, 1) := by decide +kernel
theorem dX3_shownAhead_5 : decode cX3_shownAhead 5 = .ok (.aload_n 0, 1) := by decide +kernel
theorem dX3_shownAhead_6 : decode cX3_shownAhead 6 = .ok (.getfield 39, 3) := by decide +kernel
theorem dX3_shownAhead_9 : decode cX3_shownAhead 9 = .ok (.if_icmp .ge 37, 3) := by decide +kernel
theorem dX3_shownAhead_12 : decode cX3_shownAhead 12 = .ok (.iload_n 3, 1) := by decide +kernel
theorem dX3_shownAhead_13 : decode cX3_shownAhead 13 = .ok (.sipush 131, 3) := by decide +kernel
theorem dX3_shownAhead_16 : decode cX3_shownAhead 16 = .ok (.if_icmp .ge 30, 3) := by decide +kernel
theorem dX3_shownAhead_19 : decode cX3_shownAhead 19 = .ok (.aload_n 0, 1) := by decide +kernel
theorem dX3_shownAhead_20 : decode cX3_shownAhead 20 = .ok (.getfield 18, 3) := by decide +kernel
theorem dX3_shownAhead_23 : decode cX3_shownAhead 23 = .ok (.iload_n 3, 1) := by decide +kernel
theorem dX3_shownAhead_24 : decode cX3_shownAhead 24 = .ok (.iaload, 1) := by decide +kernel
theorem dX3_shownAhead_25 : decode cX3_shownAhead 25 = .ok (.iload_n 1, 1) := by decide +kernel
theorem dX3_shownAhead_26 : decode cX3_shownAhead 26 = .ok (.if_icmp .ge 14, 3) := by decide +kernel
theorem dX3_shownAhead_29 : decode cX3_shownAhead 29 = .ok (.iload_n 2, 1) := by decide +kernel
theorem dX3_shownAhead_30 : decode cX3_shownAhead 30 = .ok (.aload_n 0, 1) := by decide +kernel
theorem dX3_shownAhead_31 : decode cX3_shownAhead 31 = .ok (.getfield 18, 3) := by decide +kernel
theorem dX3_shownAhead_34 : decode cX3_shownAhead 34 = .ok (.iload_n 3, 1) := by decide +kernel
theorem dX3_shownAhead_35 : decode cX3_shownAhead 35 = .ok (.iaload, 1) := by decide +kernel
theorem dX3_shownAhead_36 : decode cX3_shownAhead 36 = .ok (.invokestatic 118, 3) := by decide +kernel
theorem dX3_shownAhead_39 : decode cX3_shownAhead 39 = .ok (.istore_n 2, 1) := by decide +kernel
theorem dX3_shownAhead_40 : decode cX3_shownAhead 40 = .ok (.iinc 3 1, 3) := by decide +kernel
theorem dX3_shownAhead_43 : decode cX3_shownAhead 43 = .ok (.goto (-39), 3) := by decide +kernel
theorem dX3_shownAhead_46 : decode cX3_shownAhead 46 = .ok (.iload_n 2, 1) := by decide +kernel
theorem dX3_shownAhead_47 : decode cX3_shownAhead 47 = .ok (.ireturn, 1) := by decide +kernel
theorem dX3_shownBehind_0 : decode cX3_shownBehind 0 = .ok (.iconst 0, 1) := by decide +kernel
theorem dX3_shownBehind_1 : decode cX3_shownBehind 1 = .ok (.istore_n 2, 1) := by decide +kernel
theorem dX3_shownBehind_2 : decode cX3_shownBehind 2 = .ok (.iload_n 2, 1) := by decide +kernel
theorem dX3_shownBehind_3 : decode cX3_shownBehind 3 = .ok (.aload_n 0, 1) := by decide +kernel
theorem dX3_shownBehind_4 : decode cX3_shownBehind 4 = .ok (.getfield 39, 3) := by decide +kernel
theorem dX3_shownBehind_7 : decode cX3_shownBehind 7 = .ok (.if_icmp .ge 33, 3) := by decide +kernel
theorem dX3_shownBehind_10 : decode cX3_shownBehind 10 = .ok (.iload_n 2, 1) := by decide +kernel
theorem dX3_shownBehind_11 : decode cX3_shownBehind 11 = .ok (.sipush 131, 3) := by decide +kernel
theorem dX3_shownBehind_14 : decode cX3_shownBehind 14 = .ok (.if_icmp .ge 26, 3) := by decide +kernel
theorem dX3_shownBehind_17 : decode cX3_shownBehind 17 = .ok (.aload_n 0, 1) := by decide +kernel
theorem dX3_shownBehind_18 : decode cX3_shownBehind 18 = .ok (.getfield 18, 3) := by decide +kernel
theorem dX3_shownBehind_21 : decode cX3_shownBehind 21 = .ok (.iload_n 2, 1) := by decide +kernel
theorem dX3_shownBehind_22 : decode cX3_shownBehind 22 = .ok (.iaload, 1) := by decide +kernel
theorem dX3_shownBehind_23 : decode cX3_shownBehind 23 = .ok (.iload_n 1, 1) := by decide +kernel
theorem dX3_shownBehind_24 : decode cX3_shownBehind 24 = .ok (.if_icmp .le 10, 3) := by decide +kernel
theorem dX3_shownBehind_27 : decode cX3_shownBehind 27 = .ok (.aload_n 0, 1) := by decide +kernel
theorem dX3_shownBehind_28 : decode cX3_shownBehind 28 = .ok (.getfield 18, 3) := by decide +kernel
theorem dX3_shownBehind_31 : decode cX3_shownBehind 31 = .ok (.iload_n 2, 1) := by decide +kernel
theorem dX3_shownBehind_32 : decode cX3_shownBehind 32 = .ok (.iaload, 1) := by decide +kernel
theorem dX3_shownBehind_33 : decode cX3_shownBehind 33 = .ok (.ireturn, 1) := by decide +kernel
theorem dX3_shownBehind_34 : decode cX3_shownBehind 34 = .ok (.iinc 2 1, 3) := by decide +kernel
theorem dX3_shownBehind_37 : decode cX3_shownBehind 37 = .ok (.goto (-35), 3) := by decide +kernel
theorem dX3_shownBehind_40 : decode cX3_shownBehind 40 = .ok (.aload_n 0, 1) := by decide +kernel
theorem dX3_shownBehind_41 : decode cX3_shownBehind 41 = .ok (.getfield 46, 3) := by decide +kernel
theorem dX3_shownBehind_44 : decode cX3_shownBehind 44 = .ok (.iload_n 1, 1) := by decide +kernel
theorem dX3_shownBehind_45 : decode cX3_shownBehind 45 = .ok (.if_icmp .le 10, 3) := by decide +kernel
theorem dX3_shownBehind_48 : decode cX3_shownBehind 48 = .ok (.aload_n 0, 1) := by decide +kernel
theorem dX3_shownBehind_49 : decode cX3_shownBehind 49 = .ok (.getfield 46, 3) := by decide +kernel
theorem dX3_shownBehind_52 : decode cX3_shownBehind 52 = .ok (.goto 4, 3) := by decide +kernel
theorem dX3_shownBehind_55 : decode cX3_shownBehind 55 = .ok (.iconst (-1), 1) := by decide +kernel
theorem dX3_shownBehind_56 : decode cX3_shownBehind 56 = .ok (.ireturn, 1) := by decide +kernel
theorem dX4_init_0 : decode cX4_init 0 = .ok (.aload_n 0, 1) := by decide +kernel
theorem dX4_init_1 : decode cX4_init 1 = .ok (.invokespecial 3, 3) := by decide +kernel
theorem dX4_init_4 : decode cX4_init 4 = .ok (.aload_n 0, 1) := by decide +kernel
theorem dX4_init_5 : decode cX4_init 5 = .ok (.bipush 80, 2) := by decide +kernel
theorem dX4_init_7 : decode cX4_init 7 = .ok (.newarray .int, 2) := by decide +kernel
theorem dX4_init_9 : decode cX4_init 9 = .ok (.putfield 9, 3) := by decide +kernel
theorem dX4_init_12 : decode cX4_init 12 = .ok (.return_, 1) := by decide +kernel
theorem dX4_signAt_0 : decode cX4_signAt 0 = .ok (.iload_n 1, 1) := by decide +kernel
theorem dX4_signAt_1 : decode cX4_signAt 1 = .ok (.ifCond .lt 26, 3) := by decide +kernel
theorem dX4_signAt_4 : decode cX4_signAt 4 = .ok (.iload_n 1, 1) := by decide +kernel
theorem dX4_signAt_5 : decode cX4_signAt 5 = .ok (.aload_n 0, 1) := by decide +kernel
theorem dX4_signAt_6 : decode cX4_signAt 6 = .ok (.getfield 15, 3) := by decide +kernel
theorem dX4_signAt_9 : decode cX4_signAt 9 = .ok (.if_icmp .ge 18, 3) := by decide +kernel
theorem dX4_signAt_12 : decode cX4_signAt 12 = .ok (.iload_n 1, 1) := by decide +kernel
theorem dX4_signAt_13 : decode cX4_signAt 13 = .ok (.bipush 80, 2) := by decide +kernel
theorem dX4_signAt_15 : decode cX4_signAt 15 = .ok (.if_icmp .ge 12, 3) := by decide +kernel
theorem dX4_signAt_18 : decode cX4_signAt 18 = .ok (.aload_n 0, 1) := by decide +kernel
theorem dX4_signAt_19 : decode cX4_signAt 19 = .ok (.getfield 9, 3) := by decide +kernel
theorem dX4_signAt_22 : decode cX4_signAt 22 = .ok (.iload_n 1, 1) := by decide +kernel
theorem dX4_signAt_23 : decode cX4_signAt 23 = .ok (.iaload, 1) := by decide +kernel
theorem dX4_signAt_24 : decode cX4_signAt 24 = .ok (.goto 4, 3) := by decide +kernel
theorem dX4_signAt_27 : decode cX4_signAt 27 = .ok (.iconst (-1), 1) := by decide +kernel
theorem dX4_signAt_28 : decode cX4_signAt 28 = .ok (.ireturn, 1) := by decide +kernel
theorem dX4_hasClusterAt_0 : decode cX4_hasClusterAt 0 = .ok (.iload_n 1, 1) := by decide +kernel
theorem dX4_hasClusterAt_1 : decode cX4_hasClusterAt 1 = .ok (.ifCond .eq 13, 3) := by decide +kernel
theorem dX4_hasClusterAt_4 : decode cX4_hasClusterAt 4 = .ok (.aload_n 0, 1) := by decide +kernel
theorem dX4_hasClusterAt_5 : decode cX4_hasClusterAt 5 = .ok (.iload_n 1, 1) := by decide +kernel
theorem dX4_hasClusterAt_6 : decode cX4_hasClusterAt 6 = .ok (.invokevirtual 19, 3) := by decide +kernel
theorem dX4_hasClusterAt_9 : decode cX4_hasClusterAt 9 = .ok (.bipush 126, 2) := by decide +kernel
theorem dX4_hasClusterAt_11 : decode cX4_hasClusterAt 11 = .ok (.if_icmp .eq 7, 3) := by decide +kernel
theorem dX4_hasClusterAt_14 : decode cX4_hasClusterAt 14 = .ok (.iconst 1, 1) := by decide +kernel
theorem dX4_hasClusterAt_15 : decode cX4_hasClusterAt 15 = .ok (.goto 4, 3) := by decide +kernel
theorem dX4_hasClusterAt_18 : decode cX4_hasClusterAt 18 = .ok (.iconst 0, 1) := by decide +kernel
theorem dX4_hasClusterAt_19 : decode cX4_hasClusterAt 19 = .ok (.ireturn, 1) := by decide +kernel
theorem dX4_clusterSize_0 : decode cX4_clusterSize 0 = .ok (.iload_n 1, 1) := by decide +kernel
theorem dX4_clusterSize_1 : decode cX4_clusterSize 1 = .ok (.iconst 1, 1) := by decide +kernel
theorem dX4_clusterSize_2 : decode cX4_clusterSize 2 = .ok (.iadd, 1) := by decide +kernel
theorem dX4_clusterSize_3 : decode cX4_clusterSize 3 = .ok (.istore_n 2, 1) := by decide +kernel
theorem dX4_clusterSize_4 : decode cX4_clusterSize 4 = .ok (.iload_n 2, 1) := by decide +kernel
theorem dX4_clusterSize_5 : decode cX4_clusterSize 5 = .ok (.aload_n 0, 1) := by decide +kernel
theorem dX4_clusterSize_6 : decode cX4_clusterSize 6 = .ok (.getfield 15, 3) := by decide +kernel
theorem dX4_clusterSize_9 : decode cX4_clusterSize 9 = .ok (.if_icmp .ge 19, 3) := by decide +kernel
theorem dX4_clusterSize_12 : decode cX4_clusterSize 12 = .ok (.aload_n 0, 1) := by decide +kernel
theorem dX4_clusterSize_13 : decode cX4_clusterSize 13 = .ok (.iload_n 2, 1) := by decide +kernel
theorem dX4_clusterSize_14 : decode cX4_clusterSize 14 = .ok (.invokevirtual 19, 3) := by decide +kernel
theorem dX4_clusterSize_17 : decode cX4_clusterSize 17 = .ok (.bipush 126, 2) := by decide +kernel
theorem dX4_clusterSize_19 : decode cX4_clusterSize 19 = .ok (.if_icmp .ne 9, 3) := by decide +kernel
theorem dX4_clusterSize_22 : decode cX4_clusterSize 22 = .ok (.iinc 2 1, 3) := by decide +kernel
theorem dX4_clusterSize_25 : decode cX4_clusterSize 25 = .ok (.goto (-21), 3) := by decide +kernel
theorem dX4_clusterSize_28 : decode cX4_clusterSize 28 = .ok (.iload_n 2, 1) := by decide +kernel
theorem dX4_clusterSize_29 : decode cX4_clusterSize 29 = .ok (.iload_n 1, 1) := by decide +kernel
theorem dX4_clusterSize_30 : decode cX4_clusterSize 30 = .ok (.isub, 1) := by decide +kernel
theorem dX4_clusterSize_31 : decode cX4_clusterSize 31 = .ok (.ireturn, 1) := by decide +kernel
theorem dX4_putIn_0 : decode cX4_putIn 0 = .ok (.iload_n 1, 1) := by decide +kernel
theorem dX4_putIn_1 : decode cX4_putIn 1 = .ok (.ifCond .lt 20, 3) := by decide +kernel
theorem dX4_putIn_4 : decode cX4_putIn 4 = .ok (.iload_n 1, 1) := by decide +kernel
theorem dX4_putIn_5 : decode cX4_putIn 5 = .ok (.aload_n 0, 1) := by decide +kernel
theorem dX4_putIn_6 : decode cX4_putIn 6 = .ok (.getfield 15, 3) := by decide +kernel
theorem dX4_putIn_9 : decode cX4_putIn 9 = .ok (.if_icmp .gt 12, 3) := by decide +kernel
theorem dX4_putIn_12 : decode cX4_putIn 12 = .ok (.aload_n 0, 1) := by decide +kernel
theorem dX4_putIn_13 : decode cX4_putIn 13 = .ok (.getfield 15, 3) := by decide +kernel
theorem dX4_putIn_16 : decode cX4_putIn 16 = .ok (.bipush 80, 2) := by decide +kernel
theorem dX4_putIn_18 : decode cX4_putIn 18 = .ok (.if_icmp .lt 4, 3) := by decide +kernel
theorem dX4_putIn_21 : decode cX4_putIn 21 = .ok (.return_, 1) := by decide +kernel
theorem dX4_putIn_22 : decode cX4_putIn 22 = .ok (.aload_n 0, 1) := by decide +kernel
theorem dX4_putIn_23 : decode cX4_putIn 23 = .ok (.getfield 9, 3) := by decide +kernel
theorem dX4_putIn_26 : decode cX4_putIn 26 = .ok (.iload_n 1, 1) := by decide +kernel
theorem dX4_putIn_27 : decode cX4_putIn 27 = .ok (.aload_n 0, 1) := by decide +kernel
theorem dX4_putIn_28 : decode cX4_putIn 28 = .ok (.getfield 9, 3) := by decide +kernel
theorem dX4_putIn_31 : decode cX4_putIn 31 = .ok (.iload_n 1, 1) := by decide +kernel
theorem dX4_putIn_32 : decode cX4_putIn 32 = .ok (.iconst 1, 1) := by decide +kernel
theorem dX4_putIn_33 : decode cX4_putIn 33 = .ok (.iadd, 1) := by decide +kernel
theorem dX4_putIn_34 : decode cX4_putIn 34 = .ok (.aload_n 0, 1) := by decide +kernel
theorem dX4_putIn_35 : decode cX4_putIn 35 = .ok (.getfield 15, 3) := by decide +kernel
theorem dX4_putIn_38 : decode cX4_putIn 38 = .ok (.iload_n 1, 1) := by decide +kernel
theorem dX4_putIn_39 : decode cX4_putIn 39 = .ok (.isub, 1) := by decide +kernel
theorem dX4_putIn_40 : decode cX4_putIn 40 = .ok (.invokestatic 23, 3) := by decide +kernel
theorem dX4_putIn_43 : decode cX4_putIn 43 = .ok (.aload_n 0, 1) := by decide +kernel
theorem dX4_putIn_44 : decode cX4_putIn 44 = .ok (.getfield 9, 3) := by decide +kernel
theorem dX4_putIn_47 : decode cX4_putIn 47 = .ok (.iload_n 1, 1) := by decide +kernel
theorem dX4_putIn_48 : decode cX4_putIn 48 = .ok (.iload_n 2, 1) := by decide +kernel
theorem dX4_putIn_49 : decode cX4_putIn 49 = .ok (.iastore, 1) := by decide +kernel
theorem dX4_putIn_50 : decode cX4_putIn 50 = .ok (.aload_n 0, 1) := by decide +kernel
theorem dX4_putIn_51 : decode cX4_putIn 51 = .ok (.dup, 1) := by decide +kernel
theorem dX4_putIn_52 : decode cX4_putIn 52 = .ok (.getfield 15, 3) := by decide +kernel
theorem dX4_putIn_55 : decode cX4_putIn 55 = .ok (.iconst 1, 1) := by decide +kernel
theorem dX4_putIn_56 : decode cX4_putIn 56 = .ok (.iadd, 1) := by decide +kernel
theorem dX4_putIn_57 : decode cX4_putIn 57 = .ok (.putfield 15, 3) := by decide +kernel
theorem dX4_putIn_60 : decode cX4_putIn 60 = .ok (.return_, 1) := by decide +kernel
theorem dX4_takeOut_0 : decode cX4_takeOut 0 = .ok (.iload_n 1, 1) := by decide +kernel
theorem dX4_takeOut_1 : decode cX4_takeOut 1 = .ok (.ifCond .lt 16, 3) := by decide +kernel
theorem dX4_takeOut_4 : decode cX4_takeOut 4 = .ok (.iload_n 1, 1) := by decide +kernel
theorem dX4_takeOut_5 : decode cX4_takeOut 5 = .ok (.iload_n 2, 1) := by decide +kernel
theorem dX4_takeOut_6 : decode cX4_takeOut 6 = .ok (.if_icmp .ge 11, 3) := by decide +kernel
theorem dX4_takeOut_9 : decode cX4_takeOut 9 = .ok (.iload_n 2, 1) := by decide +kernel
theorem dX4_takeOut_10 : decode cX4_takeOut 10 = .ok (.aload_n 0, 1) := by decide +kernel
theorem dX4_takeOut_11 : decode cX4_takeOut 11 = .ok (.getfield 15, 3) := by decide +kernel
theorem dX4_takeOut_14 : decode cX4_takeOut 14 = .ok (.if_icmp .le 4, 3) := by decide +kernel
theorem dX4_takeOut_17 : decode cX4_takeOut 17 = .ok (.return_, 1) := by decide +kernel
theorem dX4_takeOut_18 : decode cX4_takeOut 18 = .ok (.aload_n 0, 1) := by decide +kernel
theorem dX4_takeOut_19 : decode cX4_takeOut 19 = .ok (.getfield 9, 3) := by decide +kernel
theorem dX4_takeOut_22 : decode cX4_takeOut 22 = .ok (.iload_n 2, 1) := by decide +kernel
theorem dX4_takeOut_23 : decode cX4_takeOut 23 = .ok (.aload_n 0, 1) := by decide +kernel
theorem dX4_takeOut_24 : decode cX4_takeOut 24 = .ok (.getfield 9, 3) := by decide +kernel
theorem dX4_takeOut_27 : decode cX4_takeOut 27 = .ok (.iload_n 1, 1) := by decide +kernel
theorem dX4_takeOut_28 : decode cX4_takeOut 28 = .ok (.aload_n 0, 1) := by decide +kernel
theorem dX4_takeOut_29 : decode cX4_takeOut 29 = .ok (.getfield 15, 3) := by decide +kernel
theorem dX4_takeOut_32 : decode cX4_takeOut 32 = .ok (.iload_n 2, 1) := by decide +kernel
theorem dX4_takeOut_33 : decode cX4_takeOut 33 = .ok (.isub, 1) := by decide +kernel
theorem dX4_takeOut_34 : decode cX4_takeOut 34 = .ok (.invokestatic 23, 3) := by decide +kernel
theorem dX4_takeOut_37 : decode cX4_takeOut 37 = .ok (.aload_n 0, 1) := by decide +kernel
theorem dX4_takeOut_38 : decode cX4_takeOut 38 = .ok (.dup, 1) := by decide +kernel
theorem dX4_takeOut_39 : decode cX4_takeOut 39 = .ok (.getfield 15, 3) := by decide +kernel
theorem dX4_takeOut_42 : decode cX4_takeOut 42 = .ok (.iload_n 2, 1) := by decide +kernel
theorem dX4_takeOut_43 : decode cX4_takeOut 43 = .ok (.iload_n 1, 1) := by decide +kernel
theorem dX4_takeOut_44 : decode cX4_takeOut 44 = .ok (.isub, 1) := by decide +kernel
theorem dX4_takeOut_45 : decode cX4_takeOut 45 = .ok (.isub, 1) := by decide +kernel
theorem dX4_takeOut_46 : decode cX4_takeOut 46 = .ok (.putfield 15, 3) := by decide +kernel
theorem dX4_takeOut_49 : decode cX4_takeOut 49 = .ok (.return_, 1) := by decide +kernel
theorem dX4_takeAllFrom_0 : decode cX4_takeAllFrom 0 = .ok (.aload_n 1, 1) := by decide +kernel
theorem dX4_takeAllFrom_1 : decode cX4_takeAllFrom 1 = .ok (.getfield 15, 3) := by decide +kernel
theorem dX4_takeAllFrom_4 : decode cX4_takeAllFrom 4 = .ok (.iload_n 2, 1) := by decide +kernel
theorem dX4_takeAllFrom_5 : decode cX4_takeAllFrom 5 = .ok (.isub, 1) := by decide +kernel
theorem dX4_takeAllFrom_6 : decode cX4_takeAllFrom 6 = .ok (.istore_n 3, 1) := by decide +kernel
theorem dX4_takeAllFrom_7 : decode cX4_takeAllFrom 7 = .ok (.iload_n 2, 1) := by decide +kernel
theorem dX4_takeAllFrom_8 : decode cX4_takeAllFrom 8 = .ok (.ifCond .lt 18, 3) := by decide +kernel
theorem dX4_takeAllFrom_11 : decode cX4_takeAllFrom 11 = .ok (.iload_n 3, 1) := by decide +kernel
theorem dX4_takeAllFrom_12 : decode cX4_takeAllFrom 12 = .ok (.ifCond .lt 14, 3) := by decide +kernel
theorem dX4_takeAllFrom_15 : decode cX4_takeAllFrom 15 = .ok (.aload_n 0, 1) := by decide +kernel
theorem dX4_takeAllFrom_16 : decode cX4_takeAllFrom 16 = .ok (.getfield 15, 3) := by decide +kernel
theorem dX4_takeAllFrom_19 : decode cX4_takeAllFrom 19 = .ok (.iload_n 3, 1) := by decide +kernel
theorem dX4_takeAllFrom_20 : decode cX4_takeAllFrom 20 = .ok (.iadd, 1) := by decide +kernel
theorem dX4_takeAllFrom_21 : decode cX4_takeAllFrom 21 = .ok (.bipush 80, 2) := by decide +kernel
theorem dX4_takeAllFrom_23 : decode cX4_takeAllFrom 23 = .ok (.if_icmp .le 4, 3) := by decide +kernel
theorem dX4_takeAllFrom_26 : decode cX4_takeAllFrom 26 = .ok (.return_, 1) := by decide +kernel
theorem dX4_takeAllFrom_27 : decode cX4_takeAllFrom 27 = .ok (.aload_n 1, 1) := by decide +kernel
theorem dX4_takeAllFrom_28 : decode cX4_takeAllFrom 28 = .ok (.getfield 9, 3) := by decide +kernel
theorem dX4_takeAllFrom_31 : decode cX4_takeAllFrom 31 = .ok (.iload_n 2, 1) := by decide +kernel
theorem dX4_takeAllFrom_32 : decode cX4_takeAllFrom 32 = .ok (.aload_n 0, 1) := by decide +kernel
theorem dX4_takeAllFrom_33 : decode cX4_takeAllFrom 33 = .ok (.getfield 9, 3) := by decide +kernel
theorem dX4_takeAllFrom_36 : decode cX4_takeAllFrom 36 = .ok (.aload_n 0, 1) := by decide +kernel
theorem dX4_takeAllFrom_37 : decode cX4_takeAllFrom 37 = .ok (.getfield 15, 3) := by decide +kernel
theorem dX4_takeAllFrom_40 : decode cX4_takeAllFrom 40 = .ok (.iload_n 3, 1) := by decide +kernel
theorem dX4_takeAllFrom_41 : decode cX4_takeAllFrom 41 = .ok (.invokestatic 23, 3) := by decide +kernel
theorem dX4_takeAllFrom_44 : decode cX4_takeAllFrom 44 = .ok (.aload_n 0, 1) := by decide +kernel
theorem dX4_takeAllFrom_45 : decode cX4_takeAllFrom 45 = .ok (.dup, 1) := by decide +kernel
theorem dX4_takeAllFrom_46 : decode cX4_takeAllFrom 46 = .ok (.getfield 15, 3) := by decide +kernel
theorem dX4_takeAllFrom_49 : decode cX4_takeAllFrom 49 = .ok (.iload_n 3, 1) := by decide +kernel
theorem dX4_takeAllFrom_50 : decode cX4_takeAllFrom 50 = .ok (.iadd, 1) := by decide +kernel
theorem dX4_takeAllFrom_51 : decode cX4_takeAllFrom 51 = .ok (.putfield 15, 3) := by decide +kernel
theorem dX4_takeAllFrom_54 : decode cX4_takeAllFrom 54 = .ok (.aload_n 1, 1) := by decide +kernel
theorem dX4_takeAllFrom_55 : decode cX4_takeAllFrom 55 = .ok (.iload_n 2, 1) := by decide +kernel
theorem dX4_takeAllFrom_56 : decode cX4_takeAllFrom 56 = .ok (.putfield 15, 3) := by decide +kernel
theorem dX4_takeAllFrom_59 : decode cX4_takeAllFrom 59 = .ok (.return_, 1) := by decide +kernel
theorem dX5_init_0 : decode cX5_init 0 = .ok (.aload_n 0, 1) := by decide +kernel
theorem dX5_init_1 : decode cX5_init 1 = .ok (.invokespecial 3, 3) := by decide +kernel
theorem dX5_init_4 : decode cX5_init 4 = .ok (.aload_n 0, 1) := by decide +kernel
theorem dX5_init_5 : decode cX5_init 5 = .ok (.new 9, 3) := by decide +kernel
theorem dX5_init_8 : decode cX5_init 8 = .ok (.dup, 1) := by decide +kernel
theorem dX5_init_9 : decode cX5_init 9 = .ok (.invokespecial 11, 3) := by decide +kernel
theorem dX5_init_12 : decode cX5_init 12 = .ok (.putfield 12, 3) := by decide +kernel
theorem dX5_init_15 : decode cX5_init 15 = .ok (.aload_n 0, 1) := by decide +kernel
theorem dX5_init_16 : decode cX5_init 16 = .ok (.new 18, 3) := by decide +kernel
theorem dX5_init_19 : decode cX5_init 19 = .ok (.dup, 1) := by decide +kernel
theorem dX5_init_20 : decode cX5_init 20 = .ok (.invokespecial 20, 3) := by decide +kernel
theorem dX5_init_23 : decode cX5_init 23 = .ok (.putfield 21, 3) := by decide +kernel
theorem dX5_init_26 : decode cX5_init 26 = .ok (.aload_n 0, 1) := by decide +kernel
theorem dX5_init_27 : decode cX5_init 27 = .ok (.new 25, 3) := by decide +kernel
theorem dX5_init_30 : decode cX5_init 30 = .ok (.dup, 1) := by decide +kernel
theorem dX5_init_31 : decode cX5_init 31 = .ok (.invokespecial 27, 3) := by decide +kernel
theorem dX5_init_34 : decode cX5_init 34 = .ok (.putfield 28, 3) := by decide +kernel
theorem dX5_init_37 : decode cX5_init 37 = .ok (.aload_n 0, 1) := by decide +kernel
theorem dX5_init_38 : decode cX5_init 38 = .ok (.new 32, 3) := by decide +kernel
theorem dX5_init_41 : decode cX5_init 41 = .ok (.dup, 1) := by decide +kernel
theorem dX5_init_42 : decode cX5_init 42 = .ok (.iconst 0, 1) := by decide +kernel
theorem dX5_init_43 : decode cX5_init 43 = .ok (.iconst 0, 1) := by decide +kernel
theorem dX5_init_44 : decode cX5_init 44 = .ok (.iconst 0, 1) := by decide +kernel
theorem dX5_init_45 : decode cX5_init 45 = .ok (.invokespecial 34, 3) := by decide +kernel
theorem dX5_init_48 : decode cX5_init 48 = .ok (.putfield 37, 3) := by decide +kernel
theorem dX5_init_51 : decode cX5_init 51 = .ok (.aload_n 0, 1) := by decide +kernel
theorem dX5_init_52 : decode cX5_init 52 = .ok (.new 32, 3) := by decide +kernel
theorem dX5_init_55 : decode cX5_init 55 = .ok (.dup, 1) := by decide +kernel
theorem dX5_init_56 : decode cX5_init 56 = .ok (.iconst 0, 1) := by decide +kernel
theorem dX5_init_57 : decode cX5_init 57 = .ok (.iconst 0, 1) := by decide +kernel
theorem dX5_init_58 : decode cX5_init 58 = .ok (.iconst 0, 1) := by decide +kernel
theorem dX5_init_59 : decode cX5_init 59 = .ok (.invokespecial 34, 3) := by decide +kernel
theorem dX5_init_62 : decode cX5_init 62 = .ok (.putfield 41, 3) := by decide +kernel
theorem dX5_init_65 : decode cX5_init 65 = .ok (.aload_n 0, 1) := by decide +kernel
theorem dX5_init_66 : decode cX5_init 66 = .ok (.new 32, 3) := by decide +kernel
theorem dX5_init_69 : decode cX5_init 69 = .ok (.dup, 1) := by decide +kernel
theorem dX5_init_70 : decode cX5_init 70 = .ok (.iconst 0, 1) := by decide +kernel
theorem dX5_init_71 : decode cX5_init 71 = .ok (.iconst 0, 1) := by decide +kernel
theorem dX5_init_72 : decode cX5_init 72 = .ok (.iconst 0, 1) := by decide +kernel
theorem dX5_init_73 : decode cX5_init 73 = .ok (.invokespecial 34, 3) := by decide +kernel
theorem dX5_init_76 : decode cX5_init 76 = .ok (.putfield 44, 3) := by decide +kernel
theorem dX5_init_79 : decode cX5_init 79 = .ok (.aload_n 0, 1) := by decide +kernel
theorem dX5_init_80 : decode cX5_init 80 = .ok (.bipush 20, 2) := by decide +kernel
theorem dX5_init_82 : decode cX5_init 82 = .ok (.putfield 47, 3) := by decide +kernel
theorem dX5_init_85 : decode cX5_init 85 = .ok (.aload_n 0, 1) := by decide +kernel
theorem dX5_init_86 : decode cX5_init 86 = .ok (.bipush 60, 2) := by decide +kernel
theorem dX5_init_88 : decode cX5_init 88 = .ok (.newarray .int, 2) := by decide +kernel
theorem dX5_init_90 : decode cX5_init 90 = .ok (.putfield 51, 3) := by decide +kernel
theorem dX5_init_93 : decode cX5_init 93 = .ok (.aload_n 0, 1) := by decide +kernel
theorem dX5_init_94 : decode cX5_init 94 = .ok (.bipush 60, 2) := by decide +kernel
theorem dX5_init_96 : decode cX5_init 96 = .ok (.newarray .int, 2) := by decide +kernel
theorem dX5_init_98 : decode cX5_init 98 = .ok (.putfield 55, 3) := by decide +kernel
theorem dX5_init_101 : decode cX5_init 101 = .ok (.aload_n 0, 1) := by decide +kernel
theorem dX5_init_102 : decode cX5_init 102 = .ok (.iconst (-1), 1) := by decide +kernel
theorem dX5_init_103 : decode cX5_init 103 = .ok (.putfield 58, 3) := by decide +kernel
theorem dX5_init_106 : decode cX5_init 106 = .ok (.aload_n 0, 1) := by decide +kernel
theorem dX5_init_107 : decode cX5_init 107 = .ok (.new 61, 3) := by decide +kernel
theorem dX5_init_110 : decode cX5_init 110 = .ok (.dup, 1) := by decide +kernel
theorem dX5_init_111 : decode cX5_init 111 = .ok (.invokespecial 63, 3) := by decide +kernel
theorem dX5_init_114 : decode cX5_init 114 = .ok (.putfield 64, 3) := by decide +kernel
theorem dX5_init_117 : decode cX5_init 117 = .ok (.aload_n 0, 1) := by decide +kernel
theorem dX5_init_118 : decode cX5_init 118 = .ok (.new 61, 3) := by decide +kernel
theorem dX5_init_121 : decode cX5_init 121 = .ok (.dup, 1) := by decide +kernel
theorem dX5_init_122 : decode cX5_init 122 = .ok (.invokespecial 63, 3) := by decide +kernel
theorem dX5_init_125 : decode cX5_init 125 = .ok (.putfield 68, 3) := by decide +kernel
theorem dX5_init_128 : decode cX5_init 128 = .ok (.aload_n 0, 1) := by decide +kernel
theorem dX5_init_129 : decode cX5_init 129 = .ok (.aload_n 1, 1) := by decide +kernel
theorem dX5_init_130 : decode cX5_init 130 = .ok (.putfield 71, 3) := by decide +kernel
theorem dX5_init_133 : decode cX5_init 133 = .ok (.iconst 0, 1) := by decide +kernel
theorem dX5_init_134 : decode cX5_init 134 = .ok (.istore_n 2, 1) := by decide +kernel
theorem dX5_init_135 : decode cX5_init 135 = .ok (.iload_n 2, 1) := by decide +kernel
theorem dX5_init_136 : decode cX5_init 136 = .ok (.bipush 60, 2) := by decide +kernel
theorem dX5_init_138 : decode cX5_init 138 = .ok (.if_icmp .ge 16, 3) := by decide +kernel
theorem dX5_init_141 : decode cX5_init 141 = .ok (.aload_n 0, 1) := by decide +kernel
theorem dX5_init_142 : decode cX5_init 142 = .ok (.getfield 51, 3) := by decide +kernel
theorem dX5_init_145 : decode cX5_init 145 = .ok (.iload_n 2, 1) := by decide +kernel
theorem dX5_init_146 : decode cX5_init 146 = .ok (.iconst (-1), 1) := by decide +kernel
theorem dX5_init_147 : decode cX5_init 147 = .ok (.iastore, 1) := by decide +kernel
theorem dX5_init_148 : decode cX5_init 148 = .ok (.iinc 2 1, 3) := by decide +kernel
theorem dX5_init_151 : decode cX5_init 151 = .ok (.goto (-16), 3) := by decide +kernel
theorem dX5_init_154 : decode cX5_init 154 = .ok (.return_, 1) := by decide +kernel
theorem dX5_forgetLine_0 : decode cX5_forgetLine 0 = .ok (.iload_n 1, 1) := by decide +kernel
theorem dX5_forgetLine_1 : decode cX5_forgetLine 1 = .ok (.ifCond .lt 16, 3) := by decide +kernel
theorem dX5_forgetLine_4 : decode cX5_forgetLine 4 = .ok (.iload_n 1, 1) := by decide +kernel
theorem dX5_forgetLine_5 : decode cX5_forgetLine 5 = .ok (.bipush 60, 2) := by decide +kernel
theorem dX5_forgetLine_7 : decode cX5_forgetLine 7 = .ok (.if_icmp .ge 10, 3) := by decide +kernel
theorem dX5_forgetLine_10 : decode cX5_forgetLine 10 = .ok (.aload_n 0, 1) := by decide +kernel
theorem dX5_forgetLine_11 : decode cX5_forgetLine 11 = .ok (.getfield 51, 3) := by decide +kernel
theorem dX5_forgetLine_14 : decode cX5_forgetLine 14 = .ok (.iload_n 1, 1) := by decide +kernel
theorem dX5_forgetLine_15 : decode cX5_forgetLine 15 = .ok (.iconst (-1), 1) := by decide +kernel
theorem dX5_forgetLine_16 : decode cX5_forgetLine 16 = .ok (.iastore, 1) := by decide +kernel
theorem dX5_forgetLine_17 : decode cX5_forgetLine 17 = .ok (.aload_n 0, 1) := by decide +kernel
theorem dX5_forgetLine_18 : decode cX5_forgetLine 18 = .ok (.iconst 0, 1) := by decide +kernel
theorem dX5_forgetLine_19 : decode cX5_forgetLine 19 = .ok (.putfield 75, 3) := by decide +kernel
theorem dX5_forgetLine_22 : decode cX5_forgetLine 22 = .ok (.aload_n 0, 1) := by decide +kernel
theorem dX5_forgetLine_23 : decode cX5_forgetLine 23 = .ok (.iconst (-1), 1) := by decide +kernel
theorem dX5_forgetLine_24 : decode cX5_forgetLine 24 = .ok (.putfield 58, 3) := by decide +kernel
theorem dX5_forgetLine_27 : decode cX5_forgetLine 27 = .ok (.return_, 1) := by decide +kernel
theorem dX5_forgetFrom_0 : decode cX5_forgetFrom 0 = .ok (.iload_n 1, 1) := by decide +kernel
theorem dX5_forgetFrom_1 : decode cX5_forgetFrom 1 = .ok (.iconst 0, 1) := by decide +kernel
theorem dX5_forgetFrom_2 : decode cX5_forgetFrom 2 = .ok (.invokestatic 79, 3) := by decide +kernel
theorem dX5_forgetFrom_5 : decode cX5_forgetFrom 5 = .ok (.istore_n 2, 1) := by decide +kernel
theorem dX5_forgetFrom_6 : decode cX5_forgetFrom 6 = .ok (.iload_n 2, 1) := by decide +kernel
theorem dX5_forgetFrom_7 : decode cX5_forgetFrom 7 = .ok (.bipush 60, 2) := by decide +kernel
theorem dX5_forgetFrom_9 : decode cX5_forgetFrom 9 = .ok (.if_icmp .ge 16, 3) := by decide +kernel
theorem dX5_forgetFrom_12 : decode cX5_forgetFrom 12 = .ok (.aload_n 0, 1) := by decide +kernel
theorem dX5_forgetFrom_13 : decode cX5_forgetFrom 13 = .ok (.getfield 51, 3) := by decide +kernel
theorem dX5_forgetFrom_16 : decode cX5_forgetFrom 16 = .ok (.iload_n 2, 1) := by decide +kernel
theorem dX5_forgetFrom_17 : decode cX5_forgetFrom 17 = .ok (.iconst (-1), 1) := by decide +kernel
theorem dX5_forgetFrom_18 : decode cX5_forgetFrom 18 = .ok (.iastore, 1) := by decide +kernel
theorem dX5_forgetFrom_19 : decode cX5_forgetFrom 19 = .ok (.iinc 2 1, 3) := by decide +kernel
theorem dX5_forgetFrom_22 : decode cX5_forgetFrom 22 = .ok (.goto (-16), 3) := by decide +kernel
theorem dX5_forgetFrom_25 : decode cX5_forgetFrom 25 = .ok (.aload_n 0, 1) := by decide +kernel
theorem dX5_forgetFrom_26 : decode cX5_forgetFrom 26 = .ok (.iconst 0, 1) := by decide +kernel
theorem dX5_forgetFrom_27 : decode cX5_forgetFrom 27 = .ok (.putfield 75, 3) := by decide +kernel
theorem dX5_forgetFrom_30 : decode cX5_forgetFrom 30 = .ok (.aload_n 0, 1) := by decide +kernel
theorem dX5_forgetFrom_31 : decode cX5_forgetFrom 31 = .ok (.iconst (-1), 1) := by decide +kernel
theorem dX5_forgetFrom_32 : decode cX5_forgetFrom 32 = .ok (.putfield 58, 3) := by decide +kernel
theorem dX5_forgetFrom_35 : decode cX5_forgetFrom 35 = .ok (.return_, 1) := by decide +kernel
theorem dX5_reshape_0 : decode cX5_reshape 0 = .ok (.aload_n 0, 1) := by decide +kernel
theorem dX5_reshape_1 : decode cX5_reshape 1 = .ok (.iload_n 1, 1) := by decide +kernel
theorem dX5_reshape_2 : decode cX5_reshape 2 = .ok (.putfield 47, 3) := by decide +kernel
theorem dX5_reshape_5 : decode cX5_reshape 5 = .ok (.aload_n 0, 1) := by decide +kernel
theorem dX5_reshape_6 : decode cX5_reshape 6 = .ok (.iload_n 2, 1) := by decide +kernel
theorem dX5_reshape_7 : decode cX5_reshape 7 = .ok (.putfield 85, 3) := by decide +kernel
theorem dX5_reshape_10 : decode cX5_reshape 10 = .ok (.aload_n 0, 1) := by decide +kernel
theorem dX5_reshape_11 : decode cX5_reshape 11 = .ok (.iload_n 3, 1) := by decide +kernel
theorem dX5_reshape_12 : decode cX5_reshape 12 = .ok (.putfield 88, 3) := by decide +kernel
theorem dX5_reshape_15 : decode cX5_reshape 15 = .ok (.aload_n 0, 1) := by decide +kernel
theorem dX5_reshape_16 : decode cX5_reshape 16 = .ok (.iconst 0, 1) := by decide +kernel
theorem dX5_reshape_17 : decode cX5_reshape 17 = .ok (.invokevirtual 91, 3) := by decide +kernel
theorem dX5_reshape_20 : decode cX5_reshape 20 = .ok (.return_, 1) := by decide +kernel
theorem dX5_signCame_0 : decode cX5_signCame 0 = .ok (.aload_n 0, 1) := by decide +kernel
theorem dX5_signCame_1 : decode cX5_signCame 1 = .ok (.getfield 12, 3) := by decide +kernel
theorem dX5_signCame_4 : decode cX5_signCame 4 = .ok (.iload_n 1, 1) := by decide +kernel
theorem dX5_signCame_5 : decode cX5_signCame 5 = .ok (.iload_n 2, 1) := by decide +kernel
theorem dX5_signCame_6 : decode cX5_signCame 6 = .ok (.invokevirtual 95, 3) := by decide +kernel
theorem dX5_signCame_9 : decode cX5_signCame 9 = .ok (.aload_n 0, 1) := by decide +kernel
theorem dX5_signCame_10 : decode cX5_signCame 10 = .ok (.getfield 37, 3) := by decide +kernel
theorem dX5_signCame_13 : decode cX5_signCame 13 = .ok (.iload_n 1, 1) := by decide +kernel
theorem dX5_signCame_14 : decode cX5_signCame 14 = .ok (.iload_n 2, 1) := by decide +kernel
theorem dX5_signCame_15 : decode cX5_signCame 15 = .ok (.invokevirtual 99, 3) := by decide +kernel
theorem dX5_signCame_18 : decode cX5_signCame 18 = .ok (.aload_n 0, 1) := by decide +kernel
theorem dX5_signCame_19 : decode cX5_signCame 19 = .ok (.getfield 41, 3) := by decide +kernel
theorem dX5_signCame_22 : decode cX5_signCame 22 = .ok (.iload_n 1, 1) := by decide +kernel
theorem dX5_signCame_23 : decode cX5_signCame 23 = .ok (.iload_n 2, 1) := by decide +kernel
theorem dX5_signCame_24 : decode cX5_signCame 24 = .ok (.invokevirtual 99, 3) := by decide +kernel
theorem dX5_signCame_27 : decode cX5_signCame 27 = .ok (.aload_n 0, 1) := by decide +kernel
theorem dX5_signCame_28 : decode cX5_signCame 28 = .ok (.iload_n 1, 1) := by decide +kernel
theorem dX5_signCame_29 : decode cX5_signCame 29 = .ok (.invokevirtual 100, 3) := by decide +kernel
theorem dX5_signCame_32 : decode cX5_signCame 32 = .ok (.return_, 1) := by decide +kernel
theorem dX5_signsWent_0 : decode cX5_signsWent 0 = .ok (.aload_n 0, 1) := by decide +kernel
theorem dX5_signsWent_1 : decode cX5_signsWent 1 = .ok (.getfield 12, 3) := by decide +kernel
theorem dX5_signsWent_4 : decode cX5_signsWent 4 = .ok (.iload_n 1, 1) := by decide +kernel
theorem dX5_signsWent_5 : decode cX5_signsWent 5 = .ok (.iload_n 2, 1) := by decide +kernel
theorem dX5_signsWent_6 : decode cX5_signsWent 6 = .ok (.iload_n 3, 1) := by decide +kernel
theorem dX5_signsWent_7 : decode cX5_signsWent 7 = .ok (.invokevirtual 103, 3) := by decide +kernel
theorem dX5_signsWent_10 : decode cX5_signsWent 10 = .ok (.aload_n 0, 1) := by decide +kernel
theorem dX5_signsWent_11 : decode cX5_signsWent 11 = .ok (.getfield 37, 3) := by decide +kernel
theorem dX5_signsWent_14 : decode cX5_signsWent 14 = .ok (.iload_n 1, 1) := by decide +kernel
theorem dX5_signsWent_15 : decode cX5_signsWent 15 = .ok (.iload_n 2, 1) := by decide +kernel
theorem dX5_signsWent_16 : decode cX5_signsWent 16 = .ok (.iload_n 3, 1) := by decide +kernel
theorem dX5_signsWent_17 : decode cX5_signsWent 17 = .ok (.invokevirtual 107, 3) := by decide +kernel
theorem dX5_signsWent_20 : decode cX5_signsWent 20 = .ok (.aload_n 0, 1) := by decide +kernel
theorem dX5_signsWent_21 : decode cX5_signsWent 21 = .ok (.getfield 41, 3) := by decide +kernel
theorem dX5_signsWent_24 : decode cX5_signsWent 24 = .ok (.iload_n 1, 1) := by decide +kernel
theorem dX5_signsWent_25 : decode cX5_signsWent 25 = .ok (.iload_n 2, 1) := by decide +kernel
theorem dX5_signsWent_26 : decode cX5_signsWent 26 = .ok (.iload_n 3, 1) := by decide +kernel
theorem dX5_signsWent_27 : decode cX5_signsWent 27 = .ok (.invokevirtual 107, 3) := by decide +kernel
theorem dX5_signsWent_30 : decode cX5_signsWent 30 = .ok (.aload_n 0, 1) := by decide +kernel
theorem dX5_signsWent_31 : decode cX5_signsWent 31 = .ok (.iload_n 1, 1) := by decide +kernel
theorem dX5_signsWent_32 : decode cX5_signsWent 32 = .ok (.invokevirtual 100, 3) := by decide +kernel
theorem dX5_signsWent_35 : decode cX5_signsWent 35 = .ok (.return_, 1) := by decide +kernel
theorem dX5_lineBroke_0 : decode cX5_lineBroke 0 = .ok (.aload_n 0, 1) := by decide +kernel
theorem dX5_lineBroke_1 : decode cX5_lineBroke 1 = .ok (.getfield 12, 3) := by decide +kernel
theorem dX5_lineBroke_4 : decode cX5_lineBroke 4 = .ok (.iload_n 1, 1) := by decide +kernel
theorem dX5_lineBroke_5 : decode cX5_lineBroke 5 = .ok (.iload_n 2, 1) := by decide +kernel
theorem dX5_lineBroke_6 : decode cX5_lineBroke 6 = .ok (.invokevirtual 108, 3) := by decide +kernel
theorem dX5_lineBroke_9 : decode cX5_lineBroke 9 = .ok (.aload_n 0, 1) := by decide +kernel
theorem dX5_lineBroke_10 : decode cX5_lineBroke 10 = .ok (.getfield 37, 3) := by decide +kernel
theorem dX5_lineBroke_13 : decode cX5_lineBroke 13 = .ok (.iload_n 1, 1) := by decide +kernel
theorem dX5_lineBroke_14 : decode cX5_lineBroke 14 = .ok (.iload_n 2, 1) := by decide +kernel
theorem dX5_lineBroke_15 : decode cX5_lineBroke 15 = .ok (.invokevirtual 111, 3) := by decide +kernel
theorem dX5_lineBroke_18 : decode cX5_lineBroke 18 = .ok (.aload_n 0, 1) := by decide +kernel
theorem dX5_lineBroke_19 : decode cX5_lineBroke 19 = .ok (.getfield 41, 3) := by decide +kernel
theorem dX5_lineBroke_22 : decode cX5_lineBroke 22 = .ok (.iload_n 1, 1) := by decide +kernel
theorem dX5_lineBroke_23 : decode cX5_lineBroke 23 = .ok (.iload_n 2, 1) := by decide +kernel
theorem dX5_lineBroke_24 : decode cX5_lineBroke 24 = .ok (.invokevirtual 111, 3) := by decide +kernel
theorem dX5_lineBroke_27 : decode cX5_lineBroke 27 = .ok (.aload_n 0, 1) := by decide +kernel
theorem dX5_lineBroke_28 : decode cX5_lineBroke 28 = .ok (.iload_n 1, 1) := by decide +kernel
theorem dX5_lineBroke_29 : decode cX5_lineBroke 29 = .ok (.invokevirtual 91, 3) := by decide +kernel
theorem dX5_lineBroke_32 : decode cX5_lineBroke 32 = .ok (.return_, 1) := by decide +kernel
theorem dX5_linesJoined_0 : decode cX5_linesJoined 0 = .ok (.aload_n 0, 1) := by decide +kernel
theorem dX5_linesJoined_1 : decode cX5_linesJoined 1 = .ok (.getfield 12, 3) := by decide +kernel
theorem dX5_linesJoined_4 : decode cX5_linesJoined 4 = .ok (.iload_n 1, 1) := by decide +kernel
theorem dX5_linesJoined_5 : decode cX5_linesJoined 5 = .ok (.iload_n 2, 1) := by decide +kernel
theorem dX5_linesJoined_6 : decode cX5_linesJoined 6 = .ok (.invokevirtual 112, 3) := by decide +kernel
theorem dX5_linesJoined_9 : decode cX5_linesJoined 9 = .ok (.aload_n 0, 1) := by decide +kernel
theorem dX5_linesJoined_10 : decode cX5_linesJoined 10 = .ok (.getfield 37, 3) := by decide +kernel
theorem dX5_linesJoined_13 : decode cX5_linesJoined 13 = .ok (.iload_n 1, 1) := by decide +kernel
theorem dX5_linesJoined_14 : decode cX5_linesJoined 14 = .ok (.iload_n 2, 1) := by decide +kernel
theorem dX5_linesJoined_15 : decode cX5_linesJoined 15 = .ok (.invokevirtual 115, 3) := by decide +kernel
theorem dX5_linesJoined_18 : decode cX5_linesJoined 18 = .ok (.aload_n 0, 1) := by decide +kernel
theorem dX5_linesJoined_19 : decode cX5_linesJoined 19 = .ok (.getfield 41, 3) := by decide +kernel
theorem dX5_linesJoined_22 : decode cX5_linesJoined 22 = .ok (.iload_n 1, 1) := by decide +kernel
theorem dX5_linesJoined_23 : decode cX5_linesJoined 23 = .ok (.iload_n 2, 1) := by decide +kernel
theorem dX5_linesJoined_24 : decode cX5_linesJoined 24 = .ok (.invokevirtual 115, 3) := by decide +kernel
theorem dX5_linesJoined_27 : decode cX5_linesJoined 27 = .ok (.aload_n 0, 1) := by decide +kernel
theorem dX5_linesJoined_28 : decode cX5_linesJoined 28 = .ok (.iload_n 1, 1) := by decide +kernel
theorem dX5_linesJoined_29 : decode cX5_linesJoined 29 = .ok (.invokevirtual 91, 3) := by decide +kernel
theorem dX5_linesJoined_32 : decode cX5_linesJoined 32 = .ok (.return_, 1) := by decide +kernel
theorem dX5_refresh_0 : decode cX5_refresh 0 = .ok (.aload_n 0, 1) := by decide +kernel
theorem dX5_refresh_1 : decode cX5_refresh 1 = .ok (.getfield 75, 3) := by decide +kernel
theorem dX5_refresh_4 : decode cX5_refresh 4 = .ok (.ifCond .eq 4, 3) := by decide +kernel
theorem dX5_refresh_7 : decode cX5_refresh 7 = .ok (.return_, 1) := by decide +kernel
theorem dX5_refresh_8 : decode cX5_refresh 8 = .ok (.aload_n 0, 1) := by decide +kernel
theorem dX5_refresh_9 : decode cX5_refresh 9 = .ok (.iconst 0, 1) := by decide +kernel
theorem dX5_refresh_10 : decode cX5_refresh 10 = .ok (.putfield 116, 3) := by decide +kernel
theorem dX5_refresh_13 : decode cX5_refresh 13 = .ok (.iconst 0, 1) := by decide +kernel
theorem dX5_refresh_14 : decode cX5_refresh 14 = .ok (.istore_n 1, 1) := by decide +kernel
theorem dX5_refresh_15 : decode cX5_refresh 15 = .ok (.iload_n 1, 1) := by decide +kernel
theorem dX5_refresh_16 : decode cX5_refresh 16 = .ok (.aload_n 0, 1) := by decide +kernel
theorem dX5_refresh_17 : decode cX5_refresh 17 = .ok (.getfield 71, 3) := by decide +kernel
theorem dX5_refresh_20 : decode cX5_refresh 20 = .ok (.getfield 119, 3) := by decide +kernel
theorem dX5_refresh_23 : decode cX5_refresh 23 = .ok (.if_icmp .ge 79, 3) := by decide +kernel
theorem dX5_refresh_26 : decode cX5_refresh 26 = .ok (.iload_n 1, 1) := by decide +kernel
theorem dX5_refresh_27 : decode cX5_refresh 27 = .ok (.bipush 60, 2) := by decide +kernel
theorem dX5_refresh_29 : decode cX5_refresh 29 = .ok (.if_icmp .ge 73, 3) := by decide +kernel
theorem dX5_refresh_32 : decode cX5_refresh 32 = .ok (.aload_n 0, 1) := by decide +kernel
theorem dX5_refresh_33 : decode cX5_refresh 33 = .ok (.getfield 51, 3) := by decide +kernel
theorem dX5_refresh_36 : decode cX5_refresh 36 = .ok (.iload_n 1, 1) := by decide +kernel
theorem dX5_refresh_37 : decode cX5_refresh 37 = .ok (.iaload, 1) := by decide +kernel
theorem dX5_refresh_38 : decode cX5_refresh 38 = .ok (.iconst (-1), 1) := by decide +kernel
theorem dX5_refresh_39 : decode cX5_refresh 39 = .ok (.if_icmp .ne 32, 3) := by decide +kernel
theorem dX5_refresh_42 : decode cX5_refresh 42 = .ok (.aload_n 0, 1) := by decide +kernel
theorem dX5_refresh_43 : decode cX5_refresh 43 = .ok (.getfield 51, 3) := by decide +kernel
theorem dX5_refresh_46 : decode cX5_refresh 46 = .ok (.iload_n 1, 1) := by decide +kernel
theorem dX5_refresh_47 : decode cX5_refresh 47 = .ok (.aload_n 0, 1) := by decide +kernel
theorem dX5_refresh_48 : decode cX5_refresh 48 = .ok (.getfield 12, 3) := by decide +kernel
theorem dX5_refresh_51 : decode cX5_refresh 51 = .ok (.iload_n 1, 1) := by decide +kernel
theorem dX5_refresh_52 : decode cX5_refresh 52 = .ok (.invokevirtual 124, 3) := by decide +kernel
theorem dX5_refresh_55 : decode cX5_refresh 55 = .ok (.ifCond .eq 14, 3) := by decide +kernel
theorem dX5_refresh_58 : decode cX5_refresh 58 = .ok (.aload_n 0, 1) := by decide +kernel
theorem dX5_refresh_59 : decode cX5_refresh 59 = .ok (.iload_n 1, 1) := by decide +kernel
theorem dX5_refresh_60 : decode cX5_refresh 60 = .ok (.invokevirtual 128, 3) := by decide +kernel
theorem dX5_refresh_63 : decode cX5_refresh 63 = .ok (.getfield 132, 3) := by decide +kernel
theorem dX5_refresh_66 : decode cX5_refresh 66 = .ok (.goto 4, 3) := by decide +kernel
theorem dX5_refresh_69 : decode cX5_refresh 69 = .ok (.iconst 0, 1) := by decide +kernel
theorem dX5_refresh_70 : decode cX5_refresh 70 = .ok (.iastore, 1) := by decide +kernel
theorem dX5_refresh_71 : decode cX5_refresh 71 = .ok (.aload_n 0, 1) := by decide +kernel
theorem dX5_refresh_72 : decode cX5_refresh 72 = .ok (.getfield 55, 3) := by decide +kernel
theorem dX5_refresh_75 : decode cX5_refresh 75 = .ok (.iload_n 1, 1) := by decide +kernel
theorem dX5_refresh_76 : decode cX5_refresh 76 = .ok (.aload_n 0, 1) := by decide +kernel
theorem dX5_refresh_77 : decode cX5_refresh 77 = .ok (.getfield 116, 3) := by decide +kernel
theorem dX5_refresh_80 : decode cX5_refresh 80 = .ok (.iastore, 1) := by decide +kernel
theorem dX5_refresh_81 : decode cX5_refresh 81 = .ok (.aload_n 0, 1) := by decide +kernel
theorem dX5_refresh_82 : decode cX5_refresh 82 = .ok (.dup, 1) := by decide +kernel
theorem dX5_refresh_83 : decode cX5_refresh 83 = .ok (.getfield 116, 3) := by decide +kernel
theorem dX5_refresh_86 : decode cX5_refresh 86 = .ok (.aload_n 0, 1) := by decide +kernel
theorem dX5_refresh_87 : decode cX5_refresh 87 = .ok (.getfield 51, 3) := by decide +kernel
theorem dX5_refresh_90 : decode cX5_refresh 90 = .ok (.iload_n 1, 1) := by decide +kernel
theorem dX5_refresh_91 : decode cX5_refresh 91 = .ok (.iaload, 1) := by decide +kernel
theorem dX5_refresh_92 : decode cX5_refresh 92 = .ok (.iadd, 1) := by decide +kernel
theorem dX5_refresh_93 : decode cX5_refresh 93 = .ok (.putfield 116, 3) := by decide +kernel
theorem dX5_refresh_96 : decode cX5_refresh 96 = .ok (.iinc 1 1, 3) := by decide +kernel
theorem dX5_refresh_99 : decode cX5_refresh 99 = .ok (.goto (-84), 3) := by decide +kernel
theorem dX5_refresh_102 : decode cX5_refresh 102 = .ok (.aload_n 0, 1) := by decide +kernel
theorem dX5_refresh_103 : decode cX5_refresh 103 = .ok (.iconst 1, 1) := by decide +kernel
theorem dX5_refresh_104 : decode cX5_refresh 104 = .ok (.putfield 75, 3) := by decide +kernel
theorem dX5_refresh_107 : decode cX5_refresh 107 = .ok (.return_, 1) := by decide +kernel
theorem dX5_measured_0 : decode cX5_measured 0 = .ok (.aload_n 0, 1) := by decide +kernel
theorem dX5_measured_1 : decode cX5_measured 1 = .ok (.getfield 58, 3) := by decide +kernel
theorem dX5_measured_4 : decode cX5_measured 4 = .ok (.iload_n 1, 1) := by decide +kernel
theorem dX5_measured_5 : decode cX5_measured 5 = .ok (.if_icmp .eq 48, 3) := by decide +kernel
theorem dX5_measured_8 : decode cX5_measured 8 = .ok (.aload_n 0, 1) := by decide +kernel
theorem dX5_measured_9 : decode cX5_measured 9 = .ok (.getfield 21, 3) := by decide +kernel
theorem dX5_measured_12 : decode cX5_measured 12 = .ok (.aload_n 0, 1) := by decide +kernel
theorem dX5_measured_13 : decode cX5_measured 13 = .ok (.getfield 71, 3) := by decide +kernel
theorem dX5_measured_16 : decode cX5_measured 16 = .ok (.iload_n 1, 1) := by decide +kernel
theorem dX5_measured_17 : decode cX5_measured 17 = .ok (.invokevirtual 135, 3) := by decide +kernel
theorem dX5_measured_20 : decode cX5_measured 20 = .ok (.aload_n 0, 1) := by decide +kernel
theorem dX5_measured_21 : decode cX5_measured 21 = .ok (.getfield 12, 3) := by decide +kernel
theorem dX5_measured_24 : decode cX5_measured 24 = .ok (.iload_n 1, 1) := by decide +kernel
theorem dX5_measured_25 : decode cX5_measured 25 = .ok (.invokevirtual 139, 3) := by decide +kernel
theorem dX5_measured_28 : decode cX5_measured 28 = .ok (.aload_n 0, 1) := by decide +kernel
theorem dX5_measured_29 : decode cX5_measured 29 = .ok (.getfield 21, 3) := by decide +kernel
theorem dX5_measured_32 : decode cX5_measured 32 = .ok (.aload_n 0, 1) := by decide +kernel
theorem dX5_measured_33 : decode cX5_measured 33 = .ok (.getfield 47, 3) := by decide +kernel
theorem dX5_measured_36 : decode cX5_measured 36 = .ok (.aload_n 0, 1) := by decide +kernel
theorem dX5_measured_37 : decode cX5_measured 37 = .ok (.getfield 85, 3) := by decide +kernel
theorem dX5_measured_40 : decode cX5_measured 40 = .ok (.invokevirtual 143, 3) := by decide +kernel
theorem dX5_measured_43 : decode cX5_measured 43 = .ok (.aload_n 0, 1) := by decide +kernel
theorem dX5_measured_44 : decode cX5_measured 44 = .ok (.iload_n 1, 1) := by decide +kernel
theorem dX5_measured_45 : decode cX5_measured 45 = .ok (.putfield 58, 3) := by decide +kernel
theorem dX5_measured_48 : decode cX5_measured 48 = .ok (.aload_n 0, 1) := by decide +kernel
theorem dX5_measured_49 : decode cX5_measured 49 = .ok (.iconst 0, 1) := by decide +kernel
theorem dX5_measured_50 : decode cX5_measured 50 = .ok (.putfield 146, 3) := by decide +kernel
theorem dX5_measured_53 : decode cX5_measured 53 = .ok (.aload_n 0, 1) := by decide +kernel
theorem dX5_measured_54 : decode cX5_measured 54 = .ok (.getfield 21, 3) := by decide +kernel
theorem dX5_measured_57 : decode cX5_measured 57 = .ok (.areturn, 1) := by decide +kernel
theorem dX5_turned_0 : decode cX5_turned 0 = .ok (.aload_n 0, 1) := by decide +kernel
theorem dX5_turned_1 : decode cX5_turned 1 = .ok (.getfield 146, 3) := by decide +kernel
theorem dX5_turned_4 : decode cX5_turned 4 = .ok (.ifCond .ne 26, 3) := by decide +kernel
theorem dX5_turned_7 : decode cX5_turned 7 = .ok (.aload_n 0, 1) := by decide +kernel
theorem dX5_turned_8 : decode cX5_turned 8 = .ok (.getfield 28, 3) := by decide +kernel
theorem dX5_turned_11 : decode cX5_turned 11 = .ok (.aload_n 0, 1) := by decide +kernel
theorem dX5_turned_12 : decode cX5_turned 12 = .ok (.getfield 21, 3) := by decide +kernel
theorem dX5_turned_15 : decode cX5_turned 15 = .ok (.invokevirtual 149, 3) := by decide +kernel
theorem dX5_turned_18 : decode cX5_turned 18 = .ok (.aload_n 0, 1) := by decide +kernel
theorem dX5_turned_19 : decode cX5_turned 19 = .ok (.getfield 21, 3) := by decide +kernel
theorem dX5_turned_22 : decode cX5_turned 22 = .ok (.invokevirtual 153, 3) := by decide +kernel
theorem dX5_turned_25 : decode cX5_turned 25 = .ok (.aload_n 0, 1) := by decide +kernel
theorem dX5_turned_26 : decode cX5_turned 26 = .ok (.iconst 1, 1) := by decide +kernel
theorem dX5_turned_27 : decode cX5_turned 27 = .ok (.putfield 146, 3) := by decide +kernel
theorem dX5_turned_30 : decode cX5_turned 30 = .ok (.aload_n 0, 1) := by decide +kernel
theorem dX5_turned_31 : decode cX5_turned 31 = .ok (.getfield 21, 3) := by decide +kernel
theorem dX5_turned_34 : decode cX5_turned 34 = .ok (.areturn, 1) := by decide +kernel
theorem dX5_rowCount_0 : decode cX5_rowCount 0 = .ok (.iload_n 1, 1) := by decide +kernel
theorem dX5_rowCount_1 : decode cX5_rowCount 1 = .ok (.ifCond .lt 18, 3) := by decide +kernel
theorem dX5_rowCount_4 : decode cX5_rowCount 4 = .ok (.iload_n 1, 1) := by decide +kernel
theorem dX5_rowCount_5 : decode cX5_rowCount 5 = .ok (.bipush 60, 2) := by decide +kernel
theorem dX5_rowCount_7 : decode cX5_rowCount 7 = .ok (.if_icmp .ge 12, 3) := by decide +kernel
theorem dX5_rowCount_10 : decode cX5_rowCount 10 = .ok (.aload_n 0, 1) := by decide +kernel
theorem dX5_rowCount_11 : decode cX5_rowCount 11 = .ok (.getfield 51, 3) := by decide +kernel
theorem dX5_rowCount_14 : decode cX5_rowCount 14 = .ok (.iload_n 1, 1) := by decide +kernel
theorem dX5_rowCount_15 : decode cX5_rowCount 15 = .ok (.iaload, 1) := by decide +kernel
theorem dX5_rowCount_16 : decode cX5_rowCount 16 = .ok (.goto 4, 3) := by decide +kernel
theorem dX5_rowCount_19 : decode cX5_rowCount 19 = .ok (.iconst 0, 1) := by decide +kernel
theorem dX5_rowCount_20 : decode cX5_rowCount 20 = .ok (.ireturn, 1) := by decide +kernel
theorem dX5_firstRow_0 : decode cX5_firstRow 0 = .ok (.iload_n 1, 1) := by decide +kernel
theorem dX5_firstRow_1 : decode cX5_firstRow 1 = .ok (.ifCond .lt 18, 3) := by decide +kernel
theorem dX5_firstRow_4 : decode cX5_firstRow 4 = .ok (.iload_n 1, 1) := by decide +kernel
theorem dX5_firstRow_5 : decode cX5_firstRow 5 = .ok (.bipush 60, 2) := by decide +kernel
theorem dX5_firstRow_7 : decode cX5_firstRow 7 = .ok (.if_icmp .ge 12, 3) := by decide +kernel
theorem dX5_firstRow_10 : decode cX5_firstRow 10 = .ok (.aload_n 0, 1) := by decide +kernel
theorem dX5_firstRow_11 : decode cX5_firstRow 11 = .ok (.getfield 55, 3) := by decide +kernel
theorem dX5_firstRow_14 : decode cX5_firstRow 14 = .ok (.iload_n 1, 1) := by decide +kernel
theorem dX5_firstRow_15 : decode cX5_firstRow 15 = .ok (.iaload, 1) := by decide +kernel
theorem dX5_firstRow_16 : decode cX5_firstRow 16 = .ok (.goto 4, 3) := by decide +kernel
theorem dX5_firstRow_19 : decode cX5_firstRow 19 = .ok (.iconst 0, 1) := by decide +kernel
theorem dX5_firstRow_20 : decode cX5_firstRow 20 = .ok (.ireturn, 1) := by decide +kernel
theorem dX5_lineOfRow_0 : decode cX5_lineOfRow 0 = .ok (.iconst 0, 1) := by decide +kernel
theorem dX5_lineOfRow_1 : decode cX5_lineOfRow 1 = .ok (.istore_n 2, 1) := by decide +kernel
theorem dX5_lineOfRow_2 : decode cX5_lineOfRow 2 = .ok (.iload_n 2, 1) := by decide +kernel
theorem dX5_lineOfRow_3 : decode cX5_lineOfRow 3 = .ok (.aload_n 0, 1) := by decide +kernel
theorem dX5_lineOfRow_4 : decode cX5_lineOfRow 4 = .ok (.getfield 71, 3) := by decide +kernel
theorem dX5_lineOfRow_7 : decode cX5_lineOfRow 7 = .ok (.getfield 119, 3) := by decide +kernel
theorem dX5_lineOfRow_10 : decode cX5_lineOfRow 10 = .ok (.if_icmp .ge 26, 3) := by decide +kernel
theorem dX5_lineOfRow_13 : decode cX5_lineOfRow 13 = .ok (.iload_n 1, 1) := by decide +kernel
theorem dX5_lineOfRow_14 : decode cX5_lineOfRow 14 = .ok (.aload_n 0, 1) := by decide +kernel
theorem dX5_lineOfRow_15 : decode cX5_lineOfRow 15 = .ok (.iload_n 2, 1) := by decide +kernel
theorem dX5_lineOfRow_16 : decode cX5_lineOfRow 16 = .ok (.invokevirtual 156, 3) := by decide +kernel
theorem dX5_lineOfRow_19 : decode cX5_lineOfRow 19 = .ok (.aload_n 0, 1) := by decide +kernel
theorem dX5_lineOfRow_20 : decode cX5_lineOfRow 20 = .ok (.iload_n 2, 1) := by decide +kernel
theorem dX5_lineOfRow_21 : decode cX5_lineOfRow 21 = .ok (.invokevirtual 160, 3) := by decide +kernel
theorem dX5_lineOfRow_24 : decode cX5_lineOfRow 24 = .ok (.iadd, 1) := by decide +kernel
theorem dX5_lineOfRow_25 : decode cX5_lineOfRow 25 = .ok (.if_icmp .ge 5, 3) := by decide +kernel
theorem dX5_lineOfRow_28 : decode cX5_lineOfRow 28 = .ok (.iload_n 2, 1) := by decide +kernel
theorem dX5_lineOfRow_29 : decode cX5_lineOfRow 29 = .ok (.ireturn, 1) := by decide +kernel
theorem dX5_lineOfRow_30 : decode cX5_lineOfRow 30 = .ok (.iinc 2 1, 3) := by decide +kernel
theorem dX5_lineOfRow_33 : decode cX5_lineOfRow 33 = .ok (.goto (-31), 3) := by decide +kernel
theorem dX5_lineOfRow_36 : decode cX5_lineOfRow 36 = .ok (.iconst 0, 1) := by decide +kernel
theorem dX5_lineOfRow_37 : decode cX5_lineOfRow 37 = .ok (.ireturn, 1) := by decide +kernel
theorem dX5_rowInLine_0 : decode cX5_rowInLine 0 = .ok (.iload_n 1, 1) := by decide +kernel
theorem dX5_rowInLine_1 : decode cX5_rowInLine 1 = .ok (.aload_n 0, 1) := by decide +kernel
theorem dX5_rowInLine_2 : decode cX5_rowInLine 2 = .ok (.iload_n 2, 1) := by decide +kernel
theorem dX5_rowInLine_3 : decode cX5_rowInLine 3 = .ok (.invokevirtual 156, 3) := by decide +kernel
theorem dX5_rowInLine_6 : decode cX5_rowInLine 6 = .ok (.isub, 1) := by decide +kernel
theorem dX5_rowInLine_7 : decode cX5_rowInLine 7 = .ok (.ireturn, 1) := by decide +kernel
theorem dX5_rowDown_0 : decode cX5_rowDown 0 = .ok (.aload_n 0, 1) := by decide +kernel
theorem dX5_rowDown_1 : decode cX5_rowDown 1 = .ok (.iload_n 1, 1) := by decide +kernel
theorem dX5_rowDown_2 : decode cX5_rowDown 2 = .ok (.invokevirtual 128, 3) := by decide +kernel
theorem dX5_rowDown_5 : decode cX5_rowDown 5 = .ok (.astore 4, 2) := by decide +kernel
theorem dX5_rowDown_7 : decode cX5_rowDown 7 = .ok (.aload_n 0, 1) := by decide +kernel
theorem dX5_rowDown_8 : decode cX5_rowDown 8 = .ok (.iload_n 1, 1) := by decide +kernel
theorem dX5_rowDown_9 : decode cX5_rowDown 9 = .ok (.invokevirtual 156, 3) := by decide +kernel
theorem dX5_rowDown_12 : decode cX5_rowDown 12 = .ok (.aload 4, 2) := by decide +kernel
theorem dX5_rowDown_14 : decode cX5_rowDown 14 = .ok (.aload 4, 2) := by decide +kernel
theorem dX5_rowDown_16 : decode cX5_rowDown 16 = .ok (.iload_n 2, 1) := by decide +kernel
theorem dX5_rowDown_17 : decode cX5_rowDown 17 = .ok (.iload_n 3, 1) := by decide +kernel
theorem dX5_rowDown_18 : decode cX5_rowDown 18 = .ok (.invokevirtual 162, 3) := by decide +kernel
theorem dX5_rowDown_21 : decode cX5_rowDown 21 = .ok (.invokevirtual 165, 3) := by decide +kernel
theorem dX5_rowDown_24 : decode cX5_rowDown 24 = .ok (.iadd, 1) := by decide +kernel
theorem dX5_rowDown_25 : decode cX5_rowDown 25 = .ok (.ireturn, 1) := by decide +kernel
theorem dX5_columnDown_0 : decode cX5_columnDown 0 = .ok (.aload_n 0, 1) := by decide +kernel
theorem dX5_columnDown_1 : decode cX5_columnDown 1 = .ok (.iload_n 1, 1) := by decide +kernel
theorem dX5_columnDown_2 : decode cX5_columnDown 2 = .ok (.invokevirtual 128, 3) := by decide +kernel
theorem dX5_columnDown_5 : decode cX5_columnDown 5 = .ok (.pop, 1) := by decide +kernel
theorem dX5_columnDown_6 : decode cX5_columnDown 6 = .ok (.aload_n 0, 1) := by decide +kernel
theorem dX5_columnDown_7 : decode cX5_columnDown 7 = .ok (.invokevirtual 168, 3) := by decide +kernel
theorem dX5_columnDown_10 : decode cX5_columnDown 10 = .ok (.astore 4, 2) := by decide +kernel
theorem dX5_columnDown_12 : decode cX5_columnDown 12 = .ok (.aload 4, 2) := by decide +kernel
theorem dX5_columnDown_14 : decode cX5_columnDown 14 = .ok (.aload 4, 2) := by decide +kernel
theorem dX5_columnDown_16 : decode cX5_columnDown 16 = .ok (.iload_n 2, 1) := by decide +kernel
theorem dX5_columnDown_17 : decode cX5_columnDown 17 = .ok (.iload_n 3, 1) := by decide +kernel
theorem dX5_columnDown_18 : decode cX5_columnDown 18 = .ok (.invokevirtual 162, 3) := by decide +kernel
theorem dX5_columnDown_21 : decode cX5_columnDown 21 = .ok (.invokevirtual 172, 3) := by decide +kernel
theorem dX5_columnDown_24 : decode cX5_columnDown 24 = .ok (.ireturn, 1) := by decide +kernel
theorem dX5_placeUp_0 : decode cX5_placeUp 0 = .ok (.aload_n 0, 1) := by decide +kernel
theorem dX5_placeUp_1 : decode cX5_placeUp 1 = .ok (.iload_n 1, 1) := by decide +kernel
theorem dX5_placeUp_2 : decode cX5_placeUp 2 = .ok (.invokevirtual 175, 3) := by decide +kernel
theorem dX5_placeUp_5 : decode cX5_placeUp 5 = .ok (.istore_n 3, 1) := by decide +kernel
theorem dX5_placeUp_6 : decode cX5_placeUp 6 = .ok (.aload_n 0, 1) := by decide +kernel
theorem dX5_placeUp_7 : decode cX5_placeUp 7 = .ok (.iload_n 3, 1) := by decide +kernel
theorem dX5_placeUp_8 : decode cX5_placeUp 8 = .ok (.invokevirtual 128, 3) := by decide +kernel
theorem dX5_placeUp_11 : decode cX5_placeUp 11 = .ok (.pop, 1) := by decide +kernel
theorem dX5_placeUp_12 : decode cX5_placeUp 12 = .ok (.aload_n 0, 1) := by decide +kernel
theorem dX5_placeUp_13 : decode cX5_placeUp 13 = .ok (.invokevirtual 168, 3) := by decide +kernel
theorem dX5_placeUp_16 : decode cX5_placeUp 16 = .ok (.aload_n 0, 1) := by decide +kernel
theorem dX5_placeUp_17 : decode cX5_placeUp 17 = .ok (.iload_n 1, 1) := by decide +kernel
theorem dX5_placeUp_18 : decode cX5_placeUp 18 = .ok (.iload_n 3, 1) := by decide +kernel
theorem dX5_placeUp_19 : decode cX5_placeUp 19 = .ok (.invokevirtual 178, 3) := by decide +kernel
theorem dX5_placeUp_22 : decode cX5_placeUp 22 = .ok (.iload_n 2, 1) := by decide +kernel
theorem dX5_placeUp_23 : decode cX5_placeUp 23 = .ok (.invokevirtual 181, 3) := by decide +kernel
theorem dX5_placeUp_26 : decode cX5_placeUp 26 = .ok (.ireturn, 1) := by decide +kernel
theorem dX5_marksOfRow_0 : decode cX5_marksOfRow 0 = .ok (.aload_n 0, 1) := by decide +kernel
theorem dX5_marksOfRow_1 : decode cX5_marksOfRow 1 = .ok (.iload_n 1, 1) := by decide +kernel
theorem dX5_marksOfRow_2 : decode cX5_marksOfRow 2 = .ok (.invokevirtual 175, 3) := by decide +kernel
theorem dX5_marksOfRow_5 : decode cX5_marksOfRow 5 = .ok (.istore_n 2, 1) := by decide +kernel
theorem dX5_marksOfRow_6 : decode cX5_marksOfRow 6 = .ok (.iload_n 1, 1) := by decide +kernel
theorem dX5_marksOfRow_7 : decode cX5_marksOfRow 7 = .ok (.aload_n 0, 1) := by decide +kernel
theorem dX5_marksOfRow_8 : decode cX5_marksOfRow 8 = .ok (.iload_n 2, 1) := by decide +kernel
theorem dX5_marksOfRow_9 : decode cX5_marksOfRow 9 = .ok (.invokevirtual 156, 3) := by decide +kernel
theorem dX5_marksOfRow_12 : decode cX5_marksOfRow 12 = .ok (.if_icmp .eq 5, 3) := by decide +kernel
theorem dX5_marksOfRow_15 : decode cX5_marksOfRow 15 = .ok (.iconst 0, 1) := by decide +kernel
theorem dX5_marksOfRow_16 : decode cX5_marksOfRow 16 = .ok (.ireturn, 1) := by decide +kernel
theorem dX5_marksOfRow_17 : decode cX5_marksOfRow 17 = .ok (.aload_n 0, 1) := by decide +kernel
theorem dX5_marksOfRow_18 : decode cX5_marksOfRow 18 = .ok (.getfield 71, 3) := by decide +kernel
theorem dX5_marksOfRow_21 : decode cX5_marksOfRow 21 = .ok (.iload_n 2, 1) := by decide +kernel
theorem dX5_marksOfRow_22 : decode cX5_marksOfRow 22 = .ok (.iload_n 2, 1) := by decide +kernel
theorem dX5_marksOfRow_23 : decode cX5_marksOfRow 23 = .ok (.aload_n 0, 1) := by decide +kernel
theorem dX5_marksOfRow_24 : decode cX5_marksOfRow 24 = .ok (.getfield 12, 3) := by decide +kernel
theorem dX5_marksOfRow_27 : decode cX5_marksOfRow 27 = .ok (.iload_n 2, 1) := by decide +kernel
theorem dX5_marksOfRow_28 : decode cX5_marksOfRow 28 = .ok (.invokevirtual 184, 3) := by decide +kernel
theorem dX5_marksOfRow_31 : decode cX5_marksOfRow 31 = .ok (.invokestatic 79, 3) := by decide +kernel
theorem dX5_marksOfRow_34 : decode cX5_marksOfRow 34 = .ok (.invokevirtual 187, 3) := by decide +kernel
theorem dX5_marksOfRow_37 : decode cX5_marksOfRow 37 = .ok (.ireturn, 1) := by decide +kernel
theorem dX5_takenLine_0 : decode cX5_takenLine 0 = .ok (.aload_n 1, 1) := by decide +kernel
theorem dX5_takenLine_1 : decode cX5_takenLine 1 = .ok (.getfield 193, 3) := by decide +kernel
theorem dX5_takenLine_4 : decode cX5_takenLine 4 = .ok (.istore_n 2, 1) := by decide +kernel
theorem dX5_takenLine_5 : decode cX5_takenLine 5 = .ok (.iload_n 2, 1) := by decide +kernel
theorem dX5_takenLine_6 : decode cX5_takenLine 6 = .ok (.ifCond .le 20, 3) := by decide +kernel
theorem dX5_takenLine_9 : decode cX5_takenLine 9 = .ok (.aload_n 0, 1) := by decide +kernel
theorem dX5_takenLine_10 : decode cX5_takenLine 10 = .ok (.getfield 12, 3) := by decide +kernel
theorem dX5_takenLine_13 : decode cX5_takenLine 13 = .ok (.iload_n 2, 1) := by decide +kernel
theorem dX5_takenLine_14 : decode cX5_takenLine 14 = .ok (.invokevirtual 124, 3) := by decide +kernel
theorem dX5_takenLine_17 : decode cX5_takenLine 17 = .ok (.ifCond .ne 9, 3) := by decide +kernel
theorem dX5_takenLine_20 : decode cX5_takenLine 20 = .ok (.iinc 2 (-1), 3) := by decide +kernel
theorem dX5_takenLine_23 : decode cX5_takenLine 23 = .ok (.goto (-18), 3) := by decide +kernel
theorem dX5_takenLine_26 : decode cX5_takenLine 26 = .ok (.iload_n 2, 1) := by decide +kernel
theorem dX5_takenLine_27 : decode cX5_takenLine 27 = .ok (.ireturn, 1) := by decide +kernel
theorem dX5_takenAt_0 : decode cX5_takenAt 0 = .ok (.aload_n 0, 1) := by decide +kernel
theorem dX5_takenAt_1 : decode cX5_takenAt 1 = .ok (.aload_n 1, 1) := by decide +kernel
theorem dX5_takenAt_2 : decode cX5_takenAt 2 = .ok (.invokevirtual 196, 3) := by decide +kernel
theorem dX5_takenAt_5 : decode cX5_takenAt 5 = .ok (.aload_n 1, 1) := by decide +kernel
theorem dX5_takenAt_6 : decode cX5_takenAt 6 = .ok (.getfield 193, 3) := by decide +kernel
theorem dX5_takenAt_9 : decode cX5_takenAt 9 = .ok (.if_icmp .ne 10, 3) := by decide +kernel
theorem dX5_takenAt_12 : decode cX5_takenAt 12 = .ok (.aload_n 1, 1) := by decide +kernel
theorem dX5_takenAt_13 : decode cX5_takenAt 13 = .ok (.getfield 200, 3) := by decide +kernel
theorem dX5_takenAt_16 : decode cX5_takenAt 16 = .ok (.goto 4, 3) := by decide +kernel
theorem dX5_takenAt_19 : decode cX5_takenAt 19 = .ok (.iconst 0, 1) := by decide +kernel
theorem dX5_takenAt_20 : decode cX5_takenAt 20 = .ok (.ireturn, 1) := by decide +kernel
theorem dX5_cursorRow_0 : decode cX5_cursorRow 0 = .ok (.aload_n 0, 1) := by decide +kernel
theorem dX5_cursorRow_1 : decode cX5_cursorRow 1 = .ok (.aload_n 0, 1) := by decide +kernel
theorem dX5_cursorRow_2 : decode cX5_cursorRow 2 = .ok (.aload_n 0, 1) := by decide +kernel
theorem dX5_cursorRow_3 : decode cX5_cursorRow 3 = .ok (.getfield 37, 3) := by decide +kernel
theorem dX5_cursorRow_6 : decode cX5_cursorRow 6 = .ok (.invokevirtual 196, 3) := by decide +kernel
theorem dX5_cursorRow_9 : decode cX5_cursorRow 9 = .ok (.aload_n 0, 1) := by decide +kernel
theorem dX5_cursorRow_10 : decode cX5_cursorRow 10 = .ok (.aload_n 0, 1) := by decide +kernel
theorem dX5_cursorRow_11 : decode cX5_cursorRow 11 = .ok (.getfield 37, 3) := by decide +kernel
theorem dX5_cursorRow_14 : decode cX5_cursorRow 14 = .ok (.invokevirtual 202, 3) := by decide +kernel
theorem dX5_cursorRow_17 : decode cX5_cursorRow 17 = .ok (.iconst 0, 1) := by decide +kernel
theorem dX5_cursorRow_18 : decode cX5_cursorRow 18 = .ok (.invokevirtual 205, 3) := by decide +kernel
theorem dX5_cursorRow_21 : decode cX5_cursorRow 21 = .ok (.ireturn, 1) := by decide +kernel
theorem dX5_cursorColumn_0 : decode cX5_cursorColumn 0 = .ok (.aload_n 0, 1) := by decide +kernel
theorem dX5_cursorColumn_1 : decode cX5_cursorColumn 1 = .ok (.aload_n 0, 1) := by decide +kernel
theorem dX5_cursorColumn_2 : decode cX5_cursorColumn 2 = .ok (.aload_n 0, 1) := by decide +kernel
theorem dX5_cursorColumn_3 : decode cX5_cursorColumn 3 = .ok (.getfield 37, 3) := by decide +kernel
theorem dX5_cursorColumn_6 : decode cX5_cursorColumn 6 = .ok (.invokevirtual 196, 3) := by decide +kernel
theorem dX5_cursorColumn_9 : decode cX5_cursorColumn 9 = .ok (.aload_n 0, 1) := by decide +kernel
theorem dX5_cursorColumn_10 : decode cX5_cursorColumn 10 = .ok (.aload_n 0, 1) := by decide +kernel
theorem dX5_cursorColumn_11 : decode cX5_cursorColumn 11 = .ok (.getfield 37, 3) := by decide +kernel
theorem dX5_cursorColumn_14 : decode cX5_cursorColumn 14 = .ok (.invokevirtual 202, 3) := by decide +kernel
theorem dX5_cursorColumn_17 : decode cX5_cursorColumn 17 = .ok (.iconst 0, 1) := by decide +kernel
theorem dX5_cursorColumn_18 : decode cX5_cursorColumn 18 = .ok (.invokevirtual 209, 3) := by decide +kernel
theorem dX5_cursorColumn_21 : decode cX5_cursorColumn 21 = .ok (.ireturn, 1) := by decide +kernel
theorem dX5_topRow_0 : decode cX5_topRow 0 = .ok (.aload_n 0, 1) := by decide +kernel
theorem dX5_topRow_1 : decode cX5_topRow 1 = .ok (.aload_n 0, 1) := by decide +kernel
theorem dX5_topRow_2 : decode cX5_topRow 2 = .ok (.aload_n 0, 1) := by decide +kernel
theorem dX5_topRow_3 : decode cX5_topRow 3 = .ok (.getfield 41, 3) := by decide +kernel
theorem dX5_topRow_6 : decode cX5_topRow 6 = .ok (.invokevirtual 196, 3) := by decide +kernel
theorem dX5_topRow_9 : decode cX5_topRow 9 = .ok (.aload_n 0, 1) := by decide +kernel
theorem dX5_topRow_10 : decode cX5_topRow 10 = .ok (.aload_n 0, 1) := by decide +kernel
theorem dX5_topRow_11 : decode cX5_topRow 11 = .ok (.getfield 41, 3) := by decide +kernel
theorem dX5_topRow_14 : decode cX5_topRow 14 = .ok (.invokevirtual 202, 3) := by decide +kernel
theorem dX5_topRow_17 : decode cX5_topRow 17 = .ok (.iconst 0, 1) := by decide +kernel
theorem dX5_topRow_18 : decode cX5_topRow 18 = .ok (.invokevirtual 205, 3) := by decide +kernel
theorem dX5_topRow_21 : decode cX5_topRow 21 = .ok (.ireturn, 1) := by decide +kernel
theorem dX5_marginFor_0 : decode cX5_marginFor 0 = .ok (.aload_n 0, 1) := by decide +kernel
theorem dX5_marginFor_1 : decode cX5_marginFor 1 = .ok (.getfield 88, 3) := by decide +kernel
theorem dX5_marginFor_4 : decode cX5_marginFor 4 = .ok (.iload_n 1, 1) := by decide +kernel
theorem dX5_marginFor_5 : decode cX5_marginFor 5 = .ok (.iconst 1, 1) := by decide +kernel
theorem dX5_marginFor_6 : decode cX5_marginFor 6 = .ok (.isub, 1) := by decide +kernel
theorem dX5_marginFor_7 : decode cX5_marginFor 7 = .ok (.iconst 2, 1) := by decide +kernel
theorem dX5_marginFor_8 : decode cX5_marginFor 8 = .ok (.idiv, 1) := by decide +kernel
theorem dX5_marginFor_9 : decode cX5_marginFor 9 = .ok (.invokestatic 212, 3) := by decide +kernel
theorem dX5_marginFor_12 : decode cX5_marginFor 12 = .ok (.ireturn, 1) := by decide +kernel
theorem dX5_setTop_0 : decode cX5_setTop 0 = .ok (.aload_n 0, 1) := by decide +kernel
theorem dX5_setTop_1 : decode cX5_setTop 1 = .ok (.iload_n 1, 1) := by decide +kernel
theorem dX5_setTop_2 : decode cX5_setTop 2 = .ok (.invokevirtual 175, 3) := by decide +kernel
theorem dX5_setTop_5 : decode cX5_setTop 5 = .ok (.istore_n 2, 1) := by decide +kernel
theorem dX5_setTop_6 : decode cX5_setTop 6 = .ok (.aload_n 0, 1) := by decide +kernel
theorem dX5_setTop_7 : decode cX5_setTop 7 = .ok (.getfield 41, 3) := by decide +kernel
theorem dX5_setTop_10 : decode cX5_setTop 10 = .ok (.iload_n 2, 1) := by decide +kernel
theorem dX5_setTop_11 : decode cX5_setTop 11 = .ok (.aload_n 0, 1) := by decide +kernel
theorem dX5_setTop_12 : decode cX5_setTop 12 = .ok (.iload_n 2, 1) := by decide +kernel
theorem dX5_setTop_13 : decode cX5_setTop 13 = .ok (.invokevirtual 128, 3) := by decide +kernel
theorem dX5_setTop_16 : decode cX5_setTop 16 = .ok (.aload_n 0, 1) := by decide +kernel
theorem dX5_setTop_17 : decode cX5_setTop 17 = .ok (.iload_n 1, 1) := by decide +kernel
theorem dX5_setTop_18 : decode cX5_setTop 18 = .ok (.iload_n 2, 1) := by decide +kernel
theorem dX5_setTop_19 : decode cX5_setTop 19 = .ok (.invokevirtual 178, 3) := by decide +kernel
theorem dX5_setTop_22 : decode cX5_setTop 22 = .ok (.invokevirtual 215, 3) := by decide +kernel
theorem dX5_setTop_25 : decode cX5_setTop 25 = .ok (.invokevirtual 218, 3) := by decide +kernel
theorem dX5_setTop_28 : decode cX5_setTop 28 = .ok (.return_, 1) := by decide +kernel
theorem dX5_follow_0 : decode cX5_follow 0 = .ok (.aload_n 0, 1) := by decide +kernel
theorem dX5_follow_1 : decode cX5_follow 1 = .ok (.invokevirtual 221, 3) := by decide +kernel
theorem dX5_follow_4 : decode cX5_follow 4 = .ok (.istore_n 2, 1) := by decide +kernel
theorem dX5_follow_5 : decode cX5_follow 5 = .ok (.aload_n 0, 1) := by decide +kernel
theorem dX5_follow_6 : decode cX5_follow 6 = .ok (.invokevirtual 225, 3) := by decide +kernel
theorem dX5_follow_9 : decode cX5_follow 9 = .ok (.istore_n 3, 1) := by decide +kernel
theorem dX5_follow_10 : decode cX5_follow 10 = .ok (.aload_n 0, 1) := by decide +kernel
theorem dX5_follow_11 : decode cX5_follow 11 = .ok (.iload_n 1, 1) := by decide +kernel
theorem dX5_follow_12 : decode cX5_follow 12 = .ok (.invokevirtual 228, 3) := by decide +kernel
theorem dX5_follow_15 : decode cX5_follow 15 = .ok (.istore 4, 2) := by decide +kernel
theorem dX5_follow_17 : decode cX5_follow 17 = .ok (.iload_n 2, 1) := by decide +kernel
theorem dX5_follow_18 : decode cX5_follow 18 = .ok (.iload_n 3, 1) := by decide +kernel
theorem dX5_follow_19 : decode cX5_follow 19 = .ok (.iload 4, 2) := by decide +kernel
theorem dX5_follow_21 : decode cX5_follow 21 = .ok (.iadd, 1) := by decide +kernel
theorem dX5_follow_22 : decode cX5_follow 22 = .ok (.if_icmp .ge 18, 3) := by decide +kernel
theorem dX5_follow_25 : decode cX5_follow 25 = .ok (.aload_n 0, 1) := by decide +kernel
theorem dX5_follow_26 : decode cX5_follow 26 = .ok (.iconst 0, 1) := by decide +kernel
theorem dX5_follow_27 : decode cX5_follow 27 = .ok (.iload_n 2, 1) := by decide +kernel
theorem dX5_follow_28 : decode cX5_follow 28 = .ok (.iload 4, 2) := by decide +kernel
theorem dX5_follow_30 : decode cX5_follow 30 = .ok (.isub, 1) := by decide +kernel
theorem dX5_follow_31 : decode cX5_follow 31 = .ok (.invokestatic 79, 3) := by decide +kernel
theorem dX5_follow_34 : decode cX5_follow 34 = .ok (.invokevirtual 231, 3) := by decide +kernel
theorem dX5_follow_37 : decode cX5_follow 37 = .ok (.goto 31, 3) := by decide +kernel
theorem dX5_follow_40 : decode cX5_follow 40 = .ok (.iload_n 2, 1) := by decide +kernel
theorem dX5_follow_41 : decode cX5_follow 41 = .ok (.iload_n 3, 1) := by decide +kernel
theorem dX5_follow_42 : decode cX5_follow 42 = .ok (.iload_n 1, 1) := by decide +kernel
theorem dX5_follow_43 : decode cX5_follow 43 = .ok (.iadd, 1) := by decide +kernel
theorem dX5_follow_44 : decode cX5_follow 44 = .ok (.iconst 1, 1) := by decide +kernel
theorem dX5_follow_45 : decode cX5_follow 45 = .ok (.isub, 1) := by decide +kernel
theorem dX5_follow_46 : decode cX5_follow 46 = .ok (.iload 4, 2) := by decide +kernel
theorem dX5_follow_48 : decode cX5_follow 48 = .ok (.isub, 1) := by decide +kernel
theorem dX5_follow_49 : decode cX5_follow 49 = .ok (.if_icmp .le 19, 3) := by decide +kernel
theorem dX5_follow_52 : decode cX5_follow 52 = .ok (.aload_n 0, 1) := by decide +kernel
theorem dX5_follow_53 : decode cX5_follow 53 = .ok (.iconst 0, 1) := by decide +kernel
theorem dX5_follow_54 : decode cX5_follow 54 = .ok (.iload_n 2, 1) := by decide +kernel
theorem dX5_follow_55 : decode cX5_follow 55 = .ok (.iload 4, 2) := by decide +kernel
theorem dX5_follow_57 : decode cX5_follow 57 = .ok (.iadd, 1) := by decide +kernel
theorem dX5_follow_58 : decode cX5_follow 58 = .ok (.iload_n 1, 1) := by decide +kernel
theorem dX5_follow_59 : decode cX5_follow 59 = .ok (.isub, 1) := by decide +kernel
theorem dX5_follow_60 : decode cX5_follow 60 = .ok (.iconst 1, 1) := by decide +kernel
theorem dX5_follow_61 : decode cX5_follow 61 = .ok (.iadd, 1) := by decide +kernel
theorem dX5_follow_62 : decode cX5_follow 62 = .ok (.invokestatic 79, 3) := by decide +kernel
theorem dX5_follow_65 : decode cX5_follow 65 = .ok (.invokevirtual 231, 3) := by decide +kernel
theorem dX5_follow_68 : decode cX5_follow 68 = .ok (.return_, 1) := by decide +kernel
theorem dX5_putCursor_0 : decode cX5_putCursor 0 = .ok (.aload_n 0, 1) := by decide +kernel
theorem dX5_putCursor_1 : decode cX5_putCursor 1 = .ok (.getfield 37, 3) := by decide +kernel
theorem dX5_putCursor_4 : decode cX5_putCursor 4 = .ok (.iload_n 1, 1) := by decide +kernel
theorem dX5_putCursor_5 : decode cX5_putCursor 5 = .ok (.iload_n 2, 1) := by decide +kernel
theorem dX5_putCursor_6 : decode cX5_putCursor 6 = .ok (.invokevirtual 218, 3) := by decide +kernel
theorem dX5_putCursor_9 : decode cX5_putCursor 9 = .ok (.aload_n 0, 1) := by decide +kernel
theorem dX5_putCursor_10 : decode cX5_putCursor 10 = .ok (.aload_n 0, 1) := by decide +kernel
theorem dX5_putCursor_11 : decode cX5_putCursor 11 = .ok (.invokevirtual 234, 3) := by decide +kernel
theorem dX5_putCursor_14 : decode cX5_putCursor 14 = .ok (.putfield 237, 3) := by decide +kernel
theorem dX5_putCursor_17 : decode cX5_putCursor 17 = .ok (.return_, 1) := by decide +kernel
theorem dX5_go_0 : decode cX5_go 0 = .ok (.aload_n 0, 1) := by decide +kernel
theorem dX5_go_1 : decode cX5_go 1 = .ok (.getfield 44, 3) := by decide +kernel
theorem dX5_go_4 : decode cX5_go 4 = .ok (.aload_n 0, 1) := by decide +kernel
theorem dX5_go_5 : decode cX5_go 5 = .ok (.aload_n 0, 1) := by decide +kernel
theorem dX5_go_6 : decode cX5_go 6 = .ok (.getfield 37, 3) := by decide +kernel
theorem dX5_go_9 : decode cX5_go 9 = .ok (.invokevirtual 196, 3) := by decide +kernel
theorem dX5_go_12 : decode cX5_go 12 = .ok (.aload_n 0, 1) := by decide +kernel
theorem dX5_go_13 : decode cX5_go 13 = .ok (.aload_n 0, 1) := by decide +kernel
theorem dX5_go_14 : decode cX5_go 14 = .ok (.getfield 37, 3) := by decide +kernel
theorem dX5_go_17 : decode cX5_go 17 = .ok (.invokevirtual 202, 3) := by decide +kernel
theorem dX5_go_20 : decode cX5_go 20 = .ok (.invokevirtual 218, 3) := by decide +kernel
theorem dX5_go_23 : decode cX5_go 23 = .ok (.iload_n 1, 1) := by decide +kernel
theorem dX5_go_24 : decode cX5_go 24 = .ok (.ifCond .ne 10, 3) := by decide +kernel
theorem dX5_go_27 : decode cX5_go 27 = .ok (.aload_n 0, 1) := by decide +kernel
theorem dX5_go_28 : decode cX5_go 28 = .ok (.invokevirtual 240, 3) := by decide +kernel
theorem dX5_go_31 : decode cX5_go 31 = .ok (.goto 43, 3) := by decide +kernel
theorem dX5_go_34 : decode cX5_go 34 = .ok (.iload_n 1, 1) := by decide +kernel
theorem dX5_go_35 : decode cX5_go 35 = .ok (.iconst 1, 1) := by decide +kernel
theorem dX5_go_36 : decode cX5_go 36 = .ok (.if_icmp .ne 10, 3) := by decide +kernel
theorem dX5_go_39 : decode cX5_go 39 = .ok (.aload_n 0, 1) := by decide +kernel
theorem dX5_go_40 : decode cX5_go 40 = .ok (.invokevirtual 243, 3) := by decide +kernel
theorem dX5_go_43 : decode cX5_go 43 = .ok (.goto 31, 3) := by decide +kernel
theorem dX5_go_46 : decode cX5_go 46 = .ok (.iload_n 1, 1) := by decide +kernel
theorem dX5_go_47 : decode cX5_go 47 = .ok (.iconst 4, 1) := by decide +kernel
theorem dX5_go_48 : decode cX5_go 48 = .ok (.if_icmp .eq 8, 3) := by decide +kernel
theorem dX5_go_51 : decode cX5_go 51 = .ok (.iload_n 1, 1) := by decide +kernel
theorem dX5_go_52 : decode cX5_go 52 = .ok (.iconst 5, 1) := by decide +kernel
theorem dX5_go_53 : decode cX5_go 53 = .ok (.if_icmp .ne 11, 3) := by decide +kernel
theorem dX5_go_56 : decode cX5_go 56 = .ok (.aload_n 0, 1) := by decide +kernel
theorem dX5_go_57 : decode cX5_go 57 = .ok (.iload_n 1, 1) := by decide +kernel
theorem dX5_go_58 : decode cX5_go 58 = .ok (.invokevirtual 246, 3) := by decide +kernel
theorem dX5_go_61 : decode cX5_go 61 = .ok (.goto 13, 3) := by decide +kernel
theorem dX5_go_64 : decode cX5_go 64 = .ok (.aload_n 0, 1) := by decide +kernel
theorem dX5_go_65 : decode cX5_go 65 = .ok (.aload_n 0, 1) := by decide +kernel
theorem dX5_go_66 : decode cX5_go 66 = .ok (.iload_n 1, 1) := by decide +kernel
theorem dX5_go_67 : decode cX5_go 67 = .ok (.iload_n 2, 1) := by decide +kernel
theorem dX5_go_68 : decode cX5_go 68 = .ok (.invokevirtual 249, 3) := by decide +kernel
theorem dX5_go_71 : decode cX5_go 71 = .ok (.invokevirtual 252, 3) := by decide +kernel
theorem dX5_go_74 : decode cX5_go 74 = .ok (.aload_n 0, 1) := by decide +kernel
theorem dX5_go_75 : decode cX5_go 75 = .ok (.invokevirtual 255, 3) := by decide +kernel
theorem dX5_go_78 : decode cX5_go 78 = .ok (.istore_n 3, 1) := by decide +kernel
theorem dX5_go_79 : decode cX5_go 79 = .ok (.iload_n 1, 1) := by decide +kernel
theorem dX5_go_80 : decode cX5_go 80 = .ok (.ifCond .eq 18, 3) := by decide +kernel
theorem dX5_go_83 : decode cX5_go 83 = .ok (.iload_n 1, 1) := by decide +kernel
theorem dX5_go_84 : decode cX5_go 84 = .ok (.iconst 1, 1) := by decide +kernel
theorem dX5_go_85 : decode cX5_go 85 = .ok (.if_icmp .eq 13, 3) := by decide +kernel
theorem dX5_go_88 : decode cX5_go 88 = .ok (.iload_n 1, 1) := by decide +kernel
theorem dX5_go_89 : decode cX5_go 89 = .ok (.iconst 4, 1) := by decide +kernel
theorem dX5_go_90 : decode cX5_go 90 = .ok (.if_icmp .eq 8, 3) := by decide +kernel
theorem dX5_go_93 : decode cX5_go 93 = .ok (.iload_n 1, 1) := by decide +kernel
theorem dX5_go_94 : decode cX5_go 94 = .ok (.iconst 5, 1) := by decide +kernel
theorem dX5_go_95 : decode cX5_go 95 = .ok (.if_icmp .ne 11, 3) := by decide +kernel
theorem dX5_go_98 : decode cX5_go 98 = .ok (.aload_n 0, 1) := by decide +kernel
theorem dX5_go_99 : decode cX5_go 99 = .ok (.aload_n 0, 1) := by decide +kernel
theorem dX5_go_100 : decode cX5_go 100 = .ok (.invokevirtual 234, 3) := by decide +kernel
theorem dX5_go_103 : decode cX5_go 103 = .ok (.putfield 237, 3) := by decide +kernel
theorem dX5_go_106 : decode cX5_go 106 = .ok (.iload_n 3, 1) := by decide +kernel
theorem dX5_go_107 : decode cX5_go 107 = .ok (.ireturn, 1) := by decide +kernel
theorem dX5_takeGoal_0 : decode cX5_takeGoal 0 = .ok (.aload_n 0, 1) := by decide +kernel
theorem dX5_takeGoal_1 : decode cX5_takeGoal 1 = .ok (.getfield 44, 3) := by decide +kernel
theorem dX5_takeGoal_4 : decode cX5_takeGoal 4 = .ok (.aload_n 0, 1) := by decide +kernel
theorem dX5_takeGoal_5 : decode cX5_takeGoal 5 = .ok (.aload_n 0, 1) := by decide +kernel
theorem dX5_takeGoal_6 : decode cX5_takeGoal 6 = .ok (.getfield 37, 3) := by decide +kernel
theorem dX5_takeGoal_9 : decode cX5_takeGoal 9 = .ok (.invokevirtual 196, 3) := by decide +kernel
theorem dX5_takeGoal_12 : decode cX5_takeGoal 12 = .ok (.aload_n 0, 1) := by decide +kernel
theorem dX5_takeGoal_13 : decode cX5_takeGoal 13 = .ok (.aload_n 0, 1) := by decide +kernel
theorem dX5_takeGoal_14 : decode cX5_takeGoal 14 = .ok (.getfield 37, 3) := by decide +kernel
theorem dX5_takeGoal_17 : decode cX5_takeGoal 17 = .ok (.invokevirtual 202, 3) := by decide +kernel
theorem dX5_takeGoal_20 : decode cX5_takeGoal 20 = .ok (.invokevirtual 259, 3) := by decide +kernel
theorem dX5_takeGoal_23 : decode cX5_takeGoal 23 = .ok (.ifCond .eq 5, 3) := by decide +kernel
theorem dX5_takeGoal_26 : decode cX5_takeGoal 26 = .ok (.iconst 0, 1) := by decide +kernel
theorem dX5_takeGoal_27 : decode cX5_takeGoal 27 = .ok (.ireturn, 1) := by decide +kernel
theorem dX5_takeGoal_28 : decode cX5_takeGoal 28 = .ok (.aload_n 0, 1) := by decide +kernel
theorem dX5_takeGoal_29 : decode cX5_takeGoal 29 = .ok (.getfield 37, 3) := by decide +kernel
theorem dX5_takeGoal_32 : decode cX5_takeGoal 32 = .ok (.aload_n 0, 1) := by decide +kernel
theorem dX5_takeGoal_33 : decode cX5_takeGoal 33 = .ok (.getfield 44, 3) := by decide +kernel
theorem dX5_takeGoal_36 : decode cX5_takeGoal 36 = .ok (.getfield 193, 3) := by decide +kernel
theorem dX5_takeGoal_39 : decode cX5_takeGoal 39 = .ok (.aload_n 0, 1) := by decide +kernel
theorem dX5_takeGoal_40 : decode cX5_takeGoal 40 = .ok (.getfield 44, 3) := by decide +kernel
theorem dX5_takeGoal_43 : decode cX5_takeGoal 43 = .ok (.getfield 200, 3) := by decide +kernel
theorem dX5_takeGoal_46 : decode cX5_takeGoal 46 = .ok (.invokevirtual 218, 3) := by decide +kernel
theorem dX5_takeGoal_49 : decode cX5_takeGoal 49 = .ok (.iconst 1, 1) := by decide +kernel
theorem dX5_takeGoal_50 : decode cX5_takeGoal 50 = .ok (.ireturn, 1) := by decide +kernel
theorem dX5_aimLeft_0 : decode cX5_aimLeft 0 = .ok (.aload_n 0, 1) := by decide +kernel
theorem dX5_aimLeft_1 : decode cX5_aimLeft 1 = .ok (.aload_n 0, 1) := by decide +kernel
theorem dX5_aimLeft_2 : decode cX5_aimLeft 2 = .ok (.getfield 44, 3) := by decide +kernel
theorem dX5_aimLeft_5 : decode cX5_aimLeft 5 = .ok (.getfield 193, 3) := by decide +kernel
theorem dX5_aimLeft_8 : decode cX5_aimLeft 8 = .ok (.invokevirtual 128, 3) := by decide +kernel
theorem dX5_aimLeft_11 : decode cX5_aimLeft 11 = .ok (.aload_n 0, 1) := by decide +kernel
theorem dX5_aimLeft_12 : decode cX5_aimLeft 12 = .ok (.getfield 44, 3) := by decide +kernel
theorem dX5_aimLeft_15 : decode cX5_aimLeft 15 = .ok (.getfield 200, 3) := by decide +kernel
theorem dX5_aimLeft_18 : decode cX5_aimLeft 18 = .ok (.invokevirtual 263, 3) := by decide +kernel
theorem dX5_aimLeft_21 : decode cX5_aimLeft 21 = .ok (.istore_n 1, 1) := by decide +kernel
theorem dX5_aimLeft_22 : decode cX5_aimLeft 22 = .ok (.iload_n 1, 1) := by decide +kernel
theorem dX5_aimLeft_23 : decode cX5_aimLeft 23 = .ok (.iconst (-1), 1) := by decide +kernel
theorem dX5_aimLeft_24 : decode cX5_aimLeft 24 = .ok (.if_icmp .eq 19, 3) := by decide +kernel
theorem dX5_aimLeft_27 : decode cX5_aimLeft 27 = .ok (.aload_n 0, 1) := by decide +kernel
theorem dX5_aimLeft_28 : decode cX5_aimLeft 28 = .ok (.getfield 44, 3) := by decide +kernel
theorem dX5_aimLeft_31 : decode cX5_aimLeft 31 = .ok (.aload_n 0, 1) := by decide +kernel
theorem dX5_aimLeft_32 : decode cX5_aimLeft 32 = .ok (.getfield 44, 3) := by decide +kernel
theorem dX5_aimLeft_35 : decode cX5_aimLeft 35 = .ok (.getfield 193, 3) := by decide +kernel
theorem dX5_aimLeft_38 : decode cX5_aimLeft 38 = .ok (.iload_n 1, 1) := by decide +kernel
theorem dX5_aimLeft_39 : decode cX5_aimLeft 39 = .ok (.invokevirtual 218, 3) := by decide +kernel
theorem dX5_aimLeft_42 : decode cX5_aimLeft 42 = .ok (.return_, 1) := by decide +kernel
theorem dX5_aimLeft_43 : decode cX5_aimLeft 43 = .ok (.aload_n 0, 1) := by decide +kernel
theorem dX5_aimLeft_44 : decode cX5_aimLeft 44 = .ok (.getfield 44, 3) := by decide +kernel
theorem dX5_aimLeft_47 : decode cX5_aimLeft 47 = .ok (.getfield 193, 3) := by decide +kernel
theorem dX5_aimLeft_50 : decode cX5_aimLeft 50 = .ok (.iconst 1, 1) := by decide +kernel
theorem dX5_aimLeft_51 : decode cX5_aimLeft 51 = .ok (.isub, 1) := by decide +kernel
theorem dX5_aimLeft_52 : decode cX5_aimLeft 52 = .ok (.istore_n 2, 1) := by decide +kernel
theorem dX5_aimLeft_53 : decode cX5_aimLeft 53 = .ok (.iload_n 2, 1) := by decide +kernel
theorem dX5_aimLeft_54 : decode cX5_aimLeft 54 = .ok (.ifCond .lt 37, 3) := by decide +kernel
theorem dX5_aimLeft_57 : decode cX5_aimLeft 57 = .ok (.aload_n 0, 1) := by decide +kernel
theorem dX5_aimLeft_58 : decode cX5_aimLeft 58 = .ok (.iload_n 2, 1) := by decide +kernel
theorem dX5_aimLeft_59 : decode cX5_aimLeft 59 = .ok (.invokevirtual 160, 3) := by decide +kernel
theorem dX5_aimLeft_62 : decode cX5_aimLeft 62 = .ok (.ifCond .le 23, 3) := by decide +kernel
theorem dX5_aimLeft_65 : decode cX5_aimLeft 65 = .ok (.aload_n 0, 1) := by decide +kernel
theorem dX5_aimLeft_66 : decode cX5_aimLeft 66 = .ok (.getfield 44, 3) := by decide +kernel
theorem dX5_aimLeft_69 : decode cX5_aimLeft 69 = .ok (.iload_n 2, 1) := by decide +kernel
theorem dX5_aimLeft_70 : decode cX5_aimLeft 70 = .ok (.aload_n 0, 1) := by decide +kernel
theorem dX5_aimLeft_71 : decode cX5_aimLeft 71 = .ok (.getfield 71, 3) := by decide +kernel
theorem dX5_aimLeft_74 : decode cX5_aimLeft 74 = .ok (.iload_n 2, 1) := by decide +kernel
theorem dX5_aimLeft_75 : decode cX5_aimLeft 75 = .ok (.invokevirtual 135, 3) := by decide +kernel
theorem dX5_aimLeft_78 : decode cX5_aimLeft 78 = .ok (.getfield 266, 3) := by decide +kernel
theorem dX5_aimLeft_81 : decode cX5_aimLeft 81 = .ok (.invokevirtual 218, 3) := by decide +kernel
theorem dX5_aimLeft_84 : decode cX5_aimLeft 84 = .ok (.return_, 1) := by decide +kernel
theorem dX5_aimLeft_85 : decode cX5_aimLeft 85 = .ok (.iinc 2 (-1), 3) := by decide +kernel
theorem dX5_aimLeft_88 : decode cX5_aimLeft 88 = .ok (.goto (-35), 3) := by decide +kernel
theorem dX5_aimLeft_91 : decode cX5_aimLeft 91 = .ok (.return_, 1) := by decide +kernel
theorem dX5_aimRight_0 : decode cX5_aimRight 0 = .ok (.aload_n 0, 1) := by decide +kernel
theorem dX5_aimRight_1 : decode cX5_aimRight 1 = .ok (.aload_n 0, 1) := by decide +kernel
theorem dX5_aimRight_2 : decode cX5_aimRight 2 = .ok (.getfield 44, 3) := by decide +kernel
theorem dX5_aimRight_5 : decode cX5_aimRight 5 = .ok (.getfield 193, 3) := by decide +kernel
theorem dX5_aimRight_8 : decode cX5_aimRight 8 = .ok (.invokevirtual 128, 3) := by decide +kernel
theorem dX5_aimRight_11 : decode cX5_aimRight 11 = .ok (.aload_n 0, 1) := by decide +kernel
theorem dX5_aimRight_12 : decode cX5_aimRight 12 = .ok (.getfield 44, 3) := by decide +kernel
theorem dX5_aimRight_15 : decode cX5_aimRight 15 = .ok (.getfield 200, 3) := by decide +kernel
theorem dX5_aimRight_18 : decode cX5_aimRight 18 = .ok (.invokevirtual 271, 3) := by decide +kernel
theorem dX5_aimRight_21 : decode cX5_aimRight 21 = .ok (.istore_n 1, 1) := by decide +kernel
theorem dX5_aimRight_22 : decode cX5_aimRight 22 = .ok (.iload_n 1, 1) := by decide +kernel
theorem dX5_aimRight_23 : decode cX5_aimRight 23 = .ok (.iconst (-1), 1) := by decide +kernel
theorem dX5_aimRight_24 : decode cX5_aimRight 24 = .ok (.if_icmp .eq 19, 3) := by decide +kernel
theorem dX5_aimRight_27 : decode cX5_aimRight 27 = .ok (.aload_n 0, 1) := by decide +kernel
theorem dX5_aimRight_28 : decode cX5_aimRight 28 = .ok (.getfield 44, 3) := by decide +kernel
theorem dX5_aimRight_31 : decode cX5_aimRight 31 = .ok (.aload_n 0, 1) := by decide +kernel
theorem dX5_aimRight_32 : decode cX5_aimRight 32 = .ok (.getfield 44, 3) := by decide +kernel
theorem dX5_aimRight_35 : decode cX5_aimRight 35 = .ok (.getfield 193, 3) := by decide +kernel
theorem dX5_aimRight_38 : decode cX5_aimRight 38 = .ok (.iload_n 1, 1) := by decide +kernel
theorem dX5_aimRight_39 : decode cX5_aimRight 39 = .ok (.invokevirtual 218, 3) := by decide +kernel
theorem dX5_aimRight_42 : decode cX5_aimRight 42 = .ok (.return_, 1) := by decide +kernel
theorem dX5_aimRight_43 : decode cX5_aimRight 43 = .ok (.aload_n 0, 1) := by decide +kernel
theorem dX5_aimRight_44 : decode cX5_aimRight 44 = .ok (.getfield 44, 3) := by decide +kernel
theorem dX5_aimRight_47 : decode cX5_aimRight 47 = .ok (.getfield 193, 3) := by decide +kernel
theorem dX5_aimRight_50 : decode cX5_aimRight 50 = .ok (.iconst 1, 1) := by decide +kernel
theorem dX5_aimRight_51 : decode cX5_aimRight 51 = .ok (.iadd, 1) := by decide +kernel
theorem dX5_aimRight_52 : decode cX5_aimRight 52 = .ok (.istore_n 2, 1) := by decide +kernel
theorem dX5_aimRight_53 : decode cX5_aimRight 53 = .ok (.iload_n 2, 1) := by decide +kernel
theorem dX5_aimRight_54 : decode cX5_aimRight 54 = .ok (.aload_n 0, 1) := by decide +kernel
theorem dX5_aimRight_55 : decode cX5_aimRight 55 = .ok (.getfield 71, 3) := by decide +kernel
theorem dX5_aimRight_58 : decode cX5_aimRight 58 = .ok (.getfield 119, 3) := by decide +kernel
theorem dX5_aimRight_61 : decode cX5_aimRight 61 = .ok (.if_icmp .ge 35, 3) := by decide +kernel
theorem dX5_aimRight_64 : decode cX5_aimRight 64 = .ok (.aload_n 0, 1) := by decide +kernel
theorem dX5_aimRight_65 : decode cX5_aimRight 65 = .ok (.iload_n 2, 1) := by decide +kernel
theorem dX5_aimRight_66 : decode cX5_aimRight 66 = .ok (.invokevirtual 160, 3) := by decide +kernel
theorem dX5_aimRight_69 : decode cX5_aimRight 69 = .ok (.ifCond .le 21, 3) := by decide +kernel
theorem dX5_aimRight_72 : decode cX5_aimRight 72 = .ok (.aload_n 0, 1) := by decide +kernel
theorem dX5_aimRight_73 : decode cX5_aimRight 73 = .ok (.getfield 44, 3) := by decide +kernel
theorem dX5_aimRight_76 : decode cX5_aimRight 76 = .ok (.iload_n 2, 1) := by decide +kernel
theorem dX5_aimRight_77 : decode cX5_aimRight 77 = .ok (.aload_n 0, 1) := by decide +kernel
theorem dX5_aimRight_78 : decode cX5_aimRight 78 = .ok (.iload_n 2, 1) := by decide +kernel
theorem dX5_aimRight_79 : decode cX5_aimRight 79 = .ok (.invokevirtual 128, 3) := by decide +kernel
theorem dX5_aimRight_82 : decode cX5_aimRight 82 = .ok (.iconst (-1), 1) := by decide +kernel
theorem dX5_aimRight_83 : decode cX5_aimRight 83 = .ok (.invokevirtual 271, 3) := by decide +kernel
theorem dX5_aimRight_86 : decode cX5_aimRight 86 = .ok (.invokevirtual 218, 3) := by decide +kernel
theorem dX5_aimRight_89 : decode cX5_aimRight 89 = .ok (.return_, 1) := by decide +kernel
theorem dX5_aimRight_90 : decode cX5_aimRight 90 = .ok (.iinc 2 1, 3) := by decide +kernel
theorem dX5_aimRight_93 : decode cX5_aimRight 93 = .ok (.goto (-40), 3) := by decide +kernel
theorem dX5_aimRight_96 : decode cX5_aimRight 96 = .ok (.return_, 1) := by decide +kernel
theorem dX5_aimInRow_0 : decode cX5_aimInRow 0 = .ok (.aload_n 0, 1) := by decide +kernel
theorem dX5_aimInRow_1 : decode cX5_aimInRow 1 = .ok (.aload_n 0, 1) := by decide +kernel
theorem dX5_aimInRow_2 : decode cX5_aimInRow 2 = .ok (.aload_n 0, 1) := by decide +kernel
theorem dX5_aimInRow_3 : decode cX5_aimInRow 3 = .ok (.getfield 44, 3) := by decide +kernel
theorem dX5_aimInRow_6 : decode cX5_aimInRow 6 = .ok (.getfield 193, 3) := by decide +kernel
theorem dX5_aimInRow_9 : decode cX5_aimInRow 9 = .ok (.aload_n 0, 1) := by decide +kernel
theorem dX5_aimInRow_10 : decode cX5_aimInRow 10 = .ok (.getfield 44, 3) := by decide +kernel
theorem dX5_aimInRow_13 : decode cX5_aimInRow 13 = .ok (.getfield 200, 3) := by decide +kernel
theorem dX5_aimInRow_16 : decode cX5_aimInRow 16 = .ok (.iconst 0, 1) := by decide +kernel
theorem dX5_aimInRow_17 : decode cX5_aimInRow 17 = .ok (.invokevirtual 205, 3) := by decide +kernel
theorem dX5_aimInRow_20 : decode cX5_aimInRow 20 = .ok (.aload_n 0, 1) := by decide +kernel
theorem dX5_aimInRow_21 : decode cX5_aimInRow 21 = .ok (.getfield 44, 3) := by decide +kernel
theorem dX5_aimInRow_24 : decode cX5_aimInRow 24 = .ok (.getfield 193, 3) := by decide +kernel
theorem dX5_aimInRow_27 : decode cX5_aimInRow 27 = .ok (.invokevirtual 178, 3) := by decide +kernel
theorem dX5_aimInRow_30 : decode cX5_aimInRow 30 = .ok (.istore_n 2, 1) := by decide +kernel
theorem dX5_aimInRow_31 : decode cX5_aimInRow 31 = .ok (.aload_n 0, 1) := by decide +kernel
theorem dX5_aimInRow_32 : decode cX5_aimInRow 32 = .ok (.aload_n 0, 1) := by decide +kernel
theorem dX5_aimInRow_33 : decode cX5_aimInRow 33 = .ok (.getfield 44, 3) := by decide +kernel
theorem dX5_aimInRow_36 : decode cX5_aimInRow 36 = .ok (.getfield 193, 3) := by decide +kernel
theorem dX5_aimInRow_39 : decode cX5_aimInRow 39 = .ok (.invokevirtual 128, 3) := by decide +kernel
theorem dX5_aimInRow_42 : decode cX5_aimInRow 42 = .ok (.astore_n 3, 1) := by decide +kernel
theorem dX5_aimInRow_43 : decode cX5_aimInRow 43 = .ok (.iload_n 1, 1) := by decide +kernel
theorem dX5_aimInRow_44 : decode cX5_aimInRow 44 = .ok (.iconst 4, 1) := by decide +kernel
theorem dX5_aimInRow_45 : decode cX5_aimInRow 45 = .ok (.if_icmp .ne 11, 3) := by decide +kernel
theorem dX5_aimInRow_48 : decode cX5_aimInRow 48 = .ok (.aload_n 3, 1) := by decide +kernel
theorem dX5_aimInRow_49 : decode cX5_aimInRow 49 = .ok (.iload_n 2, 1) := by decide +kernel
theorem dX5_aimInRow_50 : decode cX5_aimInRow 50 = .ok (.invokevirtual 215, 3) := by decide +kernel
theorem dX5_aimInRow_53 : decode cX5_aimInRow 53 = .ok (.goto 8, 3) := by decide +kernel
theorem dX5_aimInRow_56 : decode cX5_aimInRow 56 = .ok (.aload_n 3, 1) := by decide +kernel
theorem dX5_aimInRow_57 : decode cX5_aimInRow 57 = .ok (.iload_n 2, 1) := by decide +kernel
theorem dX5_aimInRow_58 : decode cX5_aimInRow 58 = .ok (.invokevirtual 274, 3) := by decide +kernel
theorem dX5_aimInRow_61 : decode cX5_aimInRow 61 = .ok (.istore 4, 2) := by decide +kernel
theorem dX5_aimInRow_63 : decode cX5_aimInRow 63 = .ok (.iload 4, 2) := by decide +kernel
theorem dX5_aimInRow_65 : decode cX5_aimInRow 65 = .ok (.iconst (-1), 1) := by decide +kernel
theorem dX5_aimInRow_66 : decode cX5_aimInRow 66 = .ok (.if_icmp .eq 19, 3) := by decide +kernel
theorem dX5_aimInRow_69 : decode cX5_aimInRow 69 = .ok (.aload_n 0, 1) := by decide +kernel
theorem dX5_aimInRow_70 : decode cX5_aimInRow 70 = .ok (.getfield 44, 3) := by decide +kernel
theorem dX5_aimInRow_73 : decode cX5_aimInRow 73 = .ok (.aload_n 0, 1) := by decide +kernel
theorem dX5_aimInRow_74 : decode cX5_aimInRow 74 = .ok (.getfield 44, 3) := by decide +kernel
theorem dX5_aimInRow_77 : decode cX5_aimInRow 77 = .ok (.getfield 193, 3) := by decide +kernel
theorem dX5_aimInRow_80 : decode cX5_aimInRow 80 = .ok (.iload 4, 2) := by decide +kernel
theorem dX5_aimInRow_82 : decode cX5_aimInRow 82 = .ok (.invokevirtual 218, 3) := by decide +kernel
theorem dX5_aimInRow_85 : decode cX5_aimInRow 85 = .ok (.return_, 1) := by decide +kernel
theorem dX5_rowOfMove_0 : decode cX5_rowOfMove 0 = .ok (.aload_n 0, 1) := by decide +kernel
theorem dX5_rowOfMove_1 : decode cX5_rowOfMove 1 = .ok (.aload_n 0, 1) := by decide +kernel
theorem dX5_rowOfMove_2 : decode cX5_rowOfMove 2 = .ok (.getfield 44, 3) := by decide +kernel
theorem dX5_rowOfMove_5 : decode cX5_rowOfMove 5 = .ok (.getfield 193, 3) := by decide +kernel
theorem dX5_rowOfMove_8 : decode cX5_rowOfMove 8 = .ok (.aload_n 0, 1) := by decide +kernel
theorem dX5_rowOfMove_9 : decode cX5_rowOfMove 9 = .ok (.getfield 44, 3) := by decide +kernel
theorem dX5_rowOfMove_12 : decode cX5_rowOfMove 12 = .ok (.getfield 200, 3) := by decide +kernel
theorem dX5_rowOfMove_15 : decode cX5_rowOfMove 15 = .ok (.iconst 0, 1) := by decide +kernel
theorem dX5_rowOfMove_16 : decode cX5_rowOfMove 16 = .ok (.invokevirtual 205, 3) := by decide +kernel
theorem dX5_rowOfMove_19 : decode cX5_rowOfMove 19 = .ok (.istore_n 3, 1) := by decide +kernel
theorem dX5_rowOfMove_20 : decode cX5_rowOfMove 20 = .ok (.iload_n 1, 1) := by decide +kernel
theorem dX5_rowOfMove_21 : decode cX5_rowOfMove 21 = .ok (.iconst 2, 1) := by decide +kernel
theorem dX5_rowOfMove_22 : decode cX5_rowOfMove 22 = .ok (.if_icmp .eq 8, 3) := by decide +kernel
theorem dX5_rowOfMove_25 : decode cX5_rowOfMove 25 = .ok (.iload_n 1, 1) := by decide +kernel
theorem dX5_rowOfMove_26 : decode cX5_rowOfMove 26 = .ok (.iconst 3, 1) := by decide +kernel
theorem dX5_rowOfMove_27 : decode cX5_rowOfMove 27 = .ok (.if_icmp .ne 7, 3) := by decide +kernel
theorem dX5_rowOfMove_30 : decode cX5_rowOfMove 30 = .ok (.iconst 1, 1) := by decide +kernel
theorem dX5_rowOfMove_31 : decode cX5_rowOfMove 31 = .ok (.goto 4, 3) := by decide +kernel
theorem dX5_rowOfMove_34 : decode cX5_rowOfMove 34 = .ok (.iload_n 2, 1) := by decide +kernel
theorem dX5_rowOfMove_35 : decode cX5_rowOfMove 35 = .ok (.istore 4, 2) := by decide +kernel
theorem dX5_rowOfMove_37 : decode cX5_rowOfMove 37 = .ok (.iload_n 1, 1) := by decide +kernel
theorem dX5_rowOfMove_38 : decode cX5_rowOfMove 38 = .ok (.iconst 2, 1) := by decide +kernel
theorem dX5_rowOfMove_39 : decode cX5_rowOfMove 39 = .ok (.if_icmp .eq 9, 3) := by decide +kernel
theorem dX5_rowOfMove_42 : decode cX5_rowOfMove 42 = .ok (.iload_n 1, 1) := by decide +kernel
theorem dX5_rowOfMove_43 : decode cX5_rowOfMove 43 = .ok (.bipush 6, 2) := by decide +kernel
theorem dX5_rowOfMove_45 : decode cX5_rowOfMove 45 = .ok (.if_icmp .ne 7, 3) := by decide +kernel
theorem dX5_rowOfMove_48 : decode cX5_rowOfMove 48 = .ok (.iconst 1, 1) := by decide +kernel
theorem dX5_rowOfMove_49 : decode cX5_rowOfMove 49 = .ok (.goto 4, 3) := by decide +kernel
theorem dX5_rowOfMove_52 : decode cX5_rowOfMove 52 = .ok (.iconst 0, 1) := by decide +kernel
theorem dX5_rowOfMove_53 : decode cX5_rowOfMove 53 = .ok (.istore 5, 2) := by decide +kernel
theorem dX5_rowOfMove_55 : decode cX5_rowOfMove 55 = .ok (.iload 5, 2) := by decide +kernel
theorem dX5_rowOfMove_57 : decode cX5_rowOfMove 57 = .ok (.ifCond .eq 14, 3) := by decide +kernel
theorem dX5_rowOfMove_60 : decode cX5_rowOfMove 60 = .ok (.iconst 0, 1) := by decide +kernel
theorem dX5_rowOfMove_61 : decode cX5_rowOfMove 61 = .ok (.iload_n 3, 1) := by decide +kernel
theorem dX5_rowOfMove_62 : decode cX5_rowOfMove 62 = .ok (.iload 4, 2) := by decide +kernel
theorem dX5_rowOfMove_64 : decode cX5_rowOfMove 64 = .ok (.isub, 1) := by decide +kernel
theorem dX5_rowOfMove_65 : decode cX5_rowOfMove 65 = .ok (.invokestatic 79, 3) := by decide +kernel
theorem dX5_rowOfMove_68 : decode cX5_rowOfMove 68 = .ok (.goto 16, 3) := by decide +kernel
theorem dX5_rowOfMove_71 : decode cX5_rowOfMove 71 = .ok (.aload_n 0, 1) := by decide +kernel
theorem dX5_rowOfMove_72 : decode cX5_rowOfMove 72 = .ok (.getfield 116, 3) := by decide +kernel
theorem dX5_rowOfMove_75 : decode cX5_rowOfMove 75 = .ok (.iconst 1, 1) := by decide +kernel
theorem dX5_rowOfMove_76 : decode cX5_rowOfMove 76 = .ok (.isub, 1) := by decide +kernel
theorem dX5_rowOfMove_77 : decode cX5_rowOfMove 77 = .ok (.iload_n 3, 1) := by decide +kernel
theorem dX5_rowOfMove_78 : decode cX5_rowOfMove 78 = .ok (.iload 4, 2) := by decide +kernel
theorem dX5_rowOfMove_80 : decode cX5_rowOfMove 80 = .ok (.iadd, 1) := by decide +kernel
theorem dX5_rowOfMove_81 : decode cX5_rowOfMove 81 = .ok (.invokestatic 212, 3) := by decide +kernel
theorem dX5_rowOfMove_84 : decode cX5_rowOfMove 84 = .ok (.ireturn, 1) := by decide +kernel
theorem dX5_aimAtRow_0 : decode cX5_aimAtRow 0 = .ok (.iload_n 1, 1) := by decide +kernel
theorem dX5_aimAtRow_1 : decode cX5_aimAtRow 1 = .ok (.aload_n 0, 1) := by decide +kernel
theorem dX5_aimAtRow_2 : decode cX5_aimAtRow 2 = .ok (.aload_n 0, 1) := by decide +kernel
theorem dX5_aimAtRow_3 : decode cX5_aimAtRow 3 = .ok (.getfield 44, 3) := by decide +kernel
theorem dX5_aimAtRow_6 : decode cX5_aimAtRow 6 = .ok (.getfield 193, 3) := by decide +kernel
theorem dX5_aimAtRow_9 : decode cX5_aimAtRow 9 = .ok (.aload_n 0, 1) := by decide +kernel
theorem dX5_aimAtRow_10 : decode cX5_aimAtRow 10 = .ok (.getfield 44, 3) := by decide +kernel
theorem dX5_aimAtRow_13 : decode cX5_aimAtRow 13 = .ok (.getfield 200, 3) := by decide +kernel
theorem dX5_aimAtRow_16 : decode cX5_aimAtRow 16 = .ok (.iconst 0, 1) := by decide +kernel
theorem dX5_aimAtRow_17 : decode cX5_aimAtRow 17 = .ok (.invokevirtual 205, 3) := by decide +kernel
theorem dX5_aimAtRow_20 : decode cX5_aimAtRow 20 = .ok (.if_icmp .eq 24, 3) := by decide +kernel
theorem dX5_aimAtRow_23 : decode cX5_aimAtRow 23 = .ok (.aload_n 0, 1) := by decide +kernel
theorem dX5_aimAtRow_24 : decode cX5_aimAtRow 24 = .ok (.getfield 44, 3) := by decide +kernel
theorem dX5_aimAtRow_27 : decode cX5_aimAtRow 27 = .ok (.aload_n 0, 1) := by decide +kernel
theorem dX5_aimAtRow_28 : decode cX5_aimAtRow 28 = .ok (.iload_n 1, 1) := by decide +kernel
theorem dX5_aimAtRow_29 : decode cX5_aimAtRow 29 = .ok (.invokevirtual 175, 3) := by decide +kernel
theorem dX5_aimAtRow_32 : decode cX5_aimAtRow 32 = .ok (.aload_n 0, 1) := by decide +kernel
theorem dX5_aimAtRow_33 : decode cX5_aimAtRow 33 = .ok (.iload_n 1, 1) := by decide +kernel
theorem dX5_aimAtRow_34 : decode cX5_aimAtRow 34 = .ok (.aload_n 0, 1) := by decide +kernel
theorem dX5_aimAtRow_35 : decode cX5_aimAtRow 35 = .ok (.getfield 237, 3) := by decide +kernel
theorem dX5_aimAtRow_38 : decode cX5_aimAtRow 38 = .ok (.invokevirtual 277, 3) := by decide +kernel
theorem dX5_aimAtRow_41 : decode cX5_aimAtRow 41 = .ok (.invokevirtual 218, 3) := by decide +kernel
theorem dX5_aimAtRow_44 : decode cX5_aimAtRow 44 = .ok (.return_, 1) := by decide +kernel
theorem dX5_redraw_0 : decode cX5_redraw 0 = .ok (.aload_n 0, 1) := by decide +kernel
theorem dX5_redraw_1 : decode cX5_redraw 1 = .ok (.getfield 68, 3) := by decide +kernel
theorem dX5_redraw_4 : decode cX5_redraw 4 = .ok (.astore_n 2, 1) := by decide +kernel
theorem dX5_redraw_5 : decode cX5_redraw 5 = .ok (.aload_n 0, 1) := by decide +kernel
theorem dX5_redraw_6 : decode cX5_redraw 6 = .ok (.aload_n 2, 1) := by decide +kernel
theorem dX5_redraw_7 : decode cX5_redraw 7 = .ok (.aload_n 0, 1) := by decide +kernel
theorem dX5_redraw_8 : decode cX5_redraw 8 = .ok (.invokevirtual 225, 3) := by decide +kernel
theorem dX5_redraw_11 : decode cX5_redraw 11 = .ok (.iload_n 1, 1) := by decide +kernel
theorem dX5_redraw_12 : decode cX5_redraw 12 = .ok (.invokevirtual 278, 3) := by decide +kernel
theorem dX5_redraw_15 : decode cX5_redraw 15 = .ok (.aload_n 0, 1) := by decide +kernel
theorem dX5_redraw_16 : decode cX5_redraw 16 = .ok (.iconst 0, 1) := by decide +kernel
theorem dX5_redraw_17 : decode cX5_redraw 17 = .ok (.putfield 282, 3) := by decide +kernel
theorem dX5_redraw_20 : decode cX5_redraw 20 = .ok (.aload_n 2, 1) := by decide +kernel
theorem dX5_redraw_21 : decode cX5_redraw 21 = .ok (.aload_n 0, 1) := by decide +kernel
theorem dX5_redraw_22 : decode cX5_redraw 22 = .ok (.getfield 64, 3) := by decide +kernel
theorem dX5_redraw_25 : decode cX5_redraw 25 = .ok (.iconst 0, 1) := by decide +kernel
theorem dX5_redraw_26 : decode cX5_redraw 26 = .ok (.invokevirtual 285, 3) := by decide +kernel
theorem dX5_redraw_29 : decode cX5_redraw 29 = .ok (.istore_n 3, 1) := by decide +kernel
theorem dX5_redraw_30 : decode cX5_redraw 30 = .ok (.iconst 1, 1) := by decide +kernel
theorem dX5_redraw_31 : decode cX5_redraw 31 = .ok (.istore 4, 2) := by decide +kernel
theorem dX5_redraw_33 : decode cX5_redraw 33 = .ok (.iload 4, 2) := by decide +kernel
theorem dX5_redraw_35 : decode cX5_redraw 35 = .ok (.bipush 24, 2) := by decide +kernel
theorem dX5_redraw_37 : decode cX5_redraw 37 = .ok (.if_icmp .ge 65, 3) := by decide +kernel
theorem dX5_redraw_40 : decode cX5_redraw 40 = .ok (.aload_n 2, 1) := by decide +kernel
theorem dX5_redraw_41 : decode cX5_redraw 41 = .ok (.aload_n 0, 1) := by decide +kernel
theorem dX5_redraw_42 : decode cX5_redraw 42 = .ok (.getfield 64, 3) := by decide +kernel
theorem dX5_redraw_45 : decode cX5_redraw 45 = .ok (.iload 4, 2) := by decide +kernel
theorem dX5_redraw_47 : decode cX5_redraw 47 = .ok (.invokevirtual 285, 3) := by decide +kernel
theorem dX5_redraw_50 : decode cX5_redraw 50 = .ok (.istore 5, 2) := by decide +kernel
theorem dX5_redraw_52 : decode cX5_redraw 52 = .ok (.iload 5, 2) := by decide +kernel
theorem dX5_redraw_54 : decode cX5_redraw 54 = .ok (.iload_n 3, 1) := by decide +kernel
theorem dX5_redraw_55 : decode cX5_redraw 55 = .ok (.if_icmp .ge 12, 3) := by decide +kernel
theorem dX5_redraw_58 : decode cX5_redraw 58 = .ok (.iload 5, 2) := by decide +kernel
theorem dX5_redraw_60 : decode cX5_redraw 60 = .ok (.istore_n 3, 1) := by decide +kernel
theorem dX5_redraw_61 : decode cX5_redraw 61 = .ok (.aload_n 0, 1) := by decide +kernel
theorem dX5_redraw_62 : decode cX5_redraw 62 = .ok (.iload 4, 2) := by decide +kernel
theorem dX5_redraw_64 : decode cX5_redraw 64 = .ok (.putfield 282, 3) := by decide +kernel
theorem dX5_redraw_67 : decode cX5_redraw 67 = .ok (.aload_n 2, 1) := by decide +kernel
theorem dX5_redraw_68 : decode cX5_redraw 68 = .ok (.aload_n 0, 1) := by decide +kernel
theorem dX5_redraw_69 : decode cX5_redraw 69 = .ok (.getfield 64, 3) := by decide +kernel
theorem dX5_redraw_72 : decode cX5_redraw 72 = .ok (.iload 4, 2) := by decide +kernel
theorem dX5_redraw_74 : decode cX5_redraw 74 = .ok (.ineg, 1) := by decide +kernel
theorem dX5_redraw_75 : decode cX5_redraw 75 = .ok (.invokevirtual 285, 3) := by decide +kernel
theorem dX5_redraw_78 : decode cX5_redraw 78 = .ok (.istore 6, 2) := by decide +kernel
theorem dX5_redraw_80 : decode cX5_redraw 80 = .ok (.iload 6, 2) := by decide +kernel
theorem dX5_redraw_82 : decode cX5_redraw 82 = .ok (.iload_n 3, 1) := by decide +kernel
theorem dX5_redraw_83 : decode cX5_redraw 83 = .ok (.if_icmp .ge 13, 3) := by decide +kernel
theorem dX5_redraw_86 : decode cX5_redraw 86 = .ok (.iload 6, 2) := by decide +kernel
theorem dX5_redraw_88 : decode cX5_redraw 88 = .ok (.istore_n 3, 1) := by decide +kernel
theorem dX5_redraw_89 : decode cX5_redraw 89 = .ok (.aload_n 0, 1) := by decide +kernel
theorem dX5_redraw_90 : decode cX5_redraw 90 = .ok (.iload 4, 2) := by decide +kernel
theorem dX5_redraw_92 : decode cX5_redraw 92 = .ok (.ineg, 1) := by decide +kernel
theorem dX5_redraw_93 : decode cX5_redraw 93 = .ok (.putfield 282, 3) := by decide +kernel
theorem dX5_redraw_96 : decode cX5_redraw 96 = .ok (.iinc 4 1, 3) := by decide +kernel
theorem dX5_redraw_99 : decode cX5_redraw 99 = .ok (.goto (-66), 3) := by decide +kernel
theorem dX5_redraw_102 : decode cX5_redraw 102 = .ok (.aload_n 0, 1) := by decide +kernel
theorem dX5_redraw_103 : decode cX5_redraw 103 = .ok (.aload_n 0, 1) := by decide +kernel
theorem dX5_redraw_104 : decode cX5_redraw 104 = .ok (.getfield 64, 3) := by decide +kernel
theorem dX5_redraw_107 : decode cX5_redraw 107 = .ok (.putfield 68, 3) := by decide +kernel
theorem dX5_redraw_110 : decode cX5_redraw 110 = .ok (.aload_n 0, 1) := by decide +kernel
theorem dX5_redraw_111 : decode cX5_redraw 111 = .ok (.aload_n 2, 1) := by decide +kernel
theorem dX5_redraw_112 : decode cX5_redraw 112 = .ok (.putfield 64, 3) := by decide +kernel
theorem dX5_redraw_115 : decode cX5_redraw 115 = .ok (.iload_n 3, 1) := by decide +kernel
theorem dX5_redraw_116 : decode cX5_redraw 116 = .ok (.ireturn, 1) := by decide +kernel
theorem dX5_takePicture_0 : decode cX5_takePicture 0 = .ok (.aload_n 1, 1) := by decide +kernel
theorem dX5_takePicture_1 : decode cX5_takePicture 1 = .ok (.invokevirtual 289, 3) := by decide +kernel
theorem dX5_takePicture_4 : decode cX5_takePicture 4 = .ok (.iload_n 2, 1) := by decide +kernel
theorem dX5_takePicture_5 : decode cX5_takePicture 5 = .ok (.istore 4, 2) := by decide +kernel
theorem dX5_takePicture_7 : decode cX5_takePicture 7 = .ok (.iload 4, 2) := by decide +kernel
theorem dX5_takePicture_9 : decode cX5_takePicture 9 = .ok (.iload_n 2, 1) := by decide +kernel
theorem dX5_takePicture_10 : decode cX5_takePicture 10 = .ok (.iload_n 3, 1) := by decide +kernel
theorem dX5_takePicture_11 : decode cX5_takePicture 11 = .ok (.iadd, 1) := by decide +kernel
theorem dX5_takePicture_12 : decode cX5_takePicture 12 = .ok (.if_icmp .ge 62, 3) := by decide +kernel
theorem dX5_takePicture_15 : decode cX5_takePicture 15 = .ok (.iload 4, 2) := by decide +kernel
theorem dX5_takePicture_17 : decode cX5_takePicture 17 = .ok (.aload_n 0, 1) := by decide +kernel
theorem dX5_takePicture_18 : decode cX5_takePicture 18 = .ok (.getfield 116, 3) := by decide +kernel
theorem dX5_takePicture_21 : decode cX5_takePicture 21 = .ok (.if_icmp .ge 43, 3) := by decide +kernel
theorem dX5_takePicture_24 : decode cX5_takePicture 24 = .ok (.aload_n 0, 1) := by decide +kernel
theorem dX5_takePicture_25 : decode cX5_takePicture 25 = .ok (.iload 4, 2) := by decide +kernel
theorem dX5_takePicture_27 : decode cX5_takePicture 27 = .ok (.invokevirtual 175, 3) := by decide +kernel
theorem dX5_takePicture_30 : decode cX5_takePicture 30 = .ok (.istore 5, 2) := by decide +kernel
theorem dX5_takePicture_32 : decode cX5_takePicture 32 = .ok (.aload_n 0, 1) := by decide +kernel
theorem dX5_takePicture_33 : decode cX5_takePicture 33 = .ok (.iload 5, 2) := by decide +kernel
theorem dX5_takePicture_35 : decode cX5_takePicture 35 = .ok (.invokevirtual 128, 3) := by decide +kernel
theorem dX5_takePicture_38 : decode cX5_takePicture 38 = .ok (.pop, 1) := by decide +kernel
theorem dX5_takePicture_39 : decode cX5_takePicture 39 = .ok (.aload_n 1, 1) := by decide +kernel
theorem dX5_takePicture_40 : decode cX5_takePicture 40 = .ok (.aload_n 0, 1) := by decide +kernel
theorem dX5_takePicture_41 : decode cX5_takePicture 41 = .ok (.invokevirtual 168, 3) := by decide +kernel
theorem dX5_takePicture_44 : decode cX5_takePicture 44 = .ok (.aload_n 0, 1) := by decide +kernel
theorem dX5_takePicture_45 : decode cX5_takePicture 45 = .ok (.iload 4, 2) := by decide +kernel
theorem dX5_takePicture_47 : decode cX5_takePicture 47 = .ok (.iload 5, 2) := by decide +kernel
theorem dX5_takePicture_49 : decode cX5_takePicture 49 = .ok (.invokevirtual 178, 3) := by decide +kernel
theorem dX5_takePicture_52 : decode cX5_takePicture 52 = .ok (.aload_n 0, 1) := by decide +kernel
theorem dX5_takePicture_53 : decode cX5_takePicture 53 = .ok (.iload 4, 2) := by decide +kernel
theorem dX5_takePicture_55 : decode cX5_takePicture 55 = .ok (.invokevirtual 292, 3) := by decide +kernel
theorem dX5_takePicture_58 : decode cX5_takePicture 58 = .ok (.invokevirtual 295, 3) := by decide +kernel
theorem dX5_takePicture_61 : decode cX5_takePicture 61 = .ok (.goto 7, 3) := by decide +kernel
theorem dX5_takePicture_64 : decode cX5_takePicture 64 = .ok (.aload_n 1, 1) := by decide +kernel
theorem dX5_takePicture_65 : decode cX5_takePicture 65 = .ok (.invokevirtual 299, 3) := by decide +kernel
theorem dX5_takePicture_68 : decode cX5_takePicture 68 = .ok (.iinc 4 1, 3) := by decide +kernel
theorem dX5_takePicture_71 : decode cX5_takePicture 71 = .ok (.goto (-64), 3) := by decide +kernel
theorem dX5_takePicture_74 : decode cX5_takePicture 74 = .ok (.return_, 1) := by decide +kernel
theorem dX6_init_0 : decode cX6_init 0 = .ok (.aload_n 0, 1) := by decide +kernel
theorem dX6_init_1 : decode cX6_init 1 = .ok (.invokespecial 3, 3) := by decide +kernel
theorem dX6_init_4 : decode cX6_init 4 = .ok (.aload_n 0, 1) := by decide +kernel
theorem dX6_init_5 : decode cX6_init 5 = .ok (.sipush 3144, 3) := by decide +kernel
theorem dX6_init_8 : decode cX6_init 8 = .ok (.newarray .int, 2) := by decide +kernel
theorem dX6_init_10 : decode cX6_init 10 = .ok (.putfield 9, 3) := by decide +kernel
theorem dX6_init_13 : decode cX6_init 13 = .ok (.aload_n 0, 1) := by decide +kernel
theorem dX6_init_14 : decode cX6_init 14 = .ok (.bipush 24, 2) := by decide +kernel
theorem dX6_init_16 : decode cX6_init 16 = .ok (.newarray .int, 2) := by decide +kernel
theorem dX6_init_18 : decode cX6_init 18 = .ok (.putfield 15, 3) := by decide +kernel
theorem dX6_init_21 : decode cX6_init 21 = .ok (.aload_n 0, 1) := by decide +kernel
theorem dX6_init_22 : decode cX6_init 22 = .ok (.bipush 24, 2) := by decide +kernel
theorem dX6_init_24 : decode cX6_init 24 = .ok (.newarray .int, 2) := by decide +kernel
theorem dX6_init_26 : decode cX6_init 26 = .ok (.putfield 18, 3) := by decide +kernel
theorem dX6_init_29 : decode cX6_init 29 = .ok (.return_, 1) := by decide +kernel
theorem dX6_start_0 : decode cX6_start 0 = .ok (.aload_n 0, 1) := by decide +kernel
theorem dX6_start_1 : decode cX6_start 1 = .ok (.iconst 0, 1) := by decide +kernel
theorem dX6_start_2 : decode cX6_start 2 = .ok (.putfield 21, 3) := by decide +kernel
theorem dX6_start_5 : decode cX6_start 5 = .ok (.return_, 1) := by decide +kernel
theorem dX6_addNothing_0 : decode cX6_addNothing 0 = .ok (.aload_n 0, 1) := by decide +kernel
theorem dX6_addNothing_1 : decode cX6_addNothing 1 = .ok (.getfield 21, 3) := by decide +kernel
theorem dX6_addNothing_4 : decode cX6_addNothing 4 = .ok (.ifCond .lt 12, 3) := by decide +kernel
theorem dX6_addNothing_7 : decode cX6_addNothing 7 = .ok (.aload_n 0, 1) := by decide +kernel
theorem dX6_addNothing_8 : decode cX6_addNothing 8 = .ok (.getfield 21, 3) := by decide +kernel
theorem dX6_addNothing_11 : decode cX6_addNothing 11 = .ok (.bipush 24, 2) := by decide +kernel
theorem dX6_addNothing_13 : decode cX6_addNothing 13 = .ok (.if_icmp .lt 4, 3) := by decide +kernel
theorem dX6_addNothing_16 : decode cX6_addNothing 16 = .ok (.return_, 1) := by decide +kernel
theorem dX6_addNothing_17 : decode cX6_addNothing 17 = .ok (.aload_n 0, 1) := by decide +kernel
theorem dX6_addNothing_18 : decode cX6_addNothing 18 = .ok (.getfield 15, 3) := by decide +kernel
theorem dX6_addNothing_21 : decode cX6_addNothing 21 = .ok (.aload_n 0, 1) := by decide +kernel
theorem dX6_addNothing_22 : decode cX6_addNothing 22 = .ok (.getfield 21, 3) := by decide +kernel
theorem dX6_addNothing_25 : decode cX6_addNothing 25 = .ok (.iconst (-1), 1) := by decide +kernel
theorem dX6_addNothing_26 : decode cX6_addNothing 26 = .ok (.iastore, 1) := by decide +kernel
theorem dX6_addNothing_27 : decode cX6_addNothing 27 = .ok (.aload_n 0, 1) := by decide +kernel
theorem dX6_addNothing_28 : decode cX6_addNothing 28 = .ok (.getfield 18, 3) := by decide +kernel
theorem dX6_addNothing_31 : decode cX6_addNothing 31 = .ok (.aload_n 0, 1) := by decide +kernel
theorem dX6_addNothing_32 : decode cX6_addNothing 32 = .ok (.getfield 21, 3) := by decide +kernel
theorem dX6_addNothing_35 : decode cX6_addNothing 35 = .ok (.iconst 0, 1) := by decide +kernel
theorem dX6_addNothing_36 : decode cX6_addNothing 36 = .ok (.iastore, 1) := by decide +kernel
theorem dX6_addNothing_37 : decode cX6_addNothing 37 = .ok (.aload_n 0, 1) := by decide +kernel
theorem dX6_addNothing_38 : decode cX6_addNothing 38 = .ok (.dup, 1) := by decide +kernel
theorem dX6_addNothing_39 : decode cX6_addNothing 39 = .ok (.getfield 21, 3) := by decide +kernel
theorem dX6_addNothing_42 : decode cX6_addNothing 42 = .ok (.iconst 1, 1) := by decide +kernel
theorem dX6_addNothing_43 : decode cX6_addNothing 43 = .ok (.iadd, 1) := by decide +kernel
theorem dX6_addNothing_44 : decode cX6_addNothing 44 = .ok (.putfield 21, 3) := by decide +kernel
theorem dX6_addNothing_47 : decode cX6_addNothing 47 = .ok (.return_, 1) := by decide +kernel
theorem dX6_addRow_0 : decode cX6_addRow 0 = .ok (.aload_n 0, 1) := by decide +kernel
theorem dX6_addRow_1 : decode cX6_addRow 1 = .ok (.getfield 21, 3) := by decide +kernel
theorem dX6_addRow_4 : decode cX6_addRow 4 = .ok (.ifCond .lt 12, 3) := by decide +kernel
theorem dX6_addRow_7 : decode cX6_addRow 7 = .ok (.aload_n 0, 1) := by decide +kernel
theorem dX6_addRow_8 : decode cX6_addRow 8 = .ok (.getfield 21, 3) := by decide +kernel
theorem dX6_addRow_11 : decode cX6_addRow 11 = .ok (.bipush 24, 2) := by decide +kernel
theorem dX6_addRow_13 : decode cX6_addRow 13 = .ok (.if_icmp .lt 4, 3) := by decide +kernel
theorem dX6_addRow_16 : decode cX6_addRow 16 = .ok (.return_, 1) := by decide +kernel
theorem dX6_addRow_17 : decode cX6_addRow 17 = .ok (.aload_n 1, 1) := by decide +kernel
theorem dX6_addRow_18 : decode cX6_addRow 18 = .ok (.iload_n 2, 1) := by decide +kernel
theorem dX6_addRow_19 : decode cX6_addRow 19 = .ok (.invokevirtual 25, 3) := by decide +kernel
theorem dX6_addRow_22 : decode cX6_addRow 22 = .ok (.sipush 131, 3) := by decide +kernel
theorem dX6_addRow_25 : decode cX6_addRow 25 = .ok (.invokestatic 31, 3) := by decide +kernel
theorem dX6_addRow_28 : decode cX6_addRow 28 = .ok (.istore 4, 2) := by decide +kernel
theorem dX6_addRow_30 : decode cX6_addRow 30 = .ok (.iconst 0, 1) := by decide +kernel
theorem dX6_addRow_31 : decode cX6_addRow 31 = .ok (.istore 5, 2) := by decide +kernel
theorem dX6_addRow_33 : decode cX6_addRow 33 = .ok (.iload 5, 2) := by decide +kernel
theorem dX6_addRow_35 : decode cX6_addRow 35 = .ok (.iload 4, 2) := by decide +kernel
theorem dX6_addRow_37 : decode cX6_addRow 37 = .ok (.if_icmp .ge 37, 3) := by decide +kernel
theorem dX6_addRow_40 : decode cX6_addRow 40 = .ok (.aload_n 0, 1) := by decide +kernel
theorem dX6_addRow_41 : decode cX6_addRow 41 = .ok (.getfield 9, 3) := by decide +kernel
theorem dX6_addRow_44 : decode cX6_addRow 44 = .ok (.aload_n 0, 1) := by decide +kernel
theorem dX6_addRow_45 : decode cX6_addRow 45 = .ok (.getfield 21, 3) := by decide +kernel
theorem dX6_addRow_48 : decode cX6_addRow 48 = .ok (.sipush 131, 3) := by decide +kernel
theorem dX6_addRow_51 : decode cX6_addRow 51 = .ok (.imul, 1) := by decide +kernel
theorem dX6_addRow_52 : decode cX6_addRow 52 = .ok (.iload 5, 2) := by decide +kernel
theorem dX6_addRow_54 : decode cX6_addRow 54 = .ok (.iadd, 1) := by decide +kernel
theorem dX6_addRow_55 : decode cX6_addRow 55 = .ok (.aload_n 0, 1) := by decide +kernel
theorem dX6_addRow_56 : decode cX6_addRow 56 = .ok (.aload_n 1, 1) := by decide +kernel
theorem dX6_addRow_57 : decode cX6_addRow 57 = .ok (.aload_n 1, 1) := by decide +kernel
theorem dX6_addRow_58 : decode cX6_addRow 58 = .ok (.iload_n 2, 1) := by decide +kernel
theorem dX6_addRow_59 : decode cX6_addRow 59 = .ok (.iload 5, 2) := by decide +kernel
theorem dX6_addRow_61 : decode cX6_addRow 61 = .ok (.invokevirtual 37, 3) := by decide +kernel
theorem dX6_addRow_64 : decode cX6_addRow 64 = .ok (.invokevirtual 40, 3) := by decide +kernel
theorem dX6_addRow_67 : decode cX6_addRow 67 = .ok (.iastore, 1) := by decide +kernel
theorem dX6_addRow_68 : decode cX6_addRow 68 = .ok (.iinc 5 1, 3) := by decide +kernel
theorem dX6_addRow_71 : decode cX6_addRow 71 = .ok (.goto (-38), 3) := by decide +kernel
theorem dX6_addRow_74 : decode cX6_addRow 74 = .ok (.aload_n 0, 1) := by decide +kernel
theorem dX6_addRow_75 : decode cX6_addRow 75 = .ok (.getfield 15, 3) := by decide +kernel
theorem dX6_addRow_78 : decode cX6_addRow 78 = .ok (.aload_n 0, 1) := by decide +kernel
theorem dX6_addRow_79 : decode cX6_addRow 79 = .ok (.getfield 21, 3) := by decide +kernel
theorem dX6_addRow_82 : decode cX6_addRow 82 = .ok (.iload 4, 2) := by decide +kernel
theorem dX6_addRow_84 : decode cX6_addRow 84 = .ok (.iastore, 1) := by decide +kernel
theorem dX6_addRow_85 : decode cX6_addRow 85 = .ok (.aload_n 0, 1) := by decide +kernel
theorem dX6_addRow_86 : decode cX6_addRow 86 = .ok (.getfield 18, 3) := by decide +kernel
theorem dX6_addRow_89 : decode cX6_addRow 89 = .ok (.aload_n 0, 1) := by decide +kernel
theorem dX6_addRow_90 : decode cX6_addRow 90 = .ok (.getfield 21, 3) := by decide +kernel
theorem dX6_addRow_93 : decode cX6_addRow 93 = .ok (.iload_n 3, 1) := by decide +kernel
theorem dX6_addRow_94 : decode cX6_addRow 94 = .ok (.iastore, 1) := by decide +kernel
theorem dX6_addRow_95 : decode cX6_addRow 95 = .ok (.aload_n 0, 1) := by decide +kernel
theorem dX6_addRow_96 : decode cX6_addRow 96 = .ok (.dup, 1) := by decide +kernel
theorem dX6_addRow_97 : decode cX6_addRow 97 = .ok (.getfield 21, 3) := by decide +kernel
theorem dX6_addRow_100 : decode cX6_addRow 100 = .ok (.iconst 1, 1) := by decide +kernel
theorem dX6_addRow_101 : decode cX6_addRow 101 = .ok (.iadd, 1) := by decide +kernel
theorem dX6_addRow_102 : decode cX6_addRow 102 = .ok (.putfield 21, 3) := by decide +kernel
theorem dX6_addRow_105 : decode cX6_addRow 105 = .ok (.return_, 1) := by decide +kernel
theorem dX6_packed_0 : decode cX6_packed 0 = .ok (.aload_n 1, 1) := by decide +kernel
theorem dX6_packed_1 : decode cX6_packed 1 = .ok (.iload_n 2, 1) := by decide +kernel
theorem dX6_packed_2 : decode cX6_packed 2 = .ok (.iconst 0, 1) := by decide +kernel
theorem dX6_packed_3 : decode cX6_packed 3 = .ok (.invokevirtual 44, 3) := by decide +kernel
theorem dX6_packed_6 : decode cX6_packed 6 = .ok (.aload_n 1, 1) := by decide +kernel
theorem dX6_packed_7 : decode cX6_packed 7 = .ok (.iload_n 2, 1) := by decide +kernel
theorem dX6_packed_8 : decode cX6_packed 8 = .ok (.iconst 1, 1) := by decide +kernel
theorem dX6_packed_9 : decode cX6_packed 9 = .ok (.invokevirtual 44, 3) := by decide +kernel
theorem dX6_packed_12 : decode cX6_packed 12 = .ok (.bipush 7, 2) := by decide +kernel
theorem dX6_packed_14 : decode cX6_packed 14 = .ok (.ishl, 1) := by decide +kernel
theorem dX6_packed_15 : decode cX6_packed 15 = .ok (.ior, 1) := by decide +kernel
theorem dX6_packed_16 : decode cX6_packed 16 = .ok (.istore_n 3, 1) := by decide +kernel
theorem dX6_packed_17 : decode cX6_packed 17 = .ok (.aload_n 1, 1) := by decide +kernel
theorem dX6_packed_18 : decode cX6_packed 18 = .ok (.iload_n 2, 1) := by decide +kernel
theorem dX6_packed_19 : decode cX6_packed 19 = .ok (.iconst 2, 1) := by decide +kernel
theorem dX6_packed_20 : decode cX6_packed 20 = .ok (.invokevirtual 44, 3) := by decide +kernel
theorem dX6_packed_23 : decode cX6_packed 23 = .ok (.aload_n 1, 1) := by decide +kernel
theorem dX6_packed_24 : decode cX6_packed 24 = .ok (.iload_n 2, 1) := by decide +kernel
theorem dX6_packed_25 : decode cX6_packed 25 = .ok (.iconst 3, 1) := by decide +kernel
theorem dX6_packed_26 : decode cX6_packed 26 = .ok (.invokevirtual 44, 3) := by decide +kernel
theorem dX6_packed_29 : decode cX6_packed 29 = .ok (.bipush 6, 2) := by decide +kernel
theorem dX6_packed_31 : decode cX6_packed 31 = .ok (.ishl, 1) := by decide +kernel
theorem dX6_packed_32 : decode cX6_packed 32 = .ok (.ior, 1) := by decide +kernel
theorem dX6_packed_33 : decode cX6_packed 33 = .ok (.istore 4, 2) := by decide +kernel
theorem dX6_packed_35 : decode cX6_packed 35 = .ok (.iload_n 3, 1) := by decide +kernel
theorem dX6_packed_36 : decode cX6_packed 36 = .ok (.iload 4, 2) := by decide +kernel
theorem dX6_packed_38 : decode cX6_packed 38 = .ok (.bipush 14, 2) := by decide +kernel
theorem dX6_packed_40 : decode cX6_packed 40 = .ok (.ishl, 1) := by decide +kernel
theorem dX6_packed_41 : decode cX6_packed 41 = .ok (.ior, 1) := by decide +kernel
theorem dX6_packed_42 : decode cX6_packed 42 = .ok (.aload_n 1, 1) := by decide +kernel
theorem dX6_packed_43 : decode cX6_packed 43 = .ok (.iload_n 2, 1) := by decide +kernel
theorem dX6_packed_44 : decode cX6_packed 44 = .ok (.iconst 4, 1) := by decide +kernel
theorem dX6_packed_45 : decode cX6_packed 45 = .ok (.invokevirtual 44, 3) := by decide +kernel
theorem dX6_packed_48 : decode cX6_packed 48 = .ok (.bipush 23, 2) := by decide +kernel
theorem dX6_packed_50 : decode cX6_packed 50 = .ok (.ishl, 1) := by decide +kernel
theorem dX6_packed_51 : decode cX6_packed 51 = .ok (.ior, 1) := by decide +kernel
theorem dX6_packed_52 : decode cX6_packed 52 = .ok (.ireturn, 1) := by decide +kernel
theorem dX6_differentRows_0 : decode cX6_differentRows 0 = .ok (.iconst 0, 1) := by decide +kernel
theorem dX6_differentRows_1 : decode cX6_differentRows 1 = .ok (.istore_n 3, 1) := by decide +kernel
theorem dX6_differentRows_2 : decode cX6_differentRows 2 = .ok (.iconst 0, 1) := by decide +kernel
theorem dX6_differentRows_3 : decode cX6_differentRows 3 = .ok (.istore 4, 2) := by decide +kernel
theorem dX6_differentRows_5 : decode cX6_differentRows 5 = .ok (.iload 4, 2) := by decide +kernel
theorem dX6_differentRows_7 : decode cX6_differentRows 7 = .ok (.aload_n 0, 1) := by decide +kernel
theorem dX6_differentRows_8 : decode cX6_differentRows 8 = .ok (.getfield 21, 3) := by decide +kernel
theorem dX6_differentRows_11 : decode cX6_differentRows 11 = .ok (.if_icmp .ge 26, 3) := by decide +kernel
theorem dX6_differentRows_14 : decode cX6_differentRows 14 = .ok (.aload_n 0, 1) := by decide +kernel
theorem dX6_differentRows_15 : decode cX6_differentRows 15 = .ok (.iload 4, 2) := by decide +kernel
theorem dX6_differentRows_17 : decode cX6_differentRows 17 = .ok (.aload_n 1, 1) := by decide +kernel
theorem dX6_differentRows_18 : decode cX6_differentRows 18 = .ok (.iload 4, 2) := by decide +kernel
theorem dX6_differentRows_20 : decode cX6_differentRows 20 = .ok (.iload_n 2, 1) := by decide +kernel
theorem dX6_differentRows_21 : decode cX6_differentRows 21 = .ok (.iadd, 1) := by decide +kernel
theorem dX6_differentRows_22 : decode cX6_differentRows 22 = .ok (.invokevirtual 47, 3) := by decide +kernel
theorem dX6_differentRows_25 : decode cX6_differentRows 25 = .ok (.ifCond .ne 6, 3) := by decide +kernel
theorem dX6_differentRows_28 : decode cX6_differentRows 28 = .ok (.iinc 3 1, 3) := by decide +kernel
theorem dX6_differentRows_31 : decode cX6_differentRows 31 = .ok (.iinc 4 1, 3) := by decide +kernel
theorem dX6_differentRows_34 : decode cX6_differentRows 34 = .ok (.goto (-29), 3) := by decide +kernel
theorem dX6_differentRows_37 : decode cX6_differentRows 37 = .ok (.iload_n 3, 1) := by decide +kernel
theorem dX6_differentRows_38 : decode cX6_differentRows 38 = .ok (.ireturn, 1) := by decide +kernel
theorem dX6_isSame_0 : decode cX6_isSame 0 = .ok (.iload_n 1, 1) := by decide +kernel
theorem dX6_isSame_1 : decode cX6_isSame 1 = .ok (.ifCond .lt 27, 3) := by decide +kernel
theorem dX6_isSame_4 : decode cX6_isSame 4 = .ok (.iload_n 1, 1) := by decide +kernel
theorem dX6_isSame_5 : decode cX6_isSame 5 = .ok (.bipush 24, 2) := by decide +kernel
theorem dX6_isSame_7 : decode cX6_isSame 7 = .ok (.if_icmp .ge 21, 3) := by decide +kernel
theorem dX6_isSame_10 : decode cX6_isSame 10 = .ok (.iload_n 3, 1) := by decide +kernel
theorem dX6_isSame_11 : decode cX6_isSame 11 = .ok (.ifCond .lt 17, 3) := by decide +kernel
theorem dX6_isSame_14 : decode cX6_isSame 14 = .ok (.iload_n 3, 1) := by decide +kernel
theorem dX6_isSame_15 : decode cX6_isSame 15 = .ok (.aload_n 2, 1) := by decide +kernel
theorem dX6_isSame_16 : decode cX6_isSame 16 = .ok (.getfield 21, 3) := by decide +kernel
theorem dX6_isSame_19 : decode cX6_isSame 19 = .ok (.if_icmp .ge 9, 3) := by decide +kernel
theorem dX6_isSame_22 : decode cX6_isSame 22 = .ok (.iload_n 3, 1) := by decide +kernel
theorem dX6_isSame_23 : decode cX6_isSame 23 = .ok (.bipush 24, 2) := by decide +kernel
theorem dX6_isSame_25 : decode cX6_isSame 25 = .ok (.if_icmp .lt 5, 3) := by decide +kernel
theorem dX6_isSame_28 : decode cX6_isSame 28 = .ok (.iconst 0, 1) := by decide +kernel
theorem dX6_isSame_29 : decode cX6_isSame 29 = .ok (.ireturn, 1) := by decide +kernel
theorem dX6_isSame_30 : decode cX6_isSame 30 = .ok (.aload_n 0, 1) := by decide +kernel
theorem dX6_isSame_31 : decode cX6_isSame 31 = .ok (.getfield 15, 3) := by decide +kernel
theorem dX6_isSame_34 : decode cX6_isSame 34 = .ok (.iload_n 1, 1) := by decide +kernel
theorem dX6_isSame_35 : decode cX6_isSame 35 = .ok (.iaload, 1) := by decide +kernel
theorem dX6_isSame_36 : decode cX6_isSame 36 = .ok (.aload_n 2, 1) := by decide +kernel
theorem dX6_isSame_37 : decode cX6_isSame 37 = .ok (.getfield 15, 3) := by decide +kernel
theorem dX6_isSame_40 : decode cX6_isSame 40 = .ok (.iload_n 3, 1) := by decide +kernel
theorem dX6_isSame_41 : decode cX6_isSame 41 = .ok (.iaload, 1) := by decide +kernel
theorem dX6_isSame_42 : decode cX6_isSame 42 = .ok (.if_icmp .ne 18, 3) := by decide +kernel
theorem dX6_isSame_45 : decode cX6_isSame 45 = .ok (.aload_n 0, 1) := by decide +kernel
theorem dX6_isSame_46 : decode cX6_isSame 46 = .ok (.getfield 18, 3) := by decide +kernel
theorem dX6_isSame_49 : decode cX6_isSame 49 = .ok (.iload_n 1, 1) := by decide +kernel
theorem dX6_isSame_50 : decode cX6_isSame 50 = .ok (.iaload, 1) := by decide +kernel
theorem dX6_isSame_51 : decode cX6_isSame 51 = .ok (.aload_n 2, 1) := by decide +kernel
theorem dX6_isSame_52 : decode cX6_isSame 52 = .ok (.getfield 18, 3) := by decide +kernel
theorem dX6_isSame_55 : decode cX6_isSame 55 = .ok (.iload_n 3, 1) := by decide +kernel
theorem dX6_isSame_56 : decode cX6_isSame 56 = .ok (.iaload, 1) := by decide +kernel
theorem dX6_isSame_57 : decode cX6_isSame 57 = .ok (.if_icmp .eq 5, 3) := by decide +kernel
theorem dX6_isSame_60 : decode cX6_isSame 60 = .ok (.iconst 0, 1) := by decide +kernel
theorem dX6_isSame_61 : decode cX6_isSame 61 = .ok (.ireturn, 1) := by decide +kernel
theorem dX6_isSame_62 : decode cX6_isSame 62 = .ok (.iconst 0, 1) := by decide +kernel
theorem dX6_isSame_63 : decode cX6_isSame 63 = .ok (.istore 4, 2) := by decide +kernel
theorem dX6_isSame_65 : decode cX6_isSame 65 = .ok (.iload 4, 2) := by decide +kernel
theorem dX6_isSame_67 : decode cX6_isSame 67 = .ok (.aload_n 0, 1) := by decide +kernel
theorem dX6_isSame_68 : decode cX6_isSame 68 = .ok (.getfield 15, 3) := by decide +kernel
theorem dX6_isSame_71 : decode cX6_isSame 71 = .ok (.iload_n 1, 1) := by decide +kernel
theorem dX6_isSame_72 : decode cX6_isSame 72 = .ok (.iaload, 1) := by decide +kernel
theorem dX6_isSame_73 : decode cX6_isSame 73 = .ok (.if_icmp .ge 48, 3) := by decide +kernel
theorem dX6_isSame_76 : decode cX6_isSame 76 = .ok (.iload 4, 2) := by decide +kernel
theorem dX6_isSame_78 : decode cX6_isSame 78 = .ok (.sipush 131, 3) := by decide +kernel
theorem dX6_isSame_81 : decode cX6_isSame 81 = .ok (.if_icmp .ge 40, 3) := by decide +kernel
theorem dX6_isSame_84 : decode cX6_isSame 84 = .ok (.aload_n 0, 1) := by decide +kernel
theorem dX6_isSame_85 : decode cX6_isSame 85 = .ok (.getfield 9, 3) := by decide +kernel
theorem dX6_isSame_88 : decode cX6_isSame 88 = .ok (.iload_n 1, 1) := by decide +kernel
theorem dX6_isSame_89 : decode cX6_isSame 89 = .ok (.sipush 131, 3) := by decide +kernel
theorem dX6_isSame_92 : decode cX6_isSame 92 = .ok (.imul, 1) := by decide +kernel
theorem dX6_isSame_93 : decode cX6_isSame 93 = .ok (.iload 4, 2) := by decide +kernel
theorem dX6_isSame_95 : decode cX6_isSame 95 = .ok (.iadd, 1) := by decide +kernel
theorem dX6_isSame_96 : decode cX6_isSame 96 = .ok (.iaload, 1) := by decide +kernel
theorem dX6_isSame_97 : decode cX6_isSame 97 = .ok (.aload_n 2, 1) := by decide +kernel
theorem dX6_isSame_98 : decode cX6_isSame 98 = .ok (.getfield 9, 3) := by decide +kernel
theorem dX6_isSame_101 : decode cX6_isSame 101 = .ok (.iload_n 3, 1) := by decide +kernel
theorem dX6_isSame_102 : decode cX6_isSame 102 = .ok (.sipush 131, 3) := by decide +kernel
theorem dX6_isSame_105 : decode cX6_isSame 105 = .ok (.imul, 1) := by decide +kernel
theorem dX6_isSame_106 : decode cX6_isSame 106 = .ok (.iload 4, 2) := by decide +kernel
theorem dX6_isSame_108 : decode cX6_isSame 108 = .ok (.iadd, 1) := by decide +kernel
theorem dX6_isSame_109 : decode cX6_isSame 109 = .ok (.iaload, 1) := by decide +kernel
theorem dX6_isSame_110 : decode cX6_isSame 110 = .ok (.if_icmp .eq 5, 3) := by decide +kernel
theorem dX6_isSame_113 : decode cX6_isSame 113 = .ok (.iconst 0, 1) := by decide +kernel
theorem dX6_isSame_114 : decode cX6_isSame 114 = .ok (.ireturn, 1) := by decide +kernel
theorem dX6_isSame_115 : decode cX6_isSame 115 = .ok (.iinc 4 1, 3) := by decide +kernel
theorem dX6_isSame_118 : decode cX6_isSame 118 = .ok (.goto (-53), 3) := by decide +kernel
theorem dX6_isSame_121 : decode cX6_isSame 121 = .ok (.iconst 1, 1) := by decide +kernel
theorem dX6_isSame_122 : decode cX6_isSame 122 = .ok (.ireturn, 1) := by decide +kernel
theorem dX7_init_0 : decode cX7_init 0 = .ok (.aload_n 0, 1) := by decide +kernel
theorem dX7_init_1 : decode cX7_init 1 = .ok (.invokespecial 1, 3) := by decide +kernel
theorem dX7_init_4 : decode cX7_init 4 = .ok (.aload_n 0, 1) := by decide +kernel
theorem dX7_init_5 : decode cX7_init 5 = .ok (.iload_n 1, 1) := by decide +kernel
theorem dX7_init_6 : decode cX7_init 6 = .ok (.putfield 7, 3) := by decide +kernel
theorem dX7_init_9 : decode cX7_init 9 = .ok (.aload_n 0, 1) := by decide +kernel
theorem dX7_init_10 : decode cX7_init 10 = .ok (.iload_n 2, 1) := by decide +kernel
theorem dX7_init_11 : decode cX7_init 11 = .ok (.putfield 13, 3) := by decide +kernel
theorem dX7_init_14 : decode cX7_init 14 = .ok (.aload_n 0, 1) := by decide +kernel
theorem dX7_init_15 : decode cX7_init 15 = .ok (.iload_n 3, 1) := by decide +kernel
theorem dX7_init_16 : decode cX7_init 16 = .ok (.putfield 17, 3) := by decide +kernel
theorem dX7_init_19 : decode cX7_init 19 = .ok (.return_, 1) := by decide +kernel
theorem dX7_set_0 : decode cX7_set 0 = .ok (.aload_n 0, 1) := by decide +kernel
theorem dX7_set_1 : decode cX7_set 1 = .ok (.iload_n 1, 1) := by decide +kernel
theorem dX7_set_2 : decode cX7_set 2 = .ok (.putfield 13, 3) := by decide +kernel
theorem dX7_set_5 : decode cX7_set 5 = .ok (.aload_n 0, 1) := by decide +kernel
theorem dX7_set_6 : decode cX7_set 6 = .ok (.iload_n 2, 1) := by decide +kernel
theorem dX7_set_7 : decode cX7_set 7 = .ok (.putfield 17, 3) := by decide +kernel
theorem dX7_set_10 : decode cX7_set 10 = .ok (.return_, 1) := by decide +kernel
theorem dX7_isAt_0 : decode cX7_isAt 0 = .ok (.aload_n 0, 1) := by decide +kernel
theorem dX7_isAt_1 : decode cX7_isAt 1 = .ok (.getfield 13, 3) := by decide +kernel
theorem dX7_isAt_4 : decode cX7_isAt 4 = .ok (.iload_n 1, 1) := by decide +kernel
theorem dX7_isAt_5 : decode cX7_isAt 5 = .ok (.if_icmp .ne 15, 3) := by decide +kernel
theorem dX7_isAt_8 : decode cX7_isAt 8 = .ok (.aload_n 0, 1) := by decide +kernel
theorem dX7_isAt_9 : decode cX7_isAt 9 = .ok (.getfield 17, 3) := by decide +kernel
theorem dX7_isAt_12 : decode cX7_isAt 12 = .ok (.iload_n 2, 1) := by decide +kernel
theorem dX7_isAt_13 : decode cX7_isAt 13 = .ok (.if_icmp .ne 7, 3) := by decide +kernel
theorem dX7_isAt_16 : decode cX7_isAt 16 = .ok (.iconst 1, 1) := by decide +kernel
theorem dX7_isAt_17 : decode cX7_isAt 17 = .ok (.goto 4, 3) := by decide +kernel
theorem dX7_isAt_20 : decode cX7_isAt 20 = .ok (.iconst 0, 1) := by decide +kernel
theorem dX7_isAt_21 : decode cX7_isAt 21 = .ok (.ireturn, 1) := by decide +kernel
theorem dX7_isBehind_0 : decode cX7_isBehind 0 = .ok (.aload_n 0, 1) := by decide +kernel
theorem dX7_isBehind_1 : decode cX7_isBehind 1 = .ok (.getfield 17, 3) := by decide +kernel
theorem dX7_isBehind_4 : decode cX7_isBehind 4 = .ok (.iload_n 1, 1) := by decide +kernel
theorem dX7_isBehind_5 : decode cX7_isBehind 5 = .ok (.if_icmp .gt 18, 3) := by decide +kernel
theorem dX7_isBehind_8 : decode cX7_isBehind 8 = .ok (.aload_n 0, 1) := by decide +kernel
theorem dX7_isBehind_9 : decode cX7_isBehind 9 = .ok (.getfield 7, 3) := by decide +kernel
theorem dX7_isBehind_12 : decode cX7_isBehind 12 = .ok (.ifCond .eq 15, 3) := by decide +kernel
theorem dX7_isBehind_15 : decode cX7_isBehind 15 = .ok (.aload_n 0, 1) := by decide +kernel
theorem dX7_isBehind_16 : decode cX7_isBehind 16 = .ok (.getfield 17, 3) := by decide +kernel
theorem dX7_isBehind_19 : decode cX7_isBehind 19 = .ok (.iload_n 1, 1) := by decide +kernel
theorem dX7_isBehind_20 : decode cX7_isBehind 20 = .ok (.if_icmp .ne 7, 3) := by decide +kernel
theorem dX7_isBehind_23 : decode cX7_isBehind 23 = .ok (.iconst 1, 1) := by decide +kernel
theorem dX7_isBehind_24 : decode cX7_isBehind 24 = .ok (.goto 4, 3) := by decide +kernel
theorem dX7_isBehind_27 : decode cX7_isBehind 27 = .ok (.iconst 0, 1) := by decide +kernel
theorem dX7_isBehind_28 : decode cX7_isBehind 28 = .ok (.ireturn, 1) := by decide +kernel
theorem dX7_signCame_0 : decode cX7_signCame 0 = .ok (.aload_n 0, 1) := by decide +kernel
theorem dX7_signCame_1 : decode cX7_signCame 1 = .ok (.getfield 13, 3) := by decide +kernel
theorem dX7_signCame_4 : decode cX7_signCame 4 = .ok (.iload_n 1, 1) := by decide +kernel
theorem dX7_signCame_5 : decode cX7_signCame 5 = .ok (.if_icmp .ne 21, 3) := by decide +kernel
theorem dX7_signCame_8 : decode cX7_signCame 8 = .ok (.aload_n 0, 1) := by decide +kernel
theorem dX7_signCame_9 : decode cX7_signCame 9 = .ok (.iload_n 2, 1) := by decide +kernel
theorem dX7_signCame_10 : decode cX7_signCame 10 = .ok (.invokevirtual 20, 3) := by decide +kernel
theorem dX7_signCame_13 : decode cX7_signCame 13 = .ok (.ifCond .eq 13, 3) := by decide +kernel
theorem dX7_signCame_16 : decode cX7_signCame 16 = .ok (.aload_n 0, 1) := by decide +kernel
theorem dX7_signCame_17 : decode cX7_signCame 17 = .ok (.dup, 1) := by decide +kernel
theorem dX7_signCame_18 : decode cX7_signCame 18 = .ok (.getfield 17, 3) := by decide +kernel
theorem dX7_signCame_21 : decode cX7_signCame 21 = .ok (.iconst 1, 1) := by decide +kernel
theorem dX7_signCame_22 : decode cX7_signCame 22 = .ok (.iadd, 1) := by decide +kernel
theorem dX7_signCame_23 : decode cX7_signCame 23 = .ok (.putfield 17, 3) := by decide +kernel
theorem dX7_signCame_26 : decode cX7_signCame 26 = .ok (.return_, 1) := by decide +kernel
theorem dX7_signsWent_0 : decode cX7_signsWent 0 = .ok (.aload_n 0, 1) := by decide +kernel
theorem dX7_signsWent_1 : decode cX7_signsWent 1 = .ok (.getfield 13, 3) := by decide +kernel
theorem dX7_signsWent_4 : decode cX7_signsWent 4 = .ok (.iload_n 1, 1) := by decide +kernel
theorem dX7_signsWent_5 : decode cX7_signsWent 5 = .ok (.if_icmp .ne 35, 3) := by decide +kernel
theorem dX7_signsWent_8 : decode cX7_signsWent 8 = .ok (.aload_n 0, 1) := by decide +kernel
theorem dX7_signsWent_9 : decode cX7_signsWent 9 = .ok (.getfield 17, 3) := by decide +kernel
theorem dX7_signsWent_12 : decode cX7_signsWent 12 = .ok (.iload_n 2, 1) := by decide +kernel
theorem dX7_signsWent_13 : decode cX7_signsWent 13 = .ok (.if_icmp .le 27, 3) := by decide +kernel
theorem dX7_signsWent_16 : decode cX7_signsWent 16 = .ok (.aload_n 0, 1) := by decide +kernel
theorem dX7_signsWent_17 : decode cX7_signsWent 17 = .ok (.aload_n 0, 1) := by decide +kernel
theorem dX7_signsWent_18 : decode cX7_signsWent 18 = .ok (.getfield 17, 3) := by decide +kernel
theorem dX7_signsWent_21 : decode cX7_signsWent 21 = .ok (.iload_n 3, 1) := by decide +kernel
theorem dX7_signsWent_22 : decode cX7_signsWent 22 = .ok (.if_icmp .lt 14, 3) := by decide +kernel
theorem dX7_signsWent_25 : decode cX7_signsWent 25 = .ok (.aload_n 0, 1) := by decide +kernel
theorem dX7_signsWent_26 : decode cX7_signsWent 26 = .ok (.getfield 17, 3) := by decide +kernel
theorem dX7_signsWent_29 : decode cX7_signsWent 29 = .ok (.iload_n 3, 1) := by decide +kernel
theorem dX7_signsWent_30 : decode cX7_signsWent 30 = .ok (.iload_n 2, 1) := by decide +kernel
theorem dX7_signsWent_31 : decode cX7_signsWent 31 = .ok (.isub, 1) := by decide +kernel
theorem dX7_signsWent_32 : decode cX7_signsWent 32 = .ok (.isub, 1) := by decide +kernel
theorem dX7_signsWent_33 : decode cX7_signsWent 33 = .ok (.goto 4, 3) := by decide +kernel
theorem dX7_signsWent_36 : decode cX7_signsWent 36 = .ok (.iload_n 2, 1) := by decide +kernel
theorem dX7_signsWent_37 : decode cX7_signsWent 37 = .ok (.putfield 17, 3) := by decide +kernel
theorem dX7_signsWent_40 : decode cX7_signsWent 40 = .ok (.return_, 1) := by decide +kernel
theorem dX7_lineBroke_0 : decode cX7_lineBroke 0 = .ok (.aload_n 0, 1) := by decide +kernel
theorem dX7_lineBroke_1 : decode cX7_lineBroke 1 = .ok (.getfield 13, 3) := by decide +kernel
theorem dX7_lineBroke_4 : decode cX7_lineBroke 4 = .ok (.iload_n 1, 1) := by decide +kernel
theorem dX7_lineBroke_5 : decode cX7_lineBroke 5 = .ok (.if_icmp .le 16, 3) := by decide +kernel
theorem dX7_lineBroke_8 : decode cX7_lineBroke 8 = .ok (.aload_n 0, 1) := by decide +kernel
theorem dX7_lineBroke_9 : decode cX7_lineBroke 9 = .ok (.dup, 1) := by decide +kernel
theorem dX7_lineBroke_10 : decode cX7_lineBroke 10 = .ok (.getfield 13, 3) := by decide +kernel
theorem dX7_lineBroke_13 : decode cX7_lineBroke 13 = .ok (.iconst 1, 1) := by decide +kernel
theorem dX7_lineBroke_14 : decode cX7_lineBroke 14 = .ok (.iadd, 1) := by decide +kernel
theorem dX7_lineBroke_15 : decode cX7_lineBroke 15 = .ok (.putfield 13, 3) := by decide +kernel
theorem dX7_lineBroke_18 : decode cX7_lineBroke 18 = .ok (.goto 39, 3) := by decide +kernel
theorem dX7_lineBroke_21 : decode cX7_lineBroke 21 = .ok (.aload_n 0, 1) := by decide +kernel
theorem dX7_lineBroke_22 : decode cX7_lineBroke 22 = .ok (.getfield 13, 3) := by decide +kernel
theorem dX7_lineBroke_25 : decode cX7_lineBroke 25 = .ok (.iload_n 1, 1) := by decide +kernel
theorem dX7_lineBroke_26 : decode cX7_lineBroke 26 = .ok (.if_icmp .ne 31, 3) := by decide +kernel
theorem dX7_lineBroke_29 : decode cX7_lineBroke 29 = .ok (.aload_n 0, 1) := by decide +kernel
theorem dX7_lineBroke_30 : decode cX7_lineBroke 30 = .ok (.iload_n 2, 1) := by decide +kernel
theorem dX7_lineBroke_31 : decode cX7_lineBroke 31 = .ok (.invokevirtual 20, 3) := by decide +kernel
theorem dX7_lineBroke_34 : decode cX7_lineBroke 34 = .ok (.ifCond .eq 23, 3) := by decide +kernel
theorem dX7_lineBroke_37 : decode cX7_lineBroke 37 = .ok (.aload_n 0, 1) := by decide +kernel
theorem dX7_lineBroke_38 : decode cX7_lineBroke 38 = .ok (.dup, 1) := by decide +kernel
theorem dX7_lineBroke_39 : decode cX7_lineBroke 39 = .ok (.getfield 13, 3) := by decide +kernel
theorem dX7_lineBroke_42 : decode cX7_lineBroke 42 = .ok (.iconst 1, 1) := by decide +kernel
theorem dX7_lineBroke_43 : decode cX7_lineBroke 43 = .ok (.iadd, 1) := by decide +kernel
theorem dX7_lineBroke_44 : decode cX7_lineBroke 44 = .ok (.putfield 13, 3) := by decide +kernel
theorem dX7_lineBroke_47 : decode cX7_lineBroke 47 = .ok (.aload_n 0, 1) := by decide +kernel
theorem dX7_lineBroke_48 : decode cX7_lineBroke 48 = .ok (.dup, 1) := by decide +kernel
theorem dX7_lineBroke_49 : decode cX7_lineBroke 49 = .ok (.getfield 17, 3) := by decide +kernel
theorem dX7_lineBroke_52 : decode cX7_lineBroke 52 = .ok (.iload_n 2, 1) := by decide +kernel
theorem dX7_lineBroke_53 : decode cX7_lineBroke 53 = .ok (.isub, 1) := by decide +kernel
theorem dX7_lineBroke_54 : decode cX7_lineBroke 54 = .ok (.putfield 17, 3) := by decide +kernel
theorem dX7_lineBroke_57 : decode cX7_lineBroke 57 = .ok (.return_, 1) := by decide +kernel
theorem dX7_linesJoined_0 : decode cX7_linesJoined 0 = .ok (.aload_n 0, 1) := by decide +kernel
theorem dX7_linesJoined_1 : decode cX7_linesJoined 1 = .ok (.getfield 13, 3) := by decide +kernel
theorem dX7_linesJoined_4 : decode cX7_linesJoined 4 = .ok (.iload_n 1, 1) := by decide +kernel
theorem dX7_linesJoined_5 : decode cX7_linesJoined 5 = .ok (.iconst 1, 1) := by decide +kernel
theorem dX7_linesJoined_6 : decode cX7_linesJoined 6 = .ok (.iadd, 1) := by decide +kernel
theorem dX7_linesJoined_7 : decode cX7_linesJoined 7 = .ok (.if_icmp .ne 13, 3) := by decide +kernel
theorem dX7_linesJoined_10 : decode cX7_linesJoined 10 = .ok (.aload_n 0, 1) := by decide +kernel
theorem dX7_linesJoined_11 : decode cX7_linesJoined 11 = .ok (.dup, 1) := by decide +kernel
theorem dX7_linesJoined_12 : decode cX7_linesJoined 12 = .ok (.getfield 17, 3) := by decide +kernel
theorem dX7_linesJoined_15 : decode cX7_linesJoined 15 = .ok (.iload_n 2, 1) := by decide +kernel
theorem dX7_linesJoined_16 : decode cX7_linesJoined 16 = .ok (.iadd, 1) := by decide +kernel
theorem dX7_linesJoined_17 : decode cX7_linesJoined 17 = .ok (.putfield 17, 3) := by decide +kernel
theorem dX7_linesJoined_20 : decode cX7_linesJoined 20 = .ok (.aload_n 0, 1) := by decide +kernel
theorem dX7_linesJoined_21 : decode cX7_linesJoined 21 = .ok (.getfield 13, 3) := by decide +kernel
theorem dX7_linesJoined_24 : decode cX7_linesJoined 24 = .ok (.iload_n 1, 1) := by decide +kernel
theorem dX7_linesJoined_25 : decode cX7_linesJoined 25 = .ok (.if_icmp .le 13, 3) := by decide +kernel
theorem dX7_linesJoined_28 : decode cX7_linesJoined 28 = .ok (.aload_n 0, 1) := by decide +kernel
theorem dX7_linesJoined_29 : decode cX7_linesJoined 29 = .ok (.dup, 1) := by decide +kernel
theorem dX7_linesJoined_30 : decode cX7_linesJoined 30 = .ok (.getfield 13, 3) := by decide +kernel
theorem dX7_linesJoined_33 : decode cX7_linesJoined 33 = .ok (.iconst 1, 1) := by decide +kernel
theorem dX7_linesJoined_34 : decode cX7_linesJoined 34 = .ok (.isub, 1) := by decide +kernel
theorem dX7_linesJoined_35 : decode cX7_linesJoined 35 = .ok (.putfield 13, 3) := by decide +kernel
theorem dX7_linesJoined_38 : decode cX7_linesJoined 38 = .ok (.return_, 1) := by decide +kernel
theorem dX8_init_0 : decode cX8_init 0 = .ok (.aload_n 0, 1) := by decide +kernel
theorem dX8_init_1 : decode cX8_init 1 = .ok (.invokespecial 1, 3) := by decide +kernel
theorem dX8_init_4 : decode cX8_init 4 = .ok (.aload_n 0, 1) := by decide +kernel
theorem dX8_init_5 : decode cX8_init 5 = .ok (.new 7, 3) := by decide +kernel
theorem dX8_init_8 : decode cX8_init 8 = .ok (.dup, 1) := by decide +kernel
theorem dX8_init_9 : decode cX8_init 9 = .ok (.iconst 1, 1) := by decide +kernel
theorem dX8_init_10 : decode cX8_init 10 = .ok (.iload_n 1, 1) := by decide +kernel
theorem dX8_init_11 : decode cX8_init 11 = .ok (.iload_n 2, 1) := by decide +kernel
theorem dX8_init_12 : decode cX8_init 12 = .ok (.invokespecial 9, 3) := by decide +kernel
theorem dX8_init_15 : decode cX8_init 15 = .ok (.putfield 12, 3) := by decide +kernel
theorem dX8_init_18 : decode cX8_init 18 = .ok (.aload_n 0, 1) := by decide +kernel
theorem dX8_init_19 : decode cX8_init 19 = .ok (.new 7, 3) := by decide +kernel
theorem dX8_init_22 : decode cX8_init 22 = .ok (.dup, 1) := by decide +kernel
theorem dX8_init_23 : decode cX8_init 23 = .ok (.iconst 0, 1) := by decide +kernel
theorem dX8_init_24 : decode cX8_init 24 = .ok (.iload_n 1, 1) := by decide +kernel
theorem dX8_init_25 : decode cX8_init 25 = .ok (.iload_n 3, 1) := by decide +kernel
theorem dX8_init_26 : decode cX8_init 26 = .ok (.invokespecial 9, 3) := by decide +kernel
theorem dX8_init_29 : decode cX8_init 29 = .ok (.putfield 18, 3) := by decide +kernel
theorem dX8_init_32 : decode cX8_init 32 = .ok (.return_, 1) := by decide +kernel
theorem dX8_holds_0 : decode cX8_holds 0 = .ok (.aload_n 0, 1) := by decide +kernel
theorem dX8_holds_1 : decode cX8_holds 1 = .ok (.getfield 12, 3) := by decide +kernel
theorem dX8_holds_4 : decode cX8_holds 4 = .ok (.getfield 21, 3) := by decide +kernel
theorem dX8_holds_7 : decode cX8_holds 7 = .ok (.iload_n 1, 1) := by decide +kernel
theorem dX8_holds_8 : decode cX8_holds 8 = .ok (.if_icmp .ne 29, 3) := by decide +kernel
theorem dX8_holds_11 : decode cX8_holds 11 = .ok (.aload_n 0, 1) := by decide +kernel
theorem dX8_holds_12 : decode cX8_holds 12 = .ok (.getfield 12, 3) := by decide +kernel
theorem dX8_holds_15 : decode cX8_holds 15 = .ok (.getfield 25, 3) := by decide +kernel
theorem dX8_holds_18 : decode cX8_holds 18 = .ok (.iload_n 2, 1) := by decide +kernel
theorem dX8_holds_19 : decode cX8_holds 19 = .ok (.if_icmp .gt 18, 3) := by decide +kernel
theorem dX8_holds_22 : decode cX8_holds 22 = .ok (.iload_n 2, 1) := by decide +kernel
theorem dX8_holds_23 : decode cX8_holds 23 = .ok (.aload_n 0, 1) := by decide +kernel
theorem dX8_holds_24 : decode cX8_holds 24 = .ok (.getfield 18, 3) := by decide +kernel
theorem dX8_holds_27 : decode cX8_holds 27 = .ok (.getfield 25, 3) := by decide +kernel
theorem dX8_holds_30 : decode cX8_holds 30 = .ok (.if_icmp .ge 7, 3) := by decide +kernel
theorem dX8_holds_33 : decode cX8_holds 33 = .ok (.iconst 1, 1) := by decide +kernel
theorem dX8_holds_34 : decode cX8_holds 34 = .ok (.goto 4, 3) := by decide +kernel
theorem dX8_holds_37 : decode cX8_holds 37 = .ok (.iconst 0, 1) := by decide +kernel
theorem dX8_holds_38 : decode cX8_holds 38 = .ok (.ireturn, 1) := by decide +kernel
theorem dX8_lineBroke_0 : decode cX8_lineBroke 0 = .ok (.aload_n 0, 1) := by decide +kernel
theorem dX8_lineBroke_1 : decode cX8_lineBroke 1 = .ok (.getfield 12, 3) := by decide +kernel
theorem dX8_lineBroke_4 : decode cX8_lineBroke 4 = .ok (.iload_n 1, 1) := by decide +kernel
theorem dX8_lineBroke_5 : decode cX8_lineBroke 5 = .ok (.iload_n 2, 1) := by decide +kernel
theorem dX8_lineBroke_6 : decode cX8_lineBroke 6 = .ok (.invokevirtual 28, 3) := by decide +kernel
theorem dX8_lineBroke_9 : decode cX8_lineBroke 9 = .ok (.aload_n 0, 1) := by decide +kernel
theorem dX8_lineBroke_10 : decode cX8_lineBroke 10 = .ok (.getfield 18, 3) := by decide +kernel
theorem dX8_lineBroke_13 : decode cX8_lineBroke 13 = .ok (.iload_n 1, 1) := by decide +kernel
theorem dX8_lineBroke_14 : decode cX8_lineBroke 14 = .ok (.iload_n 2, 1) := by decide +kernel
theorem dX8_lineBroke_15 : decode cX8_lineBroke 15 = .ok (.invokevirtual 28, 3) := by decide +kernel
theorem dX8_lineBroke_18 : decode cX8_lineBroke 18 = .ok (.aload_n 0, 1) := by decide +kernel
theorem dX8_lineBroke_19 : decode cX8_lineBroke 19 = .ok (.getfield 18, 3) := by decide +kernel
theorem dX8_lineBroke_22 : decode cX8_lineBroke 22 = .ok (.getfield 21, 3) := by decide +kernel
theorem dX8_lineBroke_25 : decode cX8_lineBroke 25 = .ok (.aload_n 0, 1) := by decide +kernel
theorem dX8_lineBroke_26 : decode cX8_lineBroke 26 = .ok (.getfield 12, 3) := by decide +kernel
theorem dX8_lineBroke_29 : decode cX8_lineBroke 29 = .ok (.getfield 21, 3) := by decide +kernel
theorem dX8_lineBroke_32 : decode cX8_lineBroke 32 = .ok (.if_icmp .le 18, 3) := by decide +kernel
theorem dX8_lineBroke_35 : decode cX8_lineBroke 35 = .ok (.aload_n 0, 1) := by decide +kernel
theorem dX8_lineBroke_36 : decode cX8_lineBroke 36 = .ok (.getfield 18, 3) := by decide +kernel
theorem dX8_lineBroke_39 : decode cX8_lineBroke 39 = .ok (.aload_n 0, 1) := by decide +kernel
theorem dX8_lineBroke_40 : decode cX8_lineBroke 40 = .ok (.getfield 12, 3) := by decide +kernel
theorem dX8_lineBroke_43 : decode cX8_lineBroke 43 = .ok (.getfield 21, 3) := by decide +kernel
theorem dX8_lineBroke_46 : decode cX8_lineBroke 46 = .ok (.iload_n 2, 1) := by decide +kernel
theorem dX8_lineBroke_47 : decode cX8_lineBroke 47 = .ok (.invokevirtual 32, 3) := by decide +kernel
theorem dX8_lineBroke_50 : decode cX8_lineBroke 50 = .ok (.return_, 1) := by decide +kernel
theorem dX9_init_0 : decode cX9_init 0 = .ok (.aload_n 0, 1) := by decide +kernel
theorem dX9_init_1 : decode cX9_init 1 = .ok (.invokespecial 3, 3) := by decide +kernel
theorem dX9_init_4 : decode cX9_init 4 = .ok (.aload_n 0, 1) := by decide +kernel
theorem dX9_init_5 : decode cX9_init 5 = .ok (.iconst 4, 1) := by decide +kernel
theorem dX9_init_6 : decode cX9_init 6 = .ok (.newarray .boolean, 2) := by decide +kernel
theorem dX9_init_8 : decode cX9_init 8 = .ok (.putfield 9, 3) := by decide +kernel
theorem dX9_init_11 : decode cX9_init 11 = .ok (.aload_n 0, 1) := by decide +kernel
theorem dX9_init_12 : decode cX9_init 12 = .ok (.iconst 4, 1) := by decide +kernel
theorem dX9_init_13 : decode cX9_init 13 = .ok (.newarray .int, 2) := by decide +kernel
theorem dX9_init_15 : decode cX9_init 15 = .ok (.putfield 15, 3) := by decide +kernel
theorem dX9_init_18 : decode cX9_init 18 = .ok (.aload_n 0, 1) := by decide +kernel
theorem dX9_init_19 : decode cX9_init 19 = .ok (.iconst 4, 1) := by decide +kernel
theorem dX9_init_20 : decode cX9_init 20 = .ok (.newarray .int, 2) := by decide +kernel
theorem dX9_init_22 : decode cX9_init 22 = .ok (.putfield 19, 3) := by decide +kernel
theorem dX9_init_25 : decode cX9_init 25 = .ok (.aload_n 0, 1) := by decide +kernel
theorem dX9_init_26 : decode cX9_init 26 = .ok (.iconst 4, 1) := by decide +kernel
theorem dX9_init_27 : decode cX9_init 27 = .ok (.newarray .int, 2) := by decide +kernel
theorem dX9_init_29 : decode cX9_init 29 = .ok (.putfield 22, 3) := by decide +kernel
theorem dX9_init_32 : decode cX9_init 32 = .ok (.aload_n 0, 1) := by decide +kernel
theorem dX9_init_33 : decode cX9_init 33 = .ok (.iconst 4, 1) := by decide +kernel
theorem dX9_init_34 : decode cX9_init 34 = .ok (.newarray .int, 2) := by decide +kernel
theorem dX9_init_36 : decode cX9_init 36 = .ok (.putfield 25, 3) := by decide +kernel
theorem dX9_init_39 : decode cX9_init 39 = .ok (.aload_n 0, 1) := by decide +kernel
theorem dX9_init_40 : decode cX9_init 40 = .ok (.iconst 4, 1) := by decide +kernel
theorem dX9_init_41 : decode cX9_init 41 = .ok (.newarray .boolean, 2) := by decide +kernel
theorem dX9_init_43 : decode cX9_init 43 = .ok (.putfield 28, 3) := by decide +kernel
theorem dX9_init_46 : decode cX9_init 46 = .ok (.iconst 0, 1) := by decide +kernel
theorem dX9_init_47 : decode cX9_init 47 = .ok (.istore_n 1, 1) := by decide +kernel
theorem dX9_init_48 : decode cX9_init 48 = .ok (.iload_n 1, 1) := by decide +kernel
theorem dX9_init_49 : decode cX9_init 49 = .ok (.iconst 4, 1) := by decide +kernel
theorem dX9_init_50 : decode cX9_init 50 = .ok (.if_icmp .ge 30, 3) := by decide +kernel
theorem dX9_init_53 : decode cX9_init 53 = .ok (.aload_n 0, 1) := by decide +kernel
theorem dX9_init_54 : decode cX9_init 54 = .ok (.getfield 15, 3) := by decide +kernel
theorem dX9_init_57 : decode cX9_init 57 = .ok (.iload_n 1, 1) := by decide +kernel
theorem dX9_init_58 : decode cX9_init 58 = .ok (.iconst 1, 1) := by decide +kernel
theorem dX9_init_59 : decode cX9_init 59 = .ok (.iastore, 1) := by decide +kernel
theorem dX9_init_60 : decode cX9_init 60 = .ok (.aload_n 0, 1) := by decide +kernel
theorem dX9_init_61 : decode cX9_init 61 = .ok (.getfield 19, 3) := by decide +kernel
theorem dX9_init_64 : decode cX9_init 64 = .ok (.iload_n 1, 1) := by decide +kernel
theorem dX9_init_65 : decode cX9_init 65 = .ok (.iconst 3, 1) := by decide +kernel
theorem dX9_init_66 : decode cX9_init 66 = .ok (.iastore, 1) := by decide +kernel
theorem dX9_init_67 : decode cX9_init 67 = .ok (.aload_n 0, 1) := by decide +kernel
theorem dX9_init_68 : decode cX9_init 68 = .ok (.getfield 22, 3) := by decide +kernel
theorem dX9_init_71 : decode cX9_init 71 = .ok (.iload_n 1, 1) := by decide +kernel
theorem dX9_init_72 : decode cX9_init 72 = .ok (.iconst (-1), 1) := by decide +kernel
theorem dX9_init_73 : decode cX9_init 73 = .ok (.iastore, 1) := by decide +kernel
theorem dX9_init_74 : decode cX9_init 74 = .ok (.iinc 1 1, 3) := by decide +kernel
theorem dX9_init_77 : decode cX9_init 77 = .ok (.goto (-29), 3) := by decide +kernel
theorem dX9_init_80 : decode cX9_init 80 = .ok (.aload_n 0, 1) := by decide +kernel
theorem dX9_init_81 : decode cX9_init 81 = .ok (.getfield 9, 3) := by decide +kernel
theorem dX9_init_84 : decode cX9_init 84 = .ok (.iconst 0, 1) := by decide +kernel
theorem dX9_init_85 : decode cX9_init 85 = .ok (.iconst 1, 1) := by decide +kernel
theorem dX9_init_86 : decode cX9_init 86 = .ok (.bastore, 1) := by decide +kernel
theorem dX9_init_87 : decode cX9_init 87 = .ok (.aload_n 0, 1) := by decide +kernel
theorem dX9_init_88 : decode cX9_init 88 = .ok (.getfield 25, 3) := by decide +kernel
theorem dX9_init_91 : decode cX9_init 91 = .ok (.iconst 0, 1) := by decide +kernel
theorem dX9_init_92 : decode cX9_init 92 = .ok (.bipush 24, 2) := by decide +kernel
theorem dX9_init_94 : decode cX9_init 94 = .ok (.iastore, 1) := by decide +kernel
theorem dX9_init_95 : decode cX9_init 95 = .ok (.return_, 1) := by decide +kernel
theorem dX9_isPane_0 : decode cX9_isPane 0 = .ok (.iload_n 1, 1) := by decide +kernel
theorem dX9_isPane_1 : decode cX9_isPane 1 = .ok (.ifCond .lt 12, 3) := by decide +kernel
theorem dX9_isPane_4 : decode cX9_isPane 4 = .ok (.iload_n 1, 1) := by decide +kernel
theorem dX9_isPane_5 : decode cX9_isPane 5 = .ok (.iconst 4, 1) := by decide +kernel
theorem dX9_isPane_6 : decode cX9_isPane 6 = .ok (.if_icmp .ge 7, 3) := by decide +kernel
theorem dX9_isPane_9 : decode cX9_isPane 9 = .ok (.iconst 1, 1) := by decide +kernel
theorem dX9_isPane_10 : decode cX9_isPane 10 = .ok (.goto 4, 3) := by decide +kernel
theorem dX9_isPane_13 : decode cX9_isPane 13 = .ok (.iconst 0, 1) := by decide +kernel
theorem dX9_isPane_14 : decode cX9_isPane 14 = .ok (.ireturn, 1) := by decide +kernel
theorem dX9_isOpen_0 : decode cX9_isOpen 0 = .ok (.aload_n 0, 1) := by decide +kernel
theorem dX9_isOpen_1 : decode cX9_isOpen 1 = .ok (.iload_n 1, 1) := by decide +kernel
theorem dX9_isOpen_2 : decode cX9_isOpen 2 = .ok (.invokevirtual 31, 3) := by decide +kernel
theorem dX9_isOpen_5 : decode cX9_isOpen 5 = .ok (.ifCond .eq 16, 3) := by decide +kernel
theorem dX9_isOpen_8 : decode cX9_isOpen 8 = .ok (.aload_n 0, 1) := by decide +kernel
theorem dX9_isOpen_9 : decode cX9_isOpen 9 = .ok (.getfield 9, 3) := by decide +kernel
theorem dX9_isOpen_12 : decode cX9_isOpen 12 = .ok (.iload_n 1, 1) := by decide +kernel
theorem dX9_isOpen_13 : decode cX9_isOpen 13 = .ok (.baload, 1) := by decide +kernel
theorem dX9_isOpen_14 : decode cX9_isOpen 14 = .ok (.ifCond .eq 7, 3) := by decide +kernel
theorem dX9_isOpen_17 : decode cX9_isOpen 17 = .ok (.iconst 1, 1) := by decide +kernel
theorem dX9_isOpen_18 : decode cX9_isOpen 18 = .ok (.goto 4, 3) := by decide +kernel
theorem dX9_isOpen_21 : decode cX9_isOpen 21 = .ok (.iconst 0, 1) := by decide +kernel
theorem dX9_isOpen_22 : decode cX9_isOpen 22 = .ok (.ireturn, 1) := by decide +kernel
theorem dX9_heightOf_0 : decode cX9_heightOf 0 = .ok (.aload_n 0, 1) := by decide +kernel
theorem dX9_heightOf_1 : decode cX9_heightOf 1 = .ok (.iload_n 1, 1) := by decide +kernel
theorem dX9_heightOf_2 : decode cX9_heightOf 2 = .ok (.invokevirtual 31, 3) := by decide +kernel
theorem dX9_heightOf_5 : decode cX9_heightOf 5 = .ok (.ifCond .eq 12, 3) := by decide +kernel
theorem dX9_heightOf_8 : decode cX9_heightOf 8 = .ok (.aload_n 0, 1) := by decide +kernel
theorem dX9_heightOf_9 : decode cX9_heightOf 9 = .ok (.getfield 25, 3) := by decide +kernel
theorem dX9_heightOf_12 : decode cX9_heightOf 12 = .ok (.iload_n 1, 1) := by decide +kernel
theorem dX9_heightOf_13 : decode cX9_heightOf 13 = .ok (.iaload, 1) := by decide +kernel
theorem dX9_heightOf_14 : decode cX9_heightOf 14 = .ok (.goto 4, 3) := by decide +kernel
theorem dX9_heightOf_17 : decode cX9_heightOf 17 = .ok (.iconst 0, 1) := by decide +kernel
theorem dX9_heightOf_18 : decode cX9_heightOf 18 = .ok (.ireturn, 1) := by decide +kernel
theorem dX9_openOnes_0 : decode cX9_openOnes 0 = .ok (.iconst 0, 1) := by decide +kernel
theorem dX9_openOnes_1 : decode cX9_openOnes 1 = .ok (.istore_n 1, 1) := by decide +kernel
theorem dX9_openOnes_2 : decode cX9_openOnes 2 = .ok (.iconst 0, 1) := by decide +kernel
theorem dX9_openOnes_3 : decode cX9_openOnes 3 = .ok (.istore_n 2, 1) := by decide +kernel
theorem dX9_openOnes_4 : decode cX9_openOnes 4 = .ok (.iload_n 2, 1) := by decide +kernel
theorem dX9_openOnes_5 : decode cX9_openOnes 5 = .ok (.iconst 4, 1) := by decide +kernel
theorem dX9_openOnes_6 : decode cX9_openOnes 6 = .ok (.if_icmp .ge 26, 3) := by decide +kernel
theorem dX9_openOnes_9 : decode cX9_openOnes 9 = .ok (.iload_n 1, 1) := by decide +kernel
theorem dX9_openOnes_10 : decode cX9_openOnes 10 = .ok (.aload_n 0, 1) := by decide +kernel
theorem dX9_openOnes_11 : decode cX9_openOnes 11 = .ok (.getfield 9, 3) := by decide +kernel
theorem dX9_openOnes_14 : decode cX9_openOnes 14 = .ok (.iload_n 2, 1) := by decide +kernel
theorem dX9_openOnes_15 : decode cX9_openOnes 15 = .ok (.baload, 1) := by decide +kernel
theorem dX9_openOnes_16 : decode cX9_openOnes 16 = .ok (.ifCond .eq 7, 3) := by decide +kernel
theorem dX9_openOnes_19 : decode cX9_openOnes 19 = .ok (.iconst 1, 1) := by decide +kernel
theorem dX9_openOnes_20 : decode cX9_openOnes 20 = .ok (.goto 4, 3) := by decide +kernel
theorem dX9_openOnes_23 : decode cX9_openOnes 23 = .ok (.iconst 0, 1) := by decide +kernel
theorem dX9_openOnes_24 : decode cX9_openOnes 24 = .ok (.iadd, 1) := by decide +kernel
theorem dX9_openOnes_25 : decode cX9_openOnes 25 = .ok (.istore_n 1, 1) := by decide +kernel
theorem dX9_openOnes_26 : decode cX9_openOnes 26 = .ok (.iinc 2 1, 3) := by decide +kernel
theorem dX9_openOnes_29 : decode cX9_openOnes 29 = .ok (.goto (-25), 3) := by decide +kernel
theorem dX9_openOnes_32 : decode cX9_openOnes 32 = .ok (.iload_n 1, 1) := by decide +kernel
theorem dX9_openOnes_33 : decode cX9_openOnes 33 = .ok (.ireturn, 1) := by decide +kernel
theorem dX9_needOf_0 : decode cX9_needOf 0 = .ok (.aload_n 0, 1) := by decide +kernel
theorem dX9_needOf_1 : decode cX9_needOf 1 = .ok (.iload_n 1, 1) := by decide +kernel
theorem dX9_needOf_2 : decode cX9_needOf 2 = .ok (.invokevirtual 31, 3) := by decide +kernel
theorem dX9_needOf_5 : decode cX9_needOf 5 = .ok (.ifCond .ne 5, 3) := by decide +kernel
theorem dX9_needOf_8 : decode cX9_needOf 8 = .ok (.iconst 0, 1) := by decide +kernel
theorem dX9_needOf_9 : decode cX9_needOf 9 = .ok (.ireturn, 1) := by decide +kernel
theorem dX9_needOf_10 : decode cX9_needOf 10 = .ok (.aload_n 0, 1) := by decide +kernel
theorem dX9_needOf_11 : decode cX9_needOf 11 = .ok (.getfield 22, 3) := by decide +kernel
theorem dX9_needOf_14 : decode cX9_needOf 14 = .ok (.iload_n 1, 1) := by decide +kernel
theorem dX9_needOf_15 : decode cX9_needOf 15 = .ok (.iaload, 1) := by decide +kernel
theorem dX9_needOf_16 : decode cX9_needOf 16 = .ok (.iconst (-1), 1) := by decide +kernel
theorem dX9_needOf_17 : decode cX9_needOf 17 = .ok (.if_icmp .ne 12, 3) := by decide +kernel
theorem dX9_needOf_20 : decode cX9_needOf 20 = .ok (.aload_n 0, 1) := by decide +kernel
theorem dX9_needOf_21 : decode cX9_needOf 21 = .ok (.getfield 19, 3) := by decide +kernel
theorem dX9_needOf_24 : decode cX9_needOf 24 = .ok (.iload_n 1, 1) := by decide +kernel
theorem dX9_needOf_25 : decode cX9_needOf 25 = .ok (.iaload, 1) := by decide +kernel
theorem dX9_needOf_26 : decode cX9_needOf 26 = .ok (.goto 9, 3) := by decide +kernel
theorem dX9_needOf_29 : decode cX9_needOf 29 = .ok (.aload_n 0, 1) := by decide +kernel
theorem dX9_needOf_30 : decode cX9_needOf 30 = .ok (.getfield 22, 3) := by decide +kernel
theorem dX9_needOf_33 : decode cX9_needOf 33 = .ok (.iload_n 1, 1) := by decide +kernel
theorem dX9_needOf_34 : decode cX9_needOf 34 = .ok (.iaload, 1) := by decide +kernel
theorem dX9_needOf_35 : decode cX9_needOf 35 = .ok (.ireturn, 1) := by decide +kernel
theorem dX9_hasRoomFor_0 : decode cX9_hasRoomFor 0 = .ok (.aload_n 0, 1) := by decide +kernel
theorem dX9_hasRoomFor_1 : decode cX9_hasRoomFor 1 = .ok (.iload_n 1, 1) := by decide +kernel
theorem dX9_hasRoomFor_2 : decode cX9_hasRoomFor 2 = .ok (.aload_n 0, 1) := by decide +kernel
theorem dX9_hasRoomFor_3 : decode cX9_hasRoomFor 3 = .ok (.iload_n 1, 1) := by decide +kernel
theorem dX9_hasRoomFor_4 : decode cX9_hasRoomFor 4 = .ok (.invokevirtual 35, 3) := by decide +kernel
theorem dX9_hasRoomFor_7 : decode cX9_hasRoomFor 7 = .ok (.invokevirtual 39, 3) := by decide +kernel
theorem dX9_hasRoomFor_10 : decode cX9_hasRoomFor 10 = .ok (.ireturn, 1) := by decide +kernel
theorem dX9_hasRoomFor__0 : decode cX9_hasRoomFor_ 0 = .ok (.iload_n 2, 1) := by decide +kernel
theorem dX9_hasRoomFor__1 : decode cX9_hasRoomFor_ 1 = .ok (.istore_n 3, 1) := by decide +kernel
theorem dX9_hasRoomFor__2 : decode cX9_hasRoomFor_ 2 = .ok (.iconst 0, 1) := by decide +kernel
theorem dX9_hasRoomFor__3 : decode cX9_hasRoomFor_ 3 = .ok (.istore 4, 2) := by decide +kernel
theorem dX9_hasRoomFor__5 : decode cX9_hasRoomFor_ 5 = .ok (.iload 4, 2) := by decide +kernel
theorem dX9_hasRoomFor__7 : decode cX9_hasRoomFor_ 7 = .ok (.iconst 4, 1) := by decide +kernel
theorem dX9_hasRoomFor__8 : decode cX9_hasRoomFor_ 8 = .ok (.if_icmp .ge 34, 3) := by decide +kernel
theorem dX9_hasRoomFor__11 : decode cX9_hasRoomFor_ 11 = .ok (.iload 4, 2) := by decide +kernel
theorem dX9_hasRoomFor__13 : decode cX9_hasRoomFor_ 13 = .ok (.iload_n 1, 1) := by decide +kernel
theorem dX9_hasRoomFor__14 : decode cX9_hasRoomFor_ 14 = .ok (.if_icmp .eq 22, 3) := by decide +kernel
theorem dX9_hasRoomFor__17 : decode cX9_hasRoomFor_ 17 = .ok (.aload_n 0, 1) := by decide +kernel
theorem dX9_hasRoomFor__18 : decode cX9_hasRoomFor_ 18 = .ok (.getfield 9, 3) := by decide +kernel
theorem dX9_hasRoomFor__21 : decode cX9_hasRoomFor_ 21 = .ok (.iload 4, 2) := by decide +kernel
theorem dX9_hasRoomFor__23 : decode cX9_hasRoomFor_ 23 = .ok (.baload, 1) := by decide +kernel
theorem dX9_hasRoomFor__24 : decode cX9_hasRoomFor_ 24 = .ok (.ifCond .eq 12, 3) := by decide +kernel
theorem dX9_hasRoomFor__27 : decode cX9_hasRoomFor_ 27 = .ok (.iload_n 3, 1) := by decide +kernel
theorem dX9_hasRoomFor__28 : decode cX9_hasRoomFor_ 28 = .ok (.aload_n 0, 1) := by decide +kernel
theorem dX9_hasRoomFor__29 : decode cX9_hasRoomFor_ 29 = .ok (.iload 4, 2) := by decide +kernel
theorem dX9_hasRoomFor__31 : decode cX9_hasRoomFor_ 31 = .ok (.invokevirtual 35, 3) := by decide +kernel
theorem dX9_hasRoomFor__34 : decode cX9_hasRoomFor_ 34 = .ok (.iadd, 1) := by decide +kernel
theorem dX9_hasRoomFor__35 : decode cX9_hasRoomFor_ 35 = .ok (.istore_n 3, 1) := by decide +kernel
theorem dX9_hasRoomFor__36 : decode cX9_hasRoomFor_ 36 = .ok (.iinc 4 1, 3) := by decide +kernel
theorem dX9_hasRoomFor__39 : decode cX9_hasRoomFor_ 39 = .ok (.goto (-34), 3) := by decide +kernel
theorem dX9_hasRoomFor__42 : decode cX9_hasRoomFor_ 42 = .ok (.iload_n 3, 1) := by decide +kernel
theorem dX9_hasRoomFor__43 : decode cX9_hasRoomFor_ 43 = .ok (.bipush 24, 2) := by decide +kernel
theorem dX9_hasRoomFor__45 : decode cX9_hasRoomFor_ 45 = .ok (.if_icmp .gt 7, 3) := by decide +kernel
theorem dX9_hasRoomFor__48 : decode cX9_hasRoomFor_ 48 = .ok (.iconst 1, 1) := by decide +kernel
theorem dX9_hasRoomFor__49 : decode cX9_hasRoomFor_ 49 = .ok (.goto 4, 3) := by decide +kernel
theorem dX9_hasRoomFor__52 : decode cX9_hasRoomFor_ 52 = .ok (.iconst 0, 1) := by decide +kernel
theorem dX9_hasRoomFor__53 : decode cX9_hasRoomFor_ 53 = .ok (.ireturn, 1) := by decide +kernel
theorem dX9_setOpen_0 : decode cX9_setOpen 0 = .ok (.aload_n 0, 1) := by decide +kernel
theorem dX9_setOpen_1 : decode cX9_setOpen 1 = .ok (.iload_n 1, 1) := by decide +kernel
theorem dX9_setOpen_2 : decode cX9_setOpen 2 = .ok (.invokevirtual 31, 3) := by decide +kernel
theorem dX9_setOpen_5 : decode cX9_setOpen 5 = .ok (.ifCond .eq 14, 3) := by decide +kernel
theorem dX9_setOpen_8 : decode cX9_setOpen 8 = .ok (.aload_n 0, 1) := by decide +kernel
theorem dX9_setOpen_9 : decode cX9_setOpen 9 = .ok (.getfield 9, 3) := by decide +kernel
theorem dX9_setOpen_12 : decode cX9_setOpen 12 = .ok (.iload_n 1, 1) := by decide +kernel
theorem dX9_setOpen_13 : decode cX9_setOpen 13 = .ok (.iload_n 2, 1) := by decide +kernel
theorem dX9_setOpen_14 : decode cX9_setOpen 14 = .ok (.bastore, 1) := by decide +kernel
theorem dX9_setOpen_15 : decode cX9_setOpen 15 = .ok (.aload_n 0, 1) := by decide +kernel
theorem dX9_setOpen_16 : decode cX9_setOpen 16 = .ok (.invokevirtual 43, 3) := by decide +kernel
theorem dX9_setOpen_19 : decode cX9_setOpen 19 = .ok (.return_, 1) := by decide +kernel
theorem dX9_setShare_0 : decode cX9_setShare 0 = .ok (.aload_n 0, 1) := by decide +kernel
theorem dX9_setShare_1 : decode cX9_setShare 1 = .ok (.iload_n 1, 1) := by decide +kernel
theorem dX9_setShare_2 : decode cX9_setShare 2 = .ok (.invokevirtual 31, 3) := by decide +kernel
theorem dX9_setShare_5 : decode cX9_setShare 5 = .ok (.ifCond .eq 29, 3) := by decide +kernel
theorem dX9_setShare_8 : decode cX9_setShare 8 = .ok (.aload_n 0, 1) := by decide +kernel
theorem dX9_setShare_9 : decode cX9_setShare 9 = .ok (.getfield 15, 3) := by decide +kernel
theorem dX9_setShare_12 : decode cX9_setShare 12 = .ok (.iload_n 1, 1) := by decide +kernel
theorem dX9_setShare_13 : decode cX9_setShare 13 = .ok (.iload_n 2, 1) := by decide +kernel
theorem dX9_setShare_14 : decode cX9_setShare 14 = .ok (.iastore, 1) := by decide +kernel
theorem dX9_setShare_15 : decode cX9_setShare 15 = .ok (.aload_n 0, 1) := by decide +kernel
theorem dX9_setShare_16 : decode cX9_setShare 16 = .ok (.getfield 19, 3) := by decide +kernel
theorem dX9_setShare_19 : decode cX9_setShare 19 = .ok (.iload_n 1, 1) := by decide +kernel
theorem dX9_setShare_20 : decode cX9_setShare 20 = .ok (.iload_n 3, 1) := by decide +kernel
theorem dX9_setShare_21 : decode cX9_setShare 21 = .ok (.iastore, 1) := by decide +kernel
theorem dX9_setShare_22 : decode cX9_setShare 22 = .ok (.aload_n 0, 1) := by decide +kernel
theorem dX9_setShare_23 : decode cX9_setShare 23 = .ok (.getfield 22, 3) := by decide +kernel
theorem dX9_setShare_26 : decode cX9_setShare 26 = .ok (.iload_n 1, 1) := by decide +kernel
theorem dX9_setShare_27 : decode cX9_setShare 27 = .ok (.iload 4, 2) := by decide +kernel
theorem dX9_setShare_29 : decode cX9_setShare 29 = .ok (.iastore, 1) := by decide +kernel
theorem dX9_setShare_30 : decode cX9_setShare 30 = .ok (.aload_n 0, 1) := by decide +kernel
theorem dX9_setShare_31 : decode cX9_setShare 31 = .ok (.invokevirtual 43, 3) := by decide +kernel
theorem dX9_setShare_34 : decode cX9_setShare 34 = .ok (.return_, 1) := by decide +kernel
theorem dX9_deal_0 : decode cX9_deal 0 = .ok (.aload_n 0, 1) := by decide +kernel
theorem dX9_deal_1 : decode cX9_deal 1 = .ok (.invokevirtual 46, 3) := by decide +kernel
theorem dX9_deal_4 : decode cX9_deal 4 = .ok (.bipush 24, 2) := by decide +kernel
theorem dX9_deal_6 : decode cX9_deal 6 = .ok (.istore_n 1, 1) := by decide +kernel
theorem dX9_deal_7 : decode cX9_deal 7 = .ok (.iconst 0, 1) := by decide +kernel
theorem dX9_deal_8 : decode cX9_deal 8 = .ok (.istore_n 2, 1) := by decide +kernel
theorem dX9_deal_9 : decode cX9_deal 9 = .ok (.iconst 0, 1) := by decide +kernel
theorem dX9_deal_10 : decode cX9_deal 10 = .ok (.istore_n 3, 1) := by decide +kernel
theorem dX9_deal_11 : decode cX9_deal 11 = .ok (.iload_n 3, 1) := by decide +kernel
theorem dX9_deal_12 : decode cX9_deal 12 = .ok (.iconst 4, 1) := by decide +kernel
theorem dX9_deal_13 : decode cX9_deal 13 = .ok (.if_icmp .ge 74, 3) := by decide +kernel
theorem dX9_deal_16 : decode cX9_deal 16 = .ok (.aload_n 0, 1) := by decide +kernel
theorem dX9_deal_17 : decode cX9_deal 17 = .ok (.getfield 25, 3) := by decide +kernel
theorem dX9_deal_20 : decode cX9_deal 20 = .ok (.iload_n 3, 1) := by decide +kernel
theorem dX9_deal_21 : decode cX9_deal 21 = .ok (.aload_n 0, 1) := by decide +kernel
theorem dX9_deal_22 : decode cX9_deal 22 = .ok (.getfield 9, 3) := by decide +kernel
theorem dX9_deal_25 : decode cX9_deal 25 = .ok (.iload_n 3, 1) := by decide +kernel
theorem dX9_deal_26 : decode cX9_deal 26 = .ok (.baload, 1) := by decide +kernel
theorem dX9_deal_27 : decode cX9_deal 27 = .ok (.ifCond .eq 21, 3) := by decide +kernel
theorem dX9_deal_30 : decode cX9_deal 30 = .ok (.aload_n 0, 1) := by decide +kernel
theorem dX9_deal_31 : decode cX9_deal 31 = .ok (.getfield 28, 3) := by decide +kernel
theorem dX9_deal_34 : decode cX9_deal 34 = .ok (.iload_n 3, 1) := by decide +kernel
theorem dX9_deal_35 : decode cX9_deal 35 = .ok (.baload, 1) := by decide +kernel
theorem dX9_deal_36 : decode cX9_deal 36 = .ok (.ifCond .ne 12, 3) := by decide +kernel
theorem dX9_deal_39 : decode cX9_deal 39 = .ok (.aload_n 0, 1) := by decide +kernel
theorem dX9_deal_40 : decode cX9_deal 40 = .ok (.getfield 22, 3) := by decide +kernel
theorem dX9_deal_43 : decode cX9_deal 43 = .ok (.iload_n 3, 1) := by decide +kernel
theorem dX9_deal_44 : decode cX9_deal 44 = .ok (.iaload, 1) := by decide +kernel
theorem dX9_deal_45 : decode cX9_deal 45 = .ok (.goto 4, 3) := by decide +kernel
theorem dX9_deal_48 : decode cX9_deal 48 = .ok (.iconst 0, 1) := by decide +kernel
theorem dX9_deal_49 : decode cX9_deal 49 = .ok (.iastore, 1) := by decide +kernel
theorem dX9_deal_50 : decode cX9_deal 50 = .ok (.iload_n 1, 1) := by decide +kernel
theorem dX9_deal_51 : decode cX9_deal 51 = .ok (.aload_n 0, 1) := by decide +kernel
theorem dX9_deal_52 : decode cX9_deal 52 = .ok (.getfield 25, 3) := by decide +kernel
theorem dX9_deal_55 : decode cX9_deal 55 = .ok (.iload_n 3, 1) := by decide +kernel
theorem dX9_deal_56 : decode cX9_deal 56 = .ok (.iaload, 1) := by decide +kernel
theorem dX9_deal_57 : decode cX9_deal 57 = .ok (.isub, 1) := by decide +kernel
theorem dX9_deal_58 : decode cX9_deal 58 = .ok (.istore_n 1, 1) := by decide +kernel
theorem dX9_deal_59 : decode cX9_deal 59 = .ok (.iload_n 2, 1) := by decide +kernel
theorem dX9_deal_60 : decode cX9_deal 60 = .ok (.aload_n 0, 1) := by decide +kernel
theorem dX9_deal_61 : decode cX9_deal 61 = .ok (.getfield 28, 3) := by decide +kernel
theorem dX9_deal_64 : decode cX9_deal 64 = .ok (.iload_n 3, 1) := by decide +kernel
theorem dX9_deal_65 : decode cX9_deal 65 = .ok (.baload, 1) := by decide +kernel
theorem dX9_deal_66 : decode cX9_deal 66 = .ok (.ifCond .eq 12, 3) := by decide +kernel
theorem dX9_deal_69 : decode cX9_deal 69 = .ok (.aload_n 0, 1) := by decide +kernel
theorem dX9_deal_70 : decode cX9_deal 70 = .ok (.getfield 15, 3) := by decide +kernel
theorem dX9_deal_73 : decode cX9_deal 73 = .ok (.iload_n 3, 1) := by decide +kernel
theorem dX9_deal_74 : decode cX9_deal 74 = .ok (.iaload, 1) := by decide +kernel
theorem dX9_deal_75 : decode cX9_deal 75 = .ok (.goto 4, 3) := by decide +kernel
theorem dX9_deal_78 : decode cX9_deal 78 = .ok (.iconst 0, 1) := by decide +kernel
theorem dX9_deal_79 : decode cX9_deal 79 = .ok (.iadd, 1) := by decide +kernel
theorem dX9_deal_80 : decode cX9_deal 80 = .ok (.istore_n 2, 1) := by decide +kernel
theorem dX9_deal_81 : decode cX9_deal 81 = .ok (.iinc 3 1, 3) := by decide +kernel
theorem dX9_deal_84 : decode cX9_deal 84 = .ok (.goto (-73), 3) := by decide +kernel
theorem dX9_deal_87 : decode cX9_deal 87 = .ok (.aload_n 0, 1) := by decide +kernel
theorem dX9_deal_88 : decode cX9_deal 88 = .ok (.iconst 0, 1) := by decide +kernel
theorem dX9_deal_89 : decode cX9_deal 89 = .ok (.iload_n 1, 1) := by decide +kernel
theorem dX9_deal_90 : decode cX9_deal 90 = .ok (.invokestatic 49, 3) := by decide +kernel
theorem dX9_deal_93 : decode cX9_deal 93 = .ok (.iload_n 2, 1) := by decide +kernel
theorem dX9_deal_94 : decode cX9_deal 94 = .ok (.invokevirtual 55, 3) := by decide +kernel
theorem dX9_deal_97 : decode cX9_deal 97 = .ok (.iconst 0, 1) := by decide +kernel
theorem dX9_deal_98 : decode cX9_deal 98 = .ok (.istore_n 3, 1) := by decide +kernel
theorem dX9_deal_99 : decode cX9_deal 99 = .ok (.iload_n 3, 1) := by decide +kernel
theorem dX9_deal_100 : decode cX9_deal 100 = .ok (.bipush 24, 2) := by decide +kernel
theorem dX9_deal_102 : decode cX9_deal 102 = .ok (.if_icmp .ge 62, 3) := by decide +kernel
theorem dX9_deal_105 : decode cX9_deal 105 = .ok (.aload_n 0, 1) := by decide +kernel
theorem dX9_deal_106 : decode cX9_deal 106 = .ok (.invokevirtual 59, 3) := by decide +kernel
theorem dX9_deal_109 : decode cX9_deal 109 = .ok (.istore 4, 2) := by decide +kernel
theorem dX9_deal_111 : decode cX9_deal 111 = .ok (.aload_n 0, 1) := by decide +kernel
theorem dX9_deal_112 : decode cX9_deal 112 = .ok (.invokevirtual 63, 3) := by decide +kernel
theorem dX9_deal_115 : decode cX9_deal 115 = .ok (.istore 5, 2) := by decide +kernel
theorem dX9_deal_117 : decode cX9_deal 117 = .ok (.aload_n 0, 1) := by decide +kernel
theorem dX9_deal_118 : decode cX9_deal 118 = .ok (.iload 4, 2) := by decide +kernel
theorem dX9_deal_120 : decode cX9_deal 120 = .ok (.invokevirtual 31, 3) := by decide +kernel
theorem dX9_deal_123 : decode cX9_deal 123 = .ok (.ifCond .eq 12, 3) := by decide +kernel
theorem dX9_deal_126 : decode cX9_deal 126 = .ok (.aload_n 0, 1) := by decide +kernel
theorem dX9_deal_127 : decode cX9_deal 127 = .ok (.iload 5, 2) := by decide +kernel
theorem dX9_deal_129 : decode cX9_deal 129 = .ok (.invokevirtual 31, 3) := by decide +kernel
theorem dX9_deal_132 : decode cX9_deal 132 = .ok (.ifCond .ne 4, 3) := by decide +kernel
theorem dX9_deal_135 : decode cX9_deal 135 = .ok (.return_, 1) := by decide +kernel
theorem dX9_deal_136 : decode cX9_deal 136 = .ok (.aload_n 0, 1) := by decide +kernel
theorem dX9_deal_137 : decode cX9_deal 137 = .ok (.getfield 25, 3) := by decide +kernel
theorem dX9_deal_140 : decode cX9_deal 140 = .ok (.iload 4, 2) := by decide +kernel
theorem dX9_deal_142 : decode cX9_deal 142 = .ok (.dup2, 1) := by decide +kernel
theorem dX9_deal_143 : decode cX9_deal 143 = .ok (.iaload, 1) := by decide +kernel
theorem dX9_deal_144 : decode cX9_deal 144 = .ok (.iconst 1, 1) := by decide +kernel
theorem dX9_deal_145 : decode cX9_deal 145 = .ok (.iadd, 1) := by decide +kernel
theorem dX9_deal_146 : decode cX9_deal 146 = .ok (.iastore, 1) := by decide +kernel
theorem dX9_deal_147 : decode cX9_deal 147 = .ok (.aload_n 0, 1) := by decide +kernel
theorem dX9_deal_148 : decode cX9_deal 148 = .ok (.getfield 25, 3) := by decide +kernel
theorem dX9_deal_151 : decode cX9_deal 151 = .ok (.iload 5, 2) := by decide +kernel
theorem dX9_deal_153 : decode cX9_deal 153 = .ok (.dup2, 1) := by decide +kernel
theorem dX9_deal_154 : decode cX9_deal 154 = .ok (.iaload, 1) := by decide +kernel
theorem dX9_deal_155 : decode cX9_deal 155 = .ok (.iconst 1, 1) := by decide +kernel
theorem dX9_deal_156 : decode cX9_deal 156 = .ok (.isub, 1) := by decide +kernel
theorem dX9_deal_157 : decode cX9_deal 157 = .ok (.iastore, 1) := by decide +kernel
theorem dX9_deal_158 : decode cX9_deal 158 = .ok (.iinc 3 1, 3) := by decide +kernel
theorem dX9_deal_161 : decode cX9_deal 161 = .ok (.goto (-62), 3) := by decide +kernel
theorem dX9_deal_164 : decode cX9_deal 164 = .ok (.return_, 1) := by decide +kernel
theorem dX9_findSharing_0 : decode cX9_findSharing 0 = .ok (.iconst (-1), 1) := by decide +kernel
theorem dX9_findSharing_1 : decode cX9_findSharing 1 = .ok (.istore_n 1, 1) := by decide +kernel
theorem dX9_findSharing_2 : decode cX9_findSharing 2 = .ok (.iconst 1, 1) := by decide +kernel
theorem dX9_findSharing_3 : decode cX9_findSharing 3 = .ok (.istore_n 2, 1) := by decide +kernel
theorem dX9_findSharing_4 : decode cX9_findSharing 4 = .ok (.iconst 0, 1) := by decide +kernel
theorem dX9_findSharing_5 : decode cX9_findSharing 5 = .ok (.istore_n 3, 1) := by decide +kernel
theorem dX9_findSharing_6 : decode cX9_findSharing 6 = .ok (.iload_n 3, 1) := by decide +kernel
theorem dX9_findSharing_7 : decode cX9_findSharing 7 = .ok (.iconst 4, 1) := by decide +kernel
theorem dX9_findSharing_8 : decode cX9_findSharing 8 = .ok (.if_icmp .ge 73, 3) := by decide +kernel
theorem dX9_findSharing_11 : decode cX9_findSharing 11 = .ok (.aload_n 0, 1) := by decide +kernel
theorem dX9_findSharing_12 : decode cX9_findSharing 12 = .ok (.getfield 28, 3) := by decide +kernel
theorem dX9_findSharing_15 : decode cX9_findSharing 15 = .ok (.iload_n 3, 1) := by decide +kernel
theorem dX9_findSharing_16 : decode cX9_findSharing 16 = .ok (.aload_n 0, 1) := by decide +kernel
theorem dX9_findSharing_17 : decode cX9_findSharing 17 = .ok (.getfield 9, 3) := by decide +kernel
theorem dX9_findSharing_20 : decode cX9_findSharing 20 = .ok (.iload_n 3, 1) := by decide +kernel
theorem dX9_findSharing_21 : decode cX9_findSharing 21 = .ok (.baload, 1) := by decide +kernel
theorem dX9_findSharing_22 : decode cX9_findSharing 22 = .ok (.ifCond .eq 17, 3) := by decide +kernel
theorem dX9_findSharing_25 : decode cX9_findSharing 25 = .ok (.aload_n 0, 1) := by decide +kernel
theorem dX9_findSharing_26 : decode cX9_findSharing 26 = .ok (.getfield 22, 3) := by decide +kernel
theorem dX9_findSharing_29 : decode cX9_findSharing 29 = .ok (.iload_n 3, 1) := by decide +kernel
theorem dX9_findSharing_30 : decode cX9_findSharing 30 = .ok (.iaload, 1) := by decide +kernel
theorem dX9_findSharing_31 : decode cX9_findSharing 31 = .ok (.iconst (-1), 1) := by decide +kernel
theorem dX9_findSharing_32 : decode cX9_findSharing 32 = .ok (.if_icmp .ne 7, 3) := by decide +kernel
theorem dX9_findSharing_35 : decode cX9_findSharing 35 = .ok (.iconst 1, 1) := by decide +kernel
theorem dX9_findSharing_36 : decode cX9_findSharing 36 = .ok (.goto 4, 3) := by decide +kernel
theorem dX9_findSharing_39 : decode cX9_findSharing 39 = .ok (.iconst 0, 1) := by decide +kernel
theorem dX9_findSharing_40 : decode cX9_findSharing 40 = .ok (.bastore, 1) := by decide +kernel
theorem dX9_findSharing_41 : decode cX9_findSharing 41 = .ok (.aload_n 0, 1) := by decide +kernel
theorem dX9_findSharing_42 : decode cX9_findSharing 42 = .ok (.getfield 9, 3) := by decide +kernel
theorem dX9_findSharing_45 : decode cX9_findSharing 45 = .ok (.iload_n 3, 1) := by decide +kernel
theorem dX9_findSharing_46 : decode cX9_findSharing 46 = .ok (.baload, 1) := by decide +kernel
theorem dX9_findSharing_47 : decode cX9_findSharing 47 = .ok (.ifCond .eq 7, 3) := by decide +kernel
theorem dX9_findSharing_50 : decode cX9_findSharing 50 = .ok (.iload_n 3, 1) := by decide +kernel
theorem dX9_findSharing_51 : decode cX9_findSharing 51 = .ok (.goto 4, 3) := by decide +kernel
theorem dX9_findSharing_54 : decode cX9_findSharing 54 = .ok (.iload_n 1, 1) := by decide +kernel
theorem dX9_findSharing_55 : decode cX9_findSharing 55 = .ok (.istore_n 1, 1) := by decide +kernel
theorem dX9_findSharing_56 : decode cX9_findSharing 56 = .ok (.iload_n 2, 1) := by decide +kernel
theorem dX9_findSharing_57 : decode cX9_findSharing 57 = .ok (.ifCond .eq 16, 3) := by decide +kernel
theorem dX9_findSharing_60 : decode cX9_findSharing 60 = .ok (.aload_n 0, 1) := by decide +kernel
theorem dX9_findSharing_61 : decode cX9_findSharing 61 = .ok (.getfield 28, 3) := by decide +kernel
theorem dX9_findSharing_64 : decode cX9_findSharing 64 = .ok (.iload_n 3, 1) := by decide +kernel
theorem dX9_findSharing_65 : decode cX9_findSharing 65 = .ok (.baload, 1) := by decide +kernel
theorem dX9_findSharing_66 : decode cX9_findSharing 66 = .ok (.ifCond .ne 7, 3) := by decide +kernel
theorem dX9_findSharing_69 : decode cX9_findSharing 69 = .ok (.iconst 1, 1) := by decide +kernel
theorem dX9_findSharing_70 : decode cX9_findSharing 70 = .ok (.goto 4, 3) := by decide +kernel
theorem dX9_findSharing_73 : decode cX9_findSharing 73 = .ok (.iconst 0, 1) := by decide +kernel
theorem dX9_findSharing_74 : decode cX9_findSharing 74 = .ok (.istore_n 2, 1) := by decide +kernel
theorem dX9_findSharing_75 : decode cX9_findSharing 75 = .ok (.iinc 3 1, 3) := by decide +kernel
theorem dX9_findSharing_78 : decode cX9_findSharing 78 = .ok (.goto (-72), 3) := by decide +kernel
theorem dX9_findSharing_81 : decode cX9_findSharing 81 = .ok (.iload_n 2, 1) := by decide +kernel
theorem dX9_findSharing_82 : decode cX9_findSharing 82 = .ok (.ifCond .eq 18, 3) := by decide +kernel
theorem dX9_findSharing_85 : decode cX9_findSharing 85 = .ok (.aload_n 0, 1) := by decide +kernel
theorem dX9_findSharing_86 : decode cX9_findSharing 86 = .ok (.iload_n 1, 1) := by decide +kernel
theorem dX9_findSharing_87 : decode cX9_findSharing 87 = .ok (.invokevirtual 31, 3) := by decide +kernel
theorem dX9_findSharing_90 : decode cX9_findSharing 90 = .ok (.ifCond .eq 10, 3) := by decide +kernel
theorem dX9_findSharing_93 : decode cX9_findSharing 93 = .ok (.aload_n 0, 1) := by decide +kernel
theorem dX9_findSharing_94 : decode cX9_findSharing 94 = .ok (.getfield 28, 3) := by decide +kernel
theorem dX9_findSharing_97 : decode cX9_findSharing 97 = .ok (.iload_n 1, 1) := by decide +kernel
theorem dX9_findSharing_98 : decode cX9_findSharing 98 = .ok (.iconst 1, 1) := by decide +kernel
theorem dX9_findSharing_99 : decode cX9_findSharing 99 = .ok (.bastore, 1) := by decide +kernel
theorem dX9_findSharing_100 : decode cX9_findSharing 100 = .ok (.return_, 1) := by decide +kernel
theorem dX9_giveRest_0 : decode cX9_giveRest 0 = .ok (.iload_n 1, 1) := by decide +kernel
theorem dX9_giveRest_1 : decode cX9_giveRest 1 = .ok (.istore_n 3, 1) := by decide +kernel
theorem dX9_giveRest_2 : decode cX9_giveRest 2 = .ok (.iconst 0, 1) := by decide +kernel
theorem dX9_giveRest_3 : decode cX9_giveRest 3 = .ok (.istore 4, 2) := by decide +kernel
theorem dX9_giveRest_5 : decode cX9_giveRest 5 = .ok (.iload 4, 2) := by decide +kernel
theorem dX9_giveRest_7 : decode cX9_giveRest 7 = .ok (.iconst 4, 1) := by decide +kernel
theorem dX9_giveRest_8 : decode cX9_giveRest 8 = .ok (.if_icmp .ge 51, 3) := by decide +kernel
theorem dX9_giveRest_11 : decode cX9_giveRest 11 = .ok (.aload_n 0, 1) := by decide +kernel
theorem dX9_giveRest_12 : decode cX9_giveRest 12 = .ok (.getfield 28, 3) := by decide +kernel
theorem dX9_giveRest_15 : decode cX9_giveRest 15 = .ok (.iload 4, 2) := by decide +kernel
theorem dX9_giveRest_17 : decode cX9_giveRest 17 = .ok (.baload, 1) := by decide +kernel
theorem dX9_giveRest_18 : decode cX9_giveRest 18 = .ok (.ifCond .eq 35, 3) := by decide +kernel
theorem dX9_giveRest_21 : decode cX9_giveRest 21 = .ok (.iload_n 2, 1) := by decide +kernel
theorem dX9_giveRest_22 : decode cX9_giveRest 22 = .ok (.ifCond .le 31, 3) := by decide +kernel
theorem dX9_giveRest_25 : decode cX9_giveRest 25 = .ok (.aload_n 0, 1) := by decide +kernel
theorem dX9_giveRest_26 : decode cX9_giveRest 26 = .ok (.getfield 25, 3) := by decide +kernel
theorem dX9_giveRest_29 : decode cX9_giveRest 29 = .ok (.iload 4, 2) := by decide +kernel
theorem dX9_giveRest_31 : decode cX9_giveRest 31 = .ok (.iload_n 1, 1) := by decide +kernel
theorem dX9_giveRest_32 : decode cX9_giveRest 32 = .ok (.aload_n 0, 1) := by decide +kernel
theorem dX9_giveRest_33 : decode cX9_giveRest 33 = .ok (.getfield 15, 3) := by decide +kernel
theorem dX9_giveRest_36 : decode cX9_giveRest 36 = .ok (.iload 4, 2) := by decide +kernel
theorem dX9_giveRest_38 : decode cX9_giveRest 38 = .ok (.iaload, 1) := by decide +kernel
theorem dX9_giveRest_39 : decode cX9_giveRest 39 = .ok (.imul, 1) := by decide +kernel
theorem dX9_giveRest_40 : decode cX9_giveRest 40 = .ok (.iload_n 2, 1) := by decide +kernel
theorem dX9_giveRest_41 : decode cX9_giveRest 41 = .ok (.idiv, 1) := by decide +kernel
theorem dX9_giveRest_42 : decode cX9_giveRest 42 = .ok (.iastore, 1) := by decide +kernel
theorem dX9_giveRest_43 : decode cX9_giveRest 43 = .ok (.iload_n 3, 1) := by decide +kernel
theorem dX9_giveRest_44 : decode cX9_giveRest 44 = .ok (.aload_n 0, 1) := by decide +kernel
theorem dX9_giveRest_45 : decode cX9_giveRest 45 = .ok (.getfield 25, 3) := by decide +kernel
theorem dX9_giveRest_48 : decode cX9_giveRest 48 = .ok (.iload 4, 2) := by decide +kernel
theorem dX9_giveRest_50 : decode cX9_giveRest 50 = .ok (.iaload, 1) := by decide +kernel
theorem dX9_giveRest_51 : decode cX9_giveRest 51 = .ok (.isub, 1) := by decide +kernel
theorem dX9_giveRest_52 : decode cX9_giveRest 52 = .ok (.istore_n 3, 1) := by decide +kernel
theorem dX9_giveRest_53 : decode cX9_giveRest 53 = .ok (.iinc 4 1, 3) := by decide +kernel
theorem dX9_giveRest_56 : decode cX9_giveRest 56 = .ok (.goto (-51), 3) := by decide +kernel
theorem dX9_giveRest_59 : decode cX9_giveRest 59 = .ok (.iconst 0, 1) := by decide +kernel
theorem dX9_giveRest_60 : decode cX9_giveRest 60 = .ok (.istore 4, 2) := by decide +kernel
theorem dX9_giveRest_62 : decode cX9_giveRest 62 = .ok (.iload 4, 2) := by decide +kernel
theorem dX9_giveRest_64 : decode cX9_giveRest 64 = .ok (.iconst 4, 1) := by decide +kernel
theorem dX9_giveRest_65 : decode cX9_giveRest 65 = .ok (.if_icmp .ge 37, 3) := by decide +kernel
theorem dX9_giveRest_68 : decode cX9_giveRest 68 = .ok (.aload_n 0, 1) := by decide +kernel
theorem dX9_giveRest_69 : decode cX9_giveRest 69 = .ok (.getfield 28, 3) := by decide +kernel
theorem dX9_giveRest_72 : decode cX9_giveRest 72 = .ok (.iload 4, 2) := by decide +kernel
theorem dX9_giveRest_74 : decode cX9_giveRest 74 = .ok (.baload, 1) := by decide +kernel
theorem dX9_giveRest_75 : decode cX9_giveRest 75 = .ok (.ifCond .eq 21, 3) := by decide +kernel
theorem dX9_giveRest_78 : decode cX9_giveRest 78 = .ok (.iload_n 3, 1) := by decide +kernel
theorem dX9_giveRest_79 : decode cX9_giveRest 79 = .ok (.ifCond .le 17, 3) := by decide +kernel
theorem dX9_giveRest_82 : decode cX9_giveRest 82 = .ok (.aload_n 0, 1) := by decide +kernel
theorem dX9_giveRest_83 : decode cX9_giveRest 83 = .ok (.getfield 25, 3) := by decide +kernel
theorem dX9_giveRest_86 : decode cX9_giveRest 86 = .ok (.iload 4, 2) := by decide +kernel
theorem dX9_giveRest_88 : decode cX9_giveRest 88 = .ok (.dup2, 1) := by decide +kernel
theorem dX9_giveRest_89 : decode cX9_giveRest 89 = .ok (.iaload, 1) := by decide +kernel
theorem dX9_giveRest_90 : decode cX9_giveRest 90 = .ok (.iconst 1, 1) := by decide +kernel
theorem dX9_giveRest_91 : decode cX9_giveRest 91 = .ok (.iadd, 1) := by decide +kernel
theorem dX9_giveRest_92 : decode cX9_giveRest 92 = .ok (.iastore, 1) := by decide +kernel
theorem dX9_giveRest_93 : decode cX9_giveRest 93 = .ok (.iinc 3 (-1), 3) := by decide +kernel
theorem dX9_giveRest_96 : decode cX9_giveRest 96 = .ok (.iinc 4 1, 3) := by decide +kernel
theorem dX9_giveRest_99 : decode cX9_giveRest 99 = .ok (.goto (-37), 3) := by decide +kernel
theorem dX9_giveRest_102 : decode cX9_giveRest 102 = .ok (.return_, 1) := by decide +kernel
theorem dX9_firstPoor_0 : decode cX9_firstPoor 0 = .ok (.iconst 0, 1) := by decide +kernel
theorem dX9_firstPoor_1 : decode cX9_firstPoor 1 = .ok (.istore_n 1, 1) := by decide +kernel
theorem dX9_firstPoor_2 : decode cX9_firstPoor 2 = .ok (.iload_n 1, 1) := by decide +kernel
theorem dX9_firstPoor_3 : decode cX9_firstPoor 3 = .ok (.iconst 4, 1) := by decide +kernel
theorem dX9_firstPoor_4 : decode cX9_firstPoor 4 = .ok (.if_icmp .ge 35, 3) := by decide +kernel
theorem dX9_firstPoor_7 : decode cX9_firstPoor 7 = .ok (.aload_n 0, 1) := by decide +kernel
theorem dX9_firstPoor_8 : decode cX9_firstPoor 8 = .ok (.getfield 28, 3) := by decide +kernel
theorem dX9_firstPoor_11 : decode cX9_firstPoor 11 = .ok (.iload_n 1, 1) := by decide +kernel
theorem dX9_firstPoor_12 : decode cX9_firstPoor 12 = .ok (.baload, 1) := by decide +kernel
theorem dX9_firstPoor_13 : decode cX9_firstPoor 13 = .ok (.ifCond .eq 20, 3) := by decide +kernel
theorem dX9_firstPoor_16 : decode cX9_firstPoor 16 = .ok (.aload_n 0, 1) := by decide +kernel
theorem dX9_firstPoor_17 : decode cX9_firstPoor 17 = .ok (.getfield 25, 3) := by decide +kernel
theorem dX9_firstPoor_20 : decode cX9_firstPoor 20 = .ok (.iload_n 1, 1) := by decide +kernel
theorem dX9_firstPoor_21 : decode cX9_firstPoor 21 = .ok (.iaload, 1) := by decide +kernel
theorem dX9_firstPoor_22 : decode cX9_firstPoor 22 = .ok (.aload_n 0, 1) := by decide +kernel
theorem dX9_firstPoor_23 : decode cX9_firstPoor 23 = .ok (.getfield 19, 3) := by decide +kernel
theorem dX9_firstPoor_26 : decode cX9_firstPoor 26 = .ok (.iload_n 1, 1) := by decide +kernel
theorem dX9_firstPoor_27 : decode cX9_firstPoor 27 = .ok (.iaload, 1) := by decide +kernel
theorem dX9_firstPoor_28 : decode cX9_firstPoor 28 = .ok (.if_icmp .ge 5, 3) := by decide +kernel
theorem dX9_firstPoor_31 : decode cX9_firstPoor 31 = .ok (.iload_n 1, 1) := by decide +kernel
theorem dX9_firstPoor_32 : decode cX9_firstPoor 32 = .ok (.ireturn, 1) := by decide +kernel
theorem dX9_firstPoor_33 : decode cX9_firstPoor 33 = .ok (.iinc 1 1, 3) := by decide +kernel
theorem dX9_firstPoor_36 : decode cX9_firstPoor 36 = .ok (.goto (-34), 3) := by decide +kernel
theorem dX9_firstPoor_39 : decode cX9_firstPoor 39 = .ok (.iconst (-1), 1) := by decide +kernel
theorem dX9_firstPoor_40 : decode cX9_firstPoor 40 = .ok (.ireturn, 1) := by decide +kernel
theorem dX9_richest_0 : decode cX9_richest 0 = .ok (.iconst (-1), 1) := by decide +kernel
theorem dX9_richest_1 : decode cX9_richest 1 = .ok (.istore_n 1, 1) := by decide +kernel
theorem dX9_richest_2 : decode cX9_richest 2 = .ok (.iconst 0, 1) := by decide +kernel
theorem dX9_richest_3 : decode cX9_richest 3 = .ok (.istore_n 2, 1) := by decide +kernel
theorem dX9_richest_4 : decode cX9_richest 4 = .ok (.iconst 0, 1) := by decide +kernel
theorem dX9_richest_5 : decode cX9_richest 5 = .ok (.istore_n 3, 1) := by decide +kernel
theorem dX9_richest_6 : decode cX9_richest 6 = .ok (.iload_n 3, 1) := by decide +kernel
theorem dX9_richest_7 : decode cX9_richest 7 = .ok (.iconst 4, 1) := by decide +kernel
theorem dX9_richest_8 : decode cX9_richest 8 = .ok (.if_icmp .ge 51, 3) := by decide +kernel
theorem dX9_richest_11 : decode cX9_richest 11 = .ok (.aload_n 0, 1) := by decide +kernel
theorem dX9_richest_12 : decode cX9_richest 12 = .ok (.getfield 28, 3) := by decide +kernel
theorem dX9_richest_15 : decode cX9_richest 15 = .ok (.iload_n 3, 1) := by decide +kernel
theorem dX9_richest_16 : decode cX9_richest 16 = .ok (.baload, 1) := by decide +kernel
theorem dX9_richest_17 : decode cX9_richest 17 = .ok (.ifCond .eq 36, 3) := by decide +kernel
theorem dX9_richest_20 : decode cX9_richest 20 = .ok (.aload_n 0, 1) := by decide +kernel
theorem dX9_richest_21 : decode cX9_richest 21 = .ok (.getfield 25, 3) := by decide +kernel
theorem dX9_richest_24 : decode cX9_richest 24 = .ok (.iload_n 3, 1) := by decide +kernel
theorem dX9_richest_25 : decode cX9_richest 25 = .ok (.iaload, 1) := by decide +kernel
theorem dX9_richest_26 : decode cX9_richest 26 = .ok (.aload_n 0, 1) := by decide +kernel
theorem dX9_richest_27 : decode cX9_richest 27 = .ok (.getfield 19, 3) := by decide +kernel
theorem dX9_richest_30 : decode cX9_richest 30 = .ok (.iload_n 3, 1) := by decide +kernel
theorem dX9_richest_31 : decode cX9_richest 31 = .ok (.iaload, 1) := by decide +kernel
theorem dX9_richest_32 : decode cX9_richest 32 = .ok (.isub, 1) := by decide +kernel
theorem dX9_richest_33 : decode cX9_richest 33 = .ok (.iload_n 2, 1) := by decide +kernel
theorem dX9_richest_34 : decode cX9_richest 34 = .ok (.if_icmp .le 19, 3) := by decide +kernel
theorem dX9_richest_37 : decode cX9_richest 37 = .ok (.aload_n 0, 1) := by decide +kernel
theorem dX9_richest_38 : decode cX9_richest 38 = .ok (.getfield 25, 3) := by decide +kernel
theorem dX9_richest_41 : decode cX9_richest 41 = .ok (.iload_n 3, 1) := by decide +kernel
theorem dX9_richest_42 : decode cX9_richest 42 = .ok (.iaload, 1) := by decide +kernel
theorem dX9_richest_43 : decode cX9_richest 43 = .ok (.aload_n 0, 1) := by decide +kernel
theorem dX9_richest_44 : decode cX9_richest 44 = .ok (.getfield 19, 3) := by decide +kernel
theorem dX9_richest_47 : decode cX9_richest 47 = .ok (.iload_n 3, 1) := by decide +kernel
theorem dX9_richest_48 : decode cX9_richest 48 = .ok (.iaload, 1) := by decide +kernel
theorem dX9_richest_49 : decode cX9_richest 49 = .ok (.isub, 1) := by decide +kernel
theorem dX9_richest_50 : decode cX9_richest 50 = .ok (.istore_n 2, 1) := by decide +kernel
theorem dX9_richest_51 : decode cX9_richest 51 = .ok (.iload_n 3, 1) := by decide +kernel
theorem dX9_richest_52 : decode cX9_richest 52 = .ok (.istore_n 1, 1) := by decide +kernel
theorem dX9_richest_53 : decode cX9_richest 53 = .ok (.iinc 3 1, 3) := by decide +kernel
theorem dX9_richest_56 : decode cX9_richest 56 = .ok (.goto (-50), 3) := by decide +kernel
theorem dX9_richest_59 : decode cX9_richest 59 = .ok (.iload_n 1, 1) := by decide +kernel
theorem dX9_richest_60 : decode cX9_richest 60 = .ok (.ireturn, 1) := by decide +kernel
theorem dX10_init_0 : decode cX10_init 0 = .ok (.aload_n 0, 1) := by decide +kernel
theorem dX10_init_1 : decode cX10_init 1 = .ok (.invokespecial 3, 3) := by decide +kernel
theorem dX10_init_4 : decode cX10_init 4 = .ok (.aload_n 0, 1) := by decide +kernel
theorem dX10_init_5 : decode cX10_init 5 = .ok (.bipush 60, 2) := by decide +kernel
theorem dX10_init_7 : decode cX10_init 7 = .ok (.anewarray 9, 3) := by decide +kernel
theorem dX10_init_10 : decode cX10_init 10 = .ok (.putfield 11, 3) := by decide +kernel
theorem dX10_init_13 : decode cX10_init 13 = .ok (.aload_n 0, 1) := by decide +kernel
theorem dX10_init_14 : decode cX10_init 14 = .ok (.iconst 1, 1) := by decide +kernel
theorem dX10_init_15 : decode cX10_init 15 = .ok (.putfield 17, 3) := by decide +kernel
theorem dX10_init_18 : decode cX10_init 18 = .ok (.iconst 0, 1) := by decide +kernel
theorem dX10_init_19 : decode cX10_init 19 = .ok (.istore_n 1, 1) := by decide +kernel
theorem dX10_init_20 : decode cX10_init 20 = .ok (.iload_n 1, 1) := by decide +kernel
theorem dX10_init_21 : decode cX10_init 21 = .ok (.bipush 60, 2) := by decide +kernel
theorem dX10_init_23 : decode cX10_init 23 = .ok (.if_icmp .ge 22, 3) := by decide +kernel
theorem dX10_init_26 : decode cX10_init 26 = .ok (.aload_n 0, 1) := by decide +kernel
theorem dX10_init_27 : decode cX10_init 27 = .ok (.getfield 11, 3) := by decide +kernel
theorem dX10_init_30 : decode cX10_init 30 = .ok (.iload_n 1, 1) := by decide +kernel
theorem dX10_init_31 : decode cX10_init 31 = .ok (.new 9, 3) := by decide +kernel
theorem dX10_init_34 : decode cX10_init 34 = .ok (.dup, 1) := by decide +kernel
theorem dX10_init_35 : decode cX10_init 35 = .ok (.invokespecial 21, 3) := by decide +kernel
theorem dX10_init_38 : decode cX10_init 38 = .ok (.aastore, 1) := by decide +kernel
theorem dX10_init_39 : decode cX10_init 39 = .ok (.iinc 1 1, 3) := by decide +kernel
theorem dX10_init_42 : decode cX10_init 42 = .ok (.goto (-22), 3) := by decide +kernel
theorem dX10_init_45 : decode cX10_init 45 = .ok (.return_, 1) := by decide +kernel
theorem dX10_at_0 : decode cX10_at 0 = .ok (.iload_n 1, 1) := by decide +kernel
theorem dX10_at_1 : decode cX10_at 1 = .ok (.ifCond .lt 26, 3) := by decide +kernel
theorem dX10_at_4 : decode cX10_at 4 = .ok (.iload_n 1, 1) := by decide +kernel
theorem dX10_at_5 : decode cX10_at 5 = .ok (.aload_n 0, 1) := by decide +kernel
theorem dX10_at_6 : decode cX10_at 6 = .ok (.getfield 17, 3) := by decide +kernel
theorem dX10_at_9 : decode cX10_at 9 = .ok (.if_icmp .ge 18, 3) := by decide +kernel
theorem dX10_at_12 : decode cX10_at 12 = .ok (.iload_n 1, 1) := by decide +kernel
theorem dX10_at_13 : decode cX10_at 13 = .ok (.bipush 60, 2) := by decide +kernel
theorem dX10_at_15 : decode cX10_at 15 = .ok (.if_icmp .ge 12, 3) := by decide +kernel
theorem dX10_at_18 : decode cX10_at 18 = .ok (.aload_n 0, 1) := by decide +kernel
theorem dX10_at_19 : decode cX10_at 19 = .ok (.getfield 11, 3) := by decide +kernel
theorem dX10_at_22 : decode cX10_at 22 = .ok (.iload_n 1, 1) := by decide +kernel
theorem dX10_at_23 : decode cX10_at 23 = .ok (.aaload, 1) := by decide +kernel
theorem dX10_at_24 : decode cX10_at 24 = .ok (.goto 9, 3) := by decide +kernel
theorem dX10_at_27 : decode cX10_at 27 = .ok (.aload_n 0, 1) := by decide +kernel
theorem dX10_at_28 : decode cX10_at 28 = .ok (.getfield 11, 3) := by decide +kernel
theorem dX10_at_31 : decode cX10_at 31 = .ok (.iconst 0, 1) := by decide +kernel
theorem dX10_at_32 : decode cX10_at 32 = .ok (.aaload, 1) := by decide +kernel
theorem dX10_at_33 : decode cX10_at 33 = .ok (.areturn, 1) := by decide +kernel
theorem dX10_breakAt_0 : decode cX10_breakAt 0 = .ok (.iload_n 1, 1) := by decide +kernel
theorem dX10_breakAt_1 : decode cX10_breakAt 1 = .ok (.ifCond .lt 20, 3) := by decide +kernel
theorem dX10_breakAt_4 : decode cX10_breakAt 4 = .ok (.iload_n 1, 1) := by decide +kernel
theorem dX10_breakAt_5 : decode cX10_breakAt 5 = .ok (.aload_n 0, 1) := by decide +kernel
theorem dX10_breakAt_6 : decode cX10_breakAt 6 = .ok (.getfield 17, 3) := by decide +kernel
theorem dX10_breakAt_9 : decode cX10_breakAt 9 = .ok (.if_icmp .ge 12, 3) := by decide +kernel
theorem dX10_breakAt_12 : decode cX10_breakAt 12 = .ok (.aload_n 0, 1) := by decide +kernel
theorem dX10_breakAt_13 : decode cX10_breakAt 13 = .ok (.getfield 17, 3) := by decide +kernel
theorem dX10_breakAt_16 : decode cX10_breakAt 16 = .ok (.bipush 60, 2) := by decide +kernel
theorem dX10_breakAt_18 : decode cX10_breakAt 18 = .ok (.if_icmp .lt 4, 3) := by decide +kernel
theorem dX10_breakAt_21 : decode cX10_breakAt 21 = .ok (.return_, 1) := by decide +kernel
theorem dX10_breakAt_22 : decode cX10_breakAt 22 = .ok (.aload_n 0, 1) := by decide +kernel
theorem dX10_breakAt_23 : decode cX10_breakAt 23 = .ok (.getfield 11, 3) := by decide +kernel
theorem dX10_breakAt_26 : decode cX10_breakAt 26 = .ok (.aload_n 0, 1) := by decide +kernel
theorem dX10_breakAt_27 : decode cX10_breakAt 27 = .ok (.getfield 17, 3) := by decide +kernel
theorem dX10_breakAt_30 : decode cX10_breakAt 30 = .ok (.aaload, 1) := by decide +kernel
theorem dX10_breakAt_31 : decode cX10_breakAt 31 = .ok (.astore_n 3, 1) := by decide +kernel
theorem dX10_breakAt_32 : decode cX10_breakAt 32 = .ok (.aload_n 0, 1) := by decide +kernel
theorem dX10_breakAt_33 : decode cX10_breakAt 33 = .ok (.getfield 11, 3) := by decide +kernel
theorem dX10_breakAt_36 : decode cX10_breakAt 36 = .ok (.iload_n 1, 1) := by decide +kernel
theorem dX10_breakAt_37 : decode cX10_breakAt 37 = .ok (.iconst 1, 1) := by decide +kernel
theorem dX10_breakAt_38 : decode cX10_breakAt 38 = .ok (.iadd, 1) := by decide +kernel
theorem dX10_breakAt_39 : decode cX10_breakAt 39 = .ok (.aload_n 0, 1) := by decide +kernel
theorem dX10_breakAt_40 : decode cX10_breakAt 40 = .ok (.getfield 11, 3) := by decide +kernel
theorem dX10_breakAt_43 : decode cX10_breakAt 43 = .ok (.iload_n 1, 1) := by decide +kernel
theorem dX10_breakAt_44 : decode cX10_breakAt 44 = .ok (.iconst 2, 1) := by decide +kernel
theorem dX10_breakAt_45 : decode cX10_breakAt 45 = .ok (.iadd, 1) := by decide +kernel
theorem dX10_breakAt_46 : decode cX10_breakAt 46 = .ok (.aload_n 0, 1) := by decide +kernel
theorem dX10_breakAt_47 : decode cX10_breakAt 47 = .ok (.getfield 17, 3) := by decide +kernel
theorem dX10_breakAt_50 : decode cX10_breakAt 50 = .ok (.iload_n 1, 1) := by decide +kernel
theorem dX10_breakAt_51 : decode cX10_breakAt 51 = .ok (.isub, 1) := by decide +kernel
theorem dX10_breakAt_52 : decode cX10_breakAt 52 = .ok (.iconst 1, 1) := by decide +kernel
theorem dX10_breakAt_53 : decode cX10_breakAt 53 = .ok (.isub, 1) := by decide +kernel
theorem dX10_breakAt_54 : decode cX10_breakAt 54 = .ok (.invokestatic 22, 3) := by decide +kernel
theorem dX10_breakAt_57 : decode cX10_breakAt 57 = .ok (.aload_n 0, 1) := by decide +kernel
theorem dX10_breakAt_58 : decode cX10_breakAt 58 = .ok (.getfield 11, 3) := by decide +kernel
theorem dX10_breakAt_61 : decode cX10_breakAt 61 = .ok (.iload_n 1, 1) := by decide +kernel
theorem dX10_breakAt_62 : decode cX10_breakAt 62 = .ok (.iconst 1, 1) := by decide +kernel
theorem dX10_breakAt_63 : decode cX10_breakAt 63 = .ok (.iadd, 1) := by decide +kernel
theorem dX10_breakAt_64 : decode cX10_breakAt 64 = .ok (.aload_n 3, 1) := by decide +kernel
theorem dX10_breakAt_65 : decode cX10_breakAt 65 = .ok (.aastore, 1) := by decide +kernel
theorem dX10_breakAt_66 : decode cX10_breakAt 66 = .ok (.aload_n 3, 1) := by decide +kernel
theorem dX10_breakAt_67 : decode cX10_breakAt 67 = .ok (.iconst 0, 1) := by decide +kernel
theorem dX10_breakAt_68 : decode cX10_breakAt 68 = .ok (.putfield 28, 3) := by decide +kernel
theorem dX10_breakAt_71 : decode cX10_breakAt 71 = .ok (.aload_n 3, 1) := by decide +kernel
theorem dX10_breakAt_72 : decode cX10_breakAt 72 = .ok (.iconst 0, 1) := by decide +kernel
theorem dX10_breakAt_73 : decode cX10_breakAt 73 = .ok (.putfield 31, 3) := by decide +kernel
theorem dX10_breakAt_76 : decode cX10_breakAt 76 = .ok (.aload_n 3, 1) := by decide +kernel
theorem dX10_breakAt_77 : decode cX10_breakAt 77 = .ok (.aload_n 0, 1) := by decide +kernel
theorem dX10_breakAt_78 : decode cX10_breakAt 78 = .ok (.getfield 11, 3) := by decide +kernel
theorem dX10_breakAt_81 : decode cX10_breakAt 81 = .ok (.iload_n 1, 1) := by decide +kernel
theorem dX10_breakAt_82 : decode cX10_breakAt 82 = .ok (.aaload, 1) := by decide +kernel
theorem dX10_breakAt_83 : decode cX10_breakAt 83 = .ok (.iload_n 2, 1) := by decide +kernel
theorem dX10_breakAt_84 : decode cX10_breakAt 84 = .ok (.invokevirtual 35, 3) := by decide +kernel
theorem dX10_breakAt_87 : decode cX10_breakAt 87 = .ok (.aload_n 0, 1) := by decide +kernel
theorem dX10_breakAt_88 : decode cX10_breakAt 88 = .ok (.dup, 1) := by decide +kernel
theorem dX10_breakAt_89 : decode cX10_breakAt 89 = .ok (.getfield 17, 3) := by decide +kernel
theorem dX10_breakAt_92 : decode cX10_breakAt 92 = .ok (.iconst 1, 1) := by decide +kernel
theorem dX10_breakAt_93 : decode cX10_breakAt 93 = .ok (.iadd, 1) := by decide +kernel
theorem dX10_breakAt_94 : decode cX10_breakAt 94 = .ok (.putfield 17, 3) := by decide +kernel
theorem dX10_breakAt_97 : decode cX10_breakAt 97 = .ok (.return_, 1) := by decide +kernel
theorem dX10_joinBehind_0 : decode cX10_joinBehind 0 = .ok (.iload_n 1, 1) := by decide +kernel
theorem dX10_joinBehind_1 : decode cX10_joinBehind 1 = .ok (.ifCond .lt 22, 3) := by decide +kernel
theorem dX10_joinBehind_4 : decode cX10_joinBehind 4 = .ok (.iload_n 1, 1) := by decide +kernel
theorem dX10_joinBehind_5 : decode cX10_joinBehind 5 = .ok (.iconst 1, 1) := by decide +kernel
theorem dX10_joinBehind_6 : decode cX10_joinBehind 6 = .ok (.iadd, 1) := by decide +kernel
theorem dX10_joinBehind_7 : decode cX10_joinBehind 7 = .ok (.aload_n 0, 1) := by decide +kernel
theorem dX10_joinBehind_8 : decode cX10_joinBehind 8 = .ok (.getfield 17, 3) := by decide +kernel
theorem dX10_joinBehind_11 : decode cX10_joinBehind 11 = .ok (.if_icmp .ge 12, 3) := by decide +kernel
theorem dX10_joinBehind_14 : decode cX10_joinBehind 14 = .ok (.aload_n 0, 1) := by decide +kernel
theorem dX10_joinBehind_15 : decode cX10_joinBehind 15 = .ok (.getfield 17, 3) := by decide +kernel
theorem dX10_joinBehind_18 : decode cX10_joinBehind 18 = .ok (.bipush 60, 2) := by decide +kernel
theorem dX10_joinBehind_20 : decode cX10_joinBehind 20 = .ok (.if_icmp .le 4, 3) := by decide +kernel
theorem dX10_joinBehind_23 : decode cX10_joinBehind 23 = .ok (.return_, 1) := by decide +kernel
theorem dX10_joinBehind_24 : decode cX10_joinBehind 24 = .ok (.aload_n 0, 1) := by decide +kernel
theorem dX10_joinBehind_25 : decode cX10_joinBehind 25 = .ok (.getfield 11, 3) := by decide +kernel
theorem dX10_joinBehind_28 : decode cX10_joinBehind 28 = .ok (.iload_n 1, 1) := by decide +kernel
theorem dX10_joinBehind_29 : decode cX10_joinBehind 29 = .ok (.aaload, 1) := by decide +kernel
theorem dX10_joinBehind_30 : decode cX10_joinBehind 30 = .ok (.astore_n 2, 1) := by decide +kernel
theorem dX10_joinBehind_31 : decode cX10_joinBehind 31 = .ok (.aload_n 0, 1) := by decide +kernel
theorem dX10_joinBehind_32 : decode cX10_joinBehind 32 = .ok (.getfield 11, 3) := by decide +kernel
theorem dX10_joinBehind_35 : decode cX10_joinBehind 35 = .ok (.iload_n 1, 1) := by decide +kernel
theorem dX10_joinBehind_36 : decode cX10_joinBehind 36 = .ok (.iconst 1, 1) := by decide +kernel
theorem dX10_joinBehind_37 : decode cX10_joinBehind 37 = .ok (.iadd, 1) := by decide +kernel
theorem dX10_joinBehind_38 : decode cX10_joinBehind 38 = .ok (.aaload, 1) := by decide +kernel
theorem dX10_joinBehind_39 : decode cX10_joinBehind 39 = .ok (.astore_n 3, 1) := by decide +kernel
theorem dX10_joinBehind_40 : decode cX10_joinBehind 40 = .ok (.aload_n 2, 1) := by decide +kernel
theorem dX10_joinBehind_41 : decode cX10_joinBehind 41 = .ok (.aload_n 3, 1) := by decide +kernel
theorem dX10_joinBehind_42 : decode cX10_joinBehind 42 = .ok (.iconst 0, 1) := by decide +kernel
theorem dX10_joinBehind_43 : decode cX10_joinBehind 43 = .ok (.invokevirtual 35, 3) := by decide +kernel
theorem dX10_joinBehind_46 : decode cX10_joinBehind 46 = .ok (.aload_n 2, 1) := by decide +kernel
theorem dX10_joinBehind_47 : decode cX10_joinBehind 47 = .ok (.aload_n 2, 1) := by decide +kernel
theorem dX10_joinBehind_48 : decode cX10_joinBehind 48 = .ok (.getfield 31, 3) := by decide +kernel
theorem dX10_joinBehind_51 : decode cX10_joinBehind 51 = .ok (.ifCond .ne 10, 3) := by decide +kernel
theorem dX10_joinBehind_54 : decode cX10_joinBehind 54 = .ok (.aload_n 3, 1) := by decide +kernel
theorem dX10_joinBehind_55 : decode cX10_joinBehind 55 = .ok (.getfield 31, 3) := by decide +kernel
theorem dX10_joinBehind_58 : decode cX10_joinBehind 58 = .ok (.ifCond .eq 7, 3) := by decide +kernel
theorem dX10_joinBehind_61 : decode cX10_joinBehind 61 = .ok (.iconst 1, 1) := by decide +kernel
theorem dX10_joinBehind_62 : decode cX10_joinBehind 62 = .ok (.goto 4, 3) := by decide +kernel
theorem dX10_joinBehind_65 : decode cX10_joinBehind 65 = .ok (.iconst 0, 1) := by decide +kernel
theorem dX10_joinBehind_66 : decode cX10_joinBehind 66 = .ok (.putfield 31, 3) := by decide +kernel
theorem dX10_joinBehind_69 : decode cX10_joinBehind 69 = .ok (.aload_n 0, 1) := by decide +kernel
theorem dX10_joinBehind_70 : decode cX10_joinBehind 70 = .ok (.getfield 11, 3) := by decide +kernel
theorem dX10_joinBehind_73 : decode cX10_joinBehind 73 = .ok (.iload_n 1, 1) := by decide +kernel
theorem dX10_joinBehind_74 : decode cX10_joinBehind 74 = .ok (.iconst 2, 1) := by decide +kernel
theorem dX10_joinBehind_75 : decode cX10_joinBehind 75 = .ok (.iadd, 1) := by decide +kernel
theorem dX10_joinBehind_76 : decode cX10_joinBehind 76 = .ok (.aload_n 0, 1) := by decide +kernel
theorem dX10_joinBehind_77 : decode cX10_joinBehind 77 = .ok (.getfield 11, 3) := by decide +kernel
theorem dX10_joinBehind_80 : decode cX10_joinBehind 80 = .ok (.iload_n 1, 1) := by decide +kernel
theorem dX10_joinBehind_81 : decode cX10_joinBehind 81 = .ok (.iconst 1, 1) := by decide +kernel
theorem dX10_joinBehind_82 : decode cX10_joinBehind 82 = .ok (.iadd, 1) := by decide +kernel
theorem dX10_joinBehind_83 : decode cX10_joinBehind 83 = .ok (.aload_n 0, 1) := by decide +kernel
theorem dX10_joinBehind_84 : decode cX10_joinBehind 84 = .ok (.getfield 17, 3) := by decide +kernel
theorem dX10_joinBehind_87 : decode cX10_joinBehind 87 = .ok (.iload_n 1, 1) := by decide +kernel
theorem dX10_joinBehind_88 : decode cX10_joinBehind 88 = .ok (.isub, 1) := by decide +kernel
theorem dX10_joinBehind_89 : decode cX10_joinBehind 89 = .ok (.iconst 2, 1) := by decide +kernel
theorem dX10_joinBehind_90 : decode cX10_joinBehind 90 = .ok (.isub, 1) := by decide +kernel
theorem dX10_joinBehind_91 : decode cX10_joinBehind 91 = .ok (.invokestatic 22, 3) := by decide +kernel
theorem dX10_joinBehind_94 : decode cX10_joinBehind 94 = .ok (.aload_n 0, 1) := by decide +kernel
theorem dX10_joinBehind_95 : decode cX10_joinBehind 95 = .ok (.getfield 11, 3) := by decide +kernel
theorem dX10_joinBehind_98 : decode cX10_joinBehind 98 = .ok (.aload_n 0, 1) := by decide +kernel
theorem dX10_joinBehind_99 : decode cX10_joinBehind 99 = .ok (.getfield 17, 3) := by decide +kernel
theorem dX10_joinBehind_102 : decode cX10_joinBehind 102 = .ok (.iconst 1, 1) := by decide +kernel
theorem dX10_joinBehind_103 : decode cX10_joinBehind 103 = .ok (.isub, 1) := by decide +kernel
theorem dX10_joinBehind_104 : decode cX10_joinBehind 104 = .ok (.aload_n 3, 1) := by decide +kernel
theorem dX10_joinBehind_105 : decode cX10_joinBehind 105 = .ok (.aastore, 1) := by decide +kernel
theorem dX10_joinBehind_106 : decode cX10_joinBehind 106 = .ok (.aload_n 0, 1) := by decide +kernel
theorem dX10_joinBehind_107 : decode cX10_joinBehind 107 = .ok (.dup, 1) := by decide +kernel
theorem dX10_joinBehind_108 : decode cX10_joinBehind 108 = .ok (.getfield 17, 3) := by decide +kernel
theorem dX10_joinBehind_111 : decode cX10_joinBehind 111 = .ok (.iconst 1, 1) := by decide +kernel
theorem dX10_joinBehind_112 : decode cX10_joinBehind 112 = .ok (.isub, 1) := by decide +kernel
theorem dX10_joinBehind_113 : decode cX10_joinBehind 113 = .ok (.putfield 17, 3) := by decide +kernel
theorem dX10_joinBehind_116 : decode cX10_joinBehind 116 = .ok (.return_, 1) := by decide +kernel
theorem dX10_markedFrom_0 : decode cX10_markedFrom 0 = .ok (.iconst 0, 1) := by decide +kernel
theorem dX10_markedFrom_1 : decode cX10_markedFrom 1 = .ok (.istore_n 3, 1) := by decide +kernel
theorem dX10_markedFrom_2 : decode cX10_markedFrom 2 = .ok (.iload_n 1, 1) := by decide +kernel
theorem dX10_markedFrom_3 : decode cX10_markedFrom 3 = .ok (.istore 4, 2) := by decide +kernel
theorem dX10_markedFrom_5 : decode cX10_markedFrom 5 = .ok (.iload 4, 2) := by decide +kernel
theorem dX10_markedFrom_7 : decode cX10_markedFrom 7 = .ok (.iload_n 2, 1) := by decide +kernel
theorem dX10_markedFrom_8 : decode cX10_markedFrom 8 = .ok (.if_icmp .gt 33, 3) := by decide +kernel
theorem dX10_markedFrom_11 : decode cX10_markedFrom 11 = .ok (.iload 4, 2) := by decide +kernel
theorem dX10_markedFrom_13 : decode cX10_markedFrom 13 = .ok (.aload_n 0, 1) := by decide +kernel
theorem dX10_markedFrom_14 : decode cX10_markedFrom 14 = .ok (.getfield 17, 3) := by decide +kernel
theorem dX10_markedFrom_17 : decode cX10_markedFrom 17 = .ok (.if_icmp .ge 24, 3) := by decide +kernel
theorem dX10_markedFrom_20 : decode cX10_markedFrom 20 = .ok (.aload_n 0, 1) := by decide +kernel
theorem dX10_markedFrom_21 : decode cX10_markedFrom 21 = .ok (.iload 4, 2) := by decide +kernel
theorem dX10_markedFrom_23 : decode cX10_markedFrom 23 = .ok (.invokevirtual 39, 3) := by decide +kernel
theorem dX10_markedFrom_26 : decode cX10_markedFrom 26 = .ok (.getfield 31, 3) := by decide +kernel
theorem dX10_markedFrom_29 : decode cX10_markedFrom 29 = .ok (.ifCond .eq 6, 3) := by decide +kernel
theorem dX10_markedFrom_32 : decode cX10_markedFrom 32 = .ok (.iinc 3 1, 3) := by decide +kernel
theorem dX10_markedFrom_35 : decode cX10_markedFrom 35 = .ok (.iinc 4 1, 3) := by decide +kernel
theorem dX10_markedFrom_38 : decode cX10_markedFrom 38 = .ok (.goto (-33), 3) := by decide +kernel
theorem dX10_markedFrom_41 : decode cX10_markedFrom 41 = .ok (.iload_n 3, 1) := by decide +kernel
theorem dX10_markedFrom_42 : decode cX10_markedFrom 42 = .ok (.ireturn, 1) := by decide +kernel
theorem dX11_init_0 : decode cX11_init 0 = .ok (.aload_n 0, 1) := by decide +kernel
theorem dX11_init_1 : decode cX11_init 1 = .ok (.invokespecial 3, 3) := by decide +kernel
theorem dX11_init_4 : decode cX11_init 4 = .ok (.aload_n 0, 1) := by decide +kernel
theorem dX11_init_5 : decode cX11_init 5 = .ok (.new 9, 3) := by decide +kernel
theorem dX11_init_8 : decode cX11_init 8 = .ok (.dup, 1) := by decide +kernel
theorem dX11_init_9 : decode cX11_init 9 = .ok (.iconst 0, 1) := by decide +kernel
theorem dX11_init_10 : decode cX11_init 10 = .ok (.iload_n 1, 1) := by decide +kernel
theorem dX11_init_11 : decode cX11_init 11 = .ok (.iload_n 2, 1) := by decide +kernel
theorem dX11_init_12 : decode cX11_init 12 = .ok (.invokespecial 11, 3) := by decide +kernel
theorem dX11_init_15 : decode cX11_init 15 = .ok (.putfield 14, 3) := by decide +kernel
theorem dX11_init_18 : decode cX11_init 18 = .ok (.aload_n 0, 1) := by decide +kernel
theorem dX11_init_19 : decode cX11_init 19 = .ok (.lload_n 3, 1) := by decide +kernel
theorem dX11_init_20 : decode cX11_init 20 = .ok (.putfield 20, 3) := by decide +kernel
theorem dX11_init_23 : decode cX11_init 23 = .ok (.return_, 1) := by decide +kernel
theorem dX11_isText_0 : decode cX11_isText 0 = .ok (.lload_n 0, 1) := by decide +kernel
theorem dX11_isText_1 : decode cX11_isText 1 = .ok (.lstore_n 2, 1) := by decide +kernel
theorem dX11_isText_2 : decode cX11_isText 2 = .ok (.iconst 0, 1) := by decide +kernel
theorem dX11_isText_3 : decode cX11_isText 3 = .ok (.istore 4, 2) := by decide +kernel
theorem dX11_isText_5 : decode cX11_isText 5 = .ok (.iload 4, 2) := by decide +kernel
theorem dX11_isText_7 : decode cX11_isText 7 = .ok (.bipush 8, 2) := by decide +kernel
theorem dX11_isText_9 : decode cX11_isText 9 = .ok (.if_icmp .ge 47, 3) := by decide +kernel
theorem dX11_isText_12 : decode cX11_isText 12 = .ok (.lload_n 2, 1) := by decide +kernel
theorem dX11_isText_13 : decode cX11_isText 13 = .ok (.lconst 0, 1) := by decide +kernel
theorem dX11_isText_14 : decode cX11_isText 14 = .ok (.lcmp, 1) := by decide +kernel
theorem dX11_isText_15 : decode cX11_isText 15 = .ok (.ifCond .eq 41, 3) := by decide +kernel
theorem dX11_isText_18 : decode cX11_isText 18 = .ok (.lload_n 2, 1) := by decide +kernel
theorem dX11_isText_19 : decode cX11_isText 19 = .ok (.ldc2_w 24, 3) := by decide +kernel
theorem dX11_isText_22 : decode cX11_isText 22 = .ok (.land, 1) := by decide +kernel
theorem dX11_isText_23 : decode cX11_isText 23 = .ok (.lstore 5, 2) := by decide +kernel
theorem dX11_isText_25 : decode cX11_isText 25 = .ok (.lload 5, 2) := by decide +kernel
theorem dX11_isText_27 : decode cX11_isText 27 = .ok (.ldc2_w 26, 3) := by decide +kernel
theorem dX11_isText_30 : decode cX11_isText 30 = .ok (.lcmp, 1) := by decide +kernel
theorem dX11_isText_31 : decode cX11_isText 31 = .ok (.ifCond .lt 12, 3) := by decide +kernel
theorem dX11_isText_34 : decode cX11_isText 34 = .ok (.lload 5, 2) := by decide +kernel
theorem dX11_isText_36 : decode cX11_isText 36 = .ok (.ldc2_w 28, 3) := by decide +kernel
theorem dX11_isText_39 : decode cX11_isText 39 = .ok (.lcmp, 1) := by decide +kernel
theorem dX11_isText_40 : decode cX11_isText 40 = .ok (.ifCond .le 5, 3) := by decide +kernel
theorem dX11_isText_43 : decode cX11_isText 43 = .ok (.iconst 0, 1) := by decide +kernel
theorem dX11_isText_44 : decode cX11_isText 44 = .ok (.ireturn, 1) := by decide +kernel
theorem dX11_isText_45 : decode cX11_isText 45 = .ok (.lload_n 2, 1) := by decide +kernel
theorem dX11_isText_46 : decode cX11_isText 46 = .ok (.bipush 8, 2) := by decide +kernel
theorem dX11_isText_48 : decode cX11_isText 48 = .ok (.lushr, 1) := by decide +kernel
theorem dX11_isText_49 : decode cX11_isText 49 = .ok (.lstore_n 2, 1) := by decide +kernel
theorem dX11_isText_50 : decode cX11_isText 50 = .ok (.iinc 4 1, 3) := by decide +kernel
theorem dX11_isText_53 : decode cX11_isText 53 = .ok (.goto (-48), 3) := by decide +kernel
theorem dX11_isText_56 : decode cX11_isText 56 = .ok (.lload_n 0, 1) := by decide +kernel
theorem dX11_isText_57 : decode cX11_isText 57 = .ok (.lconst 0, 1) := by decide +kernel
theorem dX11_isText_58 : decode cX11_isText 58 = .ok (.lcmp, 1) := by decide +kernel
theorem dX11_isText_59 : decode cX11_isText 59 = .ok (.ifCond .eq 7, 3) := by decide +kernel
theorem dX11_isText_62 : decode cX11_isText 62 = .ok (.iconst 1, 1) := by decide +kernel
theorem dX11_isText_63 : decode cX11_isText 63 = .ok (.goto 4, 3) := by decide +kernel
theorem dX11_isText_66 : decode cX11_isText 66 = .ok (.iconst 0, 1) := by decide +kernel
theorem dX11_isText_67 : decode cX11_isText 67 = .ok (.ireturn, 1) := by decide +kernel
theorem dX11_signAt_0 : decode cX11_signAt 0 = .ok (.aload_n 0, 1) := by decide +kernel
theorem dX11_signAt_1 : decode cX11_signAt 1 = .ok (.getfield 20, 3) := by decide +kernel
theorem dX11_signAt_4 : decode cX11_signAt 4 = .ok (.iload_n 1, 1) := by decide +kernel
theorem dX11_signAt_5 : decode cX11_signAt 5 = .ok (.bipush 8, 2) := by decide +kernel
theorem dX11_signAt_7 : decode cX11_signAt 7 = .ok (.imul, 1) := by decide +kernel
theorem dX11_signAt_8 : decode cX11_signAt 8 = .ok (.lushr, 1) := by decide +kernel
theorem dX11_signAt_9 : decode cX11_signAt 9 = .ok (.l2i, 1) := by decide +kernel
theorem dX11_signAt_10 : decode cX11_signAt 10 = .ok (.sipush 255, 3) := by decide +kernel
theorem dX11_signAt_13 : decode cX11_signAt 13 = .ok (.iand, 1) := by decide +kernel
theorem dX11_signAt_14 : decode cX11_signAt 14 = .ok (.ireturn, 1) := by decide +kernel
theorem dX12_init_0 : decode cX12_init 0 = .ok (.aload_n 0, 1) := by decide +kernel
theorem dX12_init_1 : decode cX12_init 1 = .ok (.invokespecial 3, 3) := by decide +kernel
theorem dX12_init_4 : decode cX12_init 4 = .ok (.aload_n 0, 1) := by decide +kernel
theorem dX12_init_5 : decode cX12_init 5 = .ok (.new 9, 3) := by decide +kernel
theorem dX12_init_8 : decode cX12_init 8 = .ok (.dup, 1) := by decide +kernel
theorem dX12_init_9 : decode cX12_init 9 = .ok (.invokespecial 11, 3) := by decide +kernel
theorem dX12_init_12 : decode cX12_init 12 = .ok (.putfield 12, 3) := by decide +kernel
theorem dX12_init_15 : decode cX12_init 15 = .ok (.aload_n 0, 1) := by decide +kernel
theorem dX12_init_16 : decode cX12_init 16 = .ok (.iconst 4, 1) := by decide +kernel
theorem dX12_init_17 : decode cX12_init 17 = .ok (.anewarray 16, 3) := by decide +kernel
theorem dX12_init_20 : decode cX12_init 20 = .ok (.putfield 18, 3) := by decide +kernel
theorem dX12_init_23 : decode cX12_init 23 = .ok (.aload_n 0, 1) := by decide +kernel
theorem dX12_init_24 : decode cX12_init 24 = .ok (.new 22, 3) := by decide +kernel
theorem dX12_init_27 : decode cX12_init 27 = .ok (.dup, 1) := by decide +kernel
theorem dX12_init_28 : decode cX12_init 28 = .ok (.invokespecial 24, 3) := by decide +kernel
theorem dX12_init_31 : decode cX12_init 31 = .ok (.putfield 25, 3) := by decide +kernel
theorem dX12_init_34 : decode cX12_init 34 = .ok (.aload_n 0, 1) := by decide +kernel
theorem dX12_init_35 : decode cX12_init 35 = .ok (.bipush 50, 2) := by decide +kernel
theorem dX12_init_37 : decode cX12_init 37 = .ok (.newarray .int, 2) := by decide +kernel
theorem dX12_init_39 : decode cX12_init 39 = .ok (.putfield 29, 3) := by decide +kernel
theorem dX12_init_42 : decode cX12_init 42 = .ok (.aload_n 0, 1) := by decide +kernel
theorem dX12_init_43 : decode cX12_init 43 = .ok (.bipush 50, 2) := by decide +kernel
theorem dX12_init_45 : decode cX12_init 45 = .ok (.newarray .int, 2) := by decide +kernel
theorem dX12_init_47 : decode cX12_init 47 = .ok (.putfield 33, 3) := by decide +kernel
theorem dX12_init_50 : decode cX12_init 50 = .ok (.aload_n 0, 1) := by decide +kernel
theorem dX12_init_51 : decode cX12_init 51 = .ok (.bipush 10, 2) := by decide +kernel
theorem dX12_init_53 : decode cX12_init 53 = .ok (.newarray .int, 2) := by decide +kernel
theorem dX12_init_55 : decode cX12_init 55 = .ok (.putfield 36, 3) := by decide +kernel
theorem dX12_init_58 : decode cX12_init 58 = .ok (.aload_n 0, 1) := by decide +kernel
theorem dX12_init_59 : decode cX12_init 59 = .ok (.bipush 10, 2) := by decide +kernel
theorem dX12_init_61 : decode cX12_init 61 = .ok (.newarray .int, 2) := by decide +kernel
theorem dX12_init_63 : decode cX12_init 63 = .ok (.putfield 39, 3) := by decide +kernel
theorem dX12_init_66 : decode cX12_init 66 = .ok (.iconst 0, 1) := by decide +kernel
theorem dX12_init_67 : decode cX12_init 67 = .ok (.istore_n 1, 1) := by decide +kernel
theorem dX12_init_68 : decode cX12_init 68 = .ok (.iload_n 1, 1) := by decide +kernel
theorem dX12_init_69 : decode cX12_init 69 = .ok (.iconst 4, 1) := by decide +kernel
theorem dX12_init_70 : decode cX12_init 70 = .ok (.if_icmp .ge 26, 3) := by decide +kernel
theorem dX12_init_73 : decode cX12_init 73 = .ok (.aload_n 0, 1) := by decide +kernel
theorem dX12_init_74 : decode cX12_init 74 = .ok (.getfield 18, 3) := by decide +kernel
theorem dX12_init_77 : decode cX12_init 77 = .ok (.iload_n 1, 1) := by decide +kernel
theorem dX12_init_78 : decode cX12_init 78 = .ok (.new 16, 3) := by decide +kernel
theorem dX12_init_81 : decode cX12_init 81 = .ok (.dup, 1) := by decide +kernel
theorem dX12_init_82 : decode cX12_init 82 = .ok (.aload_n 0, 1) := by decide +kernel
theorem dX12_init_83 : decode cX12_init 83 = .ok (.getfield 12, 3) := by decide +kernel
theorem dX12_init_86 : decode cX12_init 86 = .ok (.invokespecial 42, 3) := by decide +kernel
theorem dX12_init_89 : decode cX12_init 89 = .ok (.aastore, 1) := by decide +kernel
theorem dX12_init_90 : decode cX12_init 90 = .ok (.iinc 1 1, 3) := by decide +kernel
theorem dX12_init_93 : decode cX12_init 93 = .ok (.goto (-25), 3) := by decide +kernel
theorem dX12_init_96 : decode cX12_init 96 = .ok (.return_, 1) := by decide +kernel
theorem dX12_lines_0 : decode cX12_lines 0 = .ok (.aload_n 0, 1) := by decide +kernel
theorem dX12_lines_1 : decode cX12_lines 1 = .ok (.getfield 12, 3) := by decide +kernel
theorem dX12_lines_4 : decode cX12_lines 4 = .ok (.getfield 45, 3) := by decide +kernel
theorem dX12_lines_7 : decode cX12_lines 7 = .ok (.ireturn, 1) := by decide +kernel
theorem dX12_length_0 : decode cX12_length 0 = .ok (.aload_n 0, 1) := by decide +kernel
theorem dX12_length_1 : decode cX12_length 1 = .ok (.iload_n 1, 1) := by decide +kernel
theorem dX12_length_2 : decode cX12_length 2 = .ok (.invokevirtual 49, 3) := by decide +kernel
theorem dX12_length_5 : decode cX12_length 5 = .ok (.getfield 53, 3) := by decide +kernel
theorem dX12_length_8 : decode cX12_length 8 = .ok (.ireturn, 1) := by decide +kernel
theorem dX12_sign_0 : decode cX12_sign 0 = .ok (.aload_n 0, 1) := by decide +kernel
theorem dX12_sign_1 : decode cX12_sign 1 = .ok (.iload_n 1, 1) := by decide +kernel
theorem dX12_sign_2 : decode cX12_sign 2 = .ok (.invokevirtual 49, 3) := by decide +kernel
theorem dX12_sign_5 : decode cX12_sign 5 = .ok (.astore_n 3, 1) := by decide +kernel
theorem dX12_sign_6 : decode cX12_sign 6 = .ok (.aload_n 0, 1) := by decide +kernel
theorem dX12_sign_7 : decode cX12_sign 7 = .ok (.iload_n 2, 1) := by decide +kernel
theorem dX12_sign_8 : decode cX12_sign 8 = .ok (.iconst 0, 1) := by decide +kernel
theorem dX12_sign_9 : decode cX12_sign 9 = .ok (.aload_n 3, 1) := by decide +kernel
theorem dX12_sign_10 : decode cX12_sign 10 = .ok (.getfield 53, 3) := by decide +kernel
theorem dX12_sign_13 : decode cX12_sign 13 = .ok (.iconst 1, 1) := by decide +kernel
theorem dX12_sign_14 : decode cX12_sign 14 = .ok (.isub, 1) := by decide +kernel
theorem dX12_sign_15 : decode cX12_sign 15 = .ok (.invokevirtual 58, 3) := by decide +kernel
theorem dX12_sign_18 : decode cX12_sign 18 = .ok (.aload_n 3, 1) := by decide +kernel
theorem dX12_sign_19 : decode cX12_sign 19 = .ok (.iload_n 2, 1) := by decide +kernel
theorem dX12_sign_20 : decode cX12_sign 20 = .ok (.invokevirtual 62, 3) := by decide +kernel
theorem dX12_sign_23 : decode cX12_sign 23 = .ok (.ireturn, 1) := by decide +kernel
theorem dX12_insert_0 : decode cX12_insert 0 = .ok (.aload_n 0, 1) := by decide +kernel
theorem dX12_insert_1 : decode cX12_insert 1 = .ok (.iload_n 1, 1) := by decide +kernel
theorem dX12_insert_2 : decode cX12_insert 2 = .ok (.invokevirtual 49, 3) := by decide +kernel
theorem dX12_insert_5 : decode cX12_insert 5 = .ok (.astore 4, 2) := by decide +kernel
theorem dX12_insert_7 : decode cX12_insert 7 = .ok (.aload_n 0, 1) := by decide +kernel
theorem dX12_insert_8 : decode cX12_insert 8 = .ok (.iload_n 2, 1) := by decide +kernel
theorem dX12_insert_9 : decode cX12_insert 9 = .ok (.iconst 0, 1) := by decide +kernel
theorem dX12_insert_10 : decode cX12_insert 10 = .ok (.aload 4, 2) := by decide +kernel
theorem dX12_insert_12 : decode cX12_insert 12 = .ok (.getfield 53, 3) := by decide +kernel
theorem dX12_insert_15 : decode cX12_insert 15 = .ok (.invokevirtual 58, 3) := by decide +kernel
theorem dX12_insert_18 : decode cX12_insert 18 = .ok (.aload_n 0, 1) := by decide +kernel
theorem dX12_insert_19 : decode cX12_insert 19 = .ok (.iload_n 3, 1) := by decide +kernel
theorem dX12_insert_20 : decode cX12_insert 20 = .ok (.invokevirtual 66, 3) := by decide +kernel
theorem dX12_insert_23 : decode cX12_insert 23 = .ok (.aload_n 0, 1) := by decide +kernel
theorem dX12_insert_24 : decode cX12_insert 24 = .ok (.aload 4, 2) := by decide +kernel
theorem dX12_insert_26 : decode cX12_insert 26 = .ok (.getfield 53, 3) := by decide +kernel
theorem dX12_insert_29 : decode cX12_insert 29 = .ok (.bipush 80, 2) := by decide +kernel
theorem dX12_insert_31 : decode cX12_insert 31 = .ok (.if_icmp .ge 7, 3) := by decide +kernel
theorem dX12_insert_34 : decode cX12_insert 34 = .ok (.iconst 1, 1) := by decide +kernel
theorem dX12_insert_35 : decode cX12_insert 35 = .ok (.goto 4, 3) := by decide +kernel
theorem dX12_insert_38 : decode cX12_insert 38 = .ok (.iconst 0, 1) := by decide +kernel
theorem dX12_insert_39 : decode cX12_insert 39 = .ok (.invokevirtual 70, 3) := by decide +kernel
theorem dX12_insert_42 : decode cX12_insert 42 = .ok (.aload_n 0, 1) := by decide +kernel
theorem dX12_insert_43 : decode cX12_insert 43 = .ok (.iload_n 1, 1) := by decide +kernel
theorem dX12_insert_44 : decode cX12_insert 44 = .ok (.iload_n 2, 1) := by decide +kernel
theorem dX12_insert_45 : decode cX12_insert 45 = .ok (.iload_n 3, 1) := by decide +kernel
theorem dX12_insert_46 : decode cX12_insert 46 = .ok (.invokevirtual 74, 3) := by decide +kernel
theorem dX12_insert_49 : decode cX12_insert 49 = .ok (.aload 4, 2) := by decide +kernel
theorem dX12_insert_51 : decode cX12_insert 51 = .ok (.getfield 53, 3) := by decide +kernel
theorem dX12_insert_54 : decode cX12_insert 54 = .ok (.ireturn, 1) := by decide +kernel
theorem dX12_remove_0 : decode cX12_remove 0 = .ok (.aload_n 0, 1) := by decide +kernel
theorem dX12_remove_1 : decode cX12_remove 1 = .ok (.iload_n 1, 1) := by decide +kernel
theorem dX12_remove_2 : decode cX12_remove 2 = .ok (.invokevirtual 49, 3) := by decide +kernel
theorem dX12_remove_5 : decode cX12_remove 5 = .ok (.astore 4, 2) := by decide +kernel
theorem dX12_remove_7 : decode cX12_remove 7 = .ok (.aload_n 0, 1) := by decide +kernel
theorem dX12_remove_8 : decode cX12_remove 8 = .ok (.iload_n 3, 1) := by decide +kernel
theorem dX12_remove_9 : decode cX12_remove 9 = .ok (.iconst 1, 1) := by decide +kernel
theorem dX12_remove_10 : decode cX12_remove 10 = .ok (.aload 4, 2) := by decide +kernel
theorem dX12_remove_12 : decode cX12_remove 12 = .ok (.getfield 53, 3) := by decide +kernel
theorem dX12_remove_15 : decode cX12_remove 15 = .ok (.invokevirtual 58, 3) := by decide +kernel
theorem dX12_remove_18 : decode cX12_remove 18 = .ok (.aload_n 0, 1) := by decide +kernel
theorem dX12_remove_19 : decode cX12_remove 19 = .ok (.iload_n 2, 1) := by decide +kernel
theorem dX12_remove_20 : decode cX12_remove 20 = .ok (.iconst 0, 1) := by decide +kernel
theorem dX12_remove_21 : decode cX12_remove 21 = .ok (.iload_n 3, 1) := by decide +kernel
theorem dX12_remove_22 : decode cX12_remove 22 = .ok (.iconst 1, 1) := by decide +kernel
theorem dX12_remove_23 : decode cX12_remove 23 = .ok (.isub, 1) := by decide +kernel
theorem dX12_remove_24 : decode cX12_remove 24 = .ok (.invokevirtual 58, 3) := by decide +kernel
theorem dX12_remove_27 : decode cX12_remove 27 = .ok (.aload 4, 2) := by decide +kernel
theorem dX12_remove_29 : decode cX12_remove 29 = .ok (.iload_n 2, 1) := by decide +kernel
theorem dX12_remove_30 : decode cX12_remove 30 = .ok (.iload_n 3, 1) := by decide +kernel
theorem dX12_remove_31 : decode cX12_remove 31 = .ok (.invokevirtual 77, 3) := by decide +kernel
theorem dX12_remove_34 : decode cX12_remove 34 = .ok (.aload_n 0, 1) := by decide +kernel
theorem dX12_remove_35 : decode cX12_remove 35 = .ok (.getfield 18, 3) := by decide +kernel
theorem dX12_remove_38 : decode cX12_remove 38 = .ok (.astore 5, 2) := by decide +kernel
theorem dX12_remove_40 : decode cX12_remove 40 = .ok (.aload 5, 2) := by decide +kernel
theorem dX12_remove_42 : decode cX12_remove 42 = .ok (.arraylength, 1) := by decide +kernel
theorem dX12_remove_43 : decode cX12_remove 43 = .ok (.istore 6, 2) := by decide +kernel
theorem dX12_remove_45 : decode cX12_remove 45 = .ok (.iconst 0, 1) := by decide +kernel
theorem dX12_remove_46 : decode cX12_remove 46 = .ok (.istore 7, 2) := by decide +kernel
theorem dX12_remove_48 : decode cX12_remove 48 = .ok (.iload 7, 2) := by decide +kernel
theorem dX12_remove_50 : decode cX12_remove 50 = .ok (.iload 6, 2) := by decide +kernel
theorem dX12_remove_52 : decode cX12_remove 52 = .ok (.if_icmp .ge 24, 3) := by decide +kernel
theorem dX12_remove_55 : decode cX12_remove 55 = .ok (.aload 5, 2) := by decide +kernel
theorem dX12_remove_57 : decode cX12_remove 57 = .ok (.iload 7, 2) := by decide +kernel
theorem dX12_remove_59 : decode cX12_remove 59 = .ok (.aaload, 1) := by decide +kernel
theorem dX12_remove_60 : decode cX12_remove 60 = .ok (.astore 8, 2) := by decide +kernel
theorem dX12_remove_62 : decode cX12_remove 62 = .ok (.aload 8, 2) := by decide +kernel
theorem dX12_remove_64 : decode cX12_remove 64 = .ok (.iload_n 1, 1) := by decide +kernel
theorem dX12_remove_65 : decode cX12_remove 65 = .ok (.iload_n 2, 1) := by decide +kernel
theorem dX12_remove_66 : decode cX12_remove 66 = .ok (.iload_n 3, 1) := by decide +kernel
theorem dX12_remove_67 : decode cX12_remove 67 = .ok (.invokevirtual 81, 3) := by decide +kernel
theorem dX12_remove_70 : decode cX12_remove 70 = .ok (.iinc 7 1, 3) := by decide +kernel
theorem dX12_remove_73 : decode cX12_remove 73 = .ok (.goto (-25), 3) := by decide +kernel
theorem dX12_remove_76 : decode cX12_remove 76 = .ok (.aload 4, 2) := by decide +kernel
theorem dX12_remove_78 : decode cX12_remove 78 = .ok (.getfield 53, 3) := by decide +kernel
theorem dX12_remove_81 : decode cX12_remove 81 = .ok (.ireturn, 1) := by decide +kernel
theorem dX12_breakLine_0 : decode cX12_breakLine 0 = .ok (.aload_n 0, 1) := by decide +kernel
theorem dX12_breakLine_1 : decode cX12_breakLine 1 = .ok (.iload_n 2, 1) := by decide +kernel
theorem dX12_breakLine_2 : decode cX12_breakLine 2 = .ok (.iconst 0, 1) := by decide +kernel
theorem dX12_breakLine_3 : decode cX12_breakLine 3 = .ok (.aload_n 0, 1) := by decide +kernel
theorem dX12_breakLine_4 : decode cX12_breakLine 4 = .ok (.iload_n 1, 1) := by decide +kernel
theorem dX12_breakLine_5 : decode cX12_breakLine 5 = .ok (.invokevirtual 49, 3) := by decide +kernel
theorem dX12_breakLine_8 : decode cX12_breakLine 8 = .ok (.getfield 53, 3) := by decide +kernel
theorem dX12_breakLine_11 : decode cX12_breakLine 11 = .ok (.invokevirtual 58, 3) := by decide +kernel
theorem dX12_breakLine_14 : decode cX12_breakLine 14 = .ok (.aload_n 0, 1) := by decide +kernel
theorem dX12_breakLine_15 : decode cX12_breakLine 15 = .ok (.aload_n 0, 1) := by decide +kernel
theorem dX12_breakLine_16 : decode cX12_breakLine 16 = .ok (.getfield 12, 3) := by decide +kernel
theorem dX12_breakLine_19 : decode cX12_breakLine 19 = .ok (.getfield 45, 3) := by decide +kernel
theorem dX12_breakLine_22 : decode cX12_breakLine 22 = .ok (.bipush 60, 2) := by decide +kernel
theorem dX12_breakLine_24 : decode cX12_breakLine 24 = .ok (.if_icmp .ge 7, 3) := by decide +kernel
theorem dX12_breakLine_27 : decode cX12_breakLine 27 = .ok (.iconst 1, 1) := by decide +kernel
theorem dX12_breakLine_28 : decode cX12_breakLine 28 = .ok (.goto 4, 3) := by decide +kernel
theorem dX12_breakLine_31 : decode cX12_breakLine 31 = .ok (.iconst 0, 1) := by decide +kernel
theorem dX12_breakLine_32 : decode cX12_breakLine 32 = .ok (.invokevirtual 70, 3) := by decide +kernel
theorem dX12_breakLine_35 : decode cX12_breakLine 35 = .ok (.aload_n 0, 1) := by decide +kernel
theorem dX12_breakLine_36 : decode cX12_breakLine 36 = .ok (.getfield 12, 3) := by decide +kernel
theorem dX12_breakLine_39 : decode cX12_breakLine 39 = .ok (.iload_n 1, 1) := by decide +kernel
theorem dX12_breakLine_40 : decode cX12_breakLine 40 = .ok (.iload_n 2, 1) := by decide +kernel
theorem dX12_breakLine_41 : decode cX12_breakLine 41 = .ok (.invokevirtual 84, 3) := by decide +kernel
theorem dX12_breakLine_44 : decode cX12_breakLine 44 = .ok (.aload_n 0, 1) := by decide +kernel
theorem dX12_breakLine_45 : decode cX12_breakLine 45 = .ok (.getfield 18, 3) := by decide +kernel
theorem dX12_breakLine_48 : decode cX12_breakLine 48 = .ok (.astore_n 3, 1) := by decide +kernel
theorem dX12_breakLine_49 : decode cX12_breakLine 49 = .ok (.aload_n 3, 1) := by decide +kernel
theorem dX12_breakLine_50 : decode cX12_breakLine 50 = .ok (.arraylength, 1) := by decide +kernel
theorem dX12_breakLine_51 : decode cX12_breakLine 51 = .ok (.istore 4, 2) := by decide +kernel
theorem dX12_breakLine_53 : decode cX12_breakLine 53 = .ok (.iconst 0, 1) := by decide +kernel
theorem dX12_breakLine_54 : decode cX12_breakLine 54 = .ok (.istore 5, 2) := by decide +kernel
theorem dX12_breakLine_56 : decode cX12_breakLine 56 = .ok (.iload 5, 2) := by decide +kernel
theorem dX12_breakLine_58 : decode cX12_breakLine 58 = .ok (.iload 4, 2) := by decide +kernel
theorem dX12_breakLine_60 : decode cX12_breakLine 60 = .ok (.if_icmp .ge 22, 3) := by decide +kernel
theorem dX12_breakLine_63 : decode cX12_breakLine 63 = .ok (.aload_n 3, 1) := by decide +kernel
theorem dX12_breakLine_64 : decode cX12_breakLine 64 = .ok (.iload 5, 2) := by decide +kernel
theorem dX12_breakLine_66 : decode cX12_breakLine 66 = .ok (.aaload, 1) := by decide +kernel
theorem dX12_breakLine_67 : decode cX12_breakLine 67 = .ok (.astore 6, 2) := by decide +kernel
theorem dX12_breakLine_69 : decode cX12_breakLine 69 = .ok (.aload 6, 2) := by decide +kernel
theorem dX12_breakLine_71 : decode cX12_breakLine 71 = .ok (.iload_n 1, 1) := by decide +kernel
theorem dX12_breakLine_72 : decode cX12_breakLine 72 = .ok (.iload_n 2, 1) := by decide +kernel
theorem dX12_breakLine_73 : decode cX12_breakLine 73 = .ok (.invokevirtual 87, 3) := by decide +kernel
theorem dX12_breakLine_76 : decode cX12_breakLine 76 = .ok (.iinc 5 1, 3) := by decide +kernel
theorem dX12_breakLine_79 : decode cX12_breakLine 79 = .ok (.goto (-23), 3) := by decide +kernel
theorem dX12_breakLine_82 : decode cX12_breakLine 82 = .ok (.aload_n 0, 1) := by decide +kernel
theorem dX12_breakLine_83 : decode cX12_breakLine 83 = .ok (.getfield 12, 3) := by decide +kernel
theorem dX12_breakLine_86 : decode cX12_breakLine 86 = .ok (.getfield 45, 3) := by decide +kernel
theorem dX12_breakLine_89 : decode cX12_breakLine 89 = .ok (.ireturn, 1) := by decide +kernel
theorem dX12_join_0 : decode cX12_join 0 = .ok (.aload_n 0, 1) := by decide +kernel
theorem dX12_join_1 : decode cX12_join 1 = .ok (.iload_n 1, 1) := by decide +kernel
theorem dX12_join_2 : decode cX12_join 2 = .ok (.invokevirtual 49, 3) := by decide +kernel
theorem dX12_join_5 : decode cX12_join 5 = .ok (.getfield 53, 3) := by decide +kernel
theorem dX12_join_8 : decode cX12_join 8 = .ok (.istore_n 2, 1) := by decide +kernel
theorem dX12_join_9 : decode cX12_join 9 = .ok (.iload_n 2, 1) := by decide +kernel
theorem dX12_join_10 : decode cX12_join 10 = .ok (.aload_n 0, 1) := by decide +kernel
theorem dX12_join_11 : decode cX12_join 11 = .ok (.iload_n 1, 1) := by decide +kernel
theorem dX12_join_12 : decode cX12_join 12 = .ok (.iconst 1, 1) := by decide +kernel
theorem dX12_join_13 : decode cX12_join 13 = .ok (.iadd, 1) := by decide +kernel
theorem dX12_join_14 : decode cX12_join 14 = .ok (.invokevirtual 49, 3) := by decide +kernel
theorem dX12_join_17 : decode cX12_join 17 = .ok (.getfield 53, 3) := by decide +kernel
theorem dX12_join_20 : decode cX12_join 20 = .ok (.iadd, 1) := by decide +kernel
theorem dX12_join_21 : decode cX12_join 21 = .ok (.istore_n 3, 1) := by decide +kernel
theorem dX12_join_22 : decode cX12_join 22 = .ok (.aload_n 0, 1) := by decide +kernel
theorem dX12_join_23 : decode cX12_join 23 = .ok (.iload_n 3, 1) := by decide +kernel
theorem dX12_join_24 : decode cX12_join 24 = .ok (.bipush 80, 2) := by decide +kernel
theorem dX12_join_26 : decode cX12_join 26 = .ok (.if_icmp .gt 7, 3) := by decide +kernel
theorem dX12_join_29 : decode cX12_join 29 = .ok (.iconst 1, 1) := by decide +kernel
theorem dX12_join_30 : decode cX12_join 30 = .ok (.goto 4, 3) := by decide +kernel
theorem dX12_join_33 : decode cX12_join 33 = .ok (.iconst 0, 1) := by decide +kernel
theorem dX12_join_34 : decode cX12_join 34 = .ok (.invokevirtual 70, 3) := by decide +kernel
theorem dX12_join_37 : decode cX12_join 37 = .ok (.aload_n 0, 1) := by decide +kernel
theorem dX12_join_38 : decode cX12_join 38 = .ok (.getfield 12, 3) := by decide +kernel
theorem dX12_join_41 : decode cX12_join 41 = .ok (.iload_n 1, 1) := by decide +kernel
theorem dX12_join_42 : decode cX12_join 42 = .ok (.invokevirtual 90, 3) := by decide +kernel
theorem dX12_join_45 : decode cX12_join 45 = .ok (.aload_n 0, 1) := by decide +kernel
theorem dX12_join_46 : decode cX12_join 46 = .ok (.getfield 18, 3) := by decide +kernel
theorem dX12_join_49 : decode cX12_join 49 = .ok (.astore 4, 2) := by decide +kernel
theorem dX12_join_51 : decode cX12_join 51 = .ok (.aload 4, 2) := by decide +kernel
theorem dX12_join_53 : decode cX12_join 53 = .ok (.arraylength, 1) := by decide +kernel
theorem dX12_join_54 : decode cX12_join 54 = .ok (.istore 5, 2) := by decide +kernel
theorem dX12_join_56 : decode cX12_join 56 = .ok (.iconst 0, 1) := by decide +kernel
theorem dX12_join_57 : decode cX12_join 57 = .ok (.istore 6, 2) := by decide +kernel
theorem dX12_join_59 : decode cX12_join 59 = .ok (.iload 6, 2) := by decide +kernel
theorem dX12_join_61 : decode cX12_join 61 = .ok (.iload 5, 2) := by decide +kernel
theorem dX12_join_63 : decode cX12_join 63 = .ok (.if_icmp .ge 23, 3) := by decide +kernel
theorem dX12_join_66 : decode cX12_join 66 = .ok (.aload 4, 2) := by decide +kernel
theorem dX12_join_68 : decode cX12_join 68 = .ok (.iload 6, 2) := by decide +kernel
theorem dX12_join_70 : decode cX12_join 70 = .ok (.aaload, 1) := by decide +kernel
theorem dX12_join_71 : decode cX12_join 71 = .ok (.astore 7, 2) := by decide +kernel
theorem dX12_join_73 : decode cX12_join 73 = .ok (.aload 7, 2) := by decide +kernel
theorem dX12_join_75 : decode cX12_join 75 = .ok (.iload_n 1, 1) := by decide +kernel
theorem dX12_join_76 : decode cX12_join 76 = .ok (.iload_n 2, 1) := by decide +kernel
theorem dX12_join_77 : decode cX12_join 77 = .ok (.invokevirtual 93, 3) := by decide +kernel
theorem dX12_join_80 : decode cX12_join 80 = .ok (.iinc 6 1, 3) := by decide +kernel
theorem dX12_join_83 : decode cX12_join 83 = .ok (.goto (-24), 3) := by decide +kernel
theorem dX12_join_86 : decode cX12_join 86 = .ok (.iload_n 3, 1) := by decide +kernel
theorem dX12_join_87 : decode cX12_join 87 = .ok (.ireturn, 1) := by decide +kernel
theorem dX12_shape_0 : decode cX12_shape 0 = .ok (.aload_n 0, 1) := by decide +kernel
theorem dX12_shape_1 : decode cX12_shape 1 = .ok (.iload_n 1, 1) := by decide +kernel
theorem dX12_shape_2 : decode cX12_shape 2 = .ok (.invokevirtual 100, 3) := by decide +kernel
theorem dX12_shape_5 : decode cX12_shape 5 = .ok (.astore 5, 2) := by decide +kernel
theorem dX12_shape_7 : decode cX12_shape 7 = .ok (.aload_n 0, 1) := by decide +kernel
theorem dX12_shape_8 : decode cX12_shape 8 = .ok (.iload_n 2, 1) := by decide +kernel
theorem dX12_shape_9 : decode cX12_shape 9 = .ok (.bipush 10, 2) := by decide +kernel
theorem dX12_shape_11 : decode cX12_shape 11 = .ok (.bipush 40, 2) := by decide +kernel
theorem dX12_shape_13 : decode cX12_shape 13 = .ok (.invokevirtual 58, 3) := by decide +kernel
theorem dX12_shape_16 : decode cX12_shape 16 = .ok (.aload_n 0, 1) := by decide +kernel
theorem dX12_shape_17 : decode cX12_shape 17 = .ok (.iload_n 3, 1) := by decide +kernel
theorem dX12_shape_18 : decode cX12_shape 18 = .ok (.iconst 0, 1) := by decide +kernel
theorem dX12_shape_19 : decode cX12_shape 19 = .ok (.iconst 4, 1) := by decide +kernel
theorem dX12_shape_20 : decode cX12_shape 20 = .ok (.invokevirtual 58, 3) := by decide +kernel
theorem dX12_shape_23 : decode cX12_shape 23 = .ok (.aload_n 0, 1) := by decide +kernel
theorem dX12_shape_24 : decode cX12_shape 24 = .ok (.iload 4, 2) := by decide +kernel
theorem dX12_shape_26 : decode cX12_shape 26 = .ok (.iconst 0, 1) := by decide +kernel
theorem dX12_shape_27 : decode cX12_shape 27 = .ok (.iconst 3, 1) := by decide +kernel
theorem dX12_shape_28 : decode cX12_shape 28 = .ok (.invokevirtual 58, 3) := by decide +kernel
theorem dX12_shape_31 : decode cX12_shape 31 = .ok (.aload 5, 2) := by decide +kernel
theorem dX12_shape_33 : decode cX12_shape 33 = .ok (.iload_n 2, 1) := by decide +kernel
theorem dX12_shape_34 : decode cX12_shape 34 = .ok (.iload_n 3, 1) := by decide +kernel
theorem dX12_shape_35 : decode cX12_shape 35 = .ok (.iload 4, 2) := by decide +kernel
theorem dX12_shape_37 : decode cX12_shape 37 = .ok (.invokevirtual 104, 3) := by decide +kernel
theorem dX12_shape_40 : decode cX12_shape 40 = .ok (.return_, 1) := by decide +kernel
theorem dX12_hide_0 : decode cX12_hide 0 = .ok (.aload_n 0, 1) := by decide +kernel
theorem dX12_hide_1 : decode cX12_hide 1 = .ok (.iload_n 1, 1) := by decide +kernel
theorem dX12_hide_2 : decode cX12_hide 2 = .ok (.invokevirtual 100, 3) := by decide +kernel
theorem dX12_hide_5 : decode cX12_hide 5 = .ok (.astore 5, 2) := by decide +kernel
theorem dX12_hide_7 : decode cX12_hide 7 = .ok (.aload_n 0, 1) := by decide +kernel
theorem dX12_hide_8 : decode cX12_hide 8 = .ok (.iload 4, 2) := by decide +kernel
theorem dX12_hide_10 : decode cX12_hide 10 = .ok (.iconst 1, 1) := by decide +kernel
theorem dX12_hide_11 : decode cX12_hide 11 = .ok (.aload_n 0, 1) := by decide +kernel
theorem dX12_hide_12 : decode cX12_hide 12 = .ok (.iload_n 2, 1) := by decide +kernel
theorem dX12_hide_13 : decode cX12_hide 13 = .ok (.invokevirtual 49, 3) := by decide +kernel
theorem dX12_hide_16 : decode cX12_hide 16 = .ok (.getfield 53, 3) := by decide +kernel
theorem dX12_hide_19 : decode cX12_hide 19 = .ok (.invokevirtual 58, 3) := by decide +kernel
theorem dX12_hide_22 : decode cX12_hide 22 = .ok (.aload_n 0, 1) := by decide +kernel
theorem dX12_hide_23 : decode cX12_hide 23 = .ok (.iload_n 3, 1) := by decide +kernel
theorem dX12_hide_24 : decode cX12_hide 24 = .ok (.iconst 0, 1) := by decide +kernel
theorem dX12_hide_25 : decode cX12_hide 25 = .ok (.iload 4, 2) := by decide +kernel
theorem dX12_hide_27 : decode cX12_hide 27 = .ok (.iconst 1, 1) := by decide +kernel
theorem dX12_hide_28 : decode cX12_hide 28 = .ok (.isub, 1) := by decide +kernel
theorem dX12_hide_29 : decode cX12_hide 29 = .ok (.invokevirtual 58, 3) := by decide +kernel
theorem dX12_hide_32 : decode cX12_hide 32 = .ok (.aload 5, 2) := by decide +kernel
theorem dX12_hide_34 : decode cX12_hide 34 = .ok (.getfield 107, 3) := by decide +kernel
theorem dX12_hide_37 : decode cX12_hide 37 = .ok (.getfield 111, 3) := by decide +kernel
theorem dX12_hide_40 : decode cX12_hide 40 = .ok (.astore 6, 2) := by decide +kernel
theorem dX12_hide_42 : decode cX12_hide 42 = .ok (.aload_n 0, 1) := by decide +kernel
theorem dX12_hide_43 : decode cX12_hide 43 = .ok (.aload 6, 2) := by decide +kernel
theorem dX12_hide_45 : decode cX12_hide 45 = .ok (.invokevirtual 117, 3) := by decide +kernel
theorem dX12_hide_48 : decode cX12_hide 48 = .ok (.bipush 6, 2) := by decide +kernel
theorem dX12_hide_50 : decode cX12_hide 50 = .ok (.if_icmp .ge 7, 3) := by decide +kernel
theorem dX12_hide_53 : decode cX12_hide 53 = .ok (.iconst 1, 1) := by decide +kernel
theorem dX12_hide_54 : decode cX12_hide 54 = .ok (.goto 4, 3) := by decide +kernel
theorem dX12_hide_57 : decode cX12_hide 57 = .ok (.iconst 0, 1) := by decide +kernel
theorem dX12_hide_58 : decode cX12_hide 58 = .ok (.invokevirtual 70, 3) := by decide +kernel
theorem dX12_hide_61 : decode cX12_hide 61 = .ok (.aload 6, 2) := by decide +kernel
theorem dX12_hide_63 : decode cX12_hide 63 = .ok (.new 122, 3) := by decide +kernel
theorem dX12_hide_66 : decode cX12_hide 66 = .ok (.dup, 1) := by decide +kernel
theorem dX12_hide_67 : decode cX12_hide 67 = .ok (.iload_n 2, 1) := by decide +kernel
theorem dX12_hide_68 : decode cX12_hide 68 = .ok (.iload_n 3, 1) := by decide +kernel
theorem dX12_hide_69 : decode cX12_hide 69 = .ok (.iload 4, 2) := by decide +kernel
theorem dX12_hide_71 : decode cX12_hide 71 = .ok (.invokespecial 124, 3) := by decide +kernel
theorem dX12_hide_74 : decode cX12_hide 74 = .ok (.invokevirtual 126, 3) := by decide +kernel
theorem dX12_hide_77 : decode cX12_hide 77 = .ok (.pop, 1) := by decide +kernel
theorem dX12_hide_78 : decode cX12_hide 78 = .ok (.aload 5, 2) := by decide +kernel
theorem dX12_hide_80 : decode cX12_hide 80 = .ok (.iload_n 2, 1) := by decide +kernel
theorem dX12_hide_81 : decode cX12_hide 81 = .ok (.invokevirtual 130, 3) := by decide +kernel
theorem dX12_hide_84 : decode cX12_hide 84 = .ok (.aload 6, 2) := by decide +kernel
theorem dX12_hide_86 : decode cX12_hide 86 = .ok (.invokevirtual 117, 3) := by decide +kernel
theorem dX12_hide_89 : decode cX12_hide 89 = .ok (.ireturn, 1) := by decide +kernel
theorem dX12_addVirtual_0 : decode cX12_addVirtual 0 = .ok (.aload_n 0, 1) := by decide +kernel
theorem dX12_addVirtual_1 : decode cX12_addVirtual 1 = .ok (.iload_n 1, 1) := by decide +kernel
theorem dX12_addVirtual_2 : decode cX12_addVirtual 2 = .ok (.invokevirtual 100, 3) := by decide +kernel
theorem dX12_addVirtual_5 : decode cX12_addVirtual 5 = .ok (.astore 6, 2) := by decide +kernel
theorem dX12_addVirtual_7 : decode cX12_addVirtual 7 = .ok (.aload_n 0, 1) := by decide +kernel
theorem dX12_addVirtual_8 : decode cX12_addVirtual 8 = .ok (.iload_n 3, 1) := by decide +kernel
theorem dX12_addVirtual_9 : decode cX12_addVirtual 9 = .ok (.iconst 0, 1) := by decide +kernel
theorem dX12_addVirtual_10 : decode cX12_addVirtual 10 = .ok (.aload_n 0, 1) := by decide +kernel
theorem dX12_addVirtual_11 : decode cX12_addVirtual 11 = .ok (.iload_n 2, 1) := by decide +kernel
theorem dX12_addVirtual_12 : decode cX12_addVirtual 12 = .ok (.invokevirtual 49, 3) := by decide +kernel
theorem dX12_addVirtual_15 : decode cX12_addVirtual 15 = .ok (.getfield 53, 3) := by decide +kernel
theorem dX12_addVirtual_18 : decode cX12_addVirtual 18 = .ok (.invokevirtual 58, 3) := by decide +kernel
theorem dX12_addVirtual_21 : decode cX12_addVirtual 21 = .ok (.lload 4, 2) := by decide +kernel
theorem dX12_addVirtual_23 : decode cX12_addVirtual 23 = .ok (.invokestatic 147, 3) := by decide +kernel
theorem dX12_addVirtual_26 : decode cX12_addVirtual 26 = .ok (.ifCond .ne 13, 3) := by decide +kernel
theorem dX12_addVirtual_29 : decode cX12_addVirtual 29 = .ok (.new 153, 3) := by decide +kernel
theorem dX12_addVirtual_32 : decode cX12_addVirtual 32 = .ok (.dup, 1) := by decide +kernel
theorem dX12_addVirtual_33 : decode cX12_addVirtual 33 = .ok (.ldc 155, 2) := by decide +kernel
theorem dX12_addVirtual_35 : decode cX12_addVirtual 35 = .ok (.invokespecial 157, 3) := by decide +kernel
theorem dX12_addVirtual_38 : decode cX12_addVirtual 38 = .ok (.athrow, 1) := by decide +kernel
theorem dX12_addVirtual_39 : decode cX12_addVirtual 39 = .ok (.aload 6, 2) := by decide +kernel
theorem dX12_addVirtual_41 : decode cX12_addVirtual 41 = .ok (.getfield 107, 3) := by decide +kernel
theorem dX12_addVirtual_44 : decode cX12_addVirtual 44 = .ok (.getfield 158, 3) := by decide +kernel
theorem dX12_addVirtual_47 : decode cX12_addVirtual 47 = .ok (.astore 7, 2) := by decide +kernel
theorem dX12_addVirtual_49 : decode cX12_addVirtual 49 = .ok (.aload_n 0, 1) := by decide +kernel
theorem dX12_addVirtual_50 : decode cX12_addVirtual 50 = .ok (.aload 7, 2) := by decide +kernel
theorem dX12_addVirtual_52 : decode cX12_addVirtual 52 = .ok (.invokevirtual 117, 3) := by decide +kernel
theorem dX12_addVirtual_55 : decode cX12_addVirtual 55 = .ok (.bipush 6, 2) := by decide +kernel
theorem dX12_addVirtual_57 : decode cX12_addVirtual 57 = .ok (.if_icmp .ge 7, 3) := by decide +kernel
theorem dX12_addVirtual_60 : decode cX12_addVirtual 60 = .ok (.iconst 1, 1) := by decide +kernel
theorem dX12_addVirtual_61 : decode cX12_addVirtual 61 = .ok (.goto 4, 3) := by decide +kernel
theorem dX12_addVirtual_64 : decode cX12_addVirtual 64 = .ok (.iconst 0, 1) := by decide +kernel
theorem dX12_addVirtual_65 : decode cX12_addVirtual 65 = .ok (.invokevirtual 70, 3) := by decide +kernel
theorem dX12_addVirtual_68 : decode cX12_addVirtual 68 = .ok (.aload 7, 2) := by decide +kernel
theorem dX12_addVirtual_70 : decode cX12_addVirtual 70 = .ok (.new 148, 3) := by decide +kernel
theorem dX12_addVirtual_73 : decode cX12_addVirtual 73 = .ok (.dup, 1) := by decide +kernel
theorem dX12_addVirtual_74 : decode cX12_addVirtual 74 = .ok (.iload_n 2, 1) := by decide +kernel
theorem dX12_addVirtual_75 : decode cX12_addVirtual 75 = .ok (.iload_n 3, 1) := by decide +kernel
theorem dX12_addVirtual_76 : decode cX12_addVirtual 76 = .ok (.lload 4, 2) := by decide +kernel
theorem dX12_addVirtual_78 : decode cX12_addVirtual 78 = .ok (.invokespecial 161, 3) := by decide +kernel
theorem dX12_addVirtual_81 : decode cX12_addVirtual 81 = .ok (.invokevirtual 126, 3) := by decide +kernel
theorem dX12_addVirtual_84 : decode cX12_addVirtual 84 = .ok (.pop, 1) := by decide +kernel
theorem dX12_addVirtual_85 : decode cX12_addVirtual 85 = .ok (.aload 6, 2) := by decide +kernel
theorem dX12_addVirtual_87 : decode cX12_addVirtual 87 = .ok (.iload_n 2, 1) := by decide +kernel
theorem dX12_addVirtual_88 : decode cX12_addVirtual 88 = .ok (.invokevirtual 130, 3) := by decide +kernel
theorem dX12_addVirtual_91 : decode cX12_addVirtual 91 = .ok (.aload 7, 2) := by decide +kernel
theorem dX12_addVirtual_93 : decode cX12_addVirtual 93 = .ok (.invokevirtual 117, 3) := by decide +kernel
theorem dX12_addVirtual_96 : decode cX12_addVirtual 96 = .ok (.ireturn, 1) := by decide +kernel
theorem dX12_addFold_0 : decode cX12_addFold 0 = .ok (.aload_n 0, 1) := by decide +kernel
theorem dX12_addFold_1 : decode cX12_addFold 1 = .ok (.iload_n 1, 1) := by decide +kernel
theorem dX12_addFold_2 : decode cX12_addFold 2 = .ok (.invokevirtual 100, 3) := by decide +kernel
theorem dX12_addFold_5 : decode cX12_addFold 5 = .ok (.astore 4, 2) := by decide +kernel
theorem dX12_addFold_7 : decode cX12_addFold 7 = .ok (.aload_n 0, 1) := by decide +kernel
theorem dX12_addFold_8 : decode cX12_addFold 8 = .ok (.iload_n 2, 1) := by decide +kernel
theorem dX12_addFold_9 : decode cX12_addFold 9 = .ok (.invokevirtual 166, 3) := by decide +kernel
theorem dX12_addFold_12 : decode cX12_addFold 12 = .ok (.aload_n 0, 1) := by decide +kernel
theorem dX12_addFold_13 : decode cX12_addFold 13 = .ok (.iload_n 3, 1) := by decide +kernel
theorem dX12_addFold_14 : decode cX12_addFold 14 = .ok (.invokevirtual 166, 3) := by decide +kernel
theorem dX12_addFold_17 : decode cX12_addFold 17 = .ok (.iload_n 3, 1) := by decide +kernel
theorem dX12_addFold_18 : decode cX12_addFold 18 = .ok (.iload_n 2, 1) := by decide +kernel
theorem dX12_addFold_19 : decode cX12_addFold 19 = .ok (.if_icmp .gt 13, 3) := by decide +kernel
theorem dX12_addFold_22 : decode cX12_addFold 22 = .ok (.new 153, 3) := by decide +kernel
theorem dX12_addFold_25 : decode cX12_addFold 25 = .ok (.dup, 1) := by decide +kernel
theorem dX12_addFold_26 : decode cX12_addFold 26 = .ok (.ldc 169, 2) := by decide +kernel
theorem dX12_addFold_28 : decode cX12_addFold 28 = .ok (.invokespecial 157, 3) := by decide +kernel
theorem dX12_addFold_31 : decode cX12_addFold 31 = .ok (.athrow, 1) := by decide +kernel
theorem dX12_addFold_32 : decode cX12_addFold 32 = .ok (.aload 4, 2) := by decide +kernel
theorem dX12_addFold_34 : decode cX12_addFold 34 = .ok (.getfield 107, 3) := by decide +kernel
theorem dX12_addFold_37 : decode cX12_addFold 37 = .ok (.getfield 171, 3) := by decide +kernel
theorem dX12_addFold_40 : decode cX12_addFold 40 = .ok (.astore 5, 2) := by decide +kernel
theorem dX12_addFold_42 : decode cX12_addFold 42 = .ok (.aload_n 0, 1) := by decide +kernel
theorem dX12_addFold_43 : decode cX12_addFold 43 = .ok (.aload 5, 2) := by decide +kernel
theorem dX12_addFold_45 : decode cX12_addFold 45 = .ok (.invokevirtual 117, 3) := by decide +kernel
theorem dX12_addFold_48 : decode cX12_addFold 48 = .ok (.bipush 6, 2) := by decide +kernel
theorem dX12_addFold_50 : decode cX12_addFold 50 = .ok (.if_icmp .ge 7, 3) := by decide +kernel
theorem dX12_addFold_53 : decode cX12_addFold 53 = .ok (.iconst 1, 1) := by decide +kernel
theorem dX12_addFold_54 : decode cX12_addFold 54 = .ok (.goto 4, 3) := by decide +kernel
theorem dX12_addFold_57 : decode cX12_addFold 57 = .ok (.iconst 0, 1) := by decide +kernel
theorem dX12_addFold_58 : decode cX12_addFold 58 = .ok (.invokevirtual 70, 3) := by decide +kernel
theorem dX12_addFold_61 : decode cX12_addFold 61 = .ok (.aload 5, 2) := by decide +kernel
theorem dX12_addFold_63 : decode cX12_addFold 63 = .ok (.new 174, 3) := by decide +kernel
theorem dX12_addFold_66 : decode cX12_addFold 66 = .ok (.dup, 1) := by decide +kernel
theorem dX12_addFold_67 : decode cX12_addFold 67 = .ok (.iload_n 2, 1) := by decide +kernel
theorem dX12_addFold_68 : decode cX12_addFold 68 = .ok (.iload_n 3, 1) := by decide +kernel
theorem dX12_addFold_69 : decode cX12_addFold 69 = .ok (.invokespecial 176, 3) := by decide +kernel
theorem dX12_addFold_72 : decode cX12_addFold 72 = .ok (.invokevirtual 126, 3) := by decide +kernel
theorem dX12_addFold_75 : decode cX12_addFold 75 = .ok (.pop, 1) := by decide +kernel
theorem dX12_addFold_76 : decode cX12_addFold 76 = .ok (.aload 5, 2) := by decide +kernel
theorem dX12_addFold_78 : decode cX12_addFold 78 = .ok (.invokevirtual 117, 3) := by decide +kernel
theorem dX12_addFold_81 : decode cX12_addFold 81 = .ok (.ireturn, 1) := by decide +kernel
theorem dX12_setClosed_0 : decode cX12_setClosed 0 = .ok (.aload_n 0, 1) := by decide +kernel
theorem dX12_setClosed_1 : decode cX12_setClosed 1 = .ok (.iload_n 1, 1) := by decide +kernel
theorem dX12_setClosed_2 : decode cX12_setClosed 2 = .ok (.invokevirtual 100, 3) := by decide +kernel
theorem dX12_setClosed_5 : decode cX12_setClosed 5 = .ok (.astore 4, 2) := by decide +kernel
theorem dX12_setClosed_7 : decode cX12_setClosed 7 = .ok (.aload 4, 2) := by decide +kernel
theorem dX12_setClosed_9 : decode cX12_setClosed 9 = .ok (.getfield 107, 3) := by decide +kernel
theorem dX12_setClosed_12 : decode cX12_setClosed 12 = .ok (.getfield 171, 3) := by decide +kernel
theorem dX12_setClosed_15 : decode cX12_setClosed 15 = .ok (.astore 5, 2) := by decide +kernel
theorem dX12_setClosed_17 : decode cX12_setClosed 17 = .ok (.iload_n 2, 1) := by decide +kernel
theorem dX12_setClosed_18 : decode cX12_setClosed 18 = .ok (.ifCond .lt 12, 3) := by decide +kernel
theorem dX12_setClosed_21 : decode cX12_setClosed 21 = .ok (.iload_n 2, 1) := by decide +kernel
theorem dX12_setClosed_22 : decode cX12_setClosed 22 = .ok (.aload 5, 2) := by decide +kernel
theorem dX12_setClosed_24 : decode cX12_setClosed 24 = .ok (.invokevirtual 117, 3) := by decide +kernel
theorem dX12_setClosed_27 : decode cX12_setClosed 27 = .ok (.if_icmp .lt 13, 3) := by decide +kernel
theorem dX12_setClosed_30 : decode cX12_setClosed 30 = .ok (.new 153, 3) := by decide +kernel
theorem dX12_setClosed_33 : decode cX12_setClosed 33 = .ok (.dup, 1) := by decide +kernel
theorem dX12_setClosed_34 : decode cX12_setClosed 34 = .ok (.ldc 178, 2) := by decide +kernel
theorem dX12_setClosed_36 : decode cX12_setClosed 36 = .ok (.invokespecial 157, 3) := by decide +kernel
theorem dX12_setClosed_39 : decode cX12_setClosed 39 = .ok (.athrow, 1) := by decide +kernel
theorem dX12_setClosed_40 : decode cX12_setClosed 40 = .ok (.aload 5, 2) := by decide +kernel
theorem dX12_setClosed_42 : decode cX12_setClosed 42 = .ok (.iload_n 2, 1) := by decide +kernel
theorem dX12_setClosed_43 : decode cX12_setClosed 43 = .ok (.invokevirtual 180, 3) := by decide +kernel
theorem dX12_setClosed_46 : decode cX12_setClosed 46 = .ok (.checkcast 174, 3) := by decide +kernel
theorem dX12_setClosed_49 : decode cX12_setClosed 49 = .ok (.astore 6, 2) := by decide +kernel
theorem dX12_setClosed_51 : decode cX12_setClosed 51 = .ok (.aload 6, 2) := by decide +kernel
theorem dX12_setClosed_53 : decode cX12_setClosed 53 = .ok (.getfield 183, 3) := by decide +kernel
theorem dX12_setClosed_56 : decode cX12_setClosed 56 = .ok (.istore 7, 2) := by decide +kernel
theorem dX12_setClosed_58 : decode cX12_setClosed 58 = .ok (.aload 6, 2) := by decide +kernel
theorem dX12_setClosed_60 : decode cX12_setClosed 60 = .ok (.iload_n 3, 1) := by decide +kernel
theorem dX12_setClosed_61 : decode cX12_setClosed 61 = .ok (.putfield 183, 3) := by decide +kernel
theorem dX12_setClosed_64 : decode cX12_setClosed 64 = .ok (.aload 4, 2) := by decide +kernel
theorem dX12_setClosed_66 : decode cX12_setClosed 66 = .ok (.iconst 0, 1) := by decide +kernel
theorem dX12_setClosed_67 : decode cX12_setClosed 67 = .ok (.invokevirtual 144, 3) := by decide +kernel
theorem dX12_setClosed_70 : decode cX12_setClosed 70 = .ok (.iload 7, 2) := by decide +kernel
theorem dX12_setClosed_72 : decode cX12_setClosed 72 = .ok (.ireturn, 1) := by decide +kernel
theorem dX12_rows_0 : decode cX12_rows 0 = .ok (.aload_n 0, 1) := by decide +kernel
theorem dX12_rows_1 : decode cX12_rows 1 = .ok (.iload_n 1, 1) := by decide +kernel
theorem dX12_rows_2 : decode cX12_rows 2 = .ok (.invokevirtual 186, 3) := by decide +kernel
theorem dX12_rows_5 : decode cX12_rows 5 = .ok (.getfield 189, 3) := by decide +kernel
theorem dX12_rows_8 : decode cX12_rows 8 = .ok (.ireturn, 1) := by decide +kernel
theorem dX12_rowsOf_0 : decode cX12_rowsOf 0 = .ok (.aload_n 0, 1) := by decide +kernel
theorem dX12_rowsOf_1 : decode cX12_rowsOf 1 = .ok (.iload_n 1, 1) := by decide +kernel
theorem dX12_rowsOf_2 : decode cX12_rowsOf 2 = .ok (.invokevirtual 186, 3) := by decide +kernel
theorem dX12_rowsOf_5 : decode cX12_rowsOf 5 = .ok (.astore_n 3, 1) := by decide +kernel
theorem dX12_rowsOf_6 : decode cX12_rowsOf 6 = .ok (.aload_n 0, 1) := by decide +kernel
theorem dX12_rowsOf_7 : decode cX12_rowsOf 7 = .ok (.iload_n 2, 1) := by decide +kernel
theorem dX12_rowsOf_8 : decode cX12_rowsOf 8 = .ok (.invokevirtual 166, 3) := by decide +kernel
theorem dX12_rowsOf_11 : decode cX12_rowsOf 11 = .ok (.aload_n 3, 1) := by decide +kernel
theorem dX12_rowsOf_12 : decode cX12_rowsOf 12 = .ok (.iload_n 2, 1) := by decide +kernel
theorem dX12_rowsOf_13 : decode cX12_rowsOf 13 = .ok (.invokevirtual 192, 3) := by decide +kernel
theorem dX12_rowsOf_16 : decode cX12_rowsOf 16 = .ok (.ireturn, 1) := by decide +kernel
theorem dX12_rowAt_0 : decode cX12_rowAt 0 = .ok (.aload_n 0, 1) := by decide +kernel
theorem dX12_rowAt_1 : decode cX12_rowAt 1 = .ok (.iload_n 1, 1) := by decide +kernel
theorem dX12_rowAt_2 : decode cX12_rowAt 2 = .ok (.invokevirtual 186, 3) := by decide +kernel
theorem dX12_rowAt_5 : decode cX12_rowAt 5 = .ok (.astore 5, 2) := by decide +kernel
theorem dX12_rowAt_7 : decode cX12_rowAt 7 = .ok (.aload_n 0, 1) := by decide +kernel
theorem dX12_rowAt_8 : decode cX12_rowAt 8 = .ok (.iload_n 3, 1) := by decide +kernel
theorem dX12_rowAt_9 : decode cX12_rowAt 9 = .ok (.iconst 0, 1) := by decide +kernel
theorem dX12_rowAt_10 : decode cX12_rowAt 10 = .ok (.aload_n 0, 1) := by decide +kernel
theorem dX12_rowAt_11 : decode cX12_rowAt 11 = .ok (.iload_n 2, 1) := by decide +kernel
theorem dX12_rowAt_12 : decode cX12_rowAt 12 = .ok (.invokevirtual 49, 3) := by decide +kernel
theorem dX12_rowAt_15 : decode cX12_rowAt 15 = .ok (.getfield 53, 3) := by decide +kernel
theorem dX12_rowAt_18 : decode cX12_rowAt 18 = .ok (.invokevirtual 58, 3) := by decide +kernel
theorem dX12_rowAt_21 : decode cX12_rowAt 21 = .ok (.aload_n 0, 1) := by decide +kernel
theorem dX12_rowAt_22 : decode cX12_rowAt 22 = .ok (.iload 4, 2) := by decide +kernel
theorem dX12_rowAt_24 : decode cX12_rowAt 24 = .ok (.iconst 0, 1) := by decide +kernel
theorem dX12_rowAt_25 : decode cX12_rowAt 25 = .ok (.iconst 1, 1) := by decide +kernel
theorem dX12_rowAt_26 : decode cX12_rowAt 26 = .ok (.invokevirtual 58, 3) := by decide +kernel
theorem dX12_rowAt_29 : decode cX12_rowAt 29 = .ok (.aload 5, 2) := by decide +kernel
theorem dX12_rowAt_31 : decode cX12_rowAt 31 = .ok (.iload_n 2, 1) := by decide +kernel
theorem dX12_rowAt_32 : decode cX12_rowAt 32 = .ok (.invokevirtual 192, 3) := by decide +kernel
theorem dX12_rowAt_35 : decode cX12_rowAt 35 = .ok (.ifCond .ne 7, 3) := by decide +kernel
theorem dX12_rowAt_38 : decode cX12_rowAt 38 = .ok (.iconst (-1), 1) := by decide +kernel
theorem dX12_rowAt_39 : decode cX12_rowAt 39 = .ok (.goto 12, 3) := by decide +kernel
theorem dX12_rowAt_42 : decode cX12_rowAt 42 = .ok (.aload 5, 2) := by decide +kernel
theorem dX12_rowAt_44 : decode cX12_rowAt 44 = .ok (.iload_n 2, 1) := by decide +kernel
theorem dX12_rowAt_45 : decode cX12_rowAt 45 = .ok (.iload_n 3, 1) := by decide +kernel
theorem dX12_rowAt_46 : decode cX12_rowAt 46 = .ok (.iload 4, 2) := by decide +kernel
theorem dX12_rowAt_48 : decode cX12_rowAt 48 = .ok (.invokevirtual 227, 3) := by decide +kernel
theorem dX12_rowAt_51 : decode cX12_rowAt 51 = .ok (.ireturn, 1) := by decide +kernel
theorem dX12_lineAt_0 : decode cX12_lineAt 0 = .ok (.aload_n 0, 1) := by decide +kernel
theorem dX12_lineAt_1 : decode cX12_lineAt 1 = .ok (.iload_n 1, 1) := by decide +kernel
theorem dX12_lineAt_2 : decode cX12_lineAt 2 = .ok (.invokevirtual 186, 3) := by decide +kernel
theorem dX12_lineAt_5 : decode cX12_lineAt 5 = .ok (.astore_n 3, 1) := by decide +kernel
theorem dX12_lineAt_6 : decode cX12_lineAt 6 = .ok (.aload_n 0, 1) := by decide +kernel
theorem dX12_lineAt_7 : decode cX12_lineAt 7 = .ok (.aload_n 3, 1) := by decide +kernel
theorem dX12_lineAt_8 : decode cX12_lineAt 8 = .ok (.iload_n 2, 1) := by decide +kernel
theorem dX12_lineAt_9 : decode cX12_lineAt 9 = .ok (.invokevirtual 195, 3) := by decide +kernel
theorem dX12_lineAt_12 : decode cX12_lineAt 12 = .ok (.aload_n 3, 1) := by decide +kernel
theorem dX12_lineAt_13 : decode cX12_lineAt 13 = .ok (.iload_n 2, 1) := by decide +kernel
theorem dX12_lineAt_14 : decode cX12_lineAt 14 = .ok (.invokevirtual 199, 3) := by decide +kernel
theorem dX12_lineAt_17 : decode cX12_lineAt 17 = .ok (.ireturn, 1) := by decide +kernel
theorem dX12_open_0 : decode cX12_open 0 = .ok (.aload_n 0, 1) := by decide +kernel
theorem dX12_open_1 : decode cX12_open 1 = .ok (.iload_n 1, 1) := by decide +kernel
theorem dX12_open_2 : decode cX12_open 2 = .ok (.invokevirtual 243, 3) := by decide +kernel
theorem dX12_open_5 : decode cX12_open 5 = .ok (.aload_n 0, 1) := by decide +kernel
theorem dX12_open_6 : decode cX12_open 6 = .ok (.aload_n 0, 1) := by decide +kernel
theorem dX12_open_7 : decode cX12_open 7 = .ok (.getfield 25, 3) := by decide +kernel
theorem dX12_open_10 : decode cX12_open 10 = .ok (.iload_n 1, 1) := by decide +kernel
theorem dX12_open_11 : decode cX12_open 11 = .ok (.invokevirtual 246, 3) := by decide +kernel
theorem dX12_open_14 : decode cX12_open 14 = .ok (.ifCond .ne 18, 3) := by decide +kernel
theorem dX12_open_17 : decode cX12_open 17 = .ok (.aload_n 0, 1) := by decide +kernel
theorem dX12_open_18 : decode cX12_open 18 = .ok (.getfield 25, 3) := by decide +kernel
theorem dX12_open_21 : decode cX12_open 21 = .ok (.iload_n 1, 1) := by decide +kernel
theorem dX12_open_22 : decode cX12_open 22 = .ok (.invokevirtual 250, 3) := by decide +kernel
theorem dX12_open_25 : decode cX12_open 25 = .ok (.ifCond .eq 7, 3) := by decide +kernel
theorem dX12_open_28 : decode cX12_open 28 = .ok (.iconst 1, 1) := by decide +kernel
theorem dX12_open_29 : decode cX12_open 29 = .ok (.goto 4, 3) := by decide +kernel
theorem dX12_open_32 : decode cX12_open 32 = .ok (.iconst 0, 1) := by decide +kernel
theorem dX12_open_33 : decode cX12_open 33 = .ok (.invokevirtual 70, 3) := by decide +kernel
theorem dX12_open_36 : decode cX12_open 36 = .ok (.aload_n 0, 1) := by decide +kernel
theorem dX12_open_37 : decode cX12_open 37 = .ok (.getfield 25, 3) := by decide +kernel
theorem dX12_open_40 : decode cX12_open 40 = .ok (.iload_n 1, 1) := by decide +kernel
theorem dX12_open_41 : decode cX12_open 41 = .ok (.iconst 1, 1) := by decide +kernel
theorem dX12_open_42 : decode cX12_open 42 = .ok (.invokevirtual 253, 3) := by decide +kernel
theorem dX12_open_45 : decode cX12_open 45 = .ok (.aload_n 0, 1) := by decide +kernel
theorem dX12_open_46 : decode cX12_open 46 = .ok (.getfield 25, 3) := by decide +kernel
theorem dX12_open_49 : decode cX12_open 49 = .ok (.iload_n 1, 1) := by decide +kernel
theorem dX12_open_50 : decode cX12_open 50 = .ok (.invokevirtual 257, 3) := by decide +kernel
theorem dX12_open_53 : decode cX12_open 53 = .ok (.ireturn, 1) := by decide +kernel
theorem dX12_close_0 : decode cX12_close 0 = .ok (.aload_n 0, 1) := by decide +kernel
theorem dX12_close_1 : decode cX12_close 1 = .ok (.iload_n 1, 1) := by decide +kernel
theorem dX12_close_2 : decode cX12_close 2 = .ok (.invokevirtual 243, 3) := by decide +kernel
theorem dX12_close_5 : decode cX12_close 5 = .ok (.aload_n 0, 1) := by decide +kernel
theorem dX12_close_6 : decode cX12_close 6 = .ok (.aload_n 0, 1) := by decide +kernel
theorem dX12_close_7 : decode cX12_close 7 = .ok (.getfield 25, 3) := by decide +kernel
theorem dX12_close_10 : decode cX12_close 10 = .ok (.iload_n 1, 1) := by decide +kernel
theorem dX12_close_11 : decode cX12_close 11 = .ok (.invokevirtual 246, 3) := by decide +kernel
theorem dX12_close_14 : decode cX12_close 14 = .ok (.ifCond .eq 18, 3) := by decide +kernel
theorem dX12_close_17 : decode cX12_close 17 = .ok (.aload_n 0, 1) := by decide +kernel
theorem dX12_close_18 : decode cX12_close 18 = .ok (.getfield 25, 3) := by decide +kernel
theorem dX12_close_21 : decode cX12_close 21 = .ok (.invokevirtual 260, 3) := by decide +kernel
theorem dX12_close_24 : decode cX12_close 24 = .ok (.iconst 1, 1) := by decide +kernel
theorem dX12_close_25 : decode cX12_close 25 = .ok (.if_icmp .le 7, 3) := by decide +kernel
theorem dX12_close_28 : decode cX12_close 28 = .ok (.iconst 1, 1) := by decide +kernel
theorem dX12_close_29 : decode cX12_close 29 = .ok (.goto 4, 3) := by decide +kernel
theorem dX12_close_32 : decode cX12_close 32 = .ok (.iconst 0, 1) := by decide +kernel
theorem dX12_close_33 : decode cX12_close 33 = .ok (.invokevirtual 70, 3) := by decide +kernel
theorem dX12_close_36 : decode cX12_close 36 = .ok (.aload_n 0, 1) := by decide +kernel
theorem dX12_close_37 : decode cX12_close 37 = .ok (.getfield 25, 3) := by decide +kernel
theorem dX12_close_40 : decode cX12_close 40 = .ok (.iload_n 1, 1) := by decide +kernel
theorem dX12_close_41 : decode cX12_close 41 = .ok (.iconst 0, 1) := by decide +kernel
theorem dX12_close_42 : decode cX12_close 42 = .ok (.invokevirtual 253, 3) := by decide +kernel
theorem dX12_close_45 : decode cX12_close 45 = .ok (.aload_n 0, 1) := by decide +kernel
theorem dX12_close_46 : decode cX12_close 46 = .ok (.getfield 25, 3) := by decide +kernel
theorem dX12_close_49 : decode cX12_close 49 = .ok (.invokevirtual 260, 3) := by decide +kernel
theorem dX12_close_52 : decode cX12_close 52 = .ok (.ireturn, 1) := by decide +kernel
theorem dX12_share_0 : decode cX12_share 0 = .ok (.aload_n 0, 1) := by decide +kernel
theorem dX12_share_1 : decode cX12_share 1 = .ok (.iload_n 1, 1) := by decide +kernel
theorem dX12_share_2 : decode cX12_share 2 = .ok (.invokevirtual 243, 3) := by decide +kernel
theorem dX12_share_5 : decode cX12_share 5 = .ok (.aload_n 0, 1) := by decide +kernel
theorem dX12_share_6 : decode cX12_share 6 = .ok (.iload_n 2, 1) := by decide +kernel
theorem dX12_share_7 : decode cX12_share 7 = .ok (.iconst 1, 1) := by decide +kernel
theorem dX12_share_8 : decode cX12_share 8 = .ok (.bipush 9, 2) := by decide +kernel
theorem dX12_share_10 : decode cX12_share 10 = .ok (.invokevirtual 58, 3) := by decide +kernel
theorem dX12_share_13 : decode cX12_share 13 = .ok (.aload_n 0, 1) := by decide +kernel
theorem dX12_share_14 : decode cX12_share 14 = .ok (.iload_n 3, 1) := by decide +kernel
theorem dX12_share_15 : decode cX12_share 15 = .ok (.iconst 1, 1) := by decide +kernel
theorem dX12_share_16 : decode cX12_share 16 = .ok (.bipush 8, 2) := by decide +kernel
theorem dX12_share_18 : decode cX12_share 18 = .ok (.invokevirtual 58, 3) := by decide +kernel
theorem dX12_share_21 : decode cX12_share 21 = .ok (.iload 4, 2) := by decide +kernel
theorem dX12_share_23 : decode cX12_share 23 = .ok (.iconst (-1), 1) := by decide +kernel
theorem dX12_share_24 : decode cX12_share 24 = .ok (.if_icmp .eq 12, 3) := by decide +kernel
theorem dX12_share_27 : decode cX12_share 27 = .ok (.aload_n 0, 1) := by decide +kernel
theorem dX12_share_28 : decode cX12_share 28 = .ok (.iload 4, 2) := by decide +kernel
theorem dX12_share_30 : decode cX12_share 30 = .ok (.iconst 1, 1) := by decide +kernel
theorem dX12_share_31 : decode cX12_share 31 = .ok (.bipush 16, 2) := by decide +kernel
theorem dX12_share_33 : decode cX12_share 33 = .ok (.invokevirtual 58, 3) := by decide +kernel
theorem dX12_share_36 : decode cX12_share 36 = .ok (.aload_n 0, 1) := by decide +kernel
theorem dX12_share_37 : decode cX12_share 37 = .ok (.aload_n 0, 1) := by decide +kernel
theorem dX12_share_38 : decode cX12_share 38 = .ok (.getfield 25, 3) := by decide +kernel
theorem dX12_share_41 : decode cX12_share 41 = .ok (.iload_n 1, 1) := by decide +kernel
theorem dX12_share_42 : decode cX12_share 42 = .ok (.invokevirtual 246, 3) := by decide +kernel
theorem dX12_share_45 : decode cX12_share 45 = .ok (.ifCond .eq 26, 3) := by decide +kernel
theorem dX12_share_48 : decode cX12_share 48 = .ok (.aload_n 0, 1) := by decide +kernel
theorem dX12_share_49 : decode cX12_share 49 = .ok (.getfield 25, 3) := by decide +kernel
theorem dX12_share_52 : decode cX12_share 52 = .ok (.iload_n 1, 1) := by decide +kernel
theorem dX12_share_53 : decode cX12_share 53 = .ok (.iload 4, 2) := by decide +kernel
theorem dX12_share_55 : decode cX12_share 55 = .ok (.iconst (-1), 1) := by decide +kernel
theorem dX12_share_56 : decode cX12_share 56 = .ok (.if_icmp .ne 7, 3) := by decide +kernel
theorem dX12_share_59 : decode cX12_share 59 = .ok (.iload_n 3, 1) := by decide +kernel
theorem dX12_share_60 : decode cX12_share 60 = .ok (.goto 5, 3) := by decide +kernel
theorem dX12_share_63 : decode cX12_share 63 = .ok (.iload 4, 2) := by decide +kernel
theorem dX12_share_65 : decode cX12_share 65 = .ok (.invokevirtual 263, 3) := by decide +kernel
theorem dX12_share_68 : decode cX12_share 68 = .ok (.ifCond .eq 7, 3) := by decide +kernel
theorem dX12_share_71 : decode cX12_share 71 = .ok (.iconst 1, 1) := by decide +kernel
theorem dX12_share_72 : decode cX12_share 72 = .ok (.goto 4, 3) := by decide +kernel
theorem dX12_share_75 : decode cX12_share 75 = .ok (.iconst 0, 1) := by decide +kernel
theorem dX12_share_76 : decode cX12_share 76 = .ok (.invokevirtual 70, 3) := by decide +kernel
theorem dX12_share_79 : decode cX12_share 79 = .ok (.aload_n 0, 1) := by decide +kernel
theorem dX12_share_80 : decode cX12_share 80 = .ok (.getfield 25, 3) := by decide +kernel
theorem dX12_share_83 : decode cX12_share 83 = .ok (.iload_n 1, 1) := by decide +kernel
theorem dX12_share_84 : decode cX12_share 84 = .ok (.iload_n 2, 1) := by decide +kernel
theorem dX12_share_85 : decode cX12_share 85 = .ok (.iload_n 3, 1) := by decide +kernel
theorem dX12_share_86 : decode cX12_share 86 = .ok (.iload 4, 2) := by decide +kernel
theorem dX12_share_88 : decode cX12_share 88 = .ok (.invokevirtual 266, 3) := by decide +kernel
theorem dX12_share_91 : decode cX12_share 91 = .ok (.aload_n 0, 1) := by decide +kernel
theorem dX12_share_92 : decode cX12_share 92 = .ok (.getfield 25, 3) := by decide +kernel
theorem dX12_share_95 : decode cX12_share 95 = .ok (.iload_n 1, 1) := by decide +kernel
theorem dX12_share_96 : decode cX12_share 96 = .ok (.invokevirtual 257, 3) := by decide +kernel
theorem dX12_share_99 : decode cX12_share 99 = .ok (.ireturn, 1) := by decide +kernel
theorem dX12_height_0 : decode cX12_height 0 = .ok (.aload_n 0, 1) := by decide +kernel
theorem dX12_height_1 : decode cX12_height 1 = .ok (.iload_n 1, 1) := by decide +kernel
theorem dX12_height_2 : decode cX12_height 2 = .ok (.invokevirtual 243, 3) := by decide +kernel
theorem dX12_height_5 : decode cX12_height 5 = .ok (.aload_n 0, 1) := by decide +kernel
theorem dX12_height_6 : decode cX12_height 6 = .ok (.getfield 25, 3) := by decide +kernel
theorem dX12_height_9 : decode cX12_height 9 = .ok (.iload_n 1, 1) := by decide +kernel
theorem dX12_height_10 : decode cX12_height 10 = .ok (.invokevirtual 257, 3) := by decide +kernel
theorem dX12_height_13 : decode cX12_height 13 = .ok (.ireturn, 1) := by decide +kernel
theorem dX12_put_0 : decode cX12_put 0 = .ok (.aload_n 0, 1) := by decide +kernel
theorem dX12_put_1 : decode cX12_put 1 = .ok (.iload_n 1, 1) := by decide +kernel
theorem dX12_put_2 : decode cX12_put 2 = .ok (.invokevirtual 186, 3) := by decide +kernel
theorem dX12_put_5 : decode cX12_put 5 = .ok (.astore 4, 2) := by decide +kernel
theorem dX12_put_7 : decode cX12_put 7 = .ok (.aload_n 0, 1) := by decide +kernel
theorem dX12_put_8 : decode cX12_put 8 = .ok (.iload_n 3, 1) := by decide +kernel
theorem dX12_put_9 : decode cX12_put 9 = .ok (.iconst 0, 1) := by decide +kernel
theorem dX12_put_10 : decode cX12_put 10 = .ok (.aload_n 0, 1) := by decide +kernel
theorem dX12_put_11 : decode cX12_put 11 = .ok (.iload_n 2, 1) := by decide +kernel
theorem dX12_put_12 : decode cX12_put 12 = .ok (.invokevirtual 49, 3) := by decide +kernel
theorem dX12_put_15 : decode cX12_put 15 = .ok (.getfield 53, 3) := by decide +kernel
theorem dX12_put_18 : decode cX12_put 18 = .ok (.invokevirtual 58, 3) := by decide +kernel
theorem dX12_put_21 : decode cX12_put 21 = .ok (.aload_n 0, 1) := by decide +kernel
theorem dX12_put_22 : decode cX12_put 22 = .ok (.aload_n 0, 1) := by decide +kernel
theorem dX12_put_23 : decode cX12_put 23 = .ok (.getfield 25, 3) := by decide +kernel
theorem dX12_put_26 : decode cX12_put 26 = .ok (.iload_n 1, 1) := by decide +kernel
theorem dX12_put_27 : decode cX12_put 27 = .ok (.invokevirtual 246, 3) := by decide +kernel
theorem dX12_put_30 : decode cX12_put 30 = .ok (.ifCond .eq 16, 3) := by decide +kernel
theorem dX12_put_33 : decode cX12_put 33 = .ok (.aload 4, 2) := by decide +kernel
theorem dX12_put_35 : decode cX12_put 35 = .ok (.iload_n 2, 1) := by decide +kernel
theorem dX12_put_36 : decode cX12_put 36 = .ok (.invokevirtual 192, 3) := by decide +kernel
theorem dX12_put_39 : decode cX12_put 39 = .ok (.ifCond .le 7, 3) := by decide +kernel
theorem dX12_put_42 : decode cX12_put 42 = .ok (.iconst 1, 1) := by decide +kernel
theorem dX12_put_43 : decode cX12_put 43 = .ok (.goto 4, 3) := by decide +kernel
theorem dX12_put_46 : decode cX12_put 46 = .ok (.iconst 0, 1) := by decide +kernel
theorem dX12_put_47 : decode cX12_put 47 = .ok (.invokevirtual 70, 3) := by decide +kernel
theorem dX12_put_50 : decode cX12_put 50 = .ok (.aload 4, 2) := by decide +kernel
theorem dX12_put_52 : decode cX12_put 52 = .ok (.iload_n 2, 1) := by decide +kernel
theorem dX12_put_53 : decode cX12_put 53 = .ok (.iload_n 3, 1) := by decide +kernel
theorem dX12_put_54 : decode cX12_put 54 = .ok (.invokevirtual 270, 3) := by decide +kernel
theorem dX12_put_57 : decode cX12_put 57 = .ok (.aload 4, 2) := by decide +kernel
theorem dX12_put_59 : decode cX12_put 59 = .ok (.aload_n 0, 1) := by decide +kernel
theorem dX12_put_60 : decode cX12_put 60 = .ok (.getfield 25, 3) := by decide +kernel
theorem dX12_put_63 : decode cX12_put 63 = .ok (.iload_n 1, 1) := by decide +kernel
theorem dX12_put_64 : decode cX12_put 64 = .ok (.invokevirtual 257, 3) := by decide +kernel
theorem dX12_put_67 : decode cX12_put 67 = .ok (.invokevirtual 273, 3) := by decide +kernel
theorem dX12_put_70 : decode cX12_put 70 = .ok (.aload 4, 2) := by decide +kernel
theorem dX12_put_72 : decode cX12_put 72 = .ok (.invokevirtual 276, 3) := by decide +kernel
theorem dX12_put_75 : decode cX12_put 75 = .ok (.ireturn, 1) := by decide +kernel
theorem dX12_move_0 : decode cX12_move 0 = .ok (.aload_n 0, 1) := by decide +kernel
theorem dX12_move_1 : decode cX12_move 1 = .ok (.iload_n 1, 1) := by decide +kernel
theorem dX12_move_2 : decode cX12_move 2 = .ok (.invokevirtual 186, 3) := by decide +kernel
theorem dX12_move_5 : decode cX12_move 5 = .ok (.astore_n 3, 1) := by decide +kernel
theorem dX12_move_6 : decode cX12_move 6 = .ok (.aload_n 0, 1) := by decide +kernel
theorem dX12_move_7 : decode cX12_move 7 = .ok (.iload_n 2, 1) := by decide +kernel
theorem dX12_move_8 : decode cX12_move 8 = .ok (.iconst 0, 1) := by decide +kernel
theorem dX12_move_9 : decode cX12_move 9 = .ok (.bipush 7, 2) := by decide +kernel
theorem dX12_move_11 : decode cX12_move 11 = .ok (.invokevirtual 58, 3) := by decide +kernel
theorem dX12_move_14 : decode cX12_move 14 = .ok (.aload_n 0, 1) := by decide +kernel
theorem dX12_move_15 : decode cX12_move 15 = .ok (.aload_n 0, 1) := by decide +kernel
theorem dX12_move_16 : decode cX12_move 16 = .ok (.getfield 25, 3) := by decide +kernel
theorem dX12_move_19 : decode cX12_move 19 = .ok (.iload_n 1, 1) := by decide +kernel
theorem dX12_move_20 : decode cX12_move 20 = .ok (.invokevirtual 246, 3) := by decide +kernel
theorem dX12_move_23 : decode cX12_move 23 = .ok (.invokevirtual 70, 3) := by decide +kernel
theorem dX12_move_26 : decode cX12_move 26 = .ok (.aload_n 0, 1) := by decide +kernel
theorem dX12_move_27 : decode cX12_move 27 = .ok (.iload_n 1, 1) := by decide +kernel
theorem dX12_move_28 : decode cX12_move 28 = .ok (.iload_n 2, 1) := by decide +kernel
theorem dX12_move_29 : decode cX12_move 29 = .ok (.invokevirtual 279, 3) := by decide +kernel
theorem dX12_move_32 : decode cX12_move 32 = .ok (.aload_n 0, 1) := by decide +kernel
theorem dX12_move_33 : decode cX12_move 33 = .ok (.getfield 25, 3) := by decide +kernel
theorem dX12_move_36 : decode cX12_move 36 = .ok (.iload_n 1, 1) := by decide +kernel
theorem dX12_move_37 : decode cX12_move 37 = .ok (.invokevirtual 257, 3) := by decide +kernel
theorem dX12_move_40 : decode cX12_move 40 = .ok (.istore 4, 2) := by decide +kernel
theorem dX12_move_42 : decode cX12_move 42 = .ok (.aload_n 3, 1) := by decide +kernel
theorem dX12_move_43 : decode cX12_move 43 = .ok (.iload_n 2, 1) := by decide +kernel
theorem dX12_move_44 : decode cX12_move 44 = .ok (.iload 4, 2) := by decide +kernel
theorem dX12_move_46 : decode cX12_move 46 = .ok (.invokevirtual 282, 3) := by decide +kernel
theorem dX12_move_49 : decode cX12_move 49 = .ok (.istore 5, 2) := by decide +kernel
theorem dX12_move_51 : decode cX12_move 51 = .ok (.iload 5, 2) := by decide +kernel
theorem dX12_move_53 : decode cX12_move 53 = .ok (.ifCond .eq 9, 3) := by decide +kernel
theorem dX12_move_56 : decode cX12_move 56 = .ok (.aload_n 3, 1) := by decide +kernel
theorem dX12_move_57 : decode cX12_move 57 = .ok (.iload 4, 2) := by decide +kernel
theorem dX12_move_59 : decode cX12_move 59 = .ok (.invokevirtual 273, 3) := by decide +kernel
theorem dX12_move_62 : decode cX12_move 62 = .ok (.iload 5, 2) := by decide +kernel
theorem dX12_move_64 : decode cX12_move 64 = .ok (.ireturn, 1) := by decide +kernel
theorem dX12_play_0 : decode cX12_play 0 = .ok (.aload_n 0, 1) := by decide +kernel
theorem dX12_play_1 : decode cX12_play 1 = .ok (.iload_n 1, 1) := by decide +kernel
theorem dX12_play_2 : decode cX12_play 2 = .ok (.invokevirtual 243, 3) := by decide +kernel
theorem dX12_play_5 : decode cX12_play 5 = .ok (.aload_n 0, 1) := by decide +kernel
theorem dX12_play_6 : decode cX12_play 6 = .ok (.iload_n 2, 1) := by decide +kernel
theorem dX12_play_7 : decode cX12_play 7 = .ok (.invokevirtual 186, 3) := by decide +kernel
theorem dX12_play_10 : decode cX12_play 10 = .ok (.astore_n 3, 1) := by decide +kernel
theorem dX12_play_11 : decode cX12_play 11 = .ok (.aload_n 0, 1) := by decide +kernel
theorem dX12_play_12 : decode cX12_play 12 = .ok (.aload_n 0, 1) := by decide +kernel
theorem dX12_play_13 : decode cX12_play 13 = .ok (.getfield 25, 3) := by decide +kernel
theorem dX12_play_16 : decode cX12_play 16 = .ok (.iload_n 2, 1) := by decide +kernel
theorem dX12_play_17 : decode cX12_play 17 = .ok (.invokevirtual 246, 3) := by decide +kernel
theorem dX12_play_20 : decode cX12_play 20 = .ok (.invokevirtual 70, 3) := by decide +kernel
theorem dX12_play_23 : decode cX12_play 23 = .ok (.aload_n 0, 1) := by decide +kernel
theorem dX12_play_24 : decode cX12_play 24 = .ok (.getfield 25, 3) := by decide +kernel
theorem dX12_play_27 : decode cX12_play 27 = .ok (.iload_n 2, 1) := by decide +kernel
theorem dX12_play_28 : decode cX12_play 28 = .ok (.invokevirtual 257, 3) := by decide +kernel
theorem dX12_play_31 : decode cX12_play 31 = .ok (.istore 4, 2) := by decide +kernel
theorem dX12_play_33 : decode cX12_play 33 = .ok (.iconst 0, 1) := by decide +kernel
theorem dX12_play_34 : decode cX12_play 34 = .ok (.istore 5, 2) := by decide +kernel
theorem dX12_play_36 : decode cX12_play 36 = .ok (.aload_n 0, 1) := by decide +kernel
theorem dX12_play_37 : decode cX12_play 37 = .ok (.getfield 285, 3) := by decide +kernel
theorem dX12_play_40 : decode cX12_play 40 = .ok (.bipush 50, 2) := by decide +kernel
theorem dX12_play_42 : decode cX12_play 42 = .ok (.iadd, 1) := by decide +kernel
theorem dX12_play_43 : decode cX12_play 43 = .ok (.aload_n 0, 1) := by decide +kernel
theorem dX12_play_44 : decode cX12_play 44 = .ok (.getfield 288, 3) := by decide +kernel
theorem dX12_play_47 : decode cX12_play 47 = .ok (.isub, 1) := by decide +kernel
theorem dX12_play_48 : decode cX12_play 48 = .ok (.istore 6, 2) := by decide +kernel
theorem dX12_play_50 : decode cX12_play 50 = .ok (.iconst 0, 1) := by decide +kernel
theorem dX12_play_51 : decode cX12_play 51 = .ok (.istore 7, 2) := by decide +kernel
theorem dX12_play_53 : decode cX12_play 53 = .ok (.iload 7, 2) := by decide +kernel
theorem dX12_play_55 : decode cX12_play 55 = .ok (.aload_n 0, 1) := by decide +kernel
theorem dX12_play_56 : decode cX12_play 56 = .ok (.getfield 288, 3) := by decide +kernel
theorem dX12_play_59 : decode cX12_play 59 = .ok (.if_icmp .ge 67, 3) := by decide +kernel
theorem dX12_play_62 : decode cX12_play 62 = .ok (.iload 6, 2) := by decide +kernel
theorem dX12_play_64 : decode cX12_play 64 = .ok (.iload 7, 2) := by decide +kernel
theorem dX12_play_66 : decode cX12_play 66 = .ok (.iadd, 1) := by decide +kernel
theorem dX12_play_67 : decode cX12_play 67 = .ok (.bipush 50, 2) := by decide +kernel
theorem dX12_play_69 : decode cX12_play 69 = .ok (.irem, 1) := by decide +kernel
theorem dX12_play_70 : decode cX12_play 70 = .ok (.istore 8, 2) := by decide +kernel
theorem dX12_play_72 : decode cX12_play 72 = .ok (.iload 8, 2) := by decide +kernel
theorem dX12_play_74 : decode cX12_play 74 = .ok (.ifCond .lt 46, 3) := by decide +kernel
theorem dX12_play_77 : decode cX12_play 77 = .ok (.iload 8, 2) := by decide +kernel
theorem dX12_play_79 : decode cX12_play 79 = .ok (.bipush 50, 2) := by decide +kernel
theorem dX12_play_81 : decode cX12_play 81 = .ok (.if_icmp .ge 39, 3) := by decide +kernel
theorem dX12_play_84 : decode cX12_play 84 = .ok (.aload_n 0, 1) := by decide +kernel
theorem dX12_play_85 : decode cX12_play 85 = .ok (.getfield 29, 3) := by decide +kernel
theorem dX12_play_88 : decode cX12_play 88 = .ok (.iload 8, 2) := by decide +kernel
theorem dX12_play_90 : decode cX12_play 90 = .ok (.iaload, 1) := by decide +kernel
theorem dX12_play_91 : decode cX12_play 91 = .ok (.iload_n 1, 1) := by decide +kernel
theorem dX12_play_92 : decode cX12_play 92 = .ok (.if_icmp .ne 28, 3) := by decide +kernel
theorem dX12_play_95 : decode cX12_play 95 = .ok (.aload_n 3, 1) := by decide +kernel
theorem dX12_play_96 : decode cX12_play 96 = .ok (.aload_n 0, 1) := by decide +kernel
theorem dX12_play_97 : decode cX12_play 97 = .ok (.getfield 33, 3) := by decide +kernel
theorem dX12_play_100 : decode cX12_play 100 = .ok (.iload 8, 2) := by decide +kernel
theorem dX12_play_102 : decode cX12_play 102 = .ok (.iaload, 1) := by decide +kernel
theorem dX12_play_103 : decode cX12_play 103 = .ok (.iload 4, 2) := by decide +kernel
theorem dX12_play_105 : decode cX12_play 105 = .ok (.invokevirtual 282, 3) := by decide +kernel
theorem dX12_play_108 : decode cX12_play 108 = .ok (.ifCond .eq 12, 3) := by decide +kernel
theorem dX12_play_111 : decode cX12_play 111 = .ok (.aload_n 3, 1) := by decide +kernel
theorem dX12_play_112 : decode cX12_play 112 = .ok (.iload 4, 2) := by decide +kernel
theorem dX12_play_114 : decode cX12_play 114 = .ok (.invokevirtual 273, 3) := by decide +kernel
theorem dX12_play_117 : decode cX12_play 117 = .ok (.iinc 5 1, 3) := by decide +kernel
theorem dX12_play_120 : decode cX12_play 120 = .ok (.iinc 7 1, 3) := by decide +kernel
theorem dX12_play_123 : decode cX12_play 123 = .ok (.goto (-70), 3) := by decide +kernel
theorem dX12_play_126 : decode cX12_play 126 = .ok (.iload 5, 2) := by decide +kernel
theorem dX12_play_128 : decode cX12_play 128 = .ok (.ireturn, 1) := by decide +kernel
theorem dX12_cursor_0 : decode cX12_cursor 0 = .ok (.aload_n 0, 1) := by decide +kernel
theorem dX12_cursor_1 : decode cX12_cursor 1 = .ok (.iload_n 1, 1) := by decide +kernel
theorem dX12_cursor_2 : decode cX12_cursor 2 = .ok (.invokevirtual 186, 3) := by decide +kernel
theorem dX12_cursor_5 : decode cX12_cursor 5 = .ok (.astore_n 3, 1) := by decide +kernel
theorem dX12_cursor_6 : decode cX12_cursor 6 = .ok (.aload_n 0, 1) := by decide +kernel
theorem dX12_cursor_7 : decode cX12_cursor 7 = .ok (.iload_n 2, 1) := by decide +kernel
theorem dX12_cursor_8 : decode cX12_cursor 8 = .ok (.iconst 0, 1) := by decide +kernel
theorem dX12_cursor_9 : decode cX12_cursor 9 = .ok (.iconst 5, 1) := by decide +kernel
theorem dX12_cursor_10 : decode cX12_cursor 10 = .ok (.invokevirtual 58, 3) := by decide +kernel
theorem dX12_cursor_13 : decode cX12_cursor 13 = .ok (.iload_n 2, 1) := by decide +kernel
theorem dX12_cursor_14 : decode cX12_cursor 14 = .ok (.tableswitch 67 0 4 #[34, 43, 52, 57, 62], 34) := by decide +kernel
theorem dX12_cursor_48 : decode cX12_cursor 48 = .ok (.aload_n 3, 1) := by decide +kernel
theorem dX12_cursor_49 : decode cX12_cursor 49 = .ok (.aload_n 3, 1) := by decide +kernel
theorem dX12_cursor_50 : decode cX12_cursor 50 = .ok (.getfield 291, 3) := by decide +kernel
theorem dX12_cursor_53 : decode cX12_cursor 53 = .ok (.invokevirtual 295, 3) := by decide +kernel
theorem dX12_cursor_56 : decode cX12_cursor 56 = .ok (.ireturn, 1) := by decide +kernel
theorem dX12_cursor_57 : decode cX12_cursor 57 = .ok (.aload_n 3, 1) := by decide +kernel
theorem dX12_cursor_58 : decode cX12_cursor 58 = .ok (.aload_n 3, 1) := by decide +kernel
theorem dX12_cursor_59 : decode cX12_cursor 59 = .ok (.getfield 291, 3) := by decide +kernel
theorem dX12_cursor_62 : decode cX12_cursor 62 = .ok (.invokevirtual 299, 3) := by decide +kernel
theorem dX12_cursor_65 : decode cX12_cursor 65 = .ok (.ireturn, 1) := by decide +kernel
theorem dX12_cursor_66 : decode cX12_cursor 66 = .ok (.aload_n 3, 1) := by decide +kernel
theorem dX12_cursor_67 : decode cX12_cursor 67 = .ok (.invokevirtual 276, 3) := by decide +kernel
theorem dX12_cursor_70 : decode cX12_cursor 70 = .ok (.ireturn, 1) := by decide +kernel
theorem dX12_cursor_71 : decode cX12_cursor 71 = .ok (.aload_n 3, 1) := by decide +kernel
theorem dX12_cursor_72 : decode cX12_cursor 72 = .ok (.invokevirtual 302, 3) := by decide +kernel
theorem dX12_cursor_75 : decode cX12_cursor 75 = .ok (.ireturn, 1) := by decide +kernel
theorem dX12_cursor_76 : decode cX12_cursor 76 = .ok (.aload_n 3, 1) := by decide +kernel
theorem dX12_cursor_77 : decode cX12_cursor 77 = .ok (.getfield 305, 3) := by decide +kernel
theorem dX12_cursor_80 : decode cX12_cursor 80 = .ok (.ireturn, 1) := by decide +kernel
theorem dX12_cursor_81 : decode cX12_cursor 81 = .ok (.aload_n 3, 1) := by decide +kernel
theorem dX12_cursor_82 : decode cX12_cursor 82 = .ok (.invokevirtual 308, 3) := by decide +kernel
theorem dX12_cursor_85 : decode cX12_cursor 85 = .ok (.ireturn, 1) := by decide +kernel
theorem dX12_type_0 : decode cX12_type 0 = .ok (.aload_n 0, 1) := by decide +kernel
theorem dX12_type_1 : decode cX12_type 1 = .ok (.iload_n 1, 1) := by decide +kernel
theorem dX12_type_2 : decode cX12_type 2 = .ok (.invokevirtual 186, 3) := by decide +kernel
theorem dX12_type_5 : decode cX12_type 5 = .ok (.astore_n 3, 1) := by decide +kernel
theorem dX12_type_6 : decode cX12_type 6 = .ok (.aload_n 0, 1) := by decide +kernel
theorem dX12_type_7 : decode cX12_type 7 = .ok (.iload_n 2, 1) := by decide +kernel
theorem dX12_type_8 : decode cX12_type 8 = .ok (.invokevirtual 66, 3) := by decide +kernel
theorem dX12_type_11 : decode cX12_type 11 = .ok (.aload_n 3, 1) := by decide +kernel
theorem dX12_type_12 : decode cX12_type 12 = .ok (.aload_n 3, 1) := by decide +kernel
theorem dX12_type_13 : decode cX12_type 13 = .ok (.getfield 291, 3) := by decide +kernel
theorem dX12_type_16 : decode cX12_type 16 = .ok (.invokevirtual 295, 3) := by decide +kernel
theorem dX12_type_19 : decode cX12_type 19 = .ok (.istore 4, 2) := by decide +kernel
theorem dX12_type_21 : decode cX12_type 21 = .ok (.aload_n 3, 1) := by decide +kernel
theorem dX12_type_22 : decode cX12_type 22 = .ok (.aload_n 3, 1) := by decide +kernel
theorem dX12_type_23 : decode cX12_type 23 = .ok (.getfield 291, 3) := by decide +kernel
theorem dX12_type_26 : decode cX12_type 26 = .ok (.invokevirtual 299, 3) := by decide +kernel
theorem dX12_type_29 : decode cX12_type 29 = .ok (.istore 5, 2) := by decide +kernel
theorem dX12_type_31 : decode cX12_type 31 = .ok (.aload_n 0, 1) := by decide +kernel
theorem dX12_type_32 : decode cX12_type 32 = .ok (.aload_n 0, 1) := by decide +kernel
theorem dX12_type_33 : decode cX12_type 33 = .ok (.getfield 25, 3) := by decide +kernel
theorem dX12_type_36 : decode cX12_type 36 = .ok (.iload_n 1, 1) := by decide +kernel
theorem dX12_type_37 : decode cX12_type 37 = .ok (.invokevirtual 246, 3) := by decide +kernel
theorem dX12_type_40 : decode cX12_type 40 = .ok (.ifCond .eq 21, 3) := by decide +kernel
theorem dX12_type_43 : decode cX12_type 43 = .ok (.aload_n 0, 1) := by decide +kernel
theorem dX12_type_44 : decode cX12_type 44 = .ok (.iload 4, 2) := by decide +kernel
theorem dX12_type_46 : decode cX12_type 46 = .ok (.invokevirtual 49, 3) := by decide +kernel
theorem dX12_type_49 : decode cX12_type 49 = .ok (.getfield 53, 3) := by decide +kernel
theorem dX12_type_52 : decode cX12_type 52 = .ok (.bipush 80, 2) := by decide +kernel
theorem dX12_type_54 : decode cX12_type 54 = .ok (.if_icmp .ge 7, 3) := by decide +kernel
theorem dX12_type_57 : decode cX12_type 57 = .ok (.iconst 1, 1) := by decide +kernel
theorem dX12_type_58 : decode cX12_type 58 = .ok (.goto 4, 3) := by decide +kernel
theorem dX12_type_61 : decode cX12_type 61 = .ok (.iconst 0, 1) := by decide +kernel
theorem dX12_type_62 : decode cX12_type 62 = .ok (.invokevirtual 70, 3) := by decide +kernel
theorem dX12_type_65 : decode cX12_type 65 = .ok (.aload_n 0, 1) := by decide +kernel
theorem dX12_type_66 : decode cX12_type 66 = .ok (.iload 4, 2) := by decide +kernel
theorem dX12_type_68 : decode cX12_type 68 = .ok (.iload 5, 2) := by decide +kernel
theorem dX12_type_70 : decode cX12_type 70 = .ok (.iload_n 2, 1) := by decide +kernel
theorem dX12_type_71 : decode cX12_type 71 = .ok (.invokevirtual 74, 3) := by decide +kernel
theorem dX12_type_74 : decode cX12_type 74 = .ok (.aload_n 3, 1) := by decide +kernel
theorem dX12_type_75 : decode cX12_type 75 = .ok (.invokevirtual 314, 3) := by decide +kernel
theorem dX12_type_78 : decode cX12_type 78 = .ok (.aload_n 3, 1) := by decide +kernel
theorem dX12_type_79 : decode cX12_type 79 = .ok (.iload 4, 2) := by decide +kernel
theorem dX12_type_81 : decode cX12_type 81 = .ok (.iload 5, 2) := by decide +kernel
theorem dX12_type_83 : decode cX12_type 83 = .ok (.iconst 1, 1) := by decide +kernel
theorem dX12_type_84 : decode cX12_type 84 = .ok (.iadd, 1) := by decide +kernel
theorem dX12_type_85 : decode cX12_type 85 = .ok (.invokevirtual 270, 3) := by decide +kernel
theorem dX12_type_88 : decode cX12_type 88 = .ok (.aload_n 3, 1) := by decide +kernel
theorem dX12_type_89 : decode cX12_type 89 = .ok (.aload_n 0, 1) := by decide +kernel
theorem dX12_type_90 : decode cX12_type 90 = .ok (.getfield 25, 3) := by decide +kernel
theorem dX12_type_93 : decode cX12_type 93 = .ok (.iload_n 1, 1) := by decide +kernel
theorem dX12_type_94 : decode cX12_type 94 = .ok (.invokevirtual 257, 3) := by decide +kernel
theorem dX12_type_97 : decode cX12_type 97 = .ok (.invokevirtual 273, 3) := by decide +kernel
theorem dX12_type_100 : decode cX12_type 100 = .ok (.iload 5, 2) := by decide +kernel
theorem dX12_type_102 : decode cX12_type 102 = .ok (.iconst 1, 1) := by decide +kernel
theorem dX12_type_103 : decode cX12_type 103 = .ok (.iadd, 1) := by decide +kernel
theorem dX12_type_104 : decode cX12_type 104 = .ok (.ireturn, 1) := by decide +kernel
theorem dX12_draw_0 : decode cX12_draw 0 = .ok (.aload_n 0, 1) := by decide +kernel
theorem dX12_draw_1 : decode cX12_draw 1 = .ok (.iload_n 1, 1) := by decide +kernel
theorem dX12_draw_2 : decode cX12_draw 2 = .ok (.invokevirtual 186, 3) := by decide +kernel
theorem dX12_draw_5 : decode cX12_draw 5 = .ok (.astore_n 2, 1) := by decide +kernel
theorem dX12_draw_6 : decode cX12_draw 6 = .ok (.aload_n 0, 1) := by decide +kernel
theorem dX12_draw_7 : decode cX12_draw 7 = .ok (.aload_n 0, 1) := by decide +kernel
theorem dX12_draw_8 : decode cX12_draw 8 = .ok (.getfield 25, 3) := by decide +kernel
theorem dX12_draw_11 : decode cX12_draw 11 = .ok (.iload_n 1, 1) := by decide +kernel
theorem dX12_draw_12 : decode cX12_draw 12 = .ok (.invokevirtual 246, 3) := by decide +kernel
theorem dX12_draw_15 : decode cX12_draw 15 = .ok (.invokevirtual 70, 3) := by decide +kernel
theorem dX12_draw_18 : decode cX12_draw 18 = .ok (.aload_n 2, 1) := by decide +kernel
theorem dX12_draw_19 : decode cX12_draw 19 = .ok (.aload_n 0, 1) := by decide +kernel
theorem dX12_draw_20 : decode cX12_draw 20 = .ok (.getfield 25, 3) := by decide +kernel
theorem dX12_draw_23 : decode cX12_draw 23 = .ok (.iload_n 1, 1) := by decide +kernel
theorem dX12_draw_24 : decode cX12_draw 24 = .ok (.invokevirtual 257, 3) := by decide +kernel
theorem dX12_draw_27 : decode cX12_draw 27 = .ok (.invokevirtual 330, 3) := by decide +kernel
theorem dX12_draw_30 : decode cX12_draw 30 = .ok (.ireturn, 1) := by decide +kernel
theorem dX12_shift_0 : decode cX12_shift 0 = .ok (.aload_n 0, 1) := by decide +kernel
theorem dX12_shift_1 : decode cX12_shift 1 = .ok (.iload_n 1, 1) := by decide +kernel
theorem dX12_shift_2 : decode cX12_shift 2 = .ok (.invokevirtual 100, 3) := by decide +kernel
theorem dX12_shift_5 : decode cX12_shift 5 = .ok (.getfield 333, 3) := by decide +kernel
theorem dX12_shift_8 : decode cX12_shift 8 = .ok (.ireturn, 1) := by decide +kernel
theorem dX12_checkPane_0 : decode cX12_checkPane 0 = .ok (.iload_n 1, 1) := by decide +kernel
theorem dX12_checkPane_1 : decode cX12_checkPane 1 = .ok (.ifCond .lt 8, 3) := by decide +kernel
theorem dX12_checkPane_4 : decode cX12_checkPane 4 = .ok (.iload_n 1, 1) := by decide +kernel
theorem dX12_checkPane_5 : decode cX12_checkPane 5 = .ok (.iconst 4, 1) := by decide +kernel
theorem dX12_checkPane_6 : decode cX12_checkPane 6 = .ok (.if_icmp .lt 14, 3) := by decide +kernel
theorem dX12_checkPane_9 : decode cX12_checkPane 9 = .ok (.new 133, 3) := by decide +kernel
theorem dX12_checkPane_12 : decode cX12_checkPane 12 = .ok (.dup, 1) := by decide +kernel
theorem dX12_checkPane_13 : decode cX12_checkPane 13 = .ok (.ldc_w 336, 3) := by decide +kernel
theorem dX12_checkPane_16 : decode cX12_checkPane 16 = .ok (.invokespecial 137, 3) := by decide +kernel
theorem dX12_checkPane_19 : decode cX12_checkPane 19 = .ok (.athrow, 1) := by decide +kernel
theorem dX12_checkPane_20 : decode cX12_checkPane 20 = .ok (.return_, 1) := by decide +kernel
theorem dX12_checkLine_0 : decode cX12_checkLine 0 = .ok (.iload_n 1, 1) := by decide +kernel
theorem dX12_checkLine_1 : decode cX12_checkLine 1 = .ok (.ifCond .lt 14, 3) := by decide +kernel
theorem dX12_checkLine_4 : decode cX12_checkLine 4 = .ok (.iload_n 1, 1) := by decide +kernel
theorem dX12_checkLine_5 : decode cX12_checkLine 5 = .ok (.aload_n 0, 1) := by decide +kernel
theorem dX12_checkLine_6 : decode cX12_checkLine 6 = .ok (.getfield 12, 3) := by decide +kernel
theorem dX12_checkLine_9 : decode cX12_checkLine 9 = .ok (.getfield 45, 3) := by decide +kernel
theorem dX12_checkLine_12 : decode cX12_checkLine 12 = .ok (.if_icmp .lt 14, 3) := by decide +kernel
theorem dX12_checkLine_15 : decode cX12_checkLine 15 = .ok (.new 133, 3) := by decide +kernel
theorem dX12_checkLine_18 : decode cX12_checkLine 18 = .ok (.dup, 1) := by decide +kernel
theorem dX12_checkLine_19 : decode cX12_checkLine 19 = .ok (.ldc_w 338, 3) := by decide +kernel
theorem dX12_checkLine_22 : decode cX12_checkLine 22 = .ok (.invokespecial 137, 3) := by decide +kernel
theorem dX12_checkLine_25 : decode cX12_checkLine 25 = .ok (.athrow, 1) := by decide +kernel
theorem dX12_checkLine_26 : decode cX12_checkLine 26 = .ok (.return_, 1) := by decide +kernel
theorem dX12_checkRow_0 : decode cX12_checkRow 0 = .ok (.iload_n 2, 1) := by decide +kernel
theorem dX12_checkRow_1 : decode cX12_checkRow 1 = .ok (.ifCond .lt 11, 3) := by decide +kernel
theorem dX12_checkRow_4 : decode cX12_checkRow 4 = .ok (.iload_n 2, 1) := by decide +kernel
theorem dX12_checkRow_5 : decode cX12_checkRow 5 = .ok (.aload_n 1, 1) := by decide +kernel
theorem dX12_checkRow_6 : decode cX12_checkRow 6 = .ok (.getfield 189, 3) := by decide +kernel
theorem dX12_checkRow_9 : decode cX12_checkRow 9 = .ok (.if_icmp .lt 14, 3) := by decide +kernel
theorem dX12_checkRow_12 : decode cX12_checkRow 12 = .ok (.new 133, 3) := by decide +kernel
theorem dX12_checkRow_15 : decode cX12_checkRow 15 = .ok (.dup, 1) := by decide +kernel
theorem dX12_checkRow_16 : decode cX12_checkRow 16 = .ok (.ldc_w 340, 3) := by decide +kernel
theorem dX12_checkRow_19 : decode cX12_checkRow 19 = .ok (.invokespecial 137, 3) := by decide +kernel
theorem dX12_checkRow_22 : decode cX12_checkRow 22 = .ok (.athrow, 1) := by decide +kernel
theorem dX12_checkRow_23 : decode cX12_checkRow 23 = .ok (.return_, 1) := by decide +kernel
theorem dX12_checkRange_0 : decode cX12_checkRange 0 = .ok (.iload_n 1, 1) := by decide +kernel
theorem dX12_checkRange_1 : decode cX12_checkRange 1 = .ok (.iload_n 2, 1) := by decide +kernel
theorem dX12_checkRange_2 : decode cX12_checkRange 2 = .ok (.if_icmp .lt 8, 3) := by decide +kernel
theorem dX12_checkRange_5 : decode cX12_checkRange 5 = .ok (.iload_n 1, 1) := by decide +kernel
theorem dX12_checkRange_6 : decode cX12_checkRange 6 = .ok (.iload_n 3, 1) := by decide +kernel
theorem dX12_checkRange_7 : decode cX12_checkRange 7 = .ok (.if_icmp .le 14, 3) := by decide +kernel
theorem dX12_checkRange_10 : decode cX12_checkRange 10 = .ok (.new 153, 3) := by decide +kernel
theorem dX12_checkRange_13 : decode cX12_checkRange 13 = .ok (.dup, 1) := by decide +kernel
theorem dX12_checkRange_14 : decode cX12_checkRange 14 = .ok (.ldc_w 342, 3) := by decide +kernel
theorem dX12_checkRange_17 : decode cX12_checkRange 17 = .ok (.invokespecial 157, 3) := by decide +kernel
theorem dX12_checkRange_20 : decode cX12_checkRange 20 = .ok (.athrow, 1) := by decide +kernel
theorem dX12_checkRange_21 : decode cX12_checkRange 21 = .ok (.return_, 1) := by decide +kernel
theorem dX12_checkSign_0 : decode cX12_checkSign 0 = .ok (.iload_n 1, 1) := by decide +kernel
theorem dX12_checkSign_1 : decode cX12_checkSign 1 = .ok (.bipush 9, 2) := by decide +kernel
theorem dX12_checkSign_3 : decode cX12_checkSign 3 = .ok (.if_icmp .eq 26, 3) := by decide +kernel
theorem dX12_checkSign_6 : decode cX12_checkSign 6 = .ok (.iload_n 1, 1) := by decide +kernel
theorem dX12_checkSign_7 : decode cX12_checkSign 7 = .ok (.bipush 32, 2) := by decide +kernel
theorem dX12_checkSign_9 : decode cX12_checkSign 9 = .ok (.if_icmp .lt 9, 3) := by decide +kernel
theorem dX12_checkSign_12 : decode cX12_checkSign 12 = .ok (.iload_n 1, 1) := by decide +kernel
theorem dX12_checkSign_13 : decode cX12_checkSign 13 = .ok (.bipush 126, 2) := by decide +kernel
theorem dX12_checkSign_15 : decode cX12_checkSign 15 = .ok (.if_icmp .le 14, 3) := by decide +kernel
theorem dX12_checkSign_18 : decode cX12_checkSign 18 = .ok (.new 153, 3) := by decide +kernel
theorem dX12_checkSign_21 : decode cX12_checkSign 21 = .ok (.dup, 1) := by decide +kernel
theorem dX12_checkSign_22 : decode cX12_checkSign 22 = .ok (.ldc_w 344, 3) := by decide +kernel
theorem dX12_checkSign_25 : decode cX12_checkSign 25 = .ok (.invokespecial 157, 3) := by decide +kernel
theorem dX12_checkSign_28 : decode cX12_checkSign 28 = .ok (.athrow, 1) := by decide +kernel
theorem dX12_checkSign_29 : decode cX12_checkSign 29 = .ok (.return_, 1) := by decide +kernel
theorem dX12_checkState_0 : decode cX12_checkState 0 = .ok (.iload_n 1, 1) := by decide +kernel
theorem dX12_checkState_1 : decode cX12_checkState 1 = .ok (.ifCond .ne 14, 3) := by decide +kernel
theorem dX12_checkState_4 : decode cX12_checkState 4 = .ok (.new 346, 3) := by decide +kernel
theorem dX12_checkState_7 : decode cX12_checkState 7 = .ok (.dup, 1) := by decide +kernel
theorem dX12_checkState_8 : decode cX12_checkState 8 = .ok (.ldc_w 348, 3) := by decide +kernel
theorem dX12_checkState_11 : decode cX12_checkState 11 = .ok (.invokespecial 350, 3) := by decide +kernel
theorem dX12_checkState_14 : decode cX12_checkState 14 = .ok (.athrow, 1) := by decide +kernel
theorem dX12_checkState_15 : decode cX12_checkState 15 = .ok (.return_, 1) := by decide +kernel
theorem dX12_lineOf_0 : decode cX12_lineOf 0 = .ok (.aload_n 0, 1) := by decide +kernel
theorem dX12_lineOf_1 : decode cX12_lineOf 1 = .ok (.iload_n 1, 1) := by decide +kernel
theorem dX12_lineOf_2 : decode cX12_lineOf 2 = .ok (.invokevirtual 166, 3) := by decide +kernel
theorem dX12_lineOf_5 : decode cX12_lineOf 5 = .ok (.aload_n 0, 1) := by decide +kernel
theorem dX12_lineOf_6 : decode cX12_lineOf 6 = .ok (.getfield 12, 3) := by decide +kernel
theorem dX12_lineOf_9 : decode cX12_lineOf 9 = .ok (.iload_n 1, 1) := by decide +kernel
theorem dX12_lineOf_10 : decode cX12_lineOf 10 = .ok (.invokevirtual 321, 3) := by decide +kernel
theorem dX12_lineOf_13 : decode cX12_lineOf 13 = .ok (.areturn, 1) := by decide +kernel
theorem dX12_paneOf_0 : decode cX12_paneOf 0 = .ok (.iload_n 1, 1) := by decide +kernel
theorem dX12_paneOf_1 : decode cX12_paneOf 1 = .ok (.ifCond .lt 8, 3) := by decide +kernel
theorem dX12_paneOf_4 : decode cX12_paneOf 4 = .ok (.iload_n 1, 1) := by decide +kernel
theorem dX12_paneOf_5 : decode cX12_paneOf 5 = .ok (.iconst 4, 1) := by decide +kernel
theorem dX12_paneOf_6 : decode cX12_paneOf 6 = .ok (.if_icmp .lt 14, 3) := by decide +kernel
theorem dX12_paneOf_9 : decode cX12_paneOf 9 = .ok (.new 133, 3) := by decide +kernel
theorem dX12_paneOf_12 : decode cX12_paneOf 12 = .ok (.dup, 1) := by decide +kernel
theorem dX12_paneOf_13 : decode cX12_paneOf 13 = .ok (.ldc_w 336, 3) := by decide +kernel
theorem dX12_paneOf_16 : decode cX12_paneOf 16 = .ok (.invokespecial 137, 3) := by decide +kernel
theorem dX12_paneOf_19 : decode cX12_paneOf 19 = .ok (.athrow, 1) := by decide +kernel
theorem dX12_paneOf_20 : decode cX12_paneOf 20 = .ok (.aload_n 0, 1) := by decide +kernel
theorem dX12_paneOf_21 : decode cX12_paneOf 21 = .ok (.getfield 18, 3) := by decide +kernel
theorem dX12_paneOf_24 : decode cX12_paneOf 24 = .ok (.iload_n 1, 1) := by decide +kernel
theorem dX12_paneOf_25 : decode cX12_paneOf 25 = .ok (.aaload, 1) := by decide +kernel
theorem dX12_paneOf_26 : decode cX12_paneOf 26 = .ok (.areturn, 1) := by decide +kernel
theorem dX12_laidPane_0 : decode cX12_laidPane 0 = .ok (.aload_n 0, 1) := by decide +kernel
theorem dX12_laidPane_1 : decode cX12_laidPane 1 = .ok (.iload_n 1, 1) := by decide +kernel
theorem dX12_laidPane_2 : decode cX12_laidPane 2 = .ok (.invokevirtual 100, 3) := by decide +kernel
theorem dX12_laidPane_5 : decode cX12_laidPane 5 = .ok (.astore_n 2, 1) := by decide +kernel
theorem dX12_laidPane_6 : decode cX12_laidPane 6 = .ok (.aload_n 2, 1) := by decide +kernel
theorem dX12_laidPane_7 : decode cX12_laidPane 7 = .ok (.invokevirtual 314, 3) := by decide +kernel
theorem dX12_laidPane_10 : decode cX12_laidPane 10 = .ok (.aload_n 2, 1) := by decide +kernel
theorem dX12_laidPane_11 : decode cX12_laidPane 11 = .ok (.areturn, 1) := by decide +kernel
theorem dX12_putIn_0 : decode cX12_putIn 0 = .ok (.aload_n 0, 1) := by decide +kernel
theorem dX12_putIn_1 : decode cX12_putIn 1 = .ok (.getfield 12, 3) := by decide +kernel
theorem dX12_putIn_4 : decode cX12_putIn 4 = .ok (.iload_n 1, 1) := by decide +kernel
theorem dX12_putIn_5 : decode cX12_putIn 5 = .ok (.invokevirtual 321, 3) := by decide +kernel
theorem dX12_putIn_8 : decode cX12_putIn 8 = .ok (.iload_n 2, 1) := by decide +kernel
theorem dX12_putIn_9 : decode cX12_putIn 9 = .ok (.iload_n 3, 1) := by decide +kernel
theorem dX12_putIn_10 : decode cX12_putIn 10 = .ok (.invokevirtual 351, 3) := by decide +kernel
theorem dX12_putIn_13 : decode cX12_putIn 13 = .ok (.aload_n 0, 1) := by decide +kernel
theorem dX12_putIn_14 : decode cX12_putIn 14 = .ok (.getfield 18, 3) := by decide +kernel
theorem dX12_putIn_17 : decode cX12_putIn 17 = .ok (.astore 4, 2) := by decide +kernel
theorem dX12_putIn_19 : decode cX12_putIn 19 = .ok (.aload 4, 2) := by decide +kernel
theorem dX12_putIn_21 : decode cX12_putIn 21 = .ok (.arraylength, 1) := by decide +kernel
theorem dX12_putIn_22 : decode cX12_putIn 22 = .ok (.istore 5, 2) := by decide +kernel
theorem dX12_putIn_24 : decode cX12_putIn 24 = .ok (.iconst 0, 1) := by decide +kernel
theorem dX12_putIn_25 : decode cX12_putIn 25 = .ok (.istore 6, 2) := by decide +kernel
theorem dX12_putIn_27 : decode cX12_putIn 27 = .ok (.iload 6, 2) := by decide +kernel
theorem dX12_putIn_29 : decode cX12_putIn 29 = .ok (.iload 5, 2) := by decide +kernel
theorem dX12_putIn_31 : decode cX12_putIn 31 = .ok (.if_icmp .ge 23, 3) := by decide +kernel
theorem dX12_putIn_34 : decode cX12_putIn 34 = .ok (.aload 4, 2) := by decide +kernel
theorem dX12_putIn_36 : decode cX12_putIn 36 = .ok (.iload 6, 2) := by decide +kernel
theorem dX12_putIn_38 : decode cX12_putIn 38 = .ok (.aaload, 1) := by decide +kernel
theorem dX12_putIn_39 : decode cX12_putIn 39 = .ok (.astore 7, 2) := by decide +kernel
theorem dX12_putIn_41 : decode cX12_putIn 41 = .ok (.aload 7, 2) := by decide +kernel
theorem dX12_putIn_43 : decode cX12_putIn 43 = .ok (.iload_n 1, 1) := by decide +kernel
theorem dX12_putIn_44 : decode cX12_putIn 44 = .ok (.iload_n 2, 1) := by decide +kernel
theorem dX12_putIn_45 : decode cX12_putIn 45 = .ok (.invokevirtual 353, 3) := by decide +kernel
theorem dX12_putIn_48 : decode cX12_putIn 48 = .ok (.iinc 6 1, 3) := by decide +kernel
theorem dX12_putIn_51 : decode cX12_putIn 51 = .ok (.goto (-24), 3) := by decide +kernel
theorem dX12_putIn_54 : decode cX12_putIn 54 = .ok (.return_, 1) := by decide +kernel
theorem dX12_logMove_0 : decode cX12_logMove 0 = .ok (.aload_n 0, 1) := by decide +kernel
theorem dX12_logMove_1 : decode cX12_logMove 1 = .ok (.getfield 285, 3) := by decide +kernel
theorem dX12_logMove_4 : decode cX12_logMove 4 = .ok (.ifCond .lt 32, 3) := by decide +kernel
theorem dX12_logMove_7 : decode cX12_logMove 7 = .ok (.aload_n 0, 1) := by decide +kernel
theorem dX12_logMove_8 : decode cX12_logMove 8 = .ok (.getfield 285, 3) := by decide +kernel
theorem dX12_logMove_11 : decode cX12_logMove 11 = .ok (.bipush 50, 2) := by decide +kernel
theorem dX12_logMove_13 : decode cX12_logMove 13 = .ok (.if_icmp .ge 23, 3) := by decide +kernel
theorem dX12_logMove_16 : decode cX12_logMove 16 = .ok (.aload_n 0, 1) := by decide +kernel
theorem dX12_logMove_17 : decode cX12_logMove 17 = .ok (.getfield 29, 3) := by decide +kernel
theorem dX12_logMove_20 : decode cX12_logMove 20 = .ok (.aload_n 0, 1) := by decide +kernel
theorem dX12_logMove_21 : decode cX12_logMove 21 = .ok (.getfield 285, 3) := by decide +kernel
theorem dX12_logMove_24 : decode cX12_logMove 24 = .ok (.iload_n 1, 1) := by decide +kernel
theorem dX12_logMove_25 : decode cX12_logMove 25 = .ok (.iastore, 1) := by decide +kernel
theorem dX12_logMove_26 : decode cX12_logMove 26 = .ok (.aload_n 0, 1) := by decide +kernel
theorem dX12_logMove_27 : decode cX12_logMove 27 = .ok (.getfield 33, 3) := by decide +kernel
theorem dX12_logMove_30 : decode cX12_logMove 30 = .ok (.aload_n 0, 1) := by decide +kernel
theorem dX12_logMove_31 : decode cX12_logMove 31 = .ok (.getfield 285, 3) := by decide +kernel
theorem dX12_logMove_34 : decode cX12_logMove 34 = .ok (.iload_n 2, 1) := by decide +kernel
theorem dX12_logMove_35 : decode cX12_logMove 35 = .ok (.iastore, 1) := by decide +kernel
theorem dX12_logMove_36 : decode cX12_logMove 36 = .ok (.aload_n 0, 1) := by decide +kernel
theorem dX12_logMove_37 : decode cX12_logMove 37 = .ok (.aload_n 0, 1) := by decide +kernel
theorem dX12_logMove_38 : decode cX12_logMove 38 = .ok (.getfield 285, 3) := by decide +kernel
theorem dX12_logMove_41 : decode cX12_logMove 41 = .ok (.iconst 1, 1) := by decide +kernel
theorem dX12_logMove_42 : decode cX12_logMove 42 = .ok (.iadd, 1) := by decide +kernel
theorem dX12_logMove_43 : decode cX12_logMove 43 = .ok (.bipush 50, 2) := by decide +kernel
theorem dX12_logMove_45 : decode cX12_logMove 45 = .ok (.irem, 1) := by decide +kernel
theorem dX12_logMove_46 : decode cX12_logMove 46 = .ok (.putfield 285, 3) := by decide +kernel
theorem dX12_logMove_49 : decode cX12_logMove 49 = .ok (.aload_n 0, 1) := by decide +kernel
theorem dX12_logMove_50 : decode cX12_logMove 50 = .ok (.aload_n 0, 1) := by decide +kernel
theorem dX12_logMove_51 : decode cX12_logMove 51 = .ok (.getfield 288, 3) := by decide +kernel
theorem dX12_logMove_54 : decode cX12_logMove 54 = .ok (.iconst 1, 1) := by decide +kernel
theorem dX12_logMove_55 : decode cX12_logMove 55 = .ok (.iadd, 1) := by decide +kernel
theorem dX12_logMove_56 : decode cX12_logMove 56 = .ok (.bipush 50, 2) := by decide +kernel
theorem dX12_logMove_58 : decode cX12_logMove 58 = .ok (.invokestatic 356, 3) := by decide +kernel
theorem dX12_logMove_61 : decode cX12_logMove 61 = .ok (.putfield 288, 3) := by decide +kernel
theorem dX12_logMove_64 : decode cX12_logMove 64 = .ok (.return_, 1) := by decide +kernel
theorem dX12_isBlank_0 : decode cX12_isBlank 0 = .ok (.iload_n 0, 1) := by decide +kernel
theorem dX12_isBlank_1 : decode cX12_isBlank 1 = .ok (.bipush 32, 2) := by decide +kernel
theorem dX12_isBlank_3 : decode cX12_isBlank 3 = .ok (.if_icmp .eq 9, 3) := by decide +kernel
theorem dX12_isBlank_6 : decode cX12_isBlank 6 = .ok (.iload_n 0, 1) := by decide +kernel
theorem dX12_isBlank_7 : decode cX12_isBlank 7 = .ok (.bipush 9, 2) := by decide +kernel
theorem dX12_isBlank_9 : decode cX12_isBlank 9 = .ok (.if_icmp .ne 7, 3) := by decide +kernel
theorem dX12_isBlank_12 : decode cX12_isBlank 12 = .ok (.iconst 1, 1) := by decide +kernel
theorem dX12_isBlank_13 : decode cX12_isBlank 13 = .ok (.goto 4, 3) := by decide +kernel
theorem dX12_isBlank_16 : decode cX12_isBlank 16 = .ok (.iconst 0, 1) := by decide +kernel
theorem dX12_isBlank_17 : decode cX12_isBlank 17 = .ok (.ireturn, 1) := by decide +kernel
theorem dJ9_max_7cf53_0 : decode cJ9_max_7cf53 0 = .ok (.iload_n 0, 1) := by decide +kernel
theorem dJ9_max_7cf53_1 : decode cJ9_max_7cf53 1 = .ok (.iload_n 1, 1) := by decide +kernel
theorem dJ9_max_7cf53_2 : decode cJ9_max_7cf53 2 = .ok (.if_icmp .lt 7, 3) := by decide +kernel
theorem dJ9_max_7cf53_5 : decode cJ9_max_7cf53 5 = .ok (.iload_n 0, 1) := by decide +kernel
theorem dJ9_max_7cf53_6 : decode cJ9_max_7cf53 6 = .ok (.goto 4, 3) := by decide +kernel
theorem dJ9_max_7cf53_9 : decode cJ9_max_7cf53 9 = .ok (.iload_n 1, 1) := by decide +kernel
theorem dJ9_max_7cf53_10 : decode cJ9_max_7cf53 10 = .ok (.ireturn, 1) := by decide +kernel
theorem dJ9_min_7cf53_0 : decode cJ9_min_7cf53 0 = .ok (.iload_n 0, 1) := by decide +kernel
theorem dJ9_min_7cf53_1 : decode cJ9_min_7cf53 1 = .ok (.iload_n 1, 1) := by decide +kernel
theorem dJ9_min_7cf53_2 : decode cJ9_min_7cf53 2 = .ok (.if_icmp .gt 7, 3) := by decide +kernel
theorem dJ9_min_7cf53_5 : decode cJ9_min_7cf53 5 = .ok (.iload_n 0, 1) := by decide +kernel
theorem dJ9_min_7cf53_6 : decode cJ9_min_7cf53 6 = .ok (.goto 4, 3) := by decide +kernel
theorem dJ9_min_7cf53_9 : decode cJ9_min_7cf53 9 = .ok (.iload_n 1, 1) := by decide +kernel
theorem dJ9_min_7cf53_10 : decode cJ9_min_7cf53 10 = .ok (.ireturn, 1) := by decide +kernel
theorem dJxa1e45_init_da8c8_0 : decode cJxa1e45_init_da8c8 0 = .ok (.aload_n 0, 1) := by decide +kernel
theorem dJxa1e45_init_da8c8_1 : decode cJxa1e45_init_da8c8 1 = .ok (.invokespecial 1, 3) := by decide +kernel
theorem dJxa1e45_init_da8c8_4 : decode cJxa1e45_init_da8c8 4 = .ok (.return_, 1) := by decide +kernel
theorem dJxc12de_init_da8c8_0 : decode cJxc12de_init_da8c8 0 = .ok (.aload_n 0, 1) := by decide +kernel
theorem dJxc12de_init_da8c8_1 : decode cJxc12de_init_da8c8 1 = .ok (.invokespecial 1, 3) := by decide +kernel
theorem dJxc12de_init_da8c8_4 : decode cJxc12de_init_da8c8 4 = .ok (.aload_n 0, 1) := by decide +kernel
theorem dJxc12de_init_da8c8_5 : decode cJxc12de_init_da8c8 5 = .ok (.iconst 0, 1) := by decide +kernel
theorem dJxc12de_init_da8c8_6 : decode cJxc12de_init_da8c8 6 = .ok (.putfield 7, 3) := by decide +kernel
theorem dJxc12de_init_da8c8_9 : decode cJxc12de_init_da8c8 9 = .ok (.return_, 1) := by decide +kernel
theorem dJx4a65c_init_da8c8_0 : decode cJx4a65c_init_da8c8 0 = .ok (.aload_n 0, 1) := by decide +kernel
theorem dJx4a65c_init_da8c8_1 : decode cJx4a65c_init_da8c8 1 = .ok (.invokespecial 1, 3) := by decide +kernel
theorem dJx4a65c_init_da8c8_4 : decode cJx4a65c_init_da8c8 4 = .ok (.aload_n 0, 1) := by decide +kernel
theorem dJx4a65c_init_da8c8_5 : decode cJx4a65c_init_da8c8 5 = .ok (.getstatic 39, 3) := by decide +kernel
theorem dJx4a65c_init_da8c8_8 : decode cJx4a65c_init_da8c8 8 = .ok (.putfield 9, 3) := by decide +kernel
theorem dJx4a65c_init_da8c8_11 : decode cJx4a65c_init_da8c8 11 = .ok (.return_, 1) := by decide +kernel
theorem dJx4a65c_grow_92f84_0 : decode cJx4a65c_grow_92f84 0 = .ok (.aload_n 0, 1) := by decide +kernel
theorem dJx4a65c_grow_92f84_1 : decode cJx4a65c_grow_92f84 1 = .ok (.getfield 9, 3) := by decide +kernel
theorem dJx4a65c_grow_92f84_4 : decode cJx4a65c_grow_92f84 4 = .ok (.arraylength, 1) := by decide +kernel
theorem dJx4a65c_grow_92f84_5 : decode cJx4a65c_grow_92f84 5 = .ok (.istore_n 2, 1) := by decide +kernel
theorem dJx4a65c_grow_92f84_6 : decode cJx4a65c_grow_92f84 6 = .ok (.iload_n 2, 1) := by decide +kernel
theorem dJx4a65c_grow_92f84_7 : decode cJx4a65c_grow_92f84 7 = .ok (.ifCond .gt 13, 3) := by decide +kernel
theorem dJx4a65c_grow_92f84_10 : decode cJx4a65c_grow_92f84 10 = .ok (.aload_n 0, 1) := by decide +kernel
theorem dJx4a65c_grow_92f84_11 : decode cJx4a65c_grow_92f84 11 = .ok (.getfield 9, 3) := by decide +kernel
theorem dJx4a65c_grow_92f84_14 : decode cJx4a65c_grow_92f84 14 = .ok (.getstatic 39, 3) := by decide +kernel
theorem dJx4a65c_grow_92f84_17 : decode cJx4a65c_grow_92f84 17 = .ok (.if_acmp .eq 28, 3) := by decide +kernel
theorem dJx4a65c_grow_92f84_20 : decode cJx4a65c_grow_92f84 20 = .ok (.iload_n 2, 1) := by decide +kernel
theorem dJx4a65c_grow_92f84_21 : decode cJx4a65c_grow_92f84 21 = .ok (.iload_n 1, 1) := by decide +kernel
theorem dJx4a65c_grow_92f84_22 : decode cJx4a65c_grow_92f84 22 = .ok (.iload_n 2, 1) := by decide +kernel
theorem dJx4a65c_grow_92f84_23 : decode cJx4a65c_grow_92f84 23 = .ok (.isub, 1) := by decide +kernel
theorem dJx4a65c_grow_92f84_24 : decode cJx4a65c_grow_92f84 24 = .ok (.iload_n 2, 1) := by decide +kernel
theorem dJx4a65c_grow_92f84_25 : decode cJx4a65c_grow_92f84 25 = .ok (.iconst 1, 1) := by decide +kernel
theorem dJx4a65c_grow_92f84_26 : decode cJx4a65c_grow_92f84 26 = .ok (.ishr, 1) := by decide +kernel
theorem dJx4a65c_grow_92f84_27 : decode cJx4a65c_grow_92f84 27 = .ok (.invokestatic 73, 3) := by decide +kernel
theorem dJx4a65c_grow_92f84_30 : decode cJx4a65c_grow_92f84 30 = .ok (.istore_n 3, 1) := by decide +kernel
theorem dJx4a65c_grow_92f84_31 : decode cJx4a65c_grow_92f84 31 = .ok (.aload_n 0, 1) := by decide +kernel
theorem dJx4a65c_grow_92f84_32 : decode cJx4a65c_grow_92f84 32 = .ok (.aload_n 0, 1) := by decide +kernel
theorem dJx4a65c_grow_92f84_33 : decode cJx4a65c_grow_92f84 33 = .ok (.getfield 9, 3) := by decide +kernel
theorem dJx4a65c_grow_92f84_36 : decode cJx4a65c_grow_92f84 36 = .ok (.iload_n 3, 1) := by decide +kernel
theorem dJx4a65c_grow_92f84_37 : decode cJx4a65c_grow_92f84 37 = .ok (.invokestatic 66, 3) := by decide +kernel
theorem dJx4a65c_grow_92f84_40 : decode cJx4a65c_grow_92f84 40 = .ok (.dup_x1, 1) := by decide +kernel
theorem dJx4a65c_grow_92f84_41 : decode cJx4a65c_grow_92f84 41 = .ok (.putfield 9, 3) := by decide +kernel
theorem dJx4a65c_grow_92f84_44 : decode cJx4a65c_grow_92f84 44 = .ok (.areturn, 1) := by decide +kernel
theorem dJx4a65c_grow_92f84_45 : decode cJx4a65c_grow_92f84 45 = .ok (.aload_n 0, 1) := by decide +kernel
theorem dJx4a65c_grow_92f84_46 : decode cJx4a65c_grow_92f84 46 = .ok (.bipush 10, 2) := by decide +kernel
theorem dJx4a65c_grow_92f84_48 : decode cJx4a65c_grow_92f84 48 = .ok (.iload_n 1, 1) := by decide +kernel
theorem dJx4a65c_grow_92f84_49 : decode cJx4a65c_grow_92f84 49 = .ok (.invokestatic 79, 3) := by decide +kernel
theorem dJx4a65c_grow_92f84_52 : decode cJx4a65c_grow_92f84 52 = .ok (.anewarray 7, 3) := by decide +kernel
theorem dJx4a65c_grow_92f84_55 : decode cJx4a65c_grow_92f84 55 = .ok (.dup_x1, 1) := by decide +kernel
theorem dJx4a65c_grow_92f84_56 : decode cJx4a65c_grow_92f84 56 = .ok (.putfield 9, 3) := by decide +kernel
theorem dJx4a65c_grow_92f84_59 : decode cJx4a65c_grow_92f84 59 = .ok (.areturn, 1) := by decide +kernel
theorem dJx4a65c_grow_d5877_0 : decode cJx4a65c_grow_d5877 0 = .ok (.aload_n 0, 1) := by decide +kernel
theorem dJx4a65c_grow_d5877_1 : decode cJx4a65c_grow_d5877 1 = .ok (.aload_n 0, 1) := by decide +kernel
theorem dJx4a65c_grow_d5877_2 : decode cJx4a65c_grow_d5877 2 = .ok (.getfield 48, 3) := by decide +kernel
theorem dJx4a65c_grow_d5877_5 : decode cJx4a65c_grow_d5877 5 = .ok (.iconst 1, 1) := by decide +kernel
theorem dJx4a65c_grow_d5877_6 : decode cJx4a65c_grow_d5877 6 = .ok (.iadd, 1) := by decide +kernel
theorem dJx4a65c_grow_d5877_7 : decode cJx4a65c_grow_d5877 7 = .ok (.invokevirtual 69, 3) := by decide +kernel
theorem dJx4a65c_grow_d5877_10 : decode cJx4a65c_grow_d5877 10 = .ok (.areturn, 1) := by decide +kernel
theorem dJx4a65c_size_8abf5_0 : decode cJx4a65c_size_8abf5 0 = .ok (.aload_n 0, 1) := by decide +kernel
theorem dJx4a65c_size_8abf5_1 : decode cJx4a65c_size_8abf5 1 = .ok (.getfield 48, 3) := by decide +kernel
theorem dJx4a65c_size_8abf5_4 : decode cJx4a65c_size_8abf5 4 = .ok (.ireturn, 1) := by decide +kernel
theorem dJx4a65c_elementData_915e3_0 : decode cJx4a65c_elementData_915e3 0 = .ok (.aload_n 0, 1) := by decide +kernel
theorem dJx4a65c_elementData_915e3_1 : decode cJx4a65c_elementData_915e3 1 = .ok (.getfield 9, 3) := by decide +kernel
theorem dJx4a65c_elementData_915e3_4 : decode cJx4a65c_elementData_915e3 4 = .ok (.iload_n 1, 1) := by decide +kernel
theorem dJx4a65c_elementData_915e3_5 : decode cJx4a65c_elementData_915e3 5 = .ok (.aaload, 1) := by decide +kernel
theorem dJx4a65c_elementData_915e3_6 : decode cJx4a65c_elementData_915e3 6 = .ok (.areturn, 1) := by decide +kernel
theorem dJx4a65c_get_915e3_0 : decode cJx4a65c_get_915e3 0 = .ok (.iload_n 1, 1) := by decide +kernel
theorem dJx4a65c_get_915e3_1 : decode cJx4a65c_get_915e3 1 = .ok (.aload_n 0, 1) := by decide +kernel
theorem dJx4a65c_get_915e3_2 : decode cJx4a65c_get_915e3 2 = .ok (.getfield 48, 3) := by decide +kernel
theorem dJx4a65c_get_915e3_5 : decode cJx4a65c_get_915e3 5 = .ok (.invokestatic 118, 3) := by decide +kernel
theorem dJx4a65c_get_915e3_8 : decode cJx4a65c_get_915e3 8 = .ok (.pop, 1) := by decide +kernel
theorem dJx4a65c_get_915e3_9 : decode cJx4a65c_get_915e3 9 = .ok (.aload_n 0, 1) := by decide +kernel
theorem dJx4a65c_get_915e3_10 : decode cJx4a65c_get_915e3 10 = .ok (.iload_n 1, 1) := by decide +kernel
theorem dJx4a65c_get_915e3_11 : decode cJx4a65c_get_915e3 11 = .ok (.invokevirtual 123, 3) := by decide +kernel
theorem dJx4a65c_get_915e3_14 : decode cJx4a65c_get_915e3 14 = .ok (.areturn, 1) := by decide +kernel
theorem dJx4a65c_add_72be8_0 : decode cJx4a65c_add_72be8 0 = .ok (.iload_n 3, 1) := by decide +kernel
theorem dJx4a65c_add_72be8_1 : decode cJx4a65c_add_72be8 1 = .ok (.aload_n 2, 1) := by decide +kernel
theorem dJx4a65c_add_72be8_2 : decode cJx4a65c_add_72be8 2 = .ok (.arraylength, 1) := by decide +kernel
theorem dJx4a65c_add_72be8_3 : decode cJx4a65c_add_72be8 3 = .ok (.if_icmp .ne 8, 3) := by decide +kernel
theorem dJx4a65c_add_72be8_6 : decode cJx4a65c_add_72be8 6 = .ok (.aload_n 0, 1) := by decide +kernel
theorem dJx4a65c_add_72be8_7 : decode cJx4a65c_add_72be8 7 = .ok (.invokevirtual 129, 3) := by decide +kernel
theorem dJx4a65c_add_72be8_10 : decode cJx4a65c_add_72be8 10 = .ok (.astore_n 2, 1) := by decide +kernel
theorem dJx4a65c_add_72be8_11 : decode cJx4a65c_add_72be8 11 = .ok (.aload_n 2, 1) := by decide +kernel
theorem dJx4a65c_add_72be8_12 : decode cJx4a65c_add_72be8 12 = .ok (.iload_n 3, 1) := by decide +kernel
theorem dJx4a65c_add_72be8_13 : decode cJx4a65c_add_72be8 13 = .ok (.aload_n 1, 1) := by decide +kernel
theorem dJx4a65c_add_72be8_14 : decode cJx4a65c_add_72be8 14 = .ok (.aastore, 1) := by decide +kernel
theorem dJx4a65c_add_72be8_15 : decode cJx4a65c_add_72be8 15 = .ok (.aload_n 0, 1) := by decide +kernel
theorem dJx4a65c_add_72be8_16 : decode cJx4a65c_add_72be8 16 = .ok (.iload_n 3, 1) := by decide +kernel
theorem dJx4a65c_add_72be8_17 : decode cJx4a65c_add_72be8 17 = .ok (.iconst 1, 1) := by decide +kernel
theorem dJx4a65c_add_72be8_18 : decode cJx4a65c_add_72be8 18 = .ok (.iadd, 1) := by decide +kernel
theorem dJx4a65c_add_72be8_19 : decode cJx4a65c_add_72be8 19 = .ok (.putfield 48, 3) := by decide +kernel
theorem dJx4a65c_add_72be8_22 : decode cJx4a65c_add_72be8 22 = .ok (.return_, 1) := by decide +kernel
theorem dJx4a65c_add_9ea2d_0 : decode cJx4a65c_add_9ea2d 0 = .ok (.aload_n 0, 1) := by decide +kernel
theorem dJx4a65c_add_9ea2d_1 : decode cJx4a65c_add_9ea2d 1 = .ok (.dup, 1) := by decide +kernel
theorem dJx4a65c_add_9ea2d_2 : decode cJx4a65c_add_9ea2d 2 = .ok (.getfield 63, 3) := by decide +kernel
theorem dJx4a65c_add_9ea2d_5 : decode cJx4a65c_add_9ea2d 5 = .ok (.iconst 1, 1) := by decide +kernel
theorem dJx4a65c_add_9ea2d_6 : decode cJx4a65c_add_9ea2d 6 = .ok (.iadd, 1) := by decide +kernel
theorem dJx4a65c_add_9ea2d_7 : decode cJx4a65c_add_9ea2d 7 = .ok (.putfield 63, 3) := by decide +kernel
theorem dJx4a65c_add_9ea2d_10 : decode cJx4a65c_add_9ea2d 10 = .ok (.aload_n 0, 1) := by decide +kernel
theorem dJx4a65c_add_9ea2d_11 : decode cJx4a65c_add_9ea2d 11 = .ok (.aload_n 1, 1) := by decide +kernel
theorem dJx4a65c_add_9ea2d_12 : decode cJx4a65c_add_9ea2d 12 = .ok (.aload_n 0, 1) := by decide +kernel
theorem dJx4a65c_add_9ea2d_13 : decode cJx4a65c_add_9ea2d 13 = .ok (.getfield 9, 3) := by decide +kernel
theorem dJx4a65c_add_9ea2d_16 : decode cJx4a65c_add_9ea2d 16 = .ok (.aload_n 0, 1) := by decide +kernel
theorem dJx4a65c_add_9ea2d_17 : decode cJx4a65c_add_9ea2d 17 = .ok (.getfield 48, 3) := by decide +kernel
theorem dJx4a65c_add_9ea2d_20 : decode cJx4a65c_add_9ea2d 20 = .ok (.invokevirtual 131, 3) := by decide +kernel
theorem dJx4a65c_add_9ea2d_23 : decode cJx4a65c_add_9ea2d 23 = .ok (.iconst 1, 1) := by decide +kernel
theorem dJx4a65c_add_9ea2d_24 : decode cJx4a65c_add_9ea2d 24 = .ok (.ireturn, 1) := by decide +kernel
theorem dJx4a65c_remove_915e3_0 : decode cJx4a65c_remove_915e3 0 = .ok (.iload_n 1, 1) := by decide +kernel
theorem dJx4a65c_remove_915e3_1 : decode cJx4a65c_remove_915e3 1 = .ok (.aload_n 0, 1) := by decide +kernel
theorem dJx4a65c_remove_915e3_2 : decode cJx4a65c_remove_915e3 2 = .ok (.getfield 48, 3) := by decide +kernel
theorem dJx4a65c_remove_915e3_5 : decode cJx4a65c_remove_915e3 5 = .ok (.invokestatic 118, 3) := by decide +kernel
theorem dJx4a65c_remove_915e3_8 : decode cJx4a65c_remove_915e3 8 = .ok (.pop, 1) := by decide +kernel
theorem dJx4a65c_remove_915e3_9 : decode cJx4a65c_remove_915e3 9 = .ok (.aload_n 0, 1) := by decide +kernel
theorem dJx4a65c_remove_915e3_10 : decode cJx4a65c_remove_915e3 10 = .ok (.getfield 9, 3) := by decide +kernel
theorem dJx4a65c_remove_915e3_13 : decode cJx4a65c_remove_915e3 13 = .ok (.astore_n 2, 1) := by decide +kernel
theorem dJx4a65c_remove_915e3_14 : decode cJx4a65c_remove_915e3 14 = .ok (.aload_n 2, 1) := by decide +kernel
theorem dJx4a65c_remove_915e3_15 : decode cJx4a65c_remove_915e3 15 = .ok (.iload_n 1, 1) := by decide +kernel
theorem dJx4a65c_remove_915e3_16 : decode cJx4a65c_remove_915e3 16 = .ok (.aaload, 1) := by decide +kernel
theorem dJx4a65c_remove_915e3_17 : decode cJx4a65c_remove_915e3 17 = .ok (.astore_n 3, 1) := by decide +kernel
theorem dJx4a65c_remove_915e3_18 : decode cJx4a65c_remove_915e3 18 = .ok (.aload_n 0, 1) := by decide +kernel
theorem dJx4a65c_remove_915e3_19 : decode cJx4a65c_remove_915e3 19 = .ok (.aload_n 2, 1) := by decide +kernel
theorem dJx4a65c_remove_915e3_20 : decode cJx4a65c_remove_915e3 20 = .ok (.iload_n 1, 1) := by decide +kernel
theorem dJx4a65c_remove_915e3_21 : decode cJx4a65c_remove_915e3 21 = .ok (.invokevirtual 144, 3) := by decide +kernel
theorem dJx4a65c_remove_915e3_24 : decode cJx4a65c_remove_915e3 24 = .ok (.aload_n 3, 1) := by decide +kernel
theorem dJx4a65c_remove_915e3_25 : decode cJx4a65c_remove_915e3 25 = .ok (.areturn, 1) := by decide +kernel
theorem dJx4a65c_fastRemove_b59b0_0 : decode cJx4a65c_fastRemove_b59b0 0 = .ok (.aload_n 0, 1) := by decide +kernel
theorem dJx4a65c_fastRemove_b59b0_1 : decode cJx4a65c_fastRemove_b59b0 1 = .ok (.dup, 1) := by decide +kernel
theorem dJx4a65c_fastRemove_b59b0_2 : decode cJx4a65c_fastRemove_b59b0 2 = .ok (.getfield 63, 3) := by decide +kernel
theorem dJx4a65c_fastRemove_b59b0_5 : decode cJx4a65c_fastRemove_b59b0 5 = .ok (.iconst 1, 1) := by decide +kernel
theorem dJx4a65c_fastRemove_b59b0_6 : decode cJx4a65c_fastRemove_b59b0 6 = .ok (.iadd, 1) := by decide +kernel
theorem dJx4a65c_fastRemove_b59b0_7 : decode cJx4a65c_fastRemove_b59b0 7 = .ok (.putfield 63, 3) := by decide +kernel
theorem dJx4a65c_fastRemove_b59b0_10 : decode cJx4a65c_fastRemove_b59b0 10 = .ok (.aload_n 0, 1) := by decide +kernel
theorem dJx4a65c_fastRemove_b59b0_11 : decode cJx4a65c_fastRemove_b59b0 11 = .ok (.getfield 48, 3) := by decide +kernel
theorem dJx4a65c_fastRemove_b59b0_14 : decode cJx4a65c_fastRemove_b59b0 14 = .ok (.iconst 1, 1) := by decide +kernel
theorem dJx4a65c_fastRemove_b59b0_15 : decode cJx4a65c_fastRemove_b59b0 15 = .ok (.isub, 1) := by decide +kernel
theorem dJx4a65c_fastRemove_b59b0_16 : decode cJx4a65c_fastRemove_b59b0 16 = .ok (.dup, 1) := by decide +kernel
theorem dJx4a65c_fastRemove_b59b0_17 : decode cJx4a65c_fastRemove_b59b0 17 = .ok (.istore_n 3, 1) := by decide +kernel
theorem dJx4a65c_fastRemove_b59b0_18 : decode cJx4a65c_fastRemove_b59b0 18 = .ok (.iload_n 2, 1) := by decide +kernel
theorem dJx4a65c_fastRemove_b59b0_19 : decode cJx4a65c_fastRemove_b59b0 19 = .ok (.if_icmp .le 15, 3) := by decide +kernel
theorem dJx4a65c_fastRemove_b59b0_22 : decode cJx4a65c_fastRemove_b59b0 22 = .ok (.aload_n 1, 1) := by decide +kernel
theorem dJx4a65c_fastRemove_b59b0_23 : decode cJx4a65c_fastRemove_b59b0 23 = .ok (.iload_n 2, 1) := by decide +kernel
theorem dJx4a65c_fastRemove_b59b0_24 : decode cJx4a65c_fastRemove_b59b0 24 = .ok (.iconst 1, 1) := by decide +kernel
theorem dJx4a65c_fastRemove_b59b0_25 : decode cJx4a65c_fastRemove_b59b0 25 = .ok (.iadd, 1) := by decide +kernel
theorem dJx4a65c_fastRemove_b59b0_26 : decode cJx4a65c_fastRemove_b59b0 26 = .ok (.aload_n 1, 1) := by decide +kernel
theorem dJx4a65c_fastRemove_b59b0_27 : decode cJx4a65c_fastRemove_b59b0 27 = .ok (.iload_n 2, 1) := by decide +kernel
theorem dJx4a65c_fastRemove_b59b0_28 : decode cJx4a65c_fastRemove_b59b0 28 = .ok (.iload_n 3, 1) := by decide +kernel
theorem dJx4a65c_fastRemove_b59b0_29 : decode cJx4a65c_fastRemove_b59b0 29 = .ok (.iload_n 2, 1) := by decide +kernel
theorem dJx4a65c_fastRemove_b59b0_30 : decode cJx4a65c_fastRemove_b59b0 30 = .ok (.isub, 1) := by decide +kernel
theorem dJx4a65c_fastRemove_b59b0_31 : decode cJx4a65c_fastRemove_b59b0 31 = .ok (.invokestatic 112, 3) := by decide +kernel
theorem dJx4a65c_fastRemove_b59b0_34 : decode cJx4a65c_fastRemove_b59b0 34 = .ok (.aload_n 1, 1) := by decide +kernel
theorem dJx4a65c_fastRemove_b59b0_35 : decode cJx4a65c_fastRemove_b59b0 35 = .ok (.aload_n 0, 1) := by decide +kernel
theorem dJx4a65c_fastRemove_b59b0_36 : decode cJx4a65c_fastRemove_b59b0 36 = .ok (.iload_n 3, 1) := by decide +kernel
theorem dJx4a65c_fastRemove_b59b0_37 : decode cJx4a65c_fastRemove_b59b0 37 = .ok (.dup_x1, 1) := by decide +kernel
theorem dJx4a65c_fastRemove_b59b0_38 : decode cJx4a65c_fastRemove_b59b0 38 = .ok (.putfield 48, 3) := by decide +kernel
theorem dJx4a65c_fastRemove_b59b0_41 : decode cJx4a65c_fastRemove_b59b0 41 = .ok (.aconst_null, 1) := by decide +kernel
theorem dJx4a65c_fastRemove_b59b0_42 : decode cJx4a65c_fastRemove_b59b0 42 = .ok (.aastore, 1) := by decide +kernel
theorem dJx4a65c_fastRemove_b59b0_43 : decode cJx4a65c_fastRemove_b59b0 43 = .ok (.return_, 1) := by decide +kernel
theorem dJ7_copyOf_1904c_0 : decode cJ7_copyOf_1904c 0 = .ok (.aload_n 0, 1) := by decide +kernel
theorem dJ7_copyOf_1904c_1 : decode cJ7_copyOf_1904c 1 = .ok (.iload_n 1, 1) := by decide +kernel
theorem dJ7_copyOf_1904c_2 : decode cJ7_copyOf_1904c 2 = .ok (.aload_n 0, 1) := by decide +kernel
theorem dJ7_copyOf_1904c_3 : decode cJ7_copyOf_1904c 3 = .ok (.invokevirtual 86, 3) := by decide +kernel
theorem dJ7_copyOf_1904c_6 : decode cJ7_copyOf_1904c 6 = .ok (.invokestatic 300, 3) := by decide +kernel
theorem dJ7_copyOf_1904c_9 : decode cJ7_copyOf_1904c 9 = .ok (.areturn, 1) := by decide +kernel
theorem dJ7_copyOf_6403c_0 : decode cJ7_copyOf_6403c 0 = .ok (.aload_n 2, 1) := by decide +kernel
theorem dJ7_copyOf_6403c_1 : decode cJ7_copyOf_6403c 1 = .ok (.ldc 110, 2) := by decide +kernel
theorem dJ7_copyOf_6403c_3 : decode cJ7_copyOf_6403c 3 = .ok (.if_acmp .ne 10, 3) := by decide +kernel
theorem dJ7_copyOf_6403c_6 : decode cJ7_copyOf_6403c 6 = .ok (.iload_n 1, 1) := by decide +kernel
theorem dJ7_copyOf_6403c_7 : decode cJ7_copyOf_6403c 7 = .ok (.anewarray 2, 3) := by decide +kernel
theorem dJ7_copyOf_6403c_10 : decode cJ7_copyOf_6403c 10 = .ok (.goto 14, 3) := by decide +kernel
theorem dJ7_copyOf_6403c_13 : decode cJ7_copyOf_6403c 13 = .ok (.aload_n 2, 1) := by decide +kernel
theorem dJ7_copyOf_6403c_14 : decode cJ7_copyOf_6403c 14 = .ok (.invokevirtual 90, 3) := by decide +kernel
theorem dJ7_copyOf_6403c_17 : decode cJ7_copyOf_6403c 17 = .ok (.iload_n 1, 1) := by decide +kernel
theorem dJ7_copyOf_6403c_18 : decode cJ7_copyOf_6403c 18 = .ok (.invokestatic 95, 3) := by decide +kernel
theorem dJ7_copyOf_6403c_21 : decode cJ7_copyOf_6403c 21 = .ok (.checkcast 110, 3) := by decide +kernel
theorem dJ7_copyOf_6403c_24 : decode cJ7_copyOf_6403c 24 = .ok (.astore_n 3, 1) := by decide +kernel
theorem dJ7_copyOf_6403c_25 : decode cJ7_copyOf_6403c 25 = .ok (.aload_n 0, 1) := by decide +kernel
theorem dJ7_copyOf_6403c_26 : decode cJ7_copyOf_6403c 26 = .ok (.iconst 0, 1) := by decide +kernel
theorem dJ7_copyOf_6403c_27 : decode cJ7_copyOf_6403c 27 = .ok (.aload_n 3, 1) := by decide +kernel
theorem dJ7_copyOf_6403c_28 : decode cJ7_copyOf_6403c 28 = .ok (.iconst 0, 1) := by decide +kernel
theorem dJ7_copyOf_6403c_29 : decode cJ7_copyOf_6403c 29 = .ok (.aload_n 0, 1) := by decide +kernel
theorem dJ7_copyOf_6403c_30 : decode cJ7_copyOf_6403c 30 = .ok (.arraylength, 1) := by decide +kernel
theorem dJ7_copyOf_6403c_31 : decode cJ7_copyOf_6403c 31 = .ok (.iload_n 1, 1) := by decide +kernel
theorem dJ7_copyOf_6403c_32 : decode cJ7_copyOf_6403c 32 = .ok (.invokestatic 304, 3) := by decide +kernel
theorem dJ7_copyOf_6403c_35 : decode cJ7_copyOf_6403c 35 = .ok (.invokestatic 150, 3) := by decide +kernel
theorem dJ7_copyOf_6403c_38 : decode cJ7_copyOf_6403c 38 = .ok (.aload_n 3, 1) := by decide +kernel
theorem dJ7_copyOf_6403c_39 : decode cJ7_copyOf_6403c 39 = .ok (.areturn, 1) := by decide +kernel
theorem dJ15_checkIndex_7cf53_0 : decode cJ15_checkIndex_7cf53 0 = .ok (.iload_n 0, 1) := by decide +kernel
theorem dJ15_checkIndex_7cf53_1 : decode cJ15_checkIndex_7cf53 1 = .ok (.iload_n 1, 1) := by decide +kernel
theorem dJ15_checkIndex_7cf53_2 : decode cJ15_checkIndex_7cf53 2 = .ok (.aconst_null, 1) := by decide +kernel
theorem dJ15_checkIndex_7cf53_3 : decode cJ15_checkIndex_7cf53 3 = .ok (.invokestatic 105, 3) := by decide +kernel
theorem dJ15_checkIndex_7cf53_6 : decode cJ15_checkIndex_7cf53 6 = .ok (.ireturn, 1) := by decide +kernel
theorem dJ8_newLength_cabcc_0 : decode cJ8_newLength_cabcc 0 = .ok (.iload_n 0, 1) := by decide +kernel
theorem dJ8_newLength_cabcc_1 : decode cJ8_newLength_cabcc 1 = .ok (.iload_n 1, 1) := by decide +kernel
theorem dJ8_newLength_cabcc_2 : decode cJ8_newLength_cabcc 2 = .ok (.iload_n 2, 1) := by decide +kernel
theorem dJ8_newLength_cabcc_3 : decode cJ8_newLength_cabcc 3 = .ok (.invokestatic 194, 3) := by decide +kernel
theorem dJ8_newLength_cabcc_6 : decode cJ8_newLength_cabcc 6 = .ok (.iadd, 1) := by decide +kernel
theorem dJ8_newLength_cabcc_7 : decode cJ8_newLength_cabcc 7 = .ok (.istore_n 3, 1) := by decide +kernel
theorem dJ8_newLength_cabcc_8 : decode cJ8_newLength_cabcc 8 = .ok (.iconst 0, 1) := by decide +kernel
theorem dJ8_newLength_cabcc_9 : decode cJ8_newLength_cabcc 9 = .ok (.iload_n 3, 1) := by decide +kernel
theorem dJ8_newLength_cabcc_10 : decode cJ8_newLength_cabcc 10 = .ok (.if_icmp .ge 11, 3) := by decide +kernel
theorem dJ8_newLength_cabcc_13 : decode cJ8_newLength_cabcc 13 = .ok (.iload_n 3, 1) := by decide +kernel
theorem dJ8_newLength_cabcc_14 : decode cJ8_newLength_cabcc 14 = .ok (.ldc 200, 2) := by decide +kernel
theorem dJ8_newLength_cabcc_16 : decode cJ8_newLength_cabcc 16 = .ok (.if_icmp .gt 5, 3) := by decide +kernel
theorem dJ8_newLength_cabcc_19 : decode cJ8_newLength_cabcc 19 = .ok (.iload_n 3, 1) := by decide +kernel
theorem dJ8_newLength_cabcc_20 : decode cJ8_newLength_cabcc 20 = .ok (.ireturn, 1) := by decide +kernel
theorem dJ8_newLength_cabcc_21 : decode cJ8_newLength_cabcc 21 = .ok (.iload_n 0, 1) := by decide +kernel
theorem dJ8_newLength_cabcc_22 : decode cJ8_newLength_cabcc 22 = .ok (.iload_n 1, 1) := by decide +kernel
theorem dJ8_newLength_cabcc_23 : decode cJ8_newLength_cabcc 23 = .ok (.invokestatic 201, 3) := by decide +kernel
theorem dJ8_newLength_cabcc_26 : decode cJ8_newLength_cabcc 26 = .ok (.ireturn, 1) := by decide +kernel
theorem dJ8_hugeLength_7cf53_0 : decode cJ8_hugeLength_7cf53 0 = .ok (.iload_n 0, 1) := by decide +kernel
theorem dJ8_hugeLength_7cf53_1 : decode cJ8_hugeLength_7cf53 1 = .ok (.iload_n 1, 1) := by decide +kernel
theorem dJ8_hugeLength_7cf53_2 : decode cJ8_hugeLength_7cf53 2 = .ok (.iadd, 1) := by decide +kernel
theorem dJ8_hugeLength_7cf53_3 : decode cJ8_hugeLength_7cf53 3 = .ok (.istore_n 2, 1) := by decide +kernel
theorem dJ8_hugeLength_7cf53_4 : decode cJ8_hugeLength_7cf53 4 = .ok (.iload_n 2, 1) := by decide +kernel
theorem dJ8_hugeLength_7cf53_5 : decode cJ8_hugeLength_7cf53 5 = .ok (.ifCond .ge 44, 3) := by decide +kernel
theorem dJ8_hugeLength_7cf53_8 : decode cJ8_hugeLength_7cf53 8 = .ok (.new 204, 3) := by decide +kernel
theorem dJ8_hugeLength_7cf53_11 : decode cJ8_hugeLength_7cf53 11 = .ok (.dup, 1) := by decide +kernel
theorem dJ8_hugeLength_7cf53_12 : decode cJ8_hugeLength_7cf53 12 = .ok (.new 89, 3) := by decide +kernel
theorem dJ8_hugeLength_7cf53_15 : decode cJ8_hugeLength_7cf53 15 = .ok (.dup, 1) := by decide +kernel
theorem dJ8_hugeLength_7cf53_16 : decode cJ8_hugeLength_7cf53 16 = .ok (.invokespecial 91, 3) := by decide +kernel
theorem dJ8_hugeLength_7cf53_19 : decode cJ8_hugeLength_7cf53 19 = .ok (.ldc 206, 2) := by decide +kernel
theorem dJ8_hugeLength_7cf53_21 : decode cJ8_hugeLength_7cf53 21 = .ok (.invokevirtual 94, 3) := by decide +kernel
theorem dJ8_hugeLength_7cf53_24 : decode cJ8_hugeLength_7cf53 24 = .ok (.iload_n 0, 1) := by decide +kernel
theorem dJ8_hugeLength_7cf53_25 : decode cJ8_hugeLength_7cf53 25 = .ok (.invokevirtual 98, 3) := by decide +kernel
theorem dJ8_hugeLength_7cf53_28 : decode cJ8_hugeLength_7cf53 28 = .ok (.ldc 208, 2) := by decide +kernel
theorem dJ8_hugeLength_7cf53_30 : decode cJ8_hugeLength_7cf53 30 = .ok (.invokevirtual 94, 3) := by decide +kernel
theorem dJ8_hugeLength_7cf53_33 : decode cJ8_hugeLength_7cf53 33 = .ok (.iload_n 1, 1) := by decide +kernel
theorem dJ8_hugeLength_7cf53_34 : decode cJ8_hugeLength_7cf53 34 = .ok (.invokevirtual 98, 3) := by decide +kernel
theorem dJ8_hugeLength_7cf53_37 : decode cJ8_hugeLength_7cf53 37 = .ok (.ldc 210, 2) := by decide +kernel
theorem dJ8_hugeLength_7cf53_39 : decode cJ8_hugeLength_7cf53 39 = .ok (.invokevirtual 94, 3) := by decide +kernel
theorem dJ8_hugeLength_7cf53_42 : decode cJ8_hugeLength_7cf53 42 = .ok (.invokevirtual 101, 3) := by decide +kernel
theorem dJ8_hugeLength_7cf53_45 : decode cJ8_hugeLength_7cf53 45 = .ok (.invokespecial 212, 3) := by decide +kernel
theorem dJ8_hugeLength_7cf53_48 : decode cJ8_hugeLength_7cf53 48 = .ok (.athrow, 1) := by decide +kernel
theorem dJ8_hugeLength_7cf53_49 : decode cJ8_hugeLength_7cf53 49 = .ok (.iload_n 2, 1) := by decide +kernel
theorem dJ8_hugeLength_7cf53_50 : decode cJ8_hugeLength_7cf53 50 = .ok (.ldc 200, 2) := by decide +kernel
theorem dJ8_hugeLength_7cf53_52 : decode cJ8_hugeLength_7cf53 52 = .ok (.if_icmp .gt 6, 3) := by decide +kernel
theorem dJ8_hugeLength_7cf53_55 : decode cJ8_hugeLength_7cf53 55 = .ok (.ldc 200, 2) := by decide +kernel
theorem dJ8_hugeLength_7cf53_57 : decode cJ8_hugeLength_7cf53 57 = .ok (.ireturn, 1) := by decide +kernel
theorem dJ8_hugeLength_7cf53_58 : decode cJ8_hugeLength_7cf53 58 = .ok (.iload_n 2, 1) := by decide +kernel
theorem dJ8_hugeLength_7cf53_59 : decode cJ8_hugeLength_7cf53 59 = .ok (.ireturn, 1) := by decide +kernel
theorem dJ3_checkIndex_8e157_0 : decode cJ3_checkIndex_8e157 0 = .ok (.iload_n 0, 1) := by decide +kernel
theorem dJ3_checkIndex_8e157_1 : decode cJ3_checkIndex_8e157 1 = .ok (.ifCond .lt 8, 3) := by decide +kernel
theorem dJ3_checkIndex_8e157_4 : decode cJ3_checkIndex_8e157 4 = .ok (.iload_n 0, 1) := by decide +kernel
theorem dJ3_checkIndex_8e157_5 : decode cJ3_checkIndex_8e157 5 = .ok (.iload_n 1, 1) := by decide +kernel
theorem dJ3_checkIndex_8e157_6 : decode cJ3_checkIndex_8e157 6 = .ok (.if_icmp .lt 10, 3) := by decide +kernel
theorem dJ3_checkIndex_8e157_9 : decode cJ3_checkIndex_8e157 9 = .ok (.aload_n 2, 1) := by decide +kernel
theorem dJ3_checkIndex_8e157_10 : decode cJ3_checkIndex_8e157 10 = .ok (.iload_n 0, 1) := by decide +kernel
theorem dJ3_checkIndex_8e157_11 : decode cJ3_checkIndex_8e157 11 = .ok (.iload_n 1, 1) := by decide +kernel
theorem dJ3_checkIndex_8e157_12 : decode cJ3_checkIndex_8e157 12 = .ok (.invokestatic 95, 3) := by decide +kernel
theorem dJ3_checkIndex_8e157_15 : decode cJ3_checkIndex_8e157 15 = .ok (.athrow, 1) := by decide +kernel
theorem dJ3_checkIndex_8e157_16 : decode cJ3_checkIndex_8e157 16 = .ok (.iload_n 0, 1) := by decide +kernel
theorem dJ3_checkIndex_8e157_17 : decode cJ3_checkIndex_8e157 17 = .ok (.ireturn, 1) := by decide +kernel
